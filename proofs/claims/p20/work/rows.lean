section
-- ===== PART A: goes FIRST, ahead of the names: the tables' words, and 'selects' of the private methods out of them =====
/-- a private method of a class that the tables say can be made, by its rows of tables_1 -/
def lw_okq (q : MethodName × Nat) : Prop := (q.1.cls ≠ "java/lang/invoke/MethodHandle" ∧ q.1.cls ≠ "java/lang/invoke/VarHandle") ∧ Cond.instantiable q.1.cls q.2 ∈ tables_1 ∧ Cond.privateMethod q.1 ∈ tables_1 ∧ Cond.instanceMethod q.1 ∈ tables_1
theorem lw_p0 : lw_okq (⟨"Threadline$Forest", "countRoots", "()I"⟩, 13) := ⟨⟨by decide +kernel, by decide +kernel⟩, List.mem_of_getElem? (i := 56) (by decide +kernel), List.mem_of_getElem? (i := 113) (by decide +kernel), List.mem_of_getElem? (i := 114) (by decide +kernel)⟩
theorem lw_p1 : lw_okq (⟨"java/lang/Throwable", "fillInStackTrace", "(I)Ljava/lang/Throwable;"⟩, 6) := ⟨⟨by decide +kernel, by decide +kernel⟩, List.mem_of_getElem? (i := 174) (by decide +kernel), List.mem_of_getElem? (i := 172) (by decide +kernel), List.mem_of_getElem? (i := 173) (by decide +kernel)⟩
theorem lw_p2 : lw_okq (⟨"Threadline$Mail", "holds", "(I)Z"⟩, 9) := ⟨⟨by decide +kernel, by decide +kernel⟩, List.mem_of_getElem? (i := 20) (by decide +kernel), List.mem_of_getElem? (i := 212) (by decide +kernel), List.mem_of_getElem? (i := 213) (by decide +kernel)⟩
theorem lw_p3 : lw_okq (⟨"Threadline$Mail", "put", "(IIIIII)V"⟩, 9) := ⟨⟨by decide +kernel, by decide +kernel⟩, List.mem_of_getElem? (i := 20) (by decide +kernel), List.mem_of_getElem? (i := 232) (by decide +kernel), List.mem_of_getElem? (i := 233) (by decide +kernel)⟩
theorem lw_p4 : lw_okq (⟨"Threadline$Forest", "grow", "()V"⟩, 13) := ⟨⟨by decide +kernel, by decide +kernel⟩, List.mem_of_getElem? (i := 56) (by decide +kernel), List.mem_of_getElem? (i := 237) (by decide +kernel), List.mem_of_getElem? (i := 238) (by decide +kernel)⟩
theorem lw_p5 : lw_okq (⟨"Threadline$Forest", "findKnown", "()V"⟩, 13) := ⟨⟨by decide +kernel, by decide +kernel⟩, List.mem_of_getElem? (i := 56) (by decide +kernel), List.mem_of_getElem? (i := 241) (by decide +kernel), List.mem_of_getElem? (i := 242) (by decide +kernel)⟩
theorem lw_p6 : lw_okq (⟨"Threadline$Mail", "parentToldBy", "(I)I"⟩, 9) := ⟨⟨by decide +kernel, by decide +kernel⟩, List.mem_of_getElem? (i := 20) (by decide +kernel), List.mem_of_getElem? (i := 246) (by decide +kernel), List.mem_of_getElem? (i := 247) (by decide +kernel)⟩
theorem lw_p7 : lw_okq (⟨"Threadline$Forest", "learn", "(I)V"⟩, 13) := ⟨⟨by decide +kernel, by decide +kernel⟩, List.mem_of_getElem? (i := 56) (by decide +kernel), List.mem_of_getElem? (i := 251) (by decide +kernel), List.mem_of_getElem? (i := 252) (by decide +kernel)⟩
theorem lw_p8 : lw_okq (⟨"Threadline$Mail", "grandparentToldBy", "(I)I"⟩, 9) := ⟨⟨by decide +kernel, by decide +kernel⟩, List.mem_of_getElem? (i := 20) (by decide +kernel), List.mem_of_getElem? (i := 256) (by decide +kernel), List.mem_of_getElem? (i := 257) (by decide +kernel)⟩
theorem lw_p9 : lw_okq (⟨"Threadline$Mail", "handOf", "(I)I"⟩, 9) := ⟨⟨by decide +kernel, by decide +kernel⟩, List.mem_of_getElem? (i := 20) (by decide +kernel), List.mem_of_getElem? (i := 260) (by decide +kernel), List.mem_of_getElem? (i := 261) (by decide +kernel)⟩
theorem lw_p10 : lw_okq (⟨"Threadline$Forest", "linkKnown", "()V"⟩, 13) := ⟨⟨by decide +kernel, by decide +kernel⟩, List.mem_of_getElem? (i := 56) (by decide +kernel), List.mem_of_getElem? (i := 264) (by decide +kernel), List.mem_of_getElem? (i := 265) (by decide +kernel)⟩
theorem lw_p11 : lw_okq (⟨"Threadline$Mail", "toldParentOf", "(I)I"⟩, 9) := ⟨⟨by decide +kernel, by decide +kernel⟩, List.mem_of_getElem? (i := 20) (by decide +kernel), List.mem_of_getElem? (i := 268) (by decide +kernel), List.mem_of_getElem? (i := 269) (by decide +kernel)⟩
theorem lw_p12 : lw_okq (⟨"Threadline$Mail", "guessedParentOf", "(I)I"⟩, 9) := ⟨⟨by decide +kernel, by decide +kernel⟩, List.mem_of_getElem? (i := 20) (by decide +kernel), List.mem_of_getElem? (i := 272) (by decide +kernel), List.mem_of_getElem? (i := 273) (by decide +kernel)⟩
theorem lw_p13 : lw_okq (⟨"Threadline$Forest", "linksLead", "(II)Z"⟩, 13) := ⟨⟨by decide +kernel, by decide +kernel⟩, List.mem_of_getElem? (i := 56) (by decide +kernel), List.mem_of_getElem? (i := 279) (by decide +kernel), List.mem_of_getElem? (i := 280) (by decide +kernel)⟩
theorem lw_p14 : lw_okq (⟨"Threadline$Forest", "hangByLinks", "()V"⟩, 13) := ⟨⟨by decide +kernel, by decide +kernel⟩, List.mem_of_getElem? (i := 56) (by decide +kernel), List.mem_of_getElem? (i := 283) (by decide +kernel), List.mem_of_getElem? (i := 284) (by decide +kernel)⟩
theorem lw_p15 : lw_okq (⟨"Threadline$Forest", "parentByLinks", "(I)I"⟩, 13) := ⟨⟨by decide +kernel, by decide +kernel⟩, List.mem_of_getElem? (i := 56) (by decide +kernel), List.mem_of_getElem? (i := 287) (by decide +kernel), List.mem_of_getElem? (i := 288) (by decide +kernel)⟩
def lw_privs_1 : List (MethodName × Nat) := [(⟨"Threadline$Forest", "countRoots", "()I"⟩, 13), (⟨"java/lang/Throwable", "fillInStackTrace", "(I)Ljava/lang/Throwable;"⟩, 6), (⟨"Threadline$Mail", "holds", "(I)Z"⟩, 9), (⟨"Threadline$Mail", "put", "(IIIIII)V"⟩, 9), (⟨"Threadline$Forest", "grow", "()V"⟩, 13), (⟨"Threadline$Forest", "findKnown", "()V"⟩, 13), (⟨"Threadline$Mail", "parentToldBy", "(I)I"⟩, 9), (⟨"Threadline$Forest", "learn", "(I)V"⟩, 13), (⟨"Threadline$Mail", "grandparentToldBy", "(I)I"⟩, 9), (⟨"Threadline$Mail", "handOf", "(I)I"⟩, 9), (⟨"Threadline$Forest", "linkKnown", "()V"⟩, 13), (⟨"Threadline$Mail", "toldParentOf", "(I)I"⟩, 9), (⟨"Threadline$Mail", "guessedParentOf", "(I)I"⟩, 9), (⟨"Threadline$Forest", "linksLead", "(II)Z"⟩, 13), (⟨"Threadline$Forest", "hangByLinks", "()V"⟩, 13), (⟨"Threadline$Forest", "parentByLinks", "(I)I"⟩, 13)]
theorem lw_r1 : ∀ q ∈ lw_privs_1, lw_okq q := List.forall_mem_cons.mpr ⟨lw_p0, List.forall_mem_cons.mpr ⟨lw_p1, List.forall_mem_cons.mpr ⟨lw_p2, List.forall_mem_cons.mpr ⟨lw_p3, List.forall_mem_cons.mpr ⟨lw_p4, List.forall_mem_cons.mpr ⟨lw_p5, List.forall_mem_cons.mpr ⟨lw_p6, List.forall_mem_cons.mpr ⟨lw_p7, List.forall_mem_cons.mpr ⟨lw_p8, List.forall_mem_cons.mpr ⟨lw_p9, List.forall_mem_cons.mpr ⟨lw_p10, List.forall_mem_cons.mpr ⟨lw_p11, List.forall_mem_cons.mpr ⟨lw_p12, List.forall_mem_cons.mpr ⟨lw_p13, List.forall_mem_cons.mpr ⟨lw_p14, List.forall_mem_cons.mpr ⟨lw_p15, fun _ h => absurd h List.not_mem_nil⟩⟩⟩⟩⟩⟩⟩⟩⟩⟩⟩⟩⟩⟩⟩⟩
theorem lw_p16 : lw_okq (⟨"Threadline$Forest", "keepMissing", "()V"⟩, 13) := ⟨⟨by decide +kernel, by decide +kernel⟩, List.mem_of_getElem? (i := 56) (by decide +kernel), List.mem_of_getElem? (i := 291) (by decide +kernel), List.mem_of_getElem? (i := 292) (by decide +kernel)⟩
theorem lw_p17 : lw_okq (⟨"Threadline$Forest", "countChildren", "(I)I"⟩, 13) := ⟨⟨by decide +kernel, by decide +kernel⟩, List.mem_of_getElem? (i := 56) (by decide +kernel), List.mem_of_getElem? (i := 295) (by decide +kernel), List.mem_of_getElem? (i := 296) (by decide +kernel)⟩
theorem lw_p18 : lw_okq (⟨"Threadline$Forest", "freeChildren", "(I)V"⟩, 13) := ⟨⟨by decide +kernel, by decide +kernel⟩, List.mem_of_getElem? (i := 56) (by decide +kernel), List.mem_of_getElem? (i := 299) (by decide +kernel), List.mem_of_getElem? (i := 300) (by decide +kernel)⟩
theorem lw_p19 : lw_okq (⟨"Threadline$Forest", "hangReplies", "()V"⟩, 13) := ⟨⟨by decide +kernel, by decide +kernel⟩, List.mem_of_getElem? (i := 56) (by decide +kernel), List.mem_of_getElem? (i := 303) (by decide +kernel), List.mem_of_getElem? (i := 304) (by decide +kernel)⟩
theorem lw_p20 : lw_okq (⟨"Threadline$Mail", "isReply", "(I)Z"⟩, 9) := ⟨⟨by decide +kernel, by decide +kernel⟩, List.mem_of_getElem? (i := 20) (by decide +kernel), List.mem_of_getElem? (i := 307) (by decide +kernel), List.mem_of_getElem? (i := 308) (by decide +kernel)⟩
theorem lw_p21 : lw_okq (⟨"Threadline$Forest", "letterAnsweredBy", "(I)I"⟩, 13) := ⟨⟨by decide +kernel, by decide +kernel⟩, List.mem_of_getElem? (i := 56) (by decide +kernel), List.mem_of_getElem? (i := 311) (by decide +kernel), List.mem_of_getElem? (i := 312) (by decide +kernel)⟩
theorem lw_p22 : lw_okq (⟨"Threadline$Mail", "isAnsweredBy", "(II)Z"⟩, 9) := ⟨⟨by decide +kernel, by decide +kernel⟩, List.mem_of_getElem? (i := 20) (by decide +kernel), List.mem_of_getElem? (i := 315) (by decide +kernel), List.mem_of_getElem? (i := 316) (by decide +kernel)⟩
theorem lw_p23 : lw_okq (⟨"Threadline$Mail", "dayOf", "(I)I"⟩, 9) := ⟨⟨by decide +kernel, by decide +kernel⟩, List.mem_of_getElem? (i := 20) (by decide +kernel), List.mem_of_getElem? (i := 319) (by decide +kernel), List.mem_of_getElem? (i := 320) (by decide +kernel)⟩
theorem lw_p24 : lw_okq (⟨"Threadline$Forest", "measureTrees", "()V"⟩, 13) := ⟨⟨by decide +kernel, by decide +kernel⟩, List.mem_of_getElem? (i := 56) (by decide +kernel), List.mem_of_getElem? (i := 323) (by decide +kernel), List.mem_of_getElem? (i := 324) (by decide +kernel)⟩
theorem lw_p25 : lw_okq (⟨"Threadline$Forest", "countUpwards", "(I)V"⟩, 13) := ⟨⟨by decide +kernel, by decide +kernel⟩, List.mem_of_getElem? (i := 56) (by decide +kernel), List.mem_of_getElem? (i := 327) (by decide +kernel), List.mem_of_getElem? (i := 328) (by decide +kernel)⟩
theorem lw_p26 : lw_okq (⟨"Threadline$Forest", "placeRoots", "()V"⟩, 13) := ⟨⟨by decide +kernel, by decide +kernel⟩, List.mem_of_getElem? (i := 56) (by decide +kernel), List.mem_of_getElem? (i := 334) (by decide +kernel), List.mem_of_getElem? (i := 335) (by decide +kernel)⟩
theorem lw_p27 : lw_okq (⟨"Threadline$Forest", "placeRoot", "(I)V"⟩, 13) := ⟨⟨by decide +kernel, by decide +kernel⟩, List.mem_of_getElem? (i := 56) (by decide +kernel), List.mem_of_getElem? (i := 338) (by decide +kernel), List.mem_of_getElem? (i := 339) (by decide +kernel)⟩
theorem lw_p28 : lw_okq (⟨"Threadline$Forest", "comesBefore", "(II)Z"⟩, 13) := ⟨⟨by decide +kernel, by decide +kernel⟩, List.mem_of_getElem? (i := 56) (by decide +kernel), List.mem_of_getElem? (i := 342) (by decide +kernel), List.mem_of_getElem? (i := 343) (by decide +kernel)⟩
theorem lw_p29 : lw_okq (⟨"Threadline$Forest", "contains", "(I)Z"⟩, 13) := ⟨⟨by decide +kernel, by decide +kernel⟩, List.mem_of_getElem? (i := 56) (by decide +kernel), List.mem_of_getElem? (i := 346) (by decide +kernel), List.mem_of_getElem? (i := 347) (by decide +kernel)⟩
theorem lw_p30 : lw_okq (⟨"Threadline$Forest", "placeTrees", "()V"⟩, 13) := ⟨⟨by decide +kernel, by decide +kernel⟩, List.mem_of_getElem? (i := 56) (by decide +kernel), List.mem_of_getElem? (i := 350) (by decide +kernel), List.mem_of_getElem? (i := 351) (by decide +kernel)⟩
theorem lw_p31 : lw_okq (⟨"Threadline$Forest", "offsetBehindParent", "(I)I"⟩, 13) := ⟨⟨by decide +kernel, by decide +kernel⟩, List.mem_of_getElem? (i := 56) (by decide +kernel), List.mem_of_getElem? (i := 354) (by decide +kernel), List.mem_of_getElem? (i := 355) (by decide +kernel)⟩
def lw_privs_2 : List (MethodName × Nat) := [(⟨"Threadline$Forest", "keepMissing", "()V"⟩, 13), (⟨"Threadline$Forest", "countChildren", "(I)I"⟩, 13), (⟨"Threadline$Forest", "freeChildren", "(I)V"⟩, 13), (⟨"Threadline$Forest", "hangReplies", "()V"⟩, 13), (⟨"Threadline$Mail", "isReply", "(I)Z"⟩, 9), (⟨"Threadline$Forest", "letterAnsweredBy", "(I)I"⟩, 13), (⟨"Threadline$Mail", "isAnsweredBy", "(II)Z"⟩, 9), (⟨"Threadline$Mail", "dayOf", "(I)I"⟩, 9), (⟨"Threadline$Forest", "measureTrees", "()V"⟩, 13), (⟨"Threadline$Forest", "countUpwards", "(I)V"⟩, 13), (⟨"Threadline$Forest", "placeRoots", "()V"⟩, 13), (⟨"Threadline$Forest", "placeRoot", "(I)V"⟩, 13), (⟨"Threadline$Forest", "comesBefore", "(II)Z"⟩, 13), (⟨"Threadline$Forest", "contains", "(I)Z"⟩, 13), (⟨"Threadline$Forest", "placeTrees", "()V"⟩, 13), (⟨"Threadline$Forest", "offsetBehindParent", "(I)I"⟩, 13)]
theorem lw_r2 : ∀ q ∈ lw_privs_2, lw_okq q := List.forall_mem_cons.mpr ⟨lw_p16, List.forall_mem_cons.mpr ⟨lw_p17, List.forall_mem_cons.mpr ⟨lw_p18, List.forall_mem_cons.mpr ⟨lw_p19, List.forall_mem_cons.mpr ⟨lw_p20, List.forall_mem_cons.mpr ⟨lw_p21, List.forall_mem_cons.mpr ⟨lw_p22, List.forall_mem_cons.mpr ⟨lw_p23, List.forall_mem_cons.mpr ⟨lw_p24, List.forall_mem_cons.mpr ⟨lw_p25, List.forall_mem_cons.mpr ⟨lw_p26, List.forall_mem_cons.mpr ⟨lw_p27, List.forall_mem_cons.mpr ⟨lw_p28, List.forall_mem_cons.mpr ⟨lw_p29, List.forall_mem_cons.mpr ⟨lw_p30, List.forall_mem_cons.mpr ⟨lw_p31, fun _ h => absurd h List.not_mem_nil⟩⟩⟩⟩⟩⟩⟩⟩⟩⟩⟩⟩⟩⟩⟩⟩
theorem lw_p32 : lw_okq (⟨"Threadline$Forest", "parentIn", "(I)I"⟩, 13) := ⟨⟨by decide +kernel, by decide +kernel⟩, List.mem_of_getElem? (i := 56) (by decide +kernel), List.mem_of_getElem? (i := 358) (by decide +kernel), List.mem_of_getElem? (i := 359) (by decide +kernel)⟩
theorem lw_p33 : lw_okq (⟨"Threadline$Forest", "startInOrder", "(I)I"⟩, 13) := ⟨⟨by decide +kernel, by decide +kernel⟩, List.mem_of_getElem? (i := 56) (by decide +kernel), List.mem_of_getElem? (i := 362) (by decide +kernel), List.mem_of_getElem? (i := 363) (by decide +kernel)⟩
theorem lw_p34 : lw_okq (⟨"Threadline", "requireLetter", "(I)V"⟩, 2) := ⟨⟨by decide +kernel, by decide +kernel⟩, List.mem_of_getElem? (i := 12) (by decide +kernel), List.mem_of_getElem? (i := 373) (by decide +kernel), List.mem_of_getElem? (i := 374) (by decide +kernel)⟩
theorem lw_p35 : lw_okq (⟨"Threadline$Mail", "drop", "(I)V"⟩, 9) := ⟨⟨by decide +kernel, by decide +kernel⟩, List.mem_of_getElem? (i := 20) (by decide +kernel), List.mem_of_getElem? (i := 378) (by decide +kernel), List.mem_of_getElem? (i := 379) (by decide +kernel)⟩
theorem lw_p36 : lw_okq (⟨"Threadline$Mail", "setHand", "(II)V"⟩, 9) := ⟨⟨by decide +kernel, by decide +kernel⟩, List.mem_of_getElem? (i := 20) (by decide +kernel), List.mem_of_getElem? (i := 387) (by decide +kernel), List.mem_of_getElem? (i := 388) (by decide +kernel)⟩
theorem lw_p37 : lw_okq (⟨"Threadline$Forest", "isInTree", "(II)Z"⟩, 13) := ⟨⟨by decide +kernel, by decide +kernel⟩, List.mem_of_getElem? (i := 56) (by decide +kernel), List.mem_of_getElem? (i := 401) (by decide +kernel), List.mem_of_getElem? (i := 402) (by decide +kernel)⟩
theorem lw_p38 : lw_okq (⟨"Threadline$Forest", "knows", "(I)Z"⟩, 13) := ⟨⟨by decide +kernel, by decide +kernel⟩, List.mem_of_getElem? (i := 56) (by decide +kernel), List.mem_of_getElem? (i := 415) (by decide +kernel), List.mem_of_getElem? (i := 416) (by decide +kernel)⟩
theorem lw_p39 : lw_okq (⟨"Threadline", "requireInForest", "(I)V"⟩, 2) := ⟨⟨by decide +kernel, by decide +kernel⟩, List.mem_of_getElem? (i := 12) (by decide +kernel), List.mem_of_getElem? (i := 423) (by decide +kernel), List.mem_of_getElem? (i := 424) (by decide +kernel)⟩
theorem lw_p40 : lw_okq (⟨"Threadline$Forest", "rootIdAt", "(I)I"⟩, 13) := ⟨⟨by decide +kernel, by decide +kernel⟩, List.mem_of_getElem? (i := 56) (by decide +kernel), List.mem_of_getElem? (i := 447) (by decide +kernel), List.mem_of_getElem? (i := 448) (by decide +kernel)⟩
theorem lw_p41 : lw_okq (⟨"Threadline$Forest", "idAt", "(II)I"⟩, 13) := ⟨⟨by decide +kernel, by decide +kernel⟩, List.mem_of_getElem? (i := 56) (by decide +kernel), List.mem_of_getElem? (i := 456) (by decide +kernel), List.mem_of_getElem? (i := 457) (by decide +kernel)⟩
theorem lw_p42 : lw_okq (⟨"Threadline$Mail", "writerBit", "(I)I"⟩, 9) := ⟨⟨by decide +kernel, by decide +kernel⟩, List.mem_of_getElem? (i := 20) (by decide +kernel), List.mem_of_getElem? (i := 464) (by decide +kernel), List.mem_of_getElem? (i := 465) (by decide +kernel)⟩
def lw_privs_3 : List (MethodName × Nat) := [(⟨"Threadline$Forest", "parentIn", "(I)I"⟩, 13), (⟨"Threadline$Forest", "startInOrder", "(I)I"⟩, 13), (⟨"Threadline", "requireLetter", "(I)V"⟩, 2), (⟨"Threadline$Mail", "drop", "(I)V"⟩, 9), (⟨"Threadline$Mail", "setHand", "(II)V"⟩, 9), (⟨"Threadline$Forest", "isInTree", "(II)Z"⟩, 13), (⟨"Threadline$Forest", "knows", "(I)Z"⟩, 13), (⟨"Threadline", "requireInForest", "(I)V"⟩, 2), (⟨"Threadline$Forest", "rootIdAt", "(I)I"⟩, 13), (⟨"Threadline$Forest", "idAt", "(II)I"⟩, 13), (⟨"Threadline$Mail", "writerBit", "(I)I"⟩, 9)]
theorem lw_r3 : ∀ q ∈ lw_privs_3, lw_okq q := List.forall_mem_cons.mpr ⟨lw_p32, List.forall_mem_cons.mpr ⟨lw_p33, List.forall_mem_cons.mpr ⟨lw_p34, List.forall_mem_cons.mpr ⟨lw_p35, List.forall_mem_cons.mpr ⟨lw_p36, List.forall_mem_cons.mpr ⟨lw_p37, List.forall_mem_cons.mpr ⟨lw_p38, List.forall_mem_cons.mpr ⟨lw_p39, List.forall_mem_cons.mpr ⟨lw_p40, List.forall_mem_cons.mpr ⟨lw_p41, List.forall_mem_cons.mpr ⟨lw_p42, fun _ h => absurd h List.not_mem_nil⟩⟩⟩⟩⟩⟩⟩⟩⟩⟩⟩
def lw_privs : List (MethodName × Nat) := lw_privs_1 ++ (lw_privs_2 ++ (lw_privs_3))
def lw_tbl : List Cond := k2_sels lw_privs ++ tables_1
theorem lw_privs_ok : ∀ q ∈ lw_privs, lw_okq q := by
  show ∀ q ∈ lw_privs_1 ++ (lw_privs_2 ++ (lw_privs_3)), lw_okq q
  exact List.forall_mem_append.mpr ⟨lw_r1, List.forall_mem_append.mpr ⟨lw_r2, lw_r3⟩⟩
end
section
/-! ===== BEGIN words of one list among another's, by their places ===== -/
theorem goodIn_r {big : List Cond} (ws : List Cond) (ps : List Nat) (hp : ws = ps.filterMap (fun i => big[i]?)) (h : ws.all goodWord = true) : GoodIn big ws := by
  intro w hw
  have h1 := List.all_eq_true.mp h w hw
  rw [hp] at hw
  obtain ⟨i, -, hi⟩ := List.mem_filterMap.mp hw
  have hm : w ∈ big := by first | exact List.mem_of_getElem? hi | exact List.getElem?_mem hi
  exact ⟨hm, good_of_word h1⟩
theorem goodIn_app {big a b : List Cond} (ha : GoodIn big a) (hb : GoodIn big b) : GoodIn big (a ++ b) := fun w h => (List.mem_append.mp h).elim (ha w) (hb w)
theorem goodIn_ca {big a b : List Cond} {c : Cond} (ha : GoodIn big (c :: a)) (hb : GoodIn big b) : GoodIn big (c :: (a ++ b)) := fun w h => (List.mem_cons.mp h).elim (fun e => ha w (List.mem_cons.mpr (Or.inl e))) (fun h => (List.mem_append.mp h).elim (fun h => ha w (List.mem_cons.mpr (Or.inr h))) (hb w))
theorem goodIn_sub {big ws : List Cond} (hm : ∀ w ∈ ws, w ∈ big) (h : ws.all goodWord = true) : GoodIn big ws := fun w hw => ⟨hm w hw, good_of_word (List.all_eq_true.mp h w hw)⟩
/-! ===== END ===== -/

/-! ===== BEGIN exceptions that leave a method, and their catching by the caller (launches without stack traces) ===== -/
section VXA
/-! The laws vx_back, vx_callV, vx_callS, vx_callSW, vx_throw0, vx_throwS follow proofs of the library, with one case more: JvmDerived/Free/Laws.lean (Back.of_free), Shelf42/LK1.lean (callV, callS), Shelf/KitTraced.lean (throwNew0V, throwNewS). -/
/-- where a method has thrown q: the class by its name, the cell, what was written, the world -/
def vx_T (XC : String → State → State → Prop) (st : State) (q : Addr) (t : State) (mc ms : Nat) (free : Addr → Prop) : Prop :=
  ∃ (E : String) (ce : Cell) (L : List Loc), XC E st t ∧ t.heap[q]? = some ce ∧ ce.vm = .none ∧ st.vm.findClass E = some ce.cls ∧ st.WarmedH t.vm ∧ st.sameButNew ({ t with vm := st.vm } : State) L mc ms ∧ ∀ z ∈ L, free z.base
def vx_Q (Qc : Array Value → State → Outcome → State → Prop) (XC : String → State → State → Prop) (mc ms : Nat) (free : Addr → Prop) : Array Value → State → Outcome → State → Prop := fun a st o t =>
  (Qc a st o t ∧ ∃ L, FrameEnd st o t L mc ms ∧ ∀ q ∈ L, free q.base) ∨ ∃ q, o = .threw q ∧ vx_T XC st q t mc ms free
/-- a callee that returns or throws -/
def vx_Met (l : Launch) (y : MethodName) (ws : List Cond) (rm : Room) (Pc : Array Value → State → Prop) (Qc : Array Value → State → Outcome → State → Prop) (XC : String → State → State → Prop) (mc ms : Nat) (free : Addr → Prop) : Prop :=
  MetFree l y (headSpec ws rm) Pc (fun _ _ _ _ _ => True) (vx_Q Qc XC mc ms free)
def vx_Post (XC : String → State → State → Prop) (mc ms : Nat) (free : Addr → Prop) : Pt → Array Value → Addr → Pt → Prop := fun A a q B =>
  ∃ (g : JFrame) (mk : MethodId) (t : State) (L : List Loc) (E : String) (ce : Cell), B.U.heap = t.heap ∧ B.U.vm = t.vm ∧ XC E (A.U.calling g mk a) t ∧ t.heap[q]? = some ce ∧ ce.vm = .none ∧ A.U.vm.findClass E = some ce.cls ∧ B.locs = A.locs ++ L ∧ (∀ z ∈ L, free z.base) ∧ B.cells = A.cells + mc ∧ B.slots = A.slots + ms
def vx_Back (l : Launch) (R : Room) (p : Program) (e : Env) (below : List Frame) (s : State) (sargs : Array Value) (y : MethodName) (len W9 : Nat)
    (Pre : Pt → Array Value → Prop) (Post : Pt → Array Value → Option Value → Pt → Prop) (PostX : Pt → Array Value → Addr → Pt → Prop) : Prop :=
  ∀ (m : MethodId) (meth : Method) (c : Code) (A : Pt) (g : JFrame) (ig : Instr) (mk : MethodId) (a : Array Value),
    Stand p l e R s m sargs below meth c A.U A.locs A.cells A.slots → g.method = m → g.locals.size = c.maxLocals → decode c.code g.pc = .ok (ig, len) →
    2 * g.monitorRoom + (g.stack.map fun v => v.category).sum ≤ W9 → A.U.methodNamed? y = some mk → Pre A a →
    (∃ (v : Option Value) (B : Pt), Stand p l e R s m sargs below meth c B.U B.locs B.cells B.slots ∧ Post A a v B ∧
      Steps p.tables e below (doInvoke e (A.U.setTop g) [] mk a).1 (B.U.setTop { g with pc := g.pc + len, stack := v.toList ++ g.stack })) ∨
    (∃ (q : Addr) (B : Pt), Stand p l e R s m sargs below meth c B.U B.locs B.cells B.slots ∧ PostX A a q B ∧
      Steps p.tables e below (doInvoke e (A.U.setTop g) [] mk a).1 ((B.U.setTop g).pushFrame (.throwing q)))
section Payer
variable {l : Launch} {R : Room} {p : Program} {e : Env} {below : List Frame} {s : State} {sargs : Array Value} {y : MethodName} {len W9 : Nat}
theorem vx_back {ws : List Cond} {rm : Room} {Pc : Array Value → State → Prop} {Qc : Array Value → State → Outcome → State → Prop} {XC : String → State → State → Prop} {mc ms : Nat} {free : Addr → Prop} {bytes : ByteArray} {maxL : Nat} {ret : Option FieldType}
    (hM : vx_Met l y ws rm Pc Qc XC mc ms free) (hblind : FrameBlind Pc) (hrc : rm.cells = mc) (hrs : rm.slots = ms)
    (hframes : rm.frames + 1 ≤ R.frames) (hlocals : W9 + (maxL + 11) + rm.locals ≤ R.locals)
    (hws : ∀ w ∈ ws, ∀ a' U, s.WarmedH U.vm → w.before a' U = true) (hcode : Cond.code y bytes maxL ret ∈ ws) (hinit : ∀ a' U, s.WarmedH U.vm → (Cond.initialized y.cls).before a' U = true) :
    vx_Back l R p e below s sargs y len W9 (PreOf R mc ms Pc) (PostOf Qc mc ms free) (vx_Post XC mc ms free) := by
  intro m meth c A g ig mk a X hg hsize hdg hW hn hp
  have h1 : (headSpec ws rm).pre.before a A.U = true := atoms_intro fun w hw => hws w hw _ _ X.warmed
  have h2 : (Cond.code y bytes maxL ret).before a A.U = true := hws _ hcode _ _ X.warmed
  have h3 : (Cond.initialized y.cls).before a A.U = true := hinit _ _ X.warmed
  have h4 : A.cells + (headSpec ws rm).room.cells ≤ R.cells := by rw [show (headSpec ws rm).room.cells = mc from hrc]; exact hp.1
  have h5 : A.slots + (headSpec ws rm).room.slots ≤ R.slots := by rw [show (headSpec ws rm).room.slots = ms from hrs]; exact hp.2.1
  have hPc : Pc a (A.U.calling g mk a) := hblind _ _ _ _ hp.2.2
  obtain ⟨U, Ls, c0, s0⟩ := A
  dsimp only [Pt.U, Pt.locs, Pt.cells, Pt.slots] at h1 h2 h3 h4 h5 X hn hPc ⊢
  obtain ⟨methY, cY, hmY, hcY, -, hlY, -, -, -, -⟩ := Cond.code_spec hn h2
  obtain ⟨kY, hkY, -⟩ := className_of_methodNamed hn
  have hinitY : kY.init = .initialized := Cond.initialized_spec (findClass_of_methodNamed hn) hkY h3
  have h : At U g.method c below := by rw [hg]; exact X.here
  have hlocals9 : W9 + (maxL + 11) + (headSpec ws rm).room.locals ≤ R.locals := hlocals
  have happ : (headSpec ws rm).appliesLoose y e.platform (U.calling g mk a) = true :=
    Spec.appliesLoose_calling (g := g) h hdg hn hkY hinitY
      (X.room_calling (g := g) (R' := (headSpec ws rm).room) hsize hmY hcY hframes (by rw [hlY]; omega) h4 h5) h1
  obtain ⟨mid, hmid⟩ := h.above
  have hfr : (U.setTop g).frames = (.java g :: mid) ++ below := by rw [State.frames_setTop' g h.top, hmid]; rfl
  obtain ⟨o, s₂, hsteps, -, hend, hq⟩ := Steps.callFree hM p X.admits X.cas X.clock (acts := []) hfr happ hPc trivial
  have hq' : vx_Q Qc XC mc ms free a (U.calling g mk a) o s₂ := hq
  rw [State.frames_setTop' g h.top] at hend
  obtain ⟨g₀, hg0⟩ := Option.isSome_iff_exists.mp h.top
  obtain ⟨r, hr⟩ := State.topJava?_eq_some.mp hg0
  have hr' : (({ U with heap := s₂.heap, slotsUsed := s₂.slotsUsed } : State).setVm s₂.vm).frames = .java g₀ :: r := hr
  rcases hq' with ⟨hqc, L, hfe, hL⟩ | ⟨q, rfl, E, ce, L, hx, hce, hcv, hcl, hW₂, hsm, hL⟩
  · obtain ⟨⟨v, rfl⟩, hW₂, e2, q2, q3, q4, q5, q6⟩ := id hfe
    have e3 : s₂ = ({ (U.calling g mk a).setFrames s₂.frames with heap := s₂.heap, slotsUsed := s₂.slotsUsed } : State).setVm s₂.vm := by
      have : s₂ = ({ s₂ with vm := (U.calling g mk a).vm } : State).setVm s₂.vm := rfl
      rw [e2] at this
      exact this
    obtain ⟨c₂, i₂, len₂, hc₂, hd₂, hf₂⟩ := hend
    have hW' : U.WarmedH s₂.vm := hW₂
    have hcc : c₂ = c := by
      have h1 : s₂.code? g.method = U.code? g.method := by
        rw [State.code?_eq, State.code?_eq, hW'.alike.method?]
      exact Option.some.inj (hc₂.symm.trans (h1.trans h.code))
    subst hcc
    have hlen : len₂ = len := by rw [hdg] at hd₂; cases hd₂; rfl
    subst hlen
    have hs₂ : s₂ = (({ U with heap := s₂.heap, slotsUsed := s₂.slotsUsed } : State).setVm s₂.vm).setTop { g with pc := g.pc + len₂, stack := v.toList ++ g.stack } := by
      refine e3.trans ?_
      rw [hf₂, State.calling_eq h.top, State.setFrames_setFrames, State.setTop_of_frames _ hr', hr]
      rfl
    have hsame : U.sameButNew ({ U with heap := s₂.heap, slotsUsed := s₂.slotsUsed } : State) L mc ms := by
      refine ⟨?_, q2, q3, q4, q5, q6⟩
      obtain ⟨t, ht, -⟩ := State.frames_cons hr
      show ({ U with heap := s₂.heap, slotsUsed := s₂.slotsUsed } : State) = { U.setFrames U.frames with heap := s₂.heap, slotsUsed := s₂.slotsUsed }
      rw [State.setFrames_self ht]
    subst hg
    refine Or.inl ⟨v, ⟨(({ U with heap := s₂.heap, slotsUsed := s₂.slotsUsed } : State).setVm s₂.vm), Ls ++ L, c0 + mc, s0 + ms⟩,
      ⟨X.admits, X.cas, X.clock, X.frames, X.room, X.hears, X.method, X.code, (X.here.setHeapUsed s₂.heap s₂.slotsUsed).setVm hW'.alike, X.tail, State.WarmedH.trans X.warmed hW', X.limits, X.bytes, X.same.trans (hsame.setVm s.vm)⟩,
      ⟨g, mk, s₂, L, rfl, rfl, hqc, rfl, hL, rfl, rfl⟩, ?_⟩
    show Steps p.tables e below _ ((({ U with heap := s₂.heap, slotsUsed := s₂.slotsUsed } : State).setVm s₂.vm).setTop { g with pc := g.pc + len₂, stack := v.toList ++ g.stack })
    rw [← hs₂]
    exact hsteps
  · obtain ⟨e2, q2, q3, q4, q5, q6⟩ := id hsm
    have e3 : s₂ = ({ (U.calling g mk a).setFrames s₂.frames with heap := s₂.heap, slotsUsed := s₂.slotsUsed } : State).setVm s₂.vm := by
      have : s₂ = ({ s₂ with vm := (U.calling g mk a).vm } : State).setVm s₂.vm := rfl
      rw [e2] at this
      exact this
    have hf₂ : s₂.frames = .throwing q :: .java g :: U.frames.tail := hend
    have hW' : U.WarmedH s₂.vm := hW₂
    have hs₂ : s₂ = ((({ U with heap := s₂.heap, slotsUsed := s₂.slotsUsed } : State).setVm s₂.vm).setTop g).pushFrame (.throwing q) := by
      refine e3.trans ?_
      rw [hf₂, State.calling_eq h.top, State.setFrames_setFrames, State.pushFrame, State.frames_setTop _ hr', State.setTop_of_frames _ hr', State.setFrames_setFrames, hr]
      rfl
    have hsame : U.sameButNew ({ U with heap := s₂.heap, slotsUsed := s₂.slotsUsed } : State) L mc ms := by
      refine ⟨?_, q2, q3, q4, q5, q6⟩
      obtain ⟨t, ht, -⟩ := State.frames_cons hr
      show ({ U with heap := s₂.heap, slotsUsed := s₂.slotsUsed } : State) = { U.setFrames U.frames with heap := s₂.heap, slotsUsed := s₂.slotsUsed }
      rw [State.setFrames_self ht]
    subst hg
    refine Or.inr ⟨q, ⟨(({ U with heap := s₂.heap, slotsUsed := s₂.slotsUsed } : State).setVm s₂.vm), Ls ++ L, c0 + mc, s0 + ms⟩,
      ⟨X.admits, X.cas, X.clock, X.frames, X.room, X.hears, X.method, X.code, (X.here.setHeapUsed s₂.heap s₂.slotsUsed).setVm hW'.alike, X.tail, State.WarmedH.trans X.warmed hW', X.limits, X.bytes, X.same.trans (hsame.setVm s.vm)⟩,
      ⟨g, mk, s₂, L, E, ce, rfl, rfl, hx, hce, hcv, hcl, rfl, hL, rfl, rfl⟩, ?_⟩
    show Steps p.tables e below _ (((({ U with heap := s₂.heap, slotsUsed := s₂.slotsUsed } : State).setVm s₂.vm).setTop g).pushFrame (.throwing q))
    rw [← hs₂]
    exact hsteps
end Payer
section Calls
variable {p : Program} {l : Launch} {e : Env} {R : Room} {s : State} {m : MethodId} {args : Array Value} {below : List Frame} {meth : Method} {c : Code} {T : State} {locs : List Loc} {cells slots : Nat}
theorem vx_callV (X : Stand p l e R s m args below meth c T locs cells slots) (hexec : p.tables.exec = Jvm.exec) {own C : String} {index : Nat} {y : MethodName} {bytes : ByteArray} {maxL : Nat} {ret : Option FieldType}
    (hown : s.vm.findClass own = some m.cls) (hlink : (Cond.methodLink own index y).before args s = true) (hinst : (Cond.instanceMethod y).before args s = true) (hsel : (Cond.selects C y y).before args s = true)
    (hcode : (Cond.code y bytes maxL ret).before args s = true) (hy : y.cls ≠ "java/lang/invoke/MethodHandle" ∧ y.cls ≠ "java/lang/invoke/VarHandle")
    {W9 : Nat} {Pre : Pt → Array Value → Prop} {Post : Pt → Array Value → Option Value → Pt → Prop} {PostX : Pt → Array Value → Addr → Pt → Prop} (hK : vx_Back l R p e below s args y 3 W9 Pre Post PostX)
    {b : Addr} {cellB : Cell} (hcell : T.heap[b]? = some cellB) (hobj : cellB.vm.isStatics = false) (hcls : s.vm.findClass C = some cellB.cls)
    {g : JFrame} (hg : g.method = m) (hsize : g.locals.size = c.maxLocals) {argsL rest : List Value} (hlen : ∀ sig, parseMethodDescriptor y.desc = some sig → argsL.length = sig.parameters.length)
    (hstack : g.stack = argsL.reverse ++ .ref b :: rest) (hW : 2 * g.monitorRoom + (rest.map fun v => v.category).sum ≤ W9) (hdg : decode c.code g.pc = .ok (.invokevirtual index, 3))
    (hpre : ∀ vm₁, s.WarmedH vm₁ → Pre ⟨T.setVm vm₁, locs, cells, slots⟩ (Value.ref b :: argsL).toArray) :
    (∃ (v : Option Value) (vm₁ : Vm) (B : Pt), s.WarmedH vm₁ ∧ Stand p l e R s m args below meth c B.U B.locs B.cells B.slots ∧ Post ⟨T.setVm vm₁, locs, cells, slots⟩ (Value.ref b :: argsL).toArray v B ∧
      ∀ target, Steps p.tables e below (B.U.setTop { g with pc := g.pc + 3, stack := v.toList ++ rest }) target → Steps p.tables e below (T.setTop g) target) ∨
    (∃ (q : Addr) (vm₁ : Vm) (B : Pt), s.WarmedH vm₁ ∧ Stand p l e R s m args below meth c B.U B.locs B.cells B.slots ∧ PostX ⟨T.setVm vm₁, locs, cells, slots⟩ (Value.ref b :: argsL).toArray q B ∧
      Steps p.tables e below (T.setTop g) ((B.U.setTop { g with stack := rest }).pushFrame (.throwing q))) := by
  obtain ⟨mk, methM, hnamed, hmethM, hstM, habM⟩ := Cond.instanceMethod_spec hinst
  obtain ⟨methM', cM, hmethM', -, -, -, -, -, -, hsigM⟩ := Cond.code_spec hnamed hcode
  cases hmethM.symm.trans hmethM'
  obtain ⟨c2, r2, m2, q1, q2, q3, q4, kP, hkP, hkPi⟩ := Cond.selects_spec hsel
  cases hcls.symm.trans q1
  cases (State.methodFound?_of_named hnamed hy).symm.trans q2
  cases hnamed.symm.trans q3
  have hselP : selectMethod e.platform s.vm cellB.cls mk = .method mk := by rw [Launch.admits_selectMethod X.admits]; exact q4
  obtain ⟨vm₁, X₁, hstep₁⟩ := X.invokevirtual hexec hown hlink hnamed hmethM hstM hkP hkPi hy (a := b) (cell := cellB) hcell
    (fun z h => by rw [h] at hobj; cases hobj) hselP hmethM habM hkP hkPi (g := g) hg (argsL := argsL) (rest := rest) (hlen _ hsigM) hstack hdg
  rcases hK m meth c ⟨T.setVm vm₁, locs, cells, slots⟩ { g with stack := rest } (.invokevirtual index) mk (Value.ref b :: argsL).toArray X₁ hg hsize hdg hW (X₁.named hnamed) (hpre vm₁ X₁.warmed) with ⟨v, B, X', hpost, hsteps⟩ | ⟨q, B, X', hpost, hsteps⟩
  · exact Or.inl ⟨v, vm₁, B, X₁.warmed, X', hpost, fun target h => hstep₁ _ fun acts => by rw [doInvoke_state]; exact hsteps.trans h⟩
  · exact Or.inr ⟨q, vm₁, B, X₁.warmed, X', hpost, hstep₁ _ fun acts => by rw [doInvoke_state]; exact hsteps⟩
theorem vx_callS (X : Stand p l e R s m args below meth c T locs cells slots) (hexec : p.tables.exec = Jvm.exec) {own : String} {index : Nat} {y : MethodName} {bytes : ByteArray} {maxL : Nat} {ret : Option FieldType}
    (hown : s.vm.findClass own = some m.cls) (hlink : (Cond.methodLink own index y).before args s = true) (hstat : (Cond.static y).before args s = true) (hinit : (Cond.initialized y.cls).before args s = true)
    (hcode : (Cond.code y bytes maxL ret).before args s = true) (hy : y.cls ≠ "java/lang/invoke/MethodHandle" ∧ y.cls ≠ "java/lang/invoke/VarHandle")
    {W9 : Nat} {Pre : Pt → Array Value → Prop} {Post : Pt → Array Value → Option Value → Pt → Prop} {PostX : Pt → Array Value → Addr → Pt → Prop} (hK : vx_Back l R p e below s args y 3 W9 Pre Post PostX)
    {g : JFrame} (hg : g.method = m) (hsize : g.locals.size = c.maxLocals) {argsL rest : List Value} (hlen : ∀ sig, parseMethodDescriptor y.desc = some sig → argsL.length = sig.parameters.length)
    (hstack : g.stack = argsL.reverse ++ rest) (hW : 2 * g.monitorRoom + (rest.map fun v => v.category).sum ≤ W9) (hdg : decode c.code g.pc = .ok (.invokestatic index, 3))
    (hpre : ∀ vm₁, s.WarmedH vm₁ → Pre ⟨T.setVm vm₁, locs, cells, slots⟩ argsL.toArray) :
    (∃ (v : Option Value) (vm₁ : Vm) (B : Pt), s.WarmedH vm₁ ∧ Stand p l e R s m args below meth c B.U B.locs B.cells B.slots ∧ Post ⟨T.setVm vm₁, locs, cells, slots⟩ argsL.toArray v B ∧
      ∀ target, Steps p.tables e below (B.U.setTop { g with pc := g.pc + 3, stack := v.toList ++ rest }) target → Steps p.tables e below (T.setTop g) target) ∨
    (∃ (q : Addr) (vm₁ : Vm) (B : Pt), s.WarmedH vm₁ ∧ Stand p l e R s m args below meth c B.U B.locs B.cells B.slots ∧ PostX ⟨T.setVm vm₁, locs, cells, slots⟩ argsL.toArray q B ∧
      Steps p.tables e below (T.setTop g) ((B.U.setTop { g with stack := rest }).pushFrame (.throwing q))) := by
  obtain ⟨mk, hnamed⟩ := Cond.code_named hcode
  obtain ⟨methM, cM, hmethM, -, -, -, -, -, -, hsigM⟩ := Cond.code_spec hnamed hcode
  have hstatic : methM.isStatic = true := Cond.static_spec hnamed hmethM hstat
  obtain ⟨kP, hkP, -⟩ := className_of_methodNamed hnamed
  have hinitP : kP.init = .initialized := Cond.initialized_spec (findClass_of_methodNamed hnamed) hkP hinit
  obtain ⟨vm₁, X₁, hstep₁⟩ := X.invokestatic hexec hown hlink hnamed hmethM hstatic hkP hinitP hy (g := g) hg (argsL := argsL) (rest := rest) (hlen _ hsigM) hstack hdg
  rcases hK m meth c ⟨T.setVm vm₁, locs, cells, slots⟩ { g with stack := rest } (.invokestatic index) mk argsL.toArray X₁ hg hsize hdg hW (X₁.named hnamed) (hpre vm₁ X₁.warmed) with ⟨v, B, X', hpost, hsteps⟩ | ⟨q, B, X', hpost, hsteps⟩
  · exact Or.inl ⟨v, vm₁, B, X₁.warmed, X', hpost, fun target h => hstep₁ _ fun acts => by rw [doInvoke_state]; exact hsteps.trans h⟩
  · exact Or.inr ⟨q, vm₁, B, X₁.warmed, X', hpost, hstep₁ _ fun acts => by rw [doInvoke_state]; exact hsteps⟩
end Calls
theorem vx_cls {s : State} {T : State} {vm₁ : Vm} {E : String} {k : ClassId} (hW : s.WarmedH vm₁) (h : (T.setVm vm₁).vm.findClass E = some k) : s.vm.findClass E = some k := by
  have h1 : vm₁.findClass E = some k := h
  rw [hW.alike.findClass] at h1
  exact h1
/-- the method's frame g, with q thrown over it -/
def vx_W (p : Program) (l : Launch) (e : Env) (R : Room) (s : State) (m : MethodId) (args : Array Value) (below : List Frame) (meth : Method) (c : Code) (H : Heap) (locs : List Loc) (cells slots : Nat) (Q : State → Prop) (g : JFrame) (q : Addr) : Prop :=
  ∀ T : State, T.heap = H → Stand p l e R s m args below meth c T locs cells slots → ∃ t, Steps p.tables e below ((T.setTop g).pushFrame (.throwing q)) t ∧ Q t
def vx_Run (p : Program) (l : Launch) (e : Env) (R : Room) (s : State) (m : MethodId) (args : Array Value) (below : List Frame) (meth : Method) (c : Code) (H : Heap) (locs : List Loc) (cells slots mc ms : Nat) (g : JFrame) (rest : List Value) (Qa : State → Outcome → State → Prop) (XC : String → State → State → Prop) (free : Addr → Prop) : Prop :=
  ∀ T : State, T.heap = H → Stand p l e R s m args below meth c T locs cells slots →
    (∃ (v : Option Value) (st₀ t T' : State) (L : List Loc), st₀.heap = H ∧ Stand p l e R s m args below meth c T' (locs ++ L) (cells + mc) (slots + ms) ∧ (∀ q ∈ L, free q.base) ∧ T'.heap = t.heap ∧ T'.vm = t.vm ∧ Qa st₀ (.returned v) t ∧
      Goes p e below T g T' { g with pc := g.pc + 3, stack := v.toList ++ rest }) ∨
    (∃ (q : Addr) (st₀ t T' : State) (L : List Loc) (E : String) (ce : Cell), st₀.heap = H ∧ Stand p l e R s m args below meth c T' (locs ++ L) (cells + mc) (slots + ms) ∧ (∀ z ∈ L, free z.base) ∧ T'.heap = t.heap ∧ T'.vm = t.vm ∧ XC E st₀ t ∧ t.heap[q]? = some ce ∧ ce.vm = .none ∧ s.vm.findClass E = some ce.cls ∧
      Steps p.tables e below (T.setTop g) ((T'.setTop { g with stack := rest }).pushFrame (.throwing q)))
def vx_X {S : Type} (px : S → Prop) (B : String → S → State → Prop) (A : Nat → Prop) : String → State → State → Prop := fun E st t => ∃ u : S, px u ∧ B E u t ∧ va_F A st t
section Runs
variable {p : Program} {l : Launch} {e : Env} {R : Room} {s : State} {m : MethodId} {args : Array Value} {below : List Frame} {meth : Method} {c : Code} {H : Heap} {locs : List Loc} {cells slots : Nat}
variable {y : MethodName} {bytes cc : ByteArray} {maxL nL mc ms n index : Nat} {ret : Option FieldType} {ws : List Cond} {rm : Room} {Pc : Array Value → State → Prop} {Qc : Array Value → State → Outcome → State → Prop} {XC : String → State → State → Prop} {free : Addr → Prop} {Ts : List Cond} {own C : String} {b : Addr} {As rest : List Value} {g : JFrame}
theorem vx_callBack (cb : CallB R s args own index y bytes maxL ret ws rm mc ms n) (hM : vx_Met l y ws rm Pc Qc XC mc ms free) (hbl : FrameBlind Pc) : vx_Back l R p e below s args y 3 8 (PreOf R mc ms Pc) (PostOf Qc mc ms free) (vx_Post XC mc ms free) := by
  obtain ⟨hrc, hrs, hfr, hlo, hws, hcw, -, hini, -⟩ := cb
  exact vx_back (bytes := bytes) (maxL := maxL) (ret := ret) hM hbl hrc hrs hfr hlo hws hcw (fun a' U hW => word_at hW (Or.inl (by first | rfl | simp [Cond.onTables, Cond.keeps, Cond.steady])) hini)
theorem vx_runV (S : CallFix p m c cc nL s args Ts own) (hM : vx_Met l y ws rm Pc Qc XC mc ms free) (cw : CallW R s args own C index y bytes maxL ret ws rm mc ms n) (hp : PreV s H C b Pc As)
    (hg : g.method = m) (hn : As.length = n) (hsize : g.locals.size = nL) (hstack : g.stack = As.reverse ++ .ref b :: rest) (hW : 2 * g.monitorRoom + (rest.map fun v => v.category).sum ≤ 8) (hdg : decode cc g.pc = .ok (.invokevirtual index, 3)) (hf : cells + mc ≤ R.cells ∧ slots + ms ≤ R.slots) :
    vx_Run p l e R s m args below meth c H locs cells slots mc ms g rest (Qc (Value.ref b :: As).toArray) XC free := by
  have hK : vx_Back l R p e below s args y 3 8 (PreOf R mc ms Pc) (PostOf Qc mc ms free) (vx_Post XC mc ms free) := vx_callBack cw.1 hM hp.1
  obtain ⟨⟨-, -, -, -, -, -, hcode, -, hy, hlen, hl⟩, hin, hse⟩ := cw
  obtain ⟨hx, hb, hml, ho, -⟩ := S
  obtain ⟨-, ⟨cellB, hcB, hoB, hclB⟩, hPc⟩ := hp
  intro T hT X
  rcases vx_callV X hx (C := C) (bytes := bytes) (maxL := maxL) (ret := ret) ho hl hin hse hcode hy hK (by rw [hT]; exact hcB) hoB hclB hg (hsize.trans hml.symm) (argsL := As) (rest := rest) (fun sig h => hn.trans (hlen sig h)) hstack hW (by rw [hb]; exact hdg)
    (fun vm₁ hW₁ => ⟨hf.1, hf.2, hPc (T.setVm vm₁) hT hW₁⟩) with ⟨v, vm₁, ⟨U', l2, c2, s2⟩, hW₁, X', ⟨g', mk, t, L, e1, e2, hq, h1, hL, h2, h3⟩, st⟩ | ⟨q, vm₁, ⟨U', l2, c2, s2⟩, hW₁, X', ⟨g', mk, t, L, E, ce, e1, e2, hq, hce, hcv, hcl, h1, hL, h2, h3⟩, st⟩
  · dsimp only [Pt.U, Pt.locs, Pt.cells, Pt.slots] at X' e1 e2 h1 h2 h3 st
    subst h1; subst h2; subst h3
    exact Or.inl ⟨v, (T.setVm vm₁).calling g' mk (Value.ref b :: As).toArray, t, U', L, hT, X', hL, e1, e2, hq, st⟩
  · dsimp only [Pt.U, Pt.locs, Pt.cells, Pt.slots] at X' e1 e2 h1 h2 h3 st hcl
    subst h1; subst h2; subst h3
    exact Or.inr ⟨q, (T.setVm vm₁).calling g' mk (Value.ref b :: As).toArray, t, U', L, E, ce, hT, X', hL, e1, e2, hq, hce, hcv, vx_cls hW₁ hcl, st⟩
theorem vx_runS (S : CallFix p m c cc nL s args Ts own) (hM : vx_Met l y ws rm Pc Qc XC mc ms free) (cw : CallB R s args own index y bytes maxL ret ws rm mc ms n ∧ (Cond.static y).before args s = true) (hp : PreS s H Pc As)
    (hg : g.method = m) (hn : As.length = n) (hsize : g.locals.size = nL) (hstack : g.stack = As.reverse ++ rest) (hW : 2 * g.monitorRoom + (rest.map fun v => v.category).sum ≤ 8) (hdg : decode cc g.pc = .ok (.invokestatic index, 3)) (hf : cells + mc ≤ R.cells ∧ slots + ms ≤ R.slots) :
    vx_Run p l e R s m args below meth c H locs cells slots mc ms g rest (Qc As.toArray) XC free := by
  have hK : vx_Back l R p e below s args y 3 8 (PreOf R mc ms Pc) (PostOf Qc mc ms free) (vx_Post XC mc ms free) := vx_callBack cw.1 hM hp.1
  obtain ⟨⟨-, -, -, -, -, -, hcode, hini, hy, hlen, hl⟩, hstt⟩ := cw
  obtain ⟨hx, hb, hml, ho, -⟩ := S
  intro T hT X
  rcases vx_callS X hx (bytes := bytes) (maxL := maxL) (ret := ret) ho hl hstt hini hcode hy hK hg (hsize.trans hml.symm) (argsL := As) (rest := rest) (fun sig h => hn.trans (hlen sig h)) hstack hW (by rw [hb]; exact hdg)
    (fun vm₁ hW₁ => ⟨hf.1, hf.2, hp.2 (T.setVm vm₁) hT hW₁⟩) with ⟨v, vm₁, ⟨U', l2, c2, s2⟩, hW₁, X', ⟨g', mk, t, L, e1, e2, hq, h1, hL, h2, h3⟩, st⟩ | ⟨q, vm₁, ⟨U', l2, c2, s2⟩, hW₁, X', ⟨g', mk, t, L, E, ce, e1, e2, hq, hce, hcv, hcl, h1, hL, h2, h3⟩, st⟩
  · dsimp only [Pt.U, Pt.locs, Pt.cells, Pt.slots] at X' e1 e2 h1 h2 h3 st
    subst h1; subst h2; subst h3
    exact Or.inl ⟨v, (T.setVm vm₁).calling g' mk As.toArray, t, U', L, hT, X', hL, e1, e2, hq, st⟩
  · dsimp only [Pt.U, Pt.locs, Pt.cells, Pt.slots] at X' e1 e2 h1 h2 h3 st hcl
    subst h1; subst h2; subst h3
    exact Or.inr ⟨q, (T.setVm vm₁).calling g' mk As.toArray, t, U', L, E, ce, hT, X', hL, e1, e2, hq, hce, hcv, vx_cls hW₁ hcl, st⟩
end Runs
section Rows
variable {p : Program} {l : Launch} {e : Env} {R : Room} {s : State} {m : MethodId} {args : Array Value} {below : List Frame} {meth : Method} {c : Code} {H : Heap} {locs : List Loc} {cells slots : Nat} {Q : State → Prop}
variable {mc ms : Nat} {free : Addr → Prop} {A0 A1 : Nat → Prop} {H0 : Heap} {a : Array Value} {pc : Nat} {ls : Array Slot} {st0 rest : List Value}
theorem vx_keep {st₀ t T' : State} {L : List Loc} (h0 : st₀.heap = H) (e1 : T'.heap = t.heap) (hS : va_S A0 H0 H locs) (hA : ∀ q, q < H.size → A1 q → A0 q) (hf : ∀ q, free q → A0 q) (hL : ∀ q ∈ L, free q.base) (hF : va_F A1 st₀ t) :
    H.size ≤ T'.heap.size ∧ (∀ q : Nat, q < H.size → ¬ A1 q → T'.heap[q]? = H[q]?) ∧ va_S A0 H0 T'.heap (locs ++ L) := by
  obtain ⟨hz, hk⟩ := hF
  rw [h0] at hz hk
  exact ⟨by rw [e1]; exact hz, fun q h1 h2 => by rw [e1]; exact hk q h1 h2,
    ⟨Nat.le_trans hS.1 (by rw [e1]; exact hz), fun q h1 h2 => by rw [e1, hk q (Nat.lt_of_lt_of_le h1 hS.1) (fun z => h2 (hA q (Nat.lt_of_lt_of_le h1 hS.1) z))]; exact hS.2.1 q h1 h2, fun q hq => by
      rcases List.mem_append.mp hq with h | h
      · exact hS.2.2 q h
      · exact hf _ (hL q h)⟩⟩
theorem vx_calli {S SX : Type} {post : Int32 → S → Prop} {px : SX → Prop} {B : S → State → Prop} {BX : String → SX → State → Prop} {AX : Nat → Prop} (hr : vx_Run p l e R s m args below meth c H locs cells slots mc ms (F0 m pc ls st0) rest (va_Qi post B A1 a) (vx_X px BX AX) free) (hS : va_S A0 H0 H locs) (hA : ∀ q, q < H.size → A1 q → A0 q) (hf : ∀ q, free q → A0 q) (hAX : ∀ q, q < H.size → AX q → A0 q)
    (kx : ∀ (E : String) (ce : Cell) (q9 : Addr) (u : SX) (t : State) (H1 : Heap) (locs1 : List Loc), t.heap = H1 → s.vm.Alike t.vm → px u → BX E u t → H.size ≤ H1.size → (∀ q : Nat, q < H.size → ¬ AX q → H1[q]? = H[q]?) → va_S A0 H0 H1 locs1 → H1[q9]? = some ce → ce.vm = .none → s.vm.findClass E = some ce.cls → vx_W p l e R s m args below meth c H1 locs1 (cells + mc) (slots + ms) Q (F0 m pc ls rest) q9)
    (kk : ∀ (r : Int32) (u : S) (t : State) (H1 : Heap) (locs1 : List Loc), t.heap = H1 → s.vm.Alike t.vm → post r u → B u t → H.size ≤ H1.size → (∀ q : Nat, q < H.size → ¬ A1 q → H1[q]? = H[q]?) → va_S A0 H0 H1 locs1 → W p l e R s m args below meth c H1 locs1 (cells + mc) (slots + ms) Q (F0 m (pc + 3) ls (.int r :: rest))) : W p l e R s m args below meth c H locs cells slots Q (F0 m pc ls st0) := by
  intro T hT X
  rcases hr T hT X with ⟨v, st₀, t, T', L, h0, X', hL, e1, e2, ⟨⟨r, u, hv, hp, hb⟩, hF⟩, st⟩ | ⟨q, st₀, t, T', L, E, ce, h0, X', hL, e1, e2, ⟨u, hp, hb, hF⟩, hce, hcv, hcl, st⟩
  · cases hv
    obtain ⟨k1, k2, k3⟩ := vx_keep h0 e1 hS hA hf hL hF
    obtain ⟨t2, a1, b1⟩ := kk r u t T'.heap (locs ++ L) e1.symm (by rw [← e2]; exact X'.warmed.alike) hp hb k1 k2 k3 T' rfl X'
    exact ⟨t2, st t2 a1, b1⟩
  · obtain ⟨k1, k2, k3⟩ := vx_keep h0 e1 hS hAX hf hL hF
    obtain ⟨t2, a1, b1⟩ := kx E ce q u t T'.heap (locs ++ L) e1.symm (by rw [← e2]; exact X'.warmed.alike) hp hb k1 k2 k3 (by rw [e1]; exact hce) hcv hcl T' rfl X'
    exact ⟨t2, st.trans a1, b1⟩
theorem vx_calll {S SX : Type} {post : Int64 → S → Prop} {px : SX → Prop} {B : S → State → Prop} {BX : String → SX → State → Prop} {AX : Nat → Prop} (hr : vx_Run p l e R s m args below meth c H locs cells slots mc ms (F0 m pc ls st0) rest (va_Ql post B A1 a) (vx_X px BX AX) free) (hS : va_S A0 H0 H locs) (hA : ∀ q, q < H.size → A1 q → A0 q) (hf : ∀ q, free q → A0 q) (hAX : ∀ q, q < H.size → AX q → A0 q)
    (kx : ∀ (E : String) (ce : Cell) (q9 : Addr) (u : SX) (t : State) (H1 : Heap) (locs1 : List Loc), t.heap = H1 → s.vm.Alike t.vm → px u → BX E u t → H.size ≤ H1.size → (∀ q : Nat, q < H.size → ¬ AX q → H1[q]? = H[q]?) → va_S A0 H0 H1 locs1 → H1[q9]? = some ce → ce.vm = .none → s.vm.findClass E = some ce.cls → vx_W p l e R s m args below meth c H1 locs1 (cells + mc) (slots + ms) Q (F0 m pc ls rest) q9)
    (kk : ∀ (r : Int64) (u : S) (t : State) (H1 : Heap) (locs1 : List Loc), t.heap = H1 → s.vm.Alike t.vm → post r u → B u t → H.size ≤ H1.size → (∀ q : Nat, q < H.size → ¬ A1 q → H1[q]? = H[q]?) → va_S A0 H0 H1 locs1 → W p l e R s m args below meth c H1 locs1 (cells + mc) (slots + ms) Q (F0 m (pc + 3) ls (.long r :: rest))) : W p l e R s m args below meth c H locs cells slots Q (F0 m pc ls st0) := by
  intro T hT X
  rcases hr T hT X with ⟨v, st₀, t, T', L, h0, X', hL, e1, e2, ⟨⟨r, u, hv, hp, hb⟩, hF⟩, st⟩ | ⟨q, st₀, t, T', L, E, ce, h0, X', hL, e1, e2, ⟨u, hp, hb, hF⟩, hce, hcv, hcl, st⟩
  · cases hv
    obtain ⟨k1, k2, k3⟩ := vx_keep h0 e1 hS hA hf hL hF
    obtain ⟨t2, a1, b1⟩ := kk r u t T'.heap (locs ++ L) e1.symm (by rw [← e2]; exact X'.warmed.alike) hp hb k1 k2 k3 T' rfl X'
    exact ⟨t2, st t2 a1, b1⟩
  · obtain ⟨k1, k2, k3⟩ := vx_keep h0 e1 hS hAX hf hL hF
    obtain ⟨t2, a1, b1⟩ := kx E ce q u t T'.heap (locs ++ L) e1.symm (by rw [← e2]; exact X'.warmed.alike) hp hb k1 k2 k3 (by rw [e1]; exact hce) hcv hcl T' rfl X'
    exact ⟨t2, st.trans a1, b1⟩
theorem vx_callf {S SX : Type} {post : UInt32 → S → Prop} {px : SX → Prop} {B : S → State → Prop} {BX : String → SX → State → Prop} {AX : Nat → Prop} (hr : vx_Run p l e R s m args below meth c H locs cells slots mc ms (F0 m pc ls st0) rest (va_Qf post B A1 a) (vx_X px BX AX) free) (hS : va_S A0 H0 H locs) (hA : ∀ q, q < H.size → A1 q → A0 q) (hf : ∀ q, free q → A0 q) (hAX : ∀ q, q < H.size → AX q → A0 q)
    (kx : ∀ (E : String) (ce : Cell) (q9 : Addr) (u : SX) (t : State) (H1 : Heap) (locs1 : List Loc), t.heap = H1 → s.vm.Alike t.vm → px u → BX E u t → H.size ≤ H1.size → (∀ q : Nat, q < H.size → ¬ AX q → H1[q]? = H[q]?) → va_S A0 H0 H1 locs1 → H1[q9]? = some ce → ce.vm = .none → s.vm.findClass E = some ce.cls → vx_W p l e R s m args below meth c H1 locs1 (cells + mc) (slots + ms) Q (F0 m pc ls rest) q9)
    (kk : ∀ (r : UInt32) (u : S) (t : State) (H1 : Heap) (locs1 : List Loc), t.heap = H1 → s.vm.Alike t.vm → post r u → B u t → H.size ≤ H1.size → (∀ q : Nat, q < H.size → ¬ A1 q → H1[q]? = H[q]?) → va_S A0 H0 H1 locs1 → W p l e R s m args below meth c H1 locs1 (cells + mc) (slots + ms) Q (F0 m (pc + 3) ls (.float r :: rest))) : W p l e R s m args below meth c H locs cells slots Q (F0 m pc ls st0) := by
  intro T hT X
  rcases hr T hT X with ⟨v, st₀, t, T', L, h0, X', hL, e1, e2, ⟨⟨r, u, hv, hp, hb⟩, hF⟩, st⟩ | ⟨q, st₀, t, T', L, E, ce, h0, X', hL, e1, e2, ⟨u, hp, hb, hF⟩, hce, hcv, hcl, st⟩
  · cases hv
    obtain ⟨k1, k2, k3⟩ := vx_keep h0 e1 hS hA hf hL hF
    obtain ⟨t2, a1, b1⟩ := kk r u t T'.heap (locs ++ L) e1.symm (by rw [← e2]; exact X'.warmed.alike) hp hb k1 k2 k3 T' rfl X'
    exact ⟨t2, st t2 a1, b1⟩
  · obtain ⟨k1, k2, k3⟩ := vx_keep h0 e1 hS hAX hf hL hF
    obtain ⟨t2, a1, b1⟩ := kx E ce q u t T'.heap (locs ++ L) e1.symm (by rw [← e2]; exact X'.warmed.alike) hp hb k1 k2 k3 (by rw [e1]; exact hce) hcv hcl T' rfl X'
    exact ⟨t2, st.trans a1, b1⟩
theorem vx_calld {S SX : Type} {post : UInt64 → S → Prop} {px : SX → Prop} {B : S → State → Prop} {BX : String → SX → State → Prop} {AX : Nat → Prop} (hr : vx_Run p l e R s m args below meth c H locs cells slots mc ms (F0 m pc ls st0) rest (va_Qd post B A1 a) (vx_X px BX AX) free) (hS : va_S A0 H0 H locs) (hA : ∀ q, q < H.size → A1 q → A0 q) (hf : ∀ q, free q → A0 q) (hAX : ∀ q, q < H.size → AX q → A0 q)
    (kx : ∀ (E : String) (ce : Cell) (q9 : Addr) (u : SX) (t : State) (H1 : Heap) (locs1 : List Loc), t.heap = H1 → s.vm.Alike t.vm → px u → BX E u t → H.size ≤ H1.size → (∀ q : Nat, q < H.size → ¬ AX q → H1[q]? = H[q]?) → va_S A0 H0 H1 locs1 → H1[q9]? = some ce → ce.vm = .none → s.vm.findClass E = some ce.cls → vx_W p l e R s m args below meth c H1 locs1 (cells + mc) (slots + ms) Q (F0 m pc ls rest) q9)
    (kk : ∀ (r : UInt64) (u : S) (t : State) (H1 : Heap) (locs1 : List Loc), t.heap = H1 → s.vm.Alike t.vm → post r u → B u t → H.size ≤ H1.size → (∀ q : Nat, q < H.size → ¬ A1 q → H1[q]? = H[q]?) → va_S A0 H0 H1 locs1 → W p l e R s m args below meth c H1 locs1 (cells + mc) (slots + ms) Q (F0 m (pc + 3) ls (.double r :: rest))) : W p l e R s m args below meth c H locs cells slots Q (F0 m pc ls st0) := by
  intro T hT X
  rcases hr T hT X with ⟨v, st₀, t, T', L, h0, X', hL, e1, e2, ⟨⟨r, u, hv, hp, hb⟩, hF⟩, st⟩ | ⟨q, st₀, t, T', L, E, ce, h0, X', hL, e1, e2, ⟨u, hp, hb, hF⟩, hce, hcv, hcl, st⟩
  · cases hv
    obtain ⟨k1, k2, k3⟩ := vx_keep h0 e1 hS hA hf hL hF
    obtain ⟨t2, a1, b1⟩ := kk r u t T'.heap (locs ++ L) e1.symm (by rw [← e2]; exact X'.warmed.alike) hp hb k1 k2 k3 T' rfl X'
    exact ⟨t2, st t2 a1, b1⟩
  · obtain ⟨k1, k2, k3⟩ := vx_keep h0 e1 hS hAX hf hL hF
    obtain ⟨t2, a1, b1⟩ := kx E ce q u t T'.heap (locs ++ L) e1.symm (by rw [← e2]; exact X'.warmed.alike) hp hb k1 k2 k3 (by rw [e1]; exact hce) hcv hcl T' rfl X'
    exact ⟨t2, st.trans a1, b1⟩
theorem vx_callv {S SX : Type} {post : S → Prop} {px : SX → Prop} {B : S → State → Prop} {BX : String → SX → State → Prop} {AX : Nat → Prop} (hr : vx_Run p l e R s m args below meth c H locs cells slots mc ms (F0 m pc ls st0) rest (va_Qv post B A1 a) (vx_X px BX AX) free) (hS : va_S A0 H0 H locs) (hA : ∀ q, q < H.size → A1 q → A0 q) (hf : ∀ q, free q → A0 q) (hAX : ∀ q, q < H.size → AX q → A0 q)
    (kx : ∀ (E : String) (ce : Cell) (q9 : Addr) (u : SX) (t : State) (H1 : Heap) (locs1 : List Loc), t.heap = H1 → s.vm.Alike t.vm → px u → BX E u t → H.size ≤ H1.size → (∀ q : Nat, q < H.size → ¬ AX q → H1[q]? = H[q]?) → va_S A0 H0 H1 locs1 → H1[q9]? = some ce → ce.vm = .none → s.vm.findClass E = some ce.cls → vx_W p l e R s m args below meth c H1 locs1 (cells + mc) (slots + ms) Q (F0 m pc ls rest) q9)
    (kk : ∀ (u : S) (t : State) (H1 : Heap) (locs1 : List Loc), t.heap = H1 → s.vm.Alike t.vm → post u → B u t → H.size ≤ H1.size → (∀ q : Nat, q < H.size → ¬ A1 q → H1[q]? = H[q]?) → va_S A0 H0 H1 locs1 → W p l e R s m args below meth c H1 locs1 (cells + mc) (slots + ms) Q (F0 m (pc + 3) ls (rest))) : W p l e R s m args below meth c H locs cells slots Q (F0 m pc ls st0) := by
  intro T hT X
  rcases hr T hT X with ⟨v, st₀, t, T', L, h0, X', hL, e1, e2, ⟨⟨u, hv, hp, hb⟩, hF⟩, st⟩ | ⟨q, st₀, t, T', L, E, ce, h0, X', hL, e1, e2, ⟨u, hp, hb, hF⟩, hce, hcv, hcl, st⟩
  · cases hv
    obtain ⟨k1, k2, k3⟩ := vx_keep h0 e1 hS hA hf hL hF
    obtain ⟨t2, a1, b1⟩ := kk u t T'.heap (locs ++ L) e1.symm (by rw [← e2]; exact X'.warmed.alike) hp hb k1 k2 k3 T' rfl X'
    exact ⟨t2, st t2 a1, b1⟩
  · obtain ⟨k1, k2, k3⟩ := vx_keep h0 e1 hS hAX hf hL hF
    obtain ⟨t2, a1, b1⟩ := kx E ce q u t T'.heap (locs ++ L) e1.symm (by rw [← e2]; exact X'.warmed.alike) hp hb k1 k2 k3 (by rw [e1]; exact hce) hcv hcl T' rfl X'
    exact ⟨t2, st.trans a1, b1⟩
/-- caught by the row x of this method's table; the rows ahead don't take it -/
theorem vx_catch {own name : String} {E : String} {ce : Cell} {q : Addr} (hown : s.vm.findClass own = some m.cls) (pre : List ExceptionTableEntry) (x : ExceptionTableEntry) (suf : List ExceptionTableEntry) (hsplit : c.exceptionTable.toList = pre ++ x :: suf)
    (hpass : ∀ z ∈ pre, covers z pc = false ∨ (z.catchType ≠ 0 ∧ ∃ nm : String, (Cond.classLink own z.catchType nm).before args s = true ∧ va_Nc E nm s)) (hx : covers x pc = true) (h0 : x.catchType ≠ 0)
    (hlink : (Cond.classLink own x.catchType name).before args s = true) (hcast : (Cond.castable E name).before args s = true) (hcell : H[q]? = some ce) (hv : ce.vm = .none) (hcl : s.vm.findClass E = some ce.cls)
    (kk : W p l e R s m args below meth c H locs cells slots Q (F0 m x.handlerPc ls [.ref q])) : vx_W p l e R s m args below meth c H locs cells slots Q (F0 m pc ls rest) q := by
  intro T hT X
  have hpl : e.platform.magicAccessors = ({} : Platform).magicAccessors := by rw [X.admits.platform]
  obtain ⟨c3, c4, hc3, hc4, hasg⟩ := Cond.castable_spec hcast
  cases Option.some.inj (hc3.symm.trans hcl)
  obtain ⟨c5, hc5, hcl5⟩ := Cond.classLink_spec hown hlink e.platform hpl
  cases Option.some.inj (hc4.symm.trans hc5)
  obtain ⟨vm', X', st⟩ := X.thenCaughtThrough q (g := F0 m pc ls rest) rfl (Steps.refl _) (by rw [hT]; exact hcell) (by rw [hv]; rfl) (by obtain ⟨k9, h9, -⟩ := Vm.findClass_spec hcl; exact ⟨k9, h9⟩) pre x suf hsplit
    (fun z hz => by
      rcases hpass z hz with h | ⟨hz0, nm, hl1, hn1⟩
      · exact Or.inl h
      · obtain ⟨c6, hc6, hcl6⟩ := Cond.classLink_spec hown hl1 e.platform hpl
        obtain ⟨a8, b8, h1, h2, h3⟩ := hn1
        cases Option.some.inj (h1.symm.trans hcl)
        cases Option.some.inj (h2.symm.trans hc6)
        exact Or.inr ⟨hz0, _, hcl6, h3⟩) hx (Or.inr ⟨h0, c4, hcl5, hasg⟩)
  obtain ⟨t, a1, b1⟩ := kk (T.setVm vm') hT X'
  exact ⟨t, st.trans a1, b1⟩
end Rows
section Ends
variable {p : Program} {l : Launch} {e : Env} {R : Room} {s : State} {m : MethodId} {args : Array Value} {below : List Frame} {meth : Method} {c : Code} {H : Heap} {locs : List Loc} {cells slots : Nat} {Q : State → Prop}
variable {mc ms : Nat} {free : Addr → Prop} {A0 A1 : Nat → Prop} {H0 : Heap} {a : Array Value} {ls : Array Slot} {st0 rest : List Value}
variable {Qc : Array Value → State → Outcome → State → Prop} {XC : String → State → State → Prop}
/-- what a body that may throw owes at its end -/
def vx_MQ (below : List Frame) (Qc : Array Value → State → Outcome → State → Prop) (XC : String → State → State → Prop) (a : Array Value) (s : State) (mc ms : Nat) (free : Addr → Prop) : State → Prop := fun t =>
  ∃ o, t.status = .running ∧ Ended t below o ∧ vx_Q Qc XC mc ms free a s o t
theorem vx_ret {g : JFrame} {mc ms : Nat} (k : W p l e R s m args below meth c H locs cells slots (MQ below Qc args s mc ms free) g) : W p l e R s m args below meth c H locs cells slots (vx_MQ below Qc XC args s mc ms free) g := by
  intro T hT X
  obtain ⟨t, a1, o, b1, b2, b3, b4⟩ := k T hT X
  exact ⟨t, a1, o, b1, b2, Or.inl ⟨b3, b4⟩⟩
/-- not caught here: it goes on to the caller -/
theorem vx_widen {g : JFrame} {q : Addr} {k n : Nat} (h1 : cells ≤ k) (h2 : slots ≤ n) (kk : vx_W p l e R s m args below meth c H locs k n Q g q) : vx_W p l e R s m args below meth c H locs cells slots Q g q := fun T hT X => kk T hT (stand_widen X h1 h2)
theorem vx_out {pc : Nat} {E : String} {ce : Cell} {q : Addr} {mc ms : Nat} (hout : ∀ x ∈ c.exceptionTable.toList, covers x pc = false) (hlocks : meth.locks = false) (hcell : H[q]? = some ce) (hv : ce.vm = .none) (hcl : s.vm.findClass E = some ce.cls)
    (hx : ∀ t : State, t.heap = H → s.vm.Alike t.vm → XC E s t) (hf : ∀ z ∈ locs, free z.base) (hc : cells ≤ mc) (hs : slots ≤ ms) :
    vx_W p l e R s m args below meth c H locs cells slots (vx_MQ below Qc XC args s mc ms free) (F0 m pc ls rest) q := by
  intro T hT X
  obtain ⟨st1, hrun, hend, hW, hsm⟩ := X.leaveThrown q (g := F0 m pc ls rest) rfl rfl rfl hout hlocks
  have hcell9 : (T.setFrames (.throwing q :: below)).heap[q]? = some ce := by
    show T.heap[q]? = some ce
    rw [hT]; exact hcell
  exact ⟨_, st1, .threw q, hrun, hend, Or.inr ⟨q, rfl, E, ce, locs, hx _ hT hW.alike, hcell9, hv, hcl, hW, hsm.mono hc hs, hf⟩⟩
theorem vx_frame {U : State} {k n : Nat} (h : s.sameButNew ({ U with vm := s.vm } : State) locs k n) : s.heap.size ≤ U.heap.size ∧ ∀ q : Nat, q < s.heap.size → (∀ z ∈ locs, z.base ≠ q) → U.heap[q]? = s.heap[q]? := by
  obtain ⟨-, h2, -, -, -, h6⟩ := h
  refine ⟨h2, fun q hq hz => ?_⟩
  obtain ⟨c9, e1, e2, e3, e4⟩ := h6 q _ (Array.getElem?_eq_getElem hq)
  have hs : c9.slots = (s.heap[q]).slots := Array.ext_getElem? fun i => e4 i fun hm => hz _ hm rfl
  have h9 : c9 = s.heap[q] := by
    rw [hs] at e2
    exact e2
  have e5 : U.heap[q]? = some c9 := e1
  rw [e5, h9, Array.getElem?_eq_getElem hq]
/-- the words of a throw but the four that speak of the heap -/
def vx_no (w : Cond) : Bool := decide (w ≠ .isRef (.static Bundle.tN "UNASSIGNED_STACK" Bundle.steD)) && decide (w ≠ .isRef (.static Bundle.tN "SUPPRESSED_SENTINEL" Bundle.listD)) && decide (w ≠ .laysStatic Bundle.tN "UNASSIGNED_STACK" Bundle.steD) && decide (w ≠ .laysStatic Bundle.tN "SUPPRESSED_SENTINEL" Bundle.listD)
def vx_at0 (own : String) (ic : Nat) (X : String) (names : List String) : List Cond := (Bundle.ownAtoms0 own ic X names).filter vx_no
def vx_atS (own : String) (ic : Nat) (X : String) (names : List String) : List Cond := (Bundle.ownAtoms own ic X names).filter vx_no
/-- a word that the tables alone decide, or a good one -/
def vx_ot (w : Cond) : Bool := w.onTables || goodWord w
theorem vx_ot_at {args a' : Array Value} {s U : State} {w : Cond} (hW : s.WarmedH U.vm) (hvm : s.vm = U.vm) (hg : vx_ot w = true) (h : w.before args s = true) : w.before a' U = true := by
  simp only [vx_ot, Bool.or_eq_true] at hg
  rcases hg with hg | hg
  · exact va_tabs hg hvm h
  · exact word_at hW (good_of_word hg) h
/-- a list's words: the good ones out of the method's own list, the others by premises of their own -/
theorem vx_hat {args : Array Value} {s : State} {L B : List Cond} (h1 : ∀ w ∈ L.filter goodWord, w.before args s = true) (h2 : ∀ w ∈ L.filter (fun w => !goodWord w), w ∈ B) (h3 : ∀ w ∈ B, w.before args s = true) : ∀ w ∈ L, w.before args s = true := by
  intro w hw
  by_cases g : goodWord w = true
  · exact h1 w (List.mem_filter.mpr ⟨hw, g⟩)
  · refine h3 w (h2 w (List.mem_filter.mpr ⟨hw, ?_⟩))
    show (!goodWord w) = true
    cases hgw : goodWord w
    · rfl
    · exact absurd hgw g
theorem vx_c {args : Array Value} {s : State} {w : Cond} {B : List Cond} (h : w.before args s = true) (t : ∀ w ∈ B, w.before args s = true) : ∀ w' ∈ w :: B, w'.before args s = true := fun w' h' => (List.mem_cons.mp h').elim (fun e => by rw [e]; exact h) (t w')
theorem vx_n {args : Array Value} {s : State} : ∀ w ∈ ([] : List Cond), w.before args s = true := fun _ h => nomatch h
theorem vx_own {args : Array Value} {s : State} {L : List Cond} (h1 : ∀ w ∈ L.filter vx_no, w.before args s = true)
    (hU : (Cond.isRef (.static Bundle.tN "UNASSIGNED_STACK" Bundle.steD)).before args s = true) (hN : (Cond.isRef (.static Bundle.tN "SUPPRESSED_SENTINEL" Bundle.listD)).before args s = true)
    (lU : (Cond.laysStatic Bundle.tN "UNASSIGNED_STACK" Bundle.steD).before args s = true) (lN : (Cond.laysStatic Bundle.tN "SUPPRESSED_SENTINEL" Bundle.listD).before args s = true) : ∀ w ∈ L, w.before args s = true := by
  intro w hw
  by_cases e1 : w = .isRef (.static Bundle.tN "UNASSIGNED_STACK" Bundle.steD)
  · rw [e1]; exact hU
  · by_cases e2 : w = .isRef (.static Bundle.tN "SUPPRESSED_SENTINEL" Bundle.listD)
    · rw [e2]; exact hN
    · by_cases e3 : w = .laysStatic Bundle.tN "UNASSIGNED_STACK" Bundle.steD
      · rw [e3]; exact lU
      · by_cases e4 : w = .laysStatic Bundle.tN "SUPPRESSED_SENTINEL" Bundle.listD
        · rw [e4]; exact lN
        · exact h1 w (List.mem_filter.mpr ⟨hw, by unfold vx_no; rw [decide_eq_true e1, decide_eq_true e2, decide_eq_true e3, decide_eq_true e4]; rfl⟩)
/-- where a static field lies, its class's statics cell in H -/
def vx_L (C n d : String) (A : Nat → Prop) (U : State) (H : Heap) : Prop := ∃ (c : ClassId) (k : Class) (i : Nat) (f : Field) (a : Nat) (cell : Cell), U.vm.findClass C = some c ∧ U.fieldFound? C n d = some (c, k, i, f) ∧ f.isStatic = true ∧ k.statics = some a ∧ H[a]? = some cell ∧ cell.vm.isStatics = true ∧ cell.cls = c ∧ f.slot < cell.slots.size ∧ k.staticTypes[f.slot]? = some f.type ∧ ¬ A a
theorem vx_L.moved {C n d : String} {A : Nat → Prop} {u U : State} {H : Heap} (hvm : u.vm.Alike U.vm) (h : vx_L C n d A u H) : vx_L C n d A U H := by
  obtain ⟨c, k, i, f, a, cell, h1, h2, h3, h4, h5, h6, h7, h8, h9, h10⟩ := h
  obtain ⟨k', hi', he⟩ := State.fieldFound?_setVm hvm h2
  exact ⟨c, k', i, f, a, cell, by rw [hvm.findClass]; exact h1, hi', h3, by rw [he]; exact h4, h5, h6, h7, h8, by rw [he]; exact h9, h10⟩
theorem vx_L.kept {C n d : String} {A : Nat → Prop} {U : State} {H H1 : Heap} (h : vx_L C n d A U H) (hq : ∀ a : Nat, a < H.size → ¬ A a → H1[a]? = H[a]?) : vx_L C n d A U H1 := by
  obtain ⟨c, k, i, f, a, cell, h1, h2, h3, h4, h5, h6, h7, h8, h9, h10⟩ := h
  exact ⟨c, k, i, f, a, cell, h1, h2, h3, h4, by rw [hq a (Array.getElem?_eq_some_iff.mp h5).1 h10]; exact h5, h6, h7, h8, h9, h10⟩
theorem vx_L.narrow {C n d : String} {A B : Nat → Prop} {U : State} {H : Heap} (h : vx_L C n d A U H) (hAB : ∀ q, B q → A q) : vx_L C n d B U H := by
  obtain ⟨c, k, i, f, a, cell, h1, h2, h3, h4, h5, h6, h7, h8, h9, h10⟩ := h
  exact ⟨c, k, i, f, a, cell, h1, h2, h3, h4, h5, h6, h7, h8, h9, fun z => h10 (hAB _ z)⟩
theorem vx_L.word {C n d : String} {A : Nat → Prop} {s : State} {args : Array Value} (h : vx_L C n d A s s.heap) : (Cond.laysStatic C n d).before args s = true := by
  obtain ⟨c, k, i, f, a, cell, h1, h2, h3, h4, h5, h6, h7, h8, h9, -⟩ := h
  show (Cond.laysStatic C n d).holds args s none s [] = true
  exact Cond.laysStatic_of h1 h2 h3 h4 h5 h6 h7 h8 h9
/-- .. and what it holds: null or some reference -/
def vx_Zq (C n d : String) (A : Nat → Prop) (U : State) (H : Heap) : Prop := va_Zq C n d A U H ∧ vx_L C n d A U H
theorem vx_Zq.moved {C n d : String} {A : Nat → Prop} {u U : State} {H : Heap} (hvm : u.vm.Alike U.vm) (h : vx_Zq C n d A u H) : vx_Zq C n d A U H := ⟨va_Zq.moved hvm h.1, vx_L.moved hvm h.2⟩
theorem vx_Zq.kept {C n d : String} {A : Nat → Prop} {U : State} {H H1 : Heap} (h : vx_Zq C n d A U H) (hq : ∀ a : Nat, a < H.size → ¬ A a → H1[a]? = H[a]?) : vx_Zq C n d A U H1 := ⟨va_Zq.kept h.1 hq, vx_L.kept h.2 hq⟩
theorem vx_Zq.narrow {C n d : String} {A B : Nat → Prop} {U : State} {H : Heap} (h : vx_Zq C n d A U H) (hAB : ∀ q, B q → A q) : vx_Zq C n d B U H := ⟨va_Zq.narrow h.1 hAB, vx_L.narrow h.2 hAB⟩
theorem vx_Zqof {args : Array Value} {s : State} {C n d : String} {A : Nat → Prop} (hl : (Cond.laysStatic C n d).before args s = true) (hini : (Cond.initialized C).before args s = true) (h : (Cond.isRef (.static C n d)).before args s = true) (hA : ∀ a : Nat, a < s.heap.size → ¬ A a) : vx_Zq C n d A s s.heap := by
  refine ⟨va_Zqof hl hini h hA, ?_⟩
  obtain ⟨c, k, i, f, a, cell, h1, h2, h3, h4, h5, h6, h7, h8, h9⟩ := Cond.laysStatic_spec hl
  exact ⟨c, k, i, f, a, cell, h1, h2, h3, h4, h5, h6, h7, h8, h9, hA a (Array.getElem?_eq_some_iff.mp h5).1⟩
theorem vx_isRef {C n d : String} {v : Value} {A : Nat → Prop} {s : State} {args : Array Value} (h : va_Z C n d v A s s.heap) (hv : v.isRef = true) : (Cond.isRef (.static C n d)).before args s = true := by
  obtain ⟨cf, kf, fi, f, a, cell, h1, h2, h3, h4, h5, h6, h7, -⟩ := h
  have he : (Term.static C n d).eval args s none [] s = some v := by
    simp [Term.eval, State.fieldNamed?, h1, h2, h4, h5, h6, h7]
  simp only [Cond.before, Cond.holds, Cond.value, he]
  cases v <;> simp_all [Value.isRef]
theorem vx_isRefq {C n d : String} {A : Nat → Prop} {s : State} {args : Array Value} (h : va_Zq C n d A s s.heap) : (Cond.isRef (.static C n d)).before args s = true := by
  rcases h with h | ⟨t, h⟩
  · exact vx_isRef h rfl
  · exact vx_isRef h rfl
/-- the same frame, seen from here: as if the method were called anew in this heap -/
theorem vx_rebase {T : State} (X : Stand p l e R s m args below meth c T locs cells slots) {R' : Room} (hf : R'.frames ≤ R.frames) (hl : R'.locals ≤ R.locals) (hc : cells + R'.cells ≤ R.cells) (hs : slots + R'.slots ≤ R.slots) :
    Stand p l e R' ((T.setVm s.vm).setFrames (.invoking m args :: below)) m args below meth c T [] 0 0 := by
  have htop : (T.setVm s.vm).topJava?.isSome := X.here.top
  have hF : ((T.setVm s.vm).setFrames (.invoking m args :: below)).frames = .invoking m args :: below := State.frames_setFrames _ (State.cur_lt_of_top htop)
  obtain ⟨g₀, hg0⟩ := Option.isSome_iff_exists.mp htop
  obtain ⟨r, hr⟩ := State.topJava?_eq_some.mp hg0
  have hl9 : e.platform.stackLimits (T.setVm s.vm).me = e.platform.stackLimits s.me := X.limits
  have hb9 : (T.setVm s.vm).me.stackBytes = s.me.stackBytes := X.bytes
  refine ⟨X.admits, X.cas, X.clock, hF, ?_, X.hears, X.method, X.code, X.here, X.tail, X.warmed, ?_, ?_, ?_⟩
  · have h := X.room
    have hU : ((T.setVm s.vm).setFrames (.invoking m args :: below)).localsInUse = s.localsInUse := by
      rw [State.localsInUse_invoking hF (meth := meth) (c := c) X.method X.code, State.localsInUse_invoking X.frames X.method X.code]
    simp only [State.hasRoom, Bool.and_eq_true, decide_eq_true_eq] at h ⊢
    obtain ⟨⟨⟨⟨h1, h2, h3, h4, h5, h6⟩, h7⟩, h8⟩, h9⟩ := h
    rw [X.frames, List.length_cons] at h2 h3
    have q1 := X.heapSize
    have q2 := X.used
    simp only [hF, hU, List.length_cons, State.stackLimits_setFrames, State.stackBytes_setFrames, hl9, hb9]
    refine ⟨⟨⟨⟨by omega, by omega, by omega, by omega, by omega, h6⟩, ?_⟩, ?_⟩, X.book⟩
    · show T.heap.size + R'.cells ≤ e.platform.maxCells
      omega
    · show T.slotsUsed + R'.slots ≤ e.platform.maxSlots
      omega
  · rw [State.stackLimits_setFrames]; rfl
  · rw [State.stackBytes_setFrames]; rfl
  · refine ⟨?_, Nat.le_refl _, Nat.le_refl _, ?_, ?_, fun a c9 h9 => ⟨c9, h9, rfl, rfl, fun _ _ => rfl⟩⟩
    · obtain ⟨t, ht, -⟩ := State.frames_cons hr
      show T.setVm s.vm = { ((T.setVm s.vm).setFrames (.invoking m args :: below)).setFrames (T.setVm s.vm).frames with heap := T.heap, slotsUsed := T.slotsUsed }
      rw [State.setFrames_setFrames, State.setFrames_self ht]
      rfl
    · show T.slotsUsed = T.slotsUsed + ((T.heap.toList.drop T.heap.size).map (·.slots.size)).sum
      rw [List.drop_eq_nil_of_le (Nat.le_of_eq Array.length_toList)]
      rfl
    · show ((T.heap.toList.drop T.heap.size).map (·.slots.size)).sum ≤ 0
      rw [List.drop_eq_nil_of_le (Nat.le_of_eq Array.length_toList)]
      exact Nat.le_refl _
/-- 'throw new E()': new; dup; invokespecial; athrow -/
theorem vx_throw0 {cc : ByteArray} {pc : Nat} (hexec : p.tables.exec = Jvm.exec) (hb : c.code = cc) (hl : l.stackTraces = false) {own cls : String} {names : List String} {ik ic mc ms : Nat} {A : Nat → Prop}
    (hown : s.vm.findClass own = some m.cls) (hcls : Bundle.fit cls = true) (hnames : ∀ n ∈ names, Bundle.fit n = true)
    (hk : (Cond.classLink own ik cls).before args s = true) (hini : (Cond.initialized cls).before args s = true) (hat : ∀ w ∈ vx_at0 own ic cls names, w.before args s = true)
    (hgood : ∀ w ∈ Cond.classLink own ik cls :: Cond.initialized cls :: vx_at0 own ic cls names, vx_ot w = true)
    (hU : vx_Zq Bundle.tN "UNASSIGNED_STACK" Bundle.steD A s s.heap) (hN : vx_Zq Bundle.tN "SUPPRESSED_SENTINEL" Bundle.listD A s s.heap) (hS : va_S A s.heap H locs) (hsize : ls.size = c.maxLocals)
    (d0 : decode cc pc = .ok (.new ik, 3)) (d3 : decode cc (pc + 3) = .ok (.dup, 1)) (d4 : decode cc (pc + 4) = .ok (.invokespecial ic, 3)) (d7 : decode cc (pc + 7) = .ok (.athrow, 1))
    (hout : ∀ x ∈ c.exceptionTable.toList, covers x (pc + 7) = false)
    (hRframes : names.length + 3 < R.frames) (hRlocals : (rest.map fun v => v.category).sum + (13 * (names.length + 1) + 42) ≤ R.locals) (hRcells : cells + 1 ≤ R.cells) (hRslots : slots + 6 ≤ R.slots) (hlocks : meth.locks = false)
    (hx : ∀ t : State, s.vm.Alike t.vm → H.size ≤ t.heap.size → (∀ q : Nat, q < H.size → t.heap[q]? = H[q]?) → XC cls s t)
    (hf : ∀ z ∈ locs, free z.base) (hc : cells + 1 ≤ mc) (hs : slots + 6 ≤ ms) :
    W p l e R s m args below meth c H locs cells slots (vx_MQ below Qc XC args s mc ms free) (F0 m pc ls rest) := by
  intro T hT X
  have htr : e.platform.stackTraces = false := (show e.platform.stackTraces = l.stackTraces by rw [X.admits.platform]).trans hl
  have Y := vx_rebase X (R' := { frames := R.frames, locals := R.locals, cells := 1, slots := 6 }) (Nat.le_refl _) (Nat.le_refl _) hRcells hRslots
  obtain ⟨s', hA⟩ : ∃ z, z = (T.setVm s.vm).setFrames (.invoking m args :: below) := ⟨_, rfl⟩
  rw [← hA] at Y
  have hvm : s'.vm = s.vm := by rw [hA]; rfl
  have hhp : s'.heap = H := by rw [hA]; exact hT
  have hW0 : s.WarmedH s'.vm := by rw [hvm]; exact State.WarmedH.refl s
  have hat' : ∀ w ∈ vx_at0 own ic cls names, w.before args s' = true := fun w hw => vx_ot_at hW0 hvm.symm (hgood w (List.mem_cons_of_mem _ (List.mem_cons_of_mem _ hw))) (hat w hw)
  have hk' : (Cond.classLink own ik cls).before args s' = true := vx_ot_at hW0 hvm.symm (hgood _ List.mem_cons_self) hk
  have hini' : (Cond.initialized cls).before args s' = true := vx_ot_at hW0 hvm.symm (hgood _ (List.mem_cons_of_mem _ List.mem_cons_self)) hini
  have hU' : vx_Zq Bundle.tN "UNASSIGNED_STACK" Bundle.steD A s' s'.heap := by rw [hhp]; exact vx_Zq.moved hW0.alike (hU.kept hS.2.1)
  have hN' : vx_Zq Bundle.tN "SUPPRESSED_SENTINEL" Bundle.listD A s' s'.heap := by rw [hhp]; exact vx_Zq.moved hW0.alike (hN.kept hS.2.1)
  have h : ∀ w ∈ Bundle.ownAtoms0 own ic cls names, w.before args s' = true := vx_own hat' (vx_isRefq hU'.1) (vx_isRefq hN'.1) hU'.2.word hN'.2.word
  have hown' : s'.vm.findClass own = some m.cls := by rw [hvm]; exact hown
  have hins : (Cond.instantiable cls 6).before args s' = true := h _ (by simp [Bundle.ownAtoms0])
  obtain ⟨vm₁, cX, kX, hfX, hkX, -, -, X₁, st1⟩ := Y.newCold hexec (own := own) (C := cls) (index := ik) (n := 6) hown' hk' hins hini'
    (g := F0 m pc ls rest) rfl (by rw [hb]; exact d0) (Nat.le_refl _) (Nat.le_refl _)
  generalize hT1 : (T.setVm vm₁).pushCell { cls := cX, slots := kX.instanceTypes.map defaultValue, vm := .none } = T1 at X₁ st1
  have hcat : (Value.ref T.heap.size).category = 1 := rfl
  have hcellA : T1.heap[T.heap.size]? = some (freshCell cX kX) := by rw [← hT1]; exact State.heap_pushCell_size _ _
  have d3' : decode c.code (pc + 3) = .ok (.dup, 1) := by rw [hb]; exact d3
  obtain ⟨U, hsteps, hrun, hend, hW, hsame, ce, hce, hO⟩ := X₁.ctorThrow0 hexec htr (own := own) (cls := cls) (names := names) (ic := ic) hown' hcls hnames h (fun x hx => nomatch hx) hfX hkX hcellA (by rw [hhp, hT]; exact Nat.le_refl _)
    (g := { method := m, pc := pc + 4, locals := ls, stack := .ref T.heap.size :: .ref T.heap.size :: rest, locked := none }) rfl hsize rfl rfl (rest := rest) rfl
    (by rw [hb]; exact d4) (by rw [hb]; exact d7) hout hRframes (by simp only [List.map_cons, List.sum_cons, hcat]; omega) hlocks
  obtain ⟨f1, f2⟩ := vx_frame hsame
  rw [hhp] at f1 f2
  have hWs : s.WarmedH U.vm := State.WarmedH.trans hW0 hW
  have hcl : s.vm.findClass cls = some ce.cls := by
    have h9 := hO.cls
    rw [hvm] at h9
    exact h9
  have hall : s.sameButNew ({ U with vm := s.vm } : State) locs mc ms := by
    subst hA
    obtain ⟨e1, e2⟩ := hsame
    rw [State.setFrames_setFrames] at e1
    have h2 : (T.setVm s.vm).sameButNew ({ U with vm := s.vm } : State) [] (0 + 1) (0 + 6) := ⟨e1, e2⟩
    have h3 := X.same.trans h2
    rw [List.append_nil] at h3
    exact h3.mono hc hs
  refine ⟨U, ?_, .threw T.heap.size, hrun, hend, Or.inr ⟨T.heap.size, rfl, cls, ce, locs, hx U hWs.alike f1 (fun q hq => f2 q hq (fun z hz => nomatch hz)), hce, hO.vm, hcl, hWs, hall, hf⟩⟩
  refine st1 _ ?_
  show Steps p.tables e below (T1.setTop { method := m, pc := pc + 3, locals := ls, stack := .ref T.heap.size :: rest, locked := none }) _
  jvm_step X₁.here [X₁.here.top, hexec, d3', Value.category]
  exact hsteps
/-- 'throw new E("text")': new; dup; ldc; invokespecial; athrow -/
theorem vx_throwS {cc : ByteArray} {pc : Nat} (hexec : p.tables.exec = Jvm.exec) (hb : c.code = cc) (hl : l.stackTraces = false) {own cls text : String} {names : List String} {ik is ic mc ms sa : Nat} {A : Nat → Prop}
    (hown : s.vm.findClass own = some m.cls) (hcls : Bundle.fit cls = true) (hnames : ∀ n ∈ names, Bundle.fit n = true)
    (hk : (Cond.classLink own ik cls).before args s = true) (hini : (Cond.initialized cls).before args s = true) (hstr : vk_R own is text sa s) (hat : ∀ w ∈ vx_atS own ic cls names, w.before args s = true)
    (hgood : ∀ w ∈ Cond.classLink own ik cls :: Cond.initialized cls :: vx_atS own ic cls names, vx_ot w = true)
    (hU : vx_Zq Bundle.tN "UNASSIGNED_STACK" Bundle.steD A s s.heap) (hN : vx_Zq Bundle.tN "SUPPRESSED_SENTINEL" Bundle.listD A s s.heap) (hS : va_S A s.heap H locs) (hsize : ls.size = c.maxLocals)
    (d0 : decode cc pc = .ok (.new ik, 3)) (d3 : decode cc (pc + 3) = .ok (.dup, 1)) (d4 : decode cc (pc + 4) = .ok (.ldc is, 2)) (d6 : decode cc (pc + 6) = .ok (.invokespecial ic, 3)) (d9 : decode cc (pc + 9) = .ok (.athrow, 1))
    (hout : ∀ x ∈ c.exceptionTable.toList, covers x (pc + 9) = false)
    (hRframes : names.length + 3 < R.frames) (hRlocals : (rest.map fun v => v.category).sum + (13 * (names.length + 1) + 43) ≤ R.locals) (hRcells : cells + 1 ≤ R.cells) (hRslots : slots + 6 ≤ R.slots) (hlocks : meth.locks = false)
    (hx : ∀ t : State, s.vm.Alike t.vm → H.size ≤ t.heap.size → (∀ q : Nat, q < H.size → t.heap[q]? = H[q]?) → XC cls s t)
    (hf : ∀ z ∈ locs, free z.base) (hc : cells + 1 ≤ mc) (hs : slots + 6 ≤ ms) :
    W p l e R s m args below meth c H locs cells slots (vx_MQ below Qc XC args s mc ms free) (F0 m pc ls rest) := by
  intro T hT X
  have htr : e.platform.stackTraces = false := (show e.platform.stackTraces = l.stackTraces by rw [X.admits.platform]).trans hl
  have Y := vx_rebase X (R' := { frames := R.frames, locals := R.locals, cells := 1, slots := 6 }) (Nat.le_refl _) (Nat.le_refl _) hRcells hRslots
  obtain ⟨s', hA⟩ : ∃ z, z = (T.setVm s.vm).setFrames (.invoking m args :: below) := ⟨_, rfl⟩
  rw [← hA] at Y
  have hvm : s'.vm = s.vm := by rw [hA]; rfl
  have hhp : s'.heap = H := by rw [hA]; exact hT
  have hW0 : s.WarmedH s'.vm := by rw [hvm]; exact State.WarmedH.refl s
  have hat' : ∀ w ∈ vx_atS own ic cls names, w.before args s' = true := fun w hw => vx_ot_at hW0 hvm.symm (hgood w (List.mem_cons_of_mem _ (List.mem_cons_of_mem _ hw))) (hat w hw)
  have hk' : (Cond.classLink own ik cls).before args s' = true := vx_ot_at hW0 hvm.symm (hgood _ List.mem_cons_self) hk
  have hini' : (Cond.initialized cls).before args s' = true := vx_ot_at hW0 hvm.symm (hgood _ (List.mem_cons_of_mem _ List.mem_cons_self)) hini
  have hU' : vx_Zq Bundle.tN "UNASSIGNED_STACK" Bundle.steD A s' s'.heap := by rw [hhp]; exact vx_Zq.moved hW0.alike (hU.kept hS.2.1)
  have hN' : vx_Zq Bundle.tN "SUPPRESSED_SENTINEL" Bundle.listD A s' s'.heap := by rw [hhp]; exact vx_Zq.moved hW0.alike (hN.kept hS.2.1)
  have h : ∀ w ∈ Bundle.ownAtoms own ic cls names, w.before args s' = true := vx_own hat' (vx_isRefq hU'.1) (vx_isRefq hN'.1) hU'.2.word hN'.2.word
  have hown' : s'.vm.findClass own = some m.cls := by rw [hvm]; exact hown
  have hins : (Cond.instantiable cls 6).before args s' = true := h _ (by simp [Bundle.ownAtoms])
  obtain ⟨vm₁, cX, kX, hfX, hkX, -, -, X₁, st1⟩ := Y.newCold hexec (own := own) (C := cls) (index := ik) (n := 6) hown' hk' hins hini'
    (g := F0 m pc ls rest) rfl (by rw [hb]; exact d0) (Nat.le_refl _) (Nat.le_refl _)
  generalize hT1 : (T.setVm vm₁).pushCell { cls := cX, slots := kX.instanceTypes.map defaultValue, vm := .none } = T1 at X₁ st1
  have hcat : (Value.ref T.heap.size).category = 1 := rfl
  have hcellA : T1.heap[T.heap.size]? = some (freshCell cX kX) := by rw [← hT1]; exact State.heap_pushCell_size _ _
  have d3' : decode c.code (pc + 3) = .ok (.dup, 1) := by rw [hb]; exact d3
  have d4' : decode c.code (pc + 4) = .ok (.ldc is, 2) := by rw [hb]; exact d4
  have hstr' : vk_R own is text sa s' := vk_R.warm hW0 hstr
  obtain ⟨U, hsteps, hrun, hend, hW, hsame, ce, hce, hO⟩ := X₁.ctorThrowS hexec htr (own := own) (cls := cls) (names := names) (ic := ic) hown' hcls hnames h (fun x hx => nomatch hx) hfX hkX hcellA (by rw [hhp, hT]; exact Nat.le_refl _) (msg := .ref sa) rfl
    (g := { method := m, pc := pc + 6, locals := ls, stack := .ref sa :: .ref T.heap.size :: .ref T.heap.size :: rest, locked := none }) rfl hsize rfl rfl (rest := rest) rfl
    (by rw [hb]; exact d6) (by rw [hb]; exact d9) hout hRframes (by simp only [List.map_cons, List.sum_cons, hcat]; omega) hlocks
  obtain ⟨f1, f2⟩ := vx_frame hsame
  rw [hhp] at f1 f2
  have hWs : s.WarmedH U.vm := State.WarmedH.trans hW0 hW
  have hcl : s.vm.findClass cls = some ce.cls := by
    have h9 := hO.cls
    rw [hvm] at h9
    exact h9
  have hall : s.sameButNew ({ U with vm := s.vm } : State) locs mc ms := by
    subst hA
    obtain ⟨e1, e2⟩ := hsame
    rw [State.setFrames_setFrames] at e1
    have h2 : (T.setVm s.vm).sameButNew ({ U with vm := s.vm } : State) [] (0 + 1) (0 + 6) := ⟨e1, e2⟩
    have h3 := X.same.trans h2
    rw [List.append_nil] at h3
    exact h3.mono hc hs
  refine ⟨U, ?_, .threw T.heap.size, hrun, hend, Or.inr ⟨T.heap.size, rfl, cls, ce, locs, hx U hWs.alike f1 (fun q hq => f2 q hq (fun z hz => nomatch hz)), hce, hO.vm, hcl, hWs, hall, hf⟩⟩
  refine st1 _ ?_
  show Steps p.tables e below (T1.setTop { method := m, pc := pc + 3, locals := ls, stack := .ref T.heap.size :: rest, locked := none }) _
  jvm_step X₁.here [X₁.here.top, hexec, d3', Value.category]
  exact X₁.ldcString hexec (own := own) (text := text) (index := is) (a := sa) hown' hstr'.1 hstr'.2
    (g := { method := m, pc := pc + 4, locals := ls, stack := .ref T.heap.size :: .ref T.heap.size :: rest, locked := none }) rfl d4' _ hsteps
/-- 'throw new E("text")', the text by a wide index -/
theorem vx_throwSW {cc : ByteArray} {pc : Nat} (hexec : p.tables.exec = Jvm.exec) (hb : c.code = cc) (hl : l.stackTraces = false) {own cls text : String} {names : List String} {ik is ic mc ms sa : Nat} {A : Nat → Prop}
    (hown : s.vm.findClass own = some m.cls) (hcls : Bundle.fit cls = true) (hnames : ∀ n ∈ names, Bundle.fit n = true)
    (hk : (Cond.classLink own ik cls).before args s = true) (hini : (Cond.initialized cls).before args s = true) (hstr : vk_R own is text sa s) (hat : ∀ w ∈ vx_atS own ic cls names, w.before args s = true)
    (hgood : ∀ w ∈ Cond.classLink own ik cls :: Cond.initialized cls :: vx_atS own ic cls names, vx_ot w = true)
    (hU : vx_Zq Bundle.tN "UNASSIGNED_STACK" Bundle.steD A s s.heap) (hN : vx_Zq Bundle.tN "SUPPRESSED_SENTINEL" Bundle.listD A s s.heap) (hS : va_S A s.heap H locs) (hsize : ls.size = c.maxLocals)
    (d0 : decode cc pc = .ok (.new ik, 3)) (d3 : decode cc (pc + 3) = .ok (.dup, 1)) (d4 : decode cc (pc + 4) = .ok (.ldc_w is, 3)) (d7 : decode cc (pc + 7) = .ok (.invokespecial ic, 3)) (d10 : decode cc (pc + 10) = .ok (.athrow, 1))
    (hout : ∀ x ∈ c.exceptionTable.toList, covers x (pc + 10) = false)
    (hRframes : names.length + 3 < R.frames) (hRlocals : (rest.map fun v => v.category).sum + (13 * (names.length + 1) + 43) ≤ R.locals) (hRcells : cells + 1 ≤ R.cells) (hRslots : slots + 6 ≤ R.slots) (hlocks : meth.locks = false)
    (hx : ∀ t : State, s.vm.Alike t.vm → H.size ≤ t.heap.size → (∀ q : Nat, q < H.size → t.heap[q]? = H[q]?) → XC cls s t)
    (hf : ∀ z ∈ locs, free z.base) (hc : cells + 1 ≤ mc) (hs : slots + 6 ≤ ms) :
    W p l e R s m args below meth c H locs cells slots (vx_MQ below Qc XC args s mc ms free) (F0 m pc ls rest) := by
  intro T hT X
  have htr : e.platform.stackTraces = false := (show e.platform.stackTraces = l.stackTraces by rw [X.admits.platform]).trans hl
  have Y := vx_rebase X (R' := { frames := R.frames, locals := R.locals, cells := 1, slots := 6 }) (Nat.le_refl _) (Nat.le_refl _) hRcells hRslots
  obtain ⟨s', hA⟩ : ∃ z, z = (T.setVm s.vm).setFrames (.invoking m args :: below) := ⟨_, rfl⟩
  rw [← hA] at Y
  have hvm : s'.vm = s.vm := by rw [hA]; rfl
  have hhp : s'.heap = H := by rw [hA]; exact hT
  have hW0 : s.WarmedH s'.vm := by rw [hvm]; exact State.WarmedH.refl s
  have hat' : ∀ w ∈ vx_atS own ic cls names, w.before args s' = true := fun w hw => vx_ot_at hW0 hvm.symm (hgood w (List.mem_cons_of_mem _ (List.mem_cons_of_mem _ hw))) (hat w hw)
  have hk' : (Cond.classLink own ik cls).before args s' = true := vx_ot_at hW0 hvm.symm (hgood _ List.mem_cons_self) hk
  have hini' : (Cond.initialized cls).before args s' = true := vx_ot_at hW0 hvm.symm (hgood _ (List.mem_cons_of_mem _ List.mem_cons_self)) hini
  have hU' : vx_Zq Bundle.tN "UNASSIGNED_STACK" Bundle.steD A s' s'.heap := by rw [hhp]; exact vx_Zq.moved hW0.alike (hU.kept hS.2.1)
  have hN' : vx_Zq Bundle.tN "SUPPRESSED_SENTINEL" Bundle.listD A s' s'.heap := by rw [hhp]; exact vx_Zq.moved hW0.alike (hN.kept hS.2.1)
  have h : ∀ w ∈ Bundle.ownAtoms own ic cls names, w.before args s' = true := vx_own hat' (vx_isRefq hU'.1) (vx_isRefq hN'.1) hU'.2.word hN'.2.word
  have hown' : s'.vm.findClass own = some m.cls := by rw [hvm]; exact hown
  have hins : (Cond.instantiable cls 6).before args s' = true := h _ (by simp [Bundle.ownAtoms])
  obtain ⟨vm₁, cX, kX, hfX, hkX, -, -, X₁, st1⟩ := Y.newCold hexec (own := own) (C := cls) (index := ik) (n := 6) hown' hk' hins hini'
    (g := F0 m pc ls rest) rfl (by rw [hb]; exact d0) (Nat.le_refl _) (Nat.le_refl _)
  generalize hT1 : (T.setVm vm₁).pushCell { cls := cX, slots := kX.instanceTypes.map defaultValue, vm := .none } = T1 at X₁ st1
  have hcat : (Value.ref T.heap.size).category = 1 := rfl
  have hcellA : T1.heap[T.heap.size]? = some (freshCell cX kX) := by rw [← hT1]; exact State.heap_pushCell_size _ _
  have d3' : decode c.code (pc + 3) = .ok (.dup, 1) := by rw [hb]; exact d3
  have d4' : decode c.code (pc + 4) = .ok (.ldc_w is, 3) := by rw [hb]; exact d4
  have hstr' : vk_R own is text sa s' := vk_R.warm hW0 hstr
  obtain ⟨U, hsteps, hrun, hend, hW, hsame, ce, hce, hO⟩ := X₁.ctorThrowS hexec htr (own := own) (cls := cls) (names := names) (ic := ic) hown' hcls hnames h (fun x hx => nomatch hx) hfX hkX hcellA (by rw [hhp, hT]; exact Nat.le_refl _) (msg := .ref sa) rfl
    (g := { method := m, pc := pc + 7, locals := ls, stack := .ref sa :: .ref T.heap.size :: .ref T.heap.size :: rest, locked := none }) rfl hsize rfl rfl (rest := rest) rfl
    (by rw [hb]; exact d7) (by rw [hb]; exact d10) hout hRframes (by simp only [List.map_cons, List.sum_cons, hcat]; omega) hlocks
  obtain ⟨f1, f2⟩ := vx_frame hsame
  rw [hhp] at f1 f2
  have hWs : s.WarmedH U.vm := State.WarmedH.trans hW0 hW
  have hcl : s.vm.findClass cls = some ce.cls := by
    have h9 := hO.cls
    rw [hvm] at h9
    exact h9
  have hall : s.sameButNew ({ U with vm := s.vm } : State) locs mc ms := by
    subst hA
    obtain ⟨e1, e2⟩ := hsame
    rw [State.setFrames_setFrames] at e1
    have h2 : (T.setVm s.vm).sameButNew ({ U with vm := s.vm } : State) [] (0 + 1) (0 + 6) := ⟨e1, e2⟩
    have h3 := X.same.trans h2
    rw [List.append_nil] at h3
    exact h3.mono hc hs
  refine ⟨U, ?_, .threw T.heap.size, hrun, hend, Or.inr ⟨T.heap.size, rfl, cls, ce, locs, hx U hWs.alike f1 (fun q hq => f2 q hq (fun z hz => nomatch hz)), hce, hO.vm, hcl, hWs, hall, hf⟩⟩
  refine st1 _ ?_
  show Steps p.tables e below (T1.setTop { method := m, pc := pc + 3, locals := ls, stack := .ref T.heap.size :: rest, locked := none }) _
  jvm_step X₁.here [X₁.here.top, hexec, d3', Value.category]
  exact X₁.ldcStringW hexec (own := own) (text := text) (index := is) (a := sa) hown' hstr'.1 hstr'.2
    (g := { method := m, pc := pc + 4, locals := ls, stack := .ref T.heap.size :: .ref T.heap.size :: rest, locked := none }) rfl d4' _ hsteps
end Ends
section Bodies
variable {l : Launch}
theorem vx_ofW {y : MethodName} {ws ws' : List Cond} {rm : Room} {Pc : Array Value → State → Prop} {Qc : Array Value → State → Outcome → State → Prop} {XC : String → State → State → Prop} {mc ms : Nat} {free : Addr → Prop} {cc : ByteArray} {maxL : Nat} {ret : Option FieldType}
    (hy : plainName y.cls = true) (hw : ws = Cond.code y cc maxL ret :: ws')
    (body : ∀ p e s m args below meth c s₁, BodyLoose p l y (headSpec ws rm) cc maxL ret e s m args below meth c s₁ → c.maxLocals = maxL → (∀ x ∈ c.exceptionTable.toList, False) → Pc args s →
      W p l e (headSpec ws rm).room s m args below meth c s.heap [] 0 0 (vx_MQ below Qc XC args s mc ms free) (entryFrame m args maxL)) : vx_Met l y ws rm Pc Qc XC mc ms free := by
  refine MetFree.of_bodyS (code := cc) (maxLocals := maxL) (ret := ret) hy ?_ ?_
  · intro args s m h hn
    obtain ⟨meth, c, h1, h2, h3, h4, h5, h6, -, -⟩ := Cond.code_spec hn (atoms_spec (ws := ws) h _ (by rw [hw]; exact List.mem_cons_self))
    exact ⟨meth, c, h1, h2, h3, h4, h5, h6⟩
  · intro p e s m args below meth c s₁ B hml hP _
    have hh0 : s₁.heap = s.heap := by rw [B.state]; rfl
    have ht : ∀ x ∈ c.exceptionTable.toList, False := by
      obtain ⟨meth9, c9, h1, h2, -, -, -, -, h7, -⟩ := Cond.code_spec B.named (atoms_spec (ws := ws) B.pre _ (by rw [hw]; exact List.mem_cons_self))
      cases Option.some.inj (h1.symm.trans B.method)
      cases Option.some.inj (h2.symm.trans (Stand.of_body B).code)
      intro x hx
      rw [Array.isEmpty_iff.mp h7] at hx
      cases hx
    obtain ⟨t, a1, o, b1, b2, b3⟩ := body p e s m args below meth c s₁ B hml ht hP s₁ hh0 (Stand.of_body B)
    exact ⟨t, o, a1, b1, b2, b3⟩
/-- the table of a body with handlers -/
theorem vx_table {p : Program} {x y : MethodName} {S : Spec} {cc bytes : ByteArray} {maxL maxL' : Nat} {ret ret' : Option FieldType} {e : Env} {s s₁ : State} {m : MethodId} {args : Array Value} {below : List Frame} {meth : Method} {c : Code} {hh : List (Nat × Nat × Nat × Nat)}
    (B : BodyLoose p l y S cc maxL ret e s m args below meth c s₁) (h : (Cond.codeWith y bytes maxL' ret' hh).before args s = true) : c.exceptionTable.toList = tableOf hh := by
  obtain ⟨m9, meth9, c9, hn9, h1, h2, -, -, h6, -⟩ := Cond.codeWith_spec h
  cases Option.some.inj (hn9.symm.trans B.named)
  cases Option.some.inj (h1.symm.trans B.method)
  cases Option.some.inj (h2.symm.trans (Stand.of_body B).code)
  rw [← h6, table_eq]
end Bodies
end VXA
/-! ===== END ===== -/
/-! ===== BEGIN a static call of a method with an exception table ===== -/
section VXS
variable {p : Program} {l : Launch} {e : Env} {R : Room} {s : State} {m : MethodId} {args : Array Value} {below : List Frame} {meth : Method} {c : Code} {T : State} {H : Heap} {locs : List Loc} {cells slots : Nat}
abbrev vx_CSW (R : Room) (s : State) (args : Array Value) (own : String) (index : Nat) (y : MethodName) (bytes : ByteArray) (maxL : Nat) (ret : Option FieldType) (hh : List (Nat × Nat × Nat × Nat)) (ws : List Cond) (rm : Room) (mc ms n : Nat) : Prop :=
  (rm.cells = mc ∧ rm.slots = ms ∧ rm.frames + 1 ≤ R.frames ∧ 8 + (maxL + 11) + rm.locals ≤ R.locals ∧ (∀ w ∈ ws, ∀ (a' : Array Value) (U : State), s.WarmedH U.vm → w.before a' U = true) ∧ Cond.codeWith y bytes maxL ret hh ∈ ws) ∧
  (Cond.codeWith y bytes maxL ret hh).before args s = true ∧ (Cond.initialized y.cls).before args s = true ∧ (y.cls ≠ "java/lang/invoke/MethodHandle" ∧ y.cls ≠ "java/lang/invoke/VarHandle") ∧
  (∀ sig, parseMethodDescriptor y.desc = some sig → n = sig.parameters.length) ∧ (Cond.methodLink own index y).before args s = true ∧ (Cond.static y).before args s = true
theorem vx_cwSW {own : String} {index maxL mc ms : Nat} {y : MethodName} {bytes : ByteArray} {ret : Option FieldType} {hh : List (Nat × Nat × Nat × Nat)} {Ts ws ws' : List Cond} {rm : Room} (n : Nat) (ht : ∀ w ∈ Ts, w.before args s = true) (hT : GoodIn Ts (va_wsS own index y ws)) (hw : ws = Cond.codeWith y bytes maxL ret hh :: ws') (hrc : rm.cells = mc) (hrs : rm.slots = ms)
    (hd : y.cls ≠ "java/lang/invoke/MethodHandle" ∧ y.cls ≠ "java/lang/invoke/VarHandle" ∧ (parseMethodDescriptor y.desc).map (fun d => d.parameters.length) = some n) (hR : rm.frames + 1 ≤ R.frames ∧ 8 + (maxL + 11) + rm.locals ≤ R.locals) :
    vx_CSW R s args own index y bytes maxL ret hh ws rm mc ms n := by
  have ok : ∀ w ∈ va_wsS own index y ws, w.before args s = true := fun w h => ht w (hT w h).1
  have hG : GoodIn Ts ws := fun w h => hT w (by unfold va_wsS; exact List.mem_append_right _ h)
  have hc : Cond.codeWith y bytes maxL ret hh ∈ ws := by rw [hw]; exact List.mem_cons_self
  refine ⟨⟨hrc, hrs, hR.1, hR.2, pay_in ht hG, hc⟩, ht _ (hG _ hc).1, ok _ (by simp [va_wsS]), ⟨hd.1, hd.2.1⟩, fun sig h => ?_, ok _ (by simp [va_wsS]), ok _ (by simp [va_wsS])⟩
  have h2 := hd.2.2
  rw [h] at h2
  exact (Option.some.inj h2).symm
theorem vx_callSW (X : Stand p l e R s m args below meth c T locs cells slots) (hexec : p.tables.exec = Jvm.exec) {own : String} {index : Nat} {y : MethodName} {bytes : ByteArray} {maxL : Nat} {ret : Option FieldType} {hh : List (Nat × Nat × Nat × Nat)}
    (hown : s.vm.findClass own = some m.cls) (hlink : (Cond.methodLink own index y).before args s = true) (hstat : (Cond.static y).before args s = true) (hinit : (Cond.initialized y.cls).before args s = true)
    (hcode : (Cond.codeWith y bytes maxL ret hh).before args s = true) (hy : y.cls ≠ "java/lang/invoke/MethodHandle" ∧ y.cls ≠ "java/lang/invoke/VarHandle")
    {W9 : Nat} {Pre : Pt → Array Value → Prop} {Post : Pt → Array Value → Option Value → Pt → Prop} (hK : Back l R p e below s args y 3 W9 Pre Post)
    {g : JFrame} (hg : g.method = m) (hsize : g.locals.size = c.maxLocals) {argsL rest : List Value} (hlen : ∀ sig, parseMethodDescriptor y.desc = some sig → argsL.length = sig.parameters.length)
    (hstack : g.stack = argsL.reverse ++ rest) (hW : 2 * g.monitorRoom + (rest.map fun v => v.category).sum ≤ W9) (hdg : decode c.code g.pc = .ok (.invokestatic index, 3))
    (hpre : ∀ vm₁, s.WarmedH vm₁ → Pre ⟨T.setVm vm₁, locs, cells, slots⟩ argsL.toArray) :
    ∃ (v : Option Value) (vm₁ : Vm) (B : Pt), s.WarmedH vm₁ ∧ Stand p l e R s m args below meth c B.U B.locs B.cells B.slots ∧ Post ⟨T.setVm vm₁, locs, cells, slots⟩ argsL.toArray v B ∧
      ∀ target, Steps p.tables e below (B.U.setTop { g with pc := g.pc + 3, stack := v.toList ++ rest }) target → Steps p.tables e below (T.setTop g) target := by
  obtain ⟨mk, methM, cM, hnamed, hmethM, -, -, -, -, -, -, hsigM⟩ := Cond.codeWith_spec hcode
  have hstatic : methM.isStatic = true := Cond.static_spec hnamed hmethM hstat
  obtain ⟨kP, hkP, -⟩ := className_of_methodNamed hnamed
  have hinitP : kP.init = .initialized := Cond.initialized_spec (findClass_of_methodNamed hnamed) hkP hinit
  obtain ⟨vm₁, X₁, hstep₁⟩ := X.invokestatic hexec hown hlink hnamed hmethM hstatic hkP hinitP hy (g := g) hg (argsL := argsL) (rest := rest) (hlen _ hsigM) hstack hdg
  obtain ⟨v, B, X', hpost, hsteps⟩ := hK m meth c ⟨T.setVm vm₁, locs, cells, slots⟩ { g with stack := rest } (.invokestatic index) mk argsL.toArray X₁ hg hsize hdg hW (X₁.named hnamed) (hpre vm₁ X₁.warmed)
  exact ⟨v, vm₁, B, X₁.warmed, X', hpost, fun target h => hstep₁ _ fun acts => by rw [doInvoke_state]; exact hsteps.trans h⟩
theorem vx_runSW {y : MethodName} {bytes cc : ByteArray} {maxL nL mc ms n index : Nat} {ret : Option FieldType} {hh : List (Nat × Nat × Nat × Nat)} {ws : List Cond} {rm : Room} {Pc : Array Value → State → Prop} {Qc : Array Value → State → Outcome → State → Prop} {free : Addr → Prop} {Ts : List Cond} {own : String} {As rest : List Value} {g : JFrame}
    (S : CallFix p m c cc nL s args Ts own) (hM : Met l y ws rm Pc Qc mc ms free) (cw : vx_CSW R s args own index y bytes maxL ret hh ws rm mc ms n) (hp : PreS s H Pc As)
    (hg : g.method = m) (hn : As.length = n) (hsize : g.locals.size = nL) (hstack : g.stack = As.reverse ++ rest) (hW : 2 * g.monitorRoom + (rest.map fun v => v.category).sum ≤ 8) (hdg : decode cc g.pc = .ok (.invokestatic index, 3)) (hf : cells + mc ≤ R.cells ∧ slots + ms ≤ R.slots) :
    va_Run p l e R s m args below meth c H locs cells slots mc ms g rest (Qc As.toArray) (free) := by
  obtain ⟨⟨hrc, hrs, hfr, hlo, hws, hcw⟩, hcode, hini, hy, hlen, hl, hstt⟩ := cw
  have hK : Back l R p e below s args y 3 8 (PreOf R mc ms Pc) (PostOf Qc mc ms free) := va_backW (hh := hh) (bytes := bytes) (maxL := maxL) (ret := ret) hM hp.1 hrc hrs hfr hlo hws hcw (fun a' U hW => word_at hW (Or.inl (by first | rfl | simp [Cond.onTables, Cond.keeps, Cond.steady])) hini)
  obtain ⟨hx, hb, hml, ho, -⟩ := S
  intro T hT X
  obtain ⟨v, vm₁, ⟨U', l2, c2, s2⟩, hW₁, X', ⟨g', mk, t, L, e1, e2, hq, h1, hL, h2, h3⟩, st⟩ := vx_callSW X hx (hh := hh) (bytes := bytes) (maxL := maxL) (ret := ret) ho hl hstt hini hcode hy hK hg (hsize.trans hml.symm) (argsL := As) (rest := rest) (fun sig h => hn.trans (hlen sig h)) hstack hW (by rw [hb]; exact hdg)
    (fun vm₁ hW₁ => ⟨hf.1, hf.2, hp.2 (T.setVm vm₁) hT hW₁⟩)
  dsimp only [Pt.U, Pt.locs, Pt.cells, Pt.slots] at X' e1 e2 h1 h2 h3 st
  subst h1; subst h2; subst h3
  exact ⟨v, (T.setVm vm₁).calling g' mk As.toArray, t, U', L, hT, X', hL, e1, e2, hq, st⟩
/-- not caught here, past rows that name other classes: it goes on to the caller -/
theorem vx_outP {p : Program} {l : Launch} {e : Env} {R : Room} {s : State} {m : MethodId} {args : Array Value} {below : List Frame} {meth : Method} {c : Code} {H : Heap} {locs : List Loc} {cells slots : Nat} {free : Addr → Prop} {ls : Array Slot} {rest : List Value} {Qc : Array Value → State → Outcome → State → Prop} {XC : String → State → State → Prop}
    {pc : Nat} {own E : String} {ce : Cell} {q : Addr} {mc ms : Nat} (hown : s.vm.findClass own = some m.cls) (hlocks : meth.locks = false)
    (hpass : ∀ z ∈ c.exceptionTable.toList, covers z pc = false ∨ (z.catchType ≠ 0 ∧ ∃ nm : String, (Cond.classLink own z.catchType nm).before args s = true ∧ va_Nc E nm s)) (hcell : H[q]? = some ce) (hv : ce.vm = .none) (hcl : s.vm.findClass E = some ce.cls)
    (hx : ∀ t : State, t.heap = H → s.vm.Alike t.vm → XC E s t) (hf : ∀ z ∈ locs, free z.base) (hc : cells ≤ mc) (hs : slots ≤ ms) :
    vx_W p l e R s m args below meth c H locs cells slots (vx_MQ below Qc XC args s mc ms free) (F0 m pc ls rest) q := by
  intro T hT X
  have hpl : e.platform.magicAccessors = ({} : Platform).magicAccessors := by rw [X.admits.platform]
  obtain ⟨vm', hW', X', st⟩ := X.outThrough hlocks q (g := F0 m pc ls rest) rfl rfl rfl (cell := ce) (by rw [hT]; exact hcell) (by rw [hv]; rfl)
    (by obtain ⟨k9, h9, -⟩ := Vm.findClass_spec hcl; exact ⟨k9, h9⟩) (fun z hz => by
      rcases hpass z hz with h | ⟨hz0, nm, hl1, hn1⟩
      · exact Or.inl h
      · obtain ⟨c6, hc6, hcl6⟩ := Cond.classLink_spec hown hl1 e.platform hpl
        obtain ⟨a8, b8, h1, h2, h3⟩ := hn1
        cases Option.some.inj (h1.symm.trans hcl)
        cases Option.some.inj (h2.symm.trans hc6)
        exact Or.inr ⟨hz0, _, hcl6, h3⟩)
  obtain ⟨g₀, hfr⟩ := X'.frames_eq
  have hcell9 : ((T.setVm vm').setFrames (.throwing q :: below)).heap[q]? = some ce := by
    show T.heap[q]? = some ce
    rw [hT]; exact hcell
  have hend : Ended ((T.setVm vm').setFrames (.throwing q :: below)) below (.threw q) := State.frames_setFrames _ (State.cur_lt_of_frames hfr)
  refine ⟨(T.setVm vm').setFrames (.throwing q :: below), ?_, .threw q, X'.here.running, hend, Or.inr ⟨q, rfl, E, ce, locs, hx _ hT (X'.ends _).1.alike, hcell9, hv, hcl, (X'.ends _).1, (X'.ends _).2.mono hc hs, hf⟩⟩
  rw [X.pushThrowing_eq]
  exact st
/-- a thing of a world lies in the heap -/
theorem vx_lt {D : va_G} {cl : List vw_C} {ws : va_W} {H1 : Heap} (h : va_P D cl ws H1) {k : Nat} {q : Nat × va_E} (hk : ws[k]? = some q) : q.1 < H1.size := (h k q hk).lt
end VXS
/-! ===== END ===== -/
/-! ===== BEGIN methods with a table of their own: called by a name, returning or throwing ===== -/
section VXH
/-! vx_backW, vx_callVX, vx_callSX, vx_callVW, vx_runVW, vx_runVX, vx_runSX, vx_ofWH follow the same proofs as their sisters above (Free/Laws.lean, Shelf42/LK1.lean); vx_outP calls Shelf42/NT130.lean (outThrough). -/
section
variable {l : Launch} {R : Room} {p : Program} {e : Env} {below : List Frame} {s : State} {sargs : Array Value} {y : MethodName} {len W9 : Nat}
theorem vx_backW {ws : List Cond} {rm : Room} {Pc : Array Value → State → Prop} {Qc : Array Value → State → Outcome → State → Prop} {XC : String → State → State → Prop} {mc ms : Nat} {free : Addr → Prop} {bytes : ByteArray} {maxL : Nat} {ret : Option FieldType} {hh : List (Nat × Nat × Nat × Nat)}
    (hM : vx_Met l y ws rm Pc Qc XC mc ms free) (hblind : FrameBlind Pc) (hrc : rm.cells = mc) (hrs : rm.slots = ms)
    (hframes : rm.frames + 1 ≤ R.frames) (hlocals : W9 + (maxL + 11) + rm.locals ≤ R.locals)
    (hws : ∀ w ∈ ws, ∀ a' U, s.WarmedH U.vm → w.before a' U = true) (hcode : Cond.codeWith y bytes maxL ret hh ∈ ws) (hinit : ∀ a' U, s.WarmedH U.vm → (Cond.initialized y.cls).before a' U = true) :
    vx_Back l R p e below s sargs y len W9 (PreOf R mc ms Pc) (PostOf Qc mc ms free) (vx_Post XC mc ms free) := by
  intro m meth c A g ig mk a X hg hsize hdg hW hn hp
  have h1 : (headSpec ws rm).pre.before a A.U = true := atoms_intro fun w hw => hws w hw _ _ X.warmed
  have h2 : (Cond.codeWith y bytes maxL ret hh).before a A.U = true := hws _ hcode _ _ X.warmed
  have h3 : (Cond.initialized y.cls).before a A.U = true := hinit _ _ X.warmed
  have h4 : A.cells + (headSpec ws rm).room.cells ≤ R.cells := by rw [show (headSpec ws rm).room.cells = mc from hrc]; exact hp.1
  have h5 : A.slots + (headSpec ws rm).room.slots ≤ R.slots := by rw [show (headSpec ws rm).room.slots = ms from hrs]; exact hp.2.1
  have hPc : Pc a (A.U.calling g mk a) := hblind _ _ _ _ hp.2.2
  obtain ⟨U, Ls, c0, s0⟩ := A
  dsimp only [Pt.U, Pt.locs, Pt.cells, Pt.slots] at h1 h2 h3 h4 h5 X hn hPc ⊢
  obtain ⟨m9, methY, cY, hn9, hmY, hcY, -, hlY, -⟩ := Cond.codeWith_spec h2
  cases Option.some.inj (hn9.symm.trans hn)
  obtain ⟨kY, hkY, -⟩ := className_of_methodNamed hn
  have hinitY : kY.init = .initialized := Cond.initialized_spec (findClass_of_methodNamed hn) hkY h3
  have h : At U g.method c below := by rw [hg]; exact X.here
  have hlocals9 : W9 + (maxL + 11) + (headSpec ws rm).room.locals ≤ R.locals := hlocals
  have happ : (headSpec ws rm).appliesLoose y e.platform (U.calling g mk a) = true :=
    Spec.appliesLoose_calling (g := g) h hdg hn hkY hinitY
      (X.room_calling (g := g) (R' := (headSpec ws rm).room) hsize hmY hcY hframes (by rw [hlY]; omega) h4 h5) h1
  obtain ⟨mid, hmid⟩ := h.above
  have hfr : (U.setTop g).frames = (.java g :: mid) ++ below := by rw [State.frames_setTop' g h.top, hmid]; rfl
  obtain ⟨o, s₂, hsteps, -, hend, hq⟩ := Steps.callFree hM p X.admits X.cas X.clock (acts := []) hfr happ hPc trivial
  have hq' : vx_Q Qc XC mc ms free a (U.calling g mk a) o s₂ := hq
  rw [State.frames_setTop' g h.top] at hend
  obtain ⟨g₀, hg0⟩ := Option.isSome_iff_exists.mp h.top
  obtain ⟨r, hr⟩ := State.topJava?_eq_some.mp hg0
  have hr' : (({ U with heap := s₂.heap, slotsUsed := s₂.slotsUsed } : State).setVm s₂.vm).frames = .java g₀ :: r := hr
  rcases hq' with ⟨hqc, L, hfe, hL⟩ | ⟨q, rfl, E, ce, L, hx, hce, hcv, hcl, hW₂, hsm, hL⟩
  · obtain ⟨⟨v, rfl⟩, hW₂, e2, q2, q3, q4, q5, q6⟩ := id hfe
    have e3 : s₂ = ({ (U.calling g mk a).setFrames s₂.frames with heap := s₂.heap, slotsUsed := s₂.slotsUsed } : State).setVm s₂.vm := by
      have : s₂ = ({ s₂ with vm := (U.calling g mk a).vm } : State).setVm s₂.vm := rfl
      rw [e2] at this
      exact this
    obtain ⟨c₂, i₂, len₂, hc₂, hd₂, hf₂⟩ := hend
    have hW' : U.WarmedH s₂.vm := hW₂
    have hcc : c₂ = c := by
      have h1 : s₂.code? g.method = U.code? g.method := by
        rw [State.code?_eq, State.code?_eq, hW'.alike.method?]
      exact Option.some.inj (hc₂.symm.trans (h1.trans h.code))
    subst hcc
    have hlen : len₂ = len := by rw [hdg] at hd₂; cases hd₂; rfl
    subst hlen
    have hs₂ : s₂ = (({ U with heap := s₂.heap, slotsUsed := s₂.slotsUsed } : State).setVm s₂.vm).setTop { g with pc := g.pc + len₂, stack := v.toList ++ g.stack } := by
      refine e3.trans ?_
      rw [hf₂, State.calling_eq h.top, State.setFrames_setFrames, State.setTop_of_frames _ hr', hr]
      rfl
    have hsame : U.sameButNew ({ U with heap := s₂.heap, slotsUsed := s₂.slotsUsed } : State) L mc ms := by
      refine ⟨?_, q2, q3, q4, q5, q6⟩
      obtain ⟨t, ht, -⟩ := State.frames_cons hr
      show ({ U with heap := s₂.heap, slotsUsed := s₂.slotsUsed } : State) = { U.setFrames U.frames with heap := s₂.heap, slotsUsed := s₂.slotsUsed }
      rw [State.setFrames_self ht]
    subst hg
    refine Or.inl ⟨v, ⟨(({ U with heap := s₂.heap, slotsUsed := s₂.slotsUsed } : State).setVm s₂.vm), Ls ++ L, c0 + mc, s0 + ms⟩,
      ⟨X.admits, X.cas, X.clock, X.frames, X.room, X.hears, X.method, X.code, (X.here.setHeapUsed s₂.heap s₂.slotsUsed).setVm hW'.alike, X.tail, State.WarmedH.trans X.warmed hW', X.limits, X.bytes, X.same.trans (hsame.setVm s.vm)⟩,
      ⟨g, mk, s₂, L, rfl, rfl, hqc, rfl, hL, rfl, rfl⟩, ?_⟩
    show Steps p.tables e below _ ((({ U with heap := s₂.heap, slotsUsed := s₂.slotsUsed } : State).setVm s₂.vm).setTop { g with pc := g.pc + len₂, stack := v.toList ++ g.stack })
    rw [← hs₂]
    exact hsteps
  · obtain ⟨e2, q2, q3, q4, q5, q6⟩ := id hsm
    have e3 : s₂ = ({ (U.calling g mk a).setFrames s₂.frames with heap := s₂.heap, slotsUsed := s₂.slotsUsed } : State).setVm s₂.vm := by
      have : s₂ = ({ s₂ with vm := (U.calling g mk a).vm } : State).setVm s₂.vm := rfl
      rw [e2] at this
      exact this
    have hf₂ : s₂.frames = .throwing q :: .java g :: U.frames.tail := hend
    have hW' : U.WarmedH s₂.vm := hW₂
    have hs₂ : s₂ = ((({ U with heap := s₂.heap, slotsUsed := s₂.slotsUsed } : State).setVm s₂.vm).setTop g).pushFrame (.throwing q) := by
      refine e3.trans ?_
      rw [hf₂, State.calling_eq h.top, State.setFrames_setFrames, State.pushFrame, State.frames_setTop _ hr', State.setTop_of_frames _ hr', State.setFrames_setFrames, hr]
      rfl
    have hsame : U.sameButNew ({ U with heap := s₂.heap, slotsUsed := s₂.slotsUsed } : State) L mc ms := by
      refine ⟨?_, q2, q3, q4, q5, q6⟩
      obtain ⟨t, ht, -⟩ := State.frames_cons hr
      show ({ U with heap := s₂.heap, slotsUsed := s₂.slotsUsed } : State) = { U.setFrames U.frames with heap := s₂.heap, slotsUsed := s₂.slotsUsed }
      rw [State.setFrames_self ht]
    subst hg
    refine Or.inr ⟨q, ⟨(({ U with heap := s₂.heap, slotsUsed := s₂.slotsUsed } : State).setVm s₂.vm), Ls ++ L, c0 + mc, s0 + ms⟩,
      ⟨X.admits, X.cas, X.clock, X.frames, X.room, X.hears, X.method, X.code, (X.here.setHeapUsed s₂.heap s₂.slotsUsed).setVm hW'.alike, X.tail, State.WarmedH.trans X.warmed hW', X.limits, X.bytes, X.same.trans (hsame.setVm s.vm)⟩,
      ⟨g, mk, s₂, L, E, ce, rfl, rfl, hx, hce, hcv, hcl, rfl, hL, rfl, rfl⟩, ?_⟩
    show Steps p.tables e below _ (((({ U with heap := s₂.heap, slotsUsed := s₂.slotsUsed } : State).setVm s₂.vm).setTop g).pushFrame (.throwing q))
    rw [← hs₂]
    exact hsteps
end
variable {p : Program} {l : Launch} {e : Env} {R : Room} {s : State} {m : MethodId} {args : Array Value} {below : List Frame} {meth : Method} {c : Code} {T : State} {H : Heap} {locs : List Loc} {cells slots : Nat}
theorem vx_callVX (X : Stand p l e R s m args below meth c T locs cells slots) (hexec : p.tables.exec = Jvm.exec) {own C : String} {index : Nat} {y : MethodName} {bytes : ByteArray} {maxL : Nat} {ret : Option FieldType} {hh : List (Nat × Nat × Nat × Nat)}
    (hown : s.vm.findClass own = some m.cls) (hlink : (Cond.methodLink own index y).before args s = true) (hinst : (Cond.instanceMethod y).before args s = true) (hsel : (Cond.selects C y y).before args s = true)
    (hcode : (Cond.codeWith y bytes maxL ret hh).before args s = true) (hy : y.cls ≠ "java/lang/invoke/MethodHandle" ∧ y.cls ≠ "java/lang/invoke/VarHandle")
    {W9 : Nat} {Pre : Pt → Array Value → Prop} {Post : Pt → Array Value → Option Value → Pt → Prop} {PostX : Pt → Array Value → Addr → Pt → Prop} (hK : vx_Back l R p e below s args y 3 W9 Pre Post PostX)
    {b : Addr} {cellB : Cell} (hcell : T.heap[b]? = some cellB) (hobj : cellB.vm.isStatics = false) (hcls : s.vm.findClass C = some cellB.cls)
    {g : JFrame} (hg : g.method = m) (hsize : g.locals.size = c.maxLocals) {argsL rest : List Value} (hlen : ∀ sig, parseMethodDescriptor y.desc = some sig → argsL.length = sig.parameters.length)
    (hstack : g.stack = argsL.reverse ++ .ref b :: rest) (hW : 2 * g.monitorRoom + (rest.map fun v => v.category).sum ≤ W9) (hdg : decode c.code g.pc = .ok (.invokevirtual index, 3))
    (hpre : ∀ vm₁, s.WarmedH vm₁ → Pre ⟨T.setVm vm₁, locs, cells, slots⟩ (Value.ref b :: argsL).toArray) :
    (∃ (v : Option Value) (vm₁ : Vm) (B : Pt), s.WarmedH vm₁ ∧ Stand p l e R s m args below meth c B.U B.locs B.cells B.slots ∧ Post ⟨T.setVm vm₁, locs, cells, slots⟩ (Value.ref b :: argsL).toArray v B ∧
      ∀ target, Steps p.tables e below (B.U.setTop { g with pc := g.pc + 3, stack := v.toList ++ rest }) target → Steps p.tables e below (T.setTop g) target) ∨
    (∃ (q : Addr) (vm₁ : Vm) (B : Pt), s.WarmedH vm₁ ∧ Stand p l e R s m args below meth c B.U B.locs B.cells B.slots ∧ PostX ⟨T.setVm vm₁, locs, cells, slots⟩ (Value.ref b :: argsL).toArray q B ∧
      Steps p.tables e below (T.setTop g) ((B.U.setTop { g with stack := rest }).pushFrame (.throwing q))) := by
  obtain ⟨mk, methM, hnamed, hmethM, hstM, habM⟩ := Cond.instanceMethod_spec hinst
  obtain ⟨m8, methM', cM, hn8, hmethM', -, -, -, -, -, -, hsigM⟩ := Cond.codeWith_spec hcode
  cases Option.some.inj (hn8.symm.trans hnamed)
  cases hmethM.symm.trans hmethM'
  obtain ⟨c2, r2, m2, q1, q2, q3, q4, kP, hkP, hkPi⟩ := Cond.selects_spec hsel
  cases hcls.symm.trans q1
  cases (State.methodFound?_of_named hnamed hy).symm.trans q2
  cases hnamed.symm.trans q3
  have hselP : selectMethod e.platform s.vm cellB.cls mk = .method mk := by rw [Launch.admits_selectMethod X.admits]; exact q4
  obtain ⟨vm₁, X₁, hstep₁⟩ := X.invokevirtual hexec hown hlink hnamed hmethM hstM hkP hkPi hy (a := b) (cell := cellB) hcell
    (fun z h => by rw [h] at hobj; cases hobj) hselP hmethM habM hkP hkPi (g := g) hg (argsL := argsL) (rest := rest) (hlen _ hsigM) hstack hdg
  rcases hK m meth c ⟨T.setVm vm₁, locs, cells, slots⟩ { g with stack := rest } (.invokevirtual index) mk (Value.ref b :: argsL).toArray X₁ hg hsize hdg hW (X₁.named hnamed) (hpre vm₁ X₁.warmed) with ⟨v, B, X', hpost, hsteps⟩ | ⟨q, B, X', hpost, hsteps⟩
  · exact Or.inl ⟨v, vm₁, B, X₁.warmed, X', hpost, fun target h => hstep₁ _ fun acts => by rw [doInvoke_state]; exact hsteps.trans h⟩
  · exact Or.inr ⟨q, vm₁, B, X₁.warmed, X', hpost, hstep₁ _ fun acts => by rw [doInvoke_state]; exact hsteps⟩
theorem vx_callSX (X : Stand p l e R s m args below meth c T locs cells slots) (hexec : p.tables.exec = Jvm.exec) {own : String} {index : Nat} {y : MethodName} {bytes : ByteArray} {maxL : Nat} {ret : Option FieldType} {hh : List (Nat × Nat × Nat × Nat)}
    (hown : s.vm.findClass own = some m.cls) (hlink : (Cond.methodLink own index y).before args s = true) (hstat : (Cond.static y).before args s = true) (hinit : (Cond.initialized y.cls).before args s = true)
    (hcode : (Cond.codeWith y bytes maxL ret hh).before args s = true) (hy : y.cls ≠ "java/lang/invoke/MethodHandle" ∧ y.cls ≠ "java/lang/invoke/VarHandle")
    {W9 : Nat} {Pre : Pt → Array Value → Prop} {Post : Pt → Array Value → Option Value → Pt → Prop} {PostX : Pt → Array Value → Addr → Pt → Prop} (hK : vx_Back l R p e below s args y 3 W9 Pre Post PostX)
    {g : JFrame} (hg : g.method = m) (hsize : g.locals.size = c.maxLocals) {argsL rest : List Value} (hlen : ∀ sig, parseMethodDescriptor y.desc = some sig → argsL.length = sig.parameters.length)
    (hstack : g.stack = argsL.reverse ++ rest) (hW : 2 * g.monitorRoom + (rest.map fun v => v.category).sum ≤ W9) (hdg : decode c.code g.pc = .ok (.invokestatic index, 3))
    (hpre : ∀ vm₁, s.WarmedH vm₁ → Pre ⟨T.setVm vm₁, locs, cells, slots⟩ argsL.toArray) :
    (∃ (v : Option Value) (vm₁ : Vm) (B : Pt), s.WarmedH vm₁ ∧ Stand p l e R s m args below meth c B.U B.locs B.cells B.slots ∧ Post ⟨T.setVm vm₁, locs, cells, slots⟩ argsL.toArray v B ∧
      ∀ target, Steps p.tables e below (B.U.setTop { g with pc := g.pc + 3, stack := v.toList ++ rest }) target → Steps p.tables e below (T.setTop g) target) ∨
    (∃ (q : Addr) (vm₁ : Vm) (B : Pt), s.WarmedH vm₁ ∧ Stand p l e R s m args below meth c B.U B.locs B.cells B.slots ∧ PostX ⟨T.setVm vm₁, locs, cells, slots⟩ argsL.toArray q B ∧
      Steps p.tables e below (T.setTop g) ((B.U.setTop { g with stack := rest }).pushFrame (.throwing q))) := by
  obtain ⟨mk, methM, cM, hnamed, hmethM, -, -, -, -, -, -, hsigM⟩ := Cond.codeWith_spec hcode
  have hstatic : methM.isStatic = true := Cond.static_spec hnamed hmethM hstat
  obtain ⟨kP, hkP, -⟩ := className_of_methodNamed hnamed
  have hinitP : kP.init = .initialized := Cond.initialized_spec (findClass_of_methodNamed hnamed) hkP hinit
  obtain ⟨vm₁, X₁, hstep₁⟩ := X.invokestatic hexec hown hlink hnamed hmethM hstatic hkP hinitP hy (g := g) hg (argsL := argsL) (rest := rest) (hlen _ hsigM) hstack hdg
  rcases hK m meth c ⟨T.setVm vm₁, locs, cells, slots⟩ { g with stack := rest } (.invokestatic index) mk argsL.toArray X₁ hg hsize hdg hW (X₁.named hnamed) (hpre vm₁ X₁.warmed) with ⟨v, B, X', hpost, hsteps⟩ | ⟨q, B, X', hpost, hsteps⟩
  · exact Or.inl ⟨v, vm₁, B, X₁.warmed, X', hpost, fun target h => hstep₁ _ fun acts => by rw [doInvoke_state]; exact hsteps.trans h⟩
  · exact Or.inr ⟨q, vm₁, B, X₁.warmed, X', hpost, hstep₁ _ fun acts => by rw [doInvoke_state]; exact hsteps⟩
theorem vx_callVW (X : Stand p l e R s m args below meth c T locs cells slots) (hexec : p.tables.exec = Jvm.exec) {own C : String} {index : Nat} {y : MethodName} {bytes : ByteArray} {maxL : Nat} {ret : Option FieldType} {hh : List (Nat × Nat × Nat × Nat)}
    (hown : s.vm.findClass own = some m.cls) (hlink : (Cond.methodLink own index y).before args s = true) (hinst : (Cond.instanceMethod y).before args s = true) (hsel : (Cond.selects C y y).before args s = true)
    (hcode : (Cond.codeWith y bytes maxL ret hh).before args s = true) (hy : y.cls ≠ "java/lang/invoke/MethodHandle" ∧ y.cls ≠ "java/lang/invoke/VarHandle")
    {W9 : Nat} {Pre : Pt → Array Value → Prop} {Post : Pt → Array Value → Option Value → Pt → Prop} (hK : Back l R p e below s args y 3 W9 Pre Post)
    {b : Addr} {cellB : Cell} (hcell : T.heap[b]? = some cellB) (hobj : cellB.vm.isStatics = false) (hcls : s.vm.findClass C = some cellB.cls)
    {g : JFrame} (hg : g.method = m) (hsize : g.locals.size = c.maxLocals) {argsL rest : List Value} (hlen : ∀ sig, parseMethodDescriptor y.desc = some sig → argsL.length = sig.parameters.length)
    (hstack : g.stack = argsL.reverse ++ .ref b :: rest) (hW : 2 * g.monitorRoom + (rest.map fun v => v.category).sum ≤ W9) (hdg : decode c.code g.pc = .ok (.invokevirtual index, 3))
    (hpre : ∀ vm₁, s.WarmedH vm₁ → Pre ⟨T.setVm vm₁, locs, cells, slots⟩ (Value.ref b :: argsL).toArray) :
    ∃ (v : Option Value) (vm₁ : Vm) (B : Pt), s.WarmedH vm₁ ∧ Stand p l e R s m args below meth c B.U B.locs B.cells B.slots ∧ Post ⟨T.setVm vm₁, locs, cells, slots⟩ (Value.ref b :: argsL).toArray v B ∧
      ∀ target, Steps p.tables e below (B.U.setTop { g with pc := g.pc + 3, stack := v.toList ++ rest }) target → Steps p.tables e below (T.setTop g) target := by
  obtain ⟨mk, methM, hnamed, hmethM, hstM, habM⟩ := Cond.instanceMethod_spec hinst
  obtain ⟨m8, methM', cM, hn8, hmethM', -, -, -, -, -, -, hsigM⟩ := Cond.codeWith_spec hcode
  cases Option.some.inj (hn8.symm.trans hnamed)
  cases hmethM.symm.trans hmethM'
  obtain ⟨c2, r2, m2, q1, q2, q3, q4, kP, hkP, hkPi⟩ := Cond.selects_spec hsel
  cases hcls.symm.trans q1
  cases (State.methodFound?_of_named hnamed hy).symm.trans q2
  cases hnamed.symm.trans q3
  have hselP : selectMethod e.platform s.vm cellB.cls mk = .method mk := by rw [Launch.admits_selectMethod X.admits]; exact q4
  obtain ⟨vm₁, X₁, hstep₁⟩ := X.invokevirtual hexec hown hlink hnamed hmethM hstM hkP hkPi hy (a := b) (cell := cellB) hcell
    (fun z h => by rw [h] at hobj; cases hobj) hselP hmethM habM hkP hkPi (g := g) hg (argsL := argsL) (rest := rest) (hlen _ hsigM) hstack hdg
  obtain ⟨v, B, X', hpost, hsteps⟩ := hK m meth c ⟨T.setVm vm₁, locs, cells, slots⟩ { g with stack := rest } (.invokevirtual index) mk (Value.ref b :: argsL).toArray X₁ hg hsize hdg hW (X₁.named hnamed) (hpre vm₁ X₁.warmed)
  exact ⟨v, vm₁, B, X₁.warmed, X', hpost, fun target h => hstep₁ _ fun acts => by rw [doInvoke_state]; exact hsteps.trans h⟩
abbrev vx_CVW (R : Room) (s : State) (args : Array Value) (own C : String) (index : Nat) (y : MethodName) (bytes : ByteArray) (maxL : Nat) (ret : Option FieldType) (hh : List (Nat × Nat × Nat × Nat)) (ws : List Cond) (rm : Room) (mc ms n : Nat) : Prop :=
  (rm.cells = mc ∧ rm.slots = ms ∧ rm.frames + 1 ≤ R.frames ∧ 8 + (maxL + 11) + rm.locals ≤ R.locals ∧ (∀ w ∈ ws, ∀ (a' : Array Value) (U : State), s.WarmedH U.vm → w.before a' U = true) ∧ Cond.codeWith y bytes maxL ret hh ∈ ws) ∧
  (Cond.codeWith y bytes maxL ret hh).before args s = true ∧ (Cond.initialized y.cls).before args s = true ∧ (y.cls ≠ "java/lang/invoke/MethodHandle" ∧ y.cls ≠ "java/lang/invoke/VarHandle") ∧
  (∀ sig, parseMethodDescriptor y.desc = some sig → n = sig.parameters.length) ∧ (Cond.methodLink own index y).before args s = true ∧ (Cond.instanceMethod y).before args s = true ∧ (Cond.selects C y y).before args s = true
theorem vx_cwVW {own C : String} {index maxL mc ms : Nat} {y : MethodName} {bytes : ByteArray} {ret : Option FieldType} {hh : List (Nat × Nat × Nat × Nat)} {Ts ws ws' : List Cond} {rm : Room} (n : Nat) (ht : ∀ w ∈ Ts, w.before args s = true) (hT : GoodIn Ts (wsV own index C y ws)) (hw : ws = Cond.codeWith y bytes maxL ret hh :: ws') (hrc : rm.cells = mc) (hrs : rm.slots = ms)
    (hd : y.cls = C ∧ y.cls ≠ "java/lang/invoke/MethodHandle" ∧ y.cls ≠ "java/lang/invoke/VarHandle" ∧ (parseMethodDescriptor y.desc).map (fun d => d.parameters.length) = some n) (hR : rm.frames + 1 ≤ R.frames ∧ 8 + (maxL + 11) + rm.locals ≤ R.locals) :
    vx_CVW R s args own C index y bytes maxL ret hh ws rm mc ms n := by
  obtain ⟨hC, hd⟩ := hd
  subst hC
  have ok : ∀ w ∈ wsV own index y.cls y ws, w.before args s = true := fun w h => ht w (hT w h).1
  have hG : GoodIn Ts ws := fun w h => hT w (by unfold wsV; exact List.mem_append_right _ h)
  have hc : Cond.codeWith y bytes maxL ret hh ∈ ws := by rw [hw]; exact List.mem_cons_self
  refine ⟨⟨hrc, hrs, hR.1, hR.2, pay_in ht hG, hc⟩, ht _ (hG _ hc).1, ok _ (by simp [wsV]), ⟨hd.1, hd.2.1⟩, fun sig h => ?_, ok _ (by simp [wsV]), ok _ (by simp [wsV]), ok _ (by simp [wsV])⟩
  have h2 := hd.2.2
  rw [h] at h2
  exact (Option.some.inj h2).symm
theorem vx_runVW {y : MethodName} {bytes cc : ByteArray} {maxL nL mc ms n index : Nat} {ret : Option FieldType} {hh : List (Nat × Nat × Nat × Nat)} {ws : List Cond} {rm : Room} {Pc : Array Value → State → Prop} {Qc : Array Value → State → Outcome → State → Prop} {free : Addr → Prop} {Ts : List Cond} {own C : String} {b : Addr} {As rest : List Value} {g : JFrame}
    (S : CallFix p m c cc nL s args Ts own) (hM : Met l y ws rm Pc Qc mc ms free) (cw : vx_CVW R s args own C index y bytes maxL ret hh ws rm mc ms n) (hp : PreV s H C b Pc As)
    (hg : g.method = m) (hn : As.length = n) (hsize : g.locals.size = nL) (hstack : g.stack = As.reverse ++ .ref b :: rest) (hW : 2 * g.monitorRoom + (rest.map fun v => v.category).sum ≤ 8) (hdg : decode cc g.pc = .ok (.invokevirtual index, 3)) (hf : cells + mc ≤ R.cells ∧ slots + ms ≤ R.slots) :
    va_Run p l e R s m args below meth c H locs cells slots mc ms g rest (Qc (Value.ref b :: As).toArray) free := by
  obtain ⟨⟨hrc, hrs, hfr, hlo, hws, hcw⟩, hcode, hini, hy, hlen, hl, hin, hse⟩ := cw
  have hK : Back l R p e below s args y 3 8 (PreOf R mc ms Pc) (PostOf Qc mc ms free) := va_backW (hh := hh) (bytes := bytes) (maxL := maxL) (ret := ret) hM hp.1 hrc hrs hfr hlo hws hcw (fun a' U hW => word_at hW (Or.inl (by first | rfl | simp [Cond.onTables, Cond.keeps, Cond.steady])) hini)
  obtain ⟨hx, hb, hml, ho, -⟩ := S
  obtain ⟨-, ⟨cellB, hcB, hoB, hclB⟩, hPc⟩ := hp
  intro T hT X
  obtain ⟨v, vm₁, ⟨U', l2, c2, s2⟩, hW₁, X', ⟨g', mk, t, L, e1, e2, hq, h1, hL, h2, h3⟩, st⟩ := vx_callVW X hx (C := C) (hh := hh) (bytes := bytes) (maxL := maxL) (ret := ret) ho hl hin hse hcode hy hK (by rw [hT]; exact hcB) hoB hclB hg (hsize.trans hml.symm) (argsL := As) (rest := rest) (fun sig h => hn.trans (hlen sig h)) hstack hW (by rw [hb]; exact hdg)
    (fun vm₁ hW₁ => ⟨hf.1, hf.2, hPc (T.setVm vm₁) hT hW₁⟩)
  dsimp only [Pt.U, Pt.locs, Pt.cells, Pt.slots] at X' e1 e2 h1 h2 h3 st
  subst h1; subst h2; subst h3
  exact ⟨v, (T.setVm vm₁).calling g' mk (Value.ref b :: As).toArray, t, U', L, hT, X', hL, e1, e2, hq, st⟩
section
variable {y : MethodName} {bytes cc : ByteArray} {maxL nL mc ms n index : Nat} {ret : Option FieldType} {ws : List Cond} {rm : Room} {Pc : Array Value → State → Prop} {Qc : Array Value → State → Outcome → State → Prop} {XC : String → State → State → Prop} {free : Addr → Prop} {Ts : List Cond} {own C : String} {b : Addr} {As rest : List Value} {g : JFrame}
theorem vx_runVX {hh : List (Nat × Nat × Nat × Nat)} (S : CallFix p m c cc nL s args Ts own) (hM : vx_Met l y ws rm Pc Qc XC mc ms free) (cw : vx_CVW R s args own C index y bytes maxL ret hh ws rm mc ms n) (hp : PreV s H C b Pc As)
    (hg : g.method = m) (hn : As.length = n) (hsize : g.locals.size = nL) (hstack : g.stack = As.reverse ++ .ref b :: rest) (hW : 2 * g.monitorRoom + (rest.map fun v => v.category).sum ≤ 8) (hdg : decode cc g.pc = .ok (.invokevirtual index, 3)) (hf : cells + mc ≤ R.cells ∧ slots + ms ≤ R.slots) :
    vx_Run p l e R s m args below meth c H locs cells slots mc ms g rest (Qc (Value.ref b :: As).toArray) XC free := by
  obtain ⟨⟨hrc, hrs, hfr, hlo, hws, hcw⟩, hcode, hini, hy, hlen, hl, hin, hse⟩ := cw
  have hK : vx_Back l R p e below s args y 3 8 (PreOf R mc ms Pc) (PostOf Qc mc ms free) (vx_Post XC mc ms free) := vx_backW (hh := hh) (bytes := bytes) (maxL := maxL) (ret := ret) hM hp.1 hrc hrs hfr hlo hws hcw (fun a' U hW => word_at hW (Or.inl (by first | rfl | simp [Cond.onTables, Cond.keeps, Cond.steady])) hini)
  obtain ⟨hx, hb, hml, ho, -⟩ := S
  obtain ⟨-, ⟨cellB, hcB, hoB, hclB⟩, hPc⟩ := hp
  intro T hT X
  rcases vx_callVX X hx (C := C) (hh := hh) (bytes := bytes) (maxL := maxL) (ret := ret) ho hl hin hse hcode hy hK (by rw [hT]; exact hcB) hoB hclB hg (hsize.trans hml.symm) (argsL := As) (rest := rest) (fun sig h => hn.trans (hlen sig h)) hstack hW (by rw [hb]; exact hdg)
    (fun vm₁ hW₁ => ⟨hf.1, hf.2, hPc (T.setVm vm₁) hT hW₁⟩) with ⟨v, vm₁, ⟨U', l2, c2, s2⟩, hW₁, X', ⟨g', mk, t, L, e1, e2, hq, h1, hL, h2, h3⟩, st⟩ | ⟨q, vm₁, ⟨U', l2, c2, s2⟩, hW₁, X', ⟨g', mk, t, L, E, ce, e1, e2, hq, hce, hcv, hcl, h1, hL, h2, h3⟩, st⟩
  · dsimp only [Pt.U, Pt.locs, Pt.cells, Pt.slots] at X' e1 e2 h1 h2 h3 st
    subst h1; subst h2; subst h3
    exact Or.inl ⟨v, (T.setVm vm₁).calling g' mk (Value.ref b :: As).toArray, t, U', L, hT, X', hL, e1, e2, hq, st⟩
  · dsimp only [Pt.U, Pt.locs, Pt.cells, Pt.slots] at X' e1 e2 h1 h2 h3 st hcl
    subst h1; subst h2; subst h3
    exact Or.inr ⟨q, (T.setVm vm₁).calling g' mk (Value.ref b :: As).toArray, t, U', L, E, ce, hT, X', hL, e1, e2, hq, hce, hcv, vx_cls hW₁ hcl, st⟩
theorem vx_runSX {hh : List (Nat × Nat × Nat × Nat)} (S : CallFix p m c cc nL s args Ts own) (hM : vx_Met l y ws rm Pc Qc XC mc ms free) (cw : vx_CSW R s args own index y bytes maxL ret hh ws rm mc ms n) (hp : PreS s H Pc As)
    (hg : g.method = m) (hn : As.length = n) (hsize : g.locals.size = nL) (hstack : g.stack = As.reverse ++ rest) (hW : 2 * g.monitorRoom + (rest.map fun v => v.category).sum ≤ 8) (hdg : decode cc g.pc = .ok (.invokestatic index, 3)) (hf : cells + mc ≤ R.cells ∧ slots + ms ≤ R.slots) :
    vx_Run p l e R s m args below meth c H locs cells slots mc ms g rest (Qc As.toArray) XC free := by
  obtain ⟨⟨hrc, hrs, hfr, hlo, hws, hcw⟩, hcode, hini, hy, hlen, hl, hstt⟩ := cw
  have hK : vx_Back l R p e below s args y 3 8 (PreOf R mc ms Pc) (PostOf Qc mc ms free) (vx_Post XC mc ms free) := vx_backW (hh := hh) (bytes := bytes) (maxL := maxL) (ret := ret) hM hp.1 hrc hrs hfr hlo hws hcw (fun a' U hW => word_at hW (Or.inl (by first | rfl | simp [Cond.onTables, Cond.keeps, Cond.steady])) hini)
  obtain ⟨hx, hb, hml, ho, -⟩ := S
  intro T hT X
  rcases vx_callSX X hx (hh := hh) (bytes := bytes) (maxL := maxL) (ret := ret) ho hl hstt hini hcode hy hK hg (hsize.trans hml.symm) (argsL := As) (rest := rest) (fun sig h => hn.trans (hlen sig h)) hstack hW (by rw [hb]; exact hdg)
    (fun vm₁ hW₁ => ⟨hf.1, hf.2, hp.2 (T.setVm vm₁) hT hW₁⟩) with ⟨v, vm₁, ⟨U', l2, c2, s2⟩, hW₁, X', ⟨g', mk, t, L, e1, e2, hq, h1, hL, h2, h3⟩, st⟩ | ⟨q, vm₁, ⟨U', l2, c2, s2⟩, hW₁, X', ⟨g', mk, t, L, E, ce, e1, e2, hq, hce, hcv, hcl, h1, hL, h2, h3⟩, st⟩
  · dsimp only [Pt.U, Pt.locs, Pt.cells, Pt.slots] at X' e1 e2 h1 h2 h3 st
    subst h1; subst h2; subst h3
    exact Or.inl ⟨v, (T.setVm vm₁).calling g' mk As.toArray, t, U', L, hT, X', hL, e1, e2, hq, st⟩
  · dsimp only [Pt.U, Pt.locs, Pt.cells, Pt.slots] at X' e1 e2 h1 h2 h3 st hcl
    subst h1; subst h2; subst h3
    exact Or.inr ⟨q, (T.setVm vm₁).calling g' mk As.toArray, t, U', L, E, ce, hT, X', hL, e1, e2, hq, hce, hcv, vx_cls hW₁ hcl, st⟩
end
end VXH
theorem vx_ofWH {l : Launch} {y : MethodName} {ws ws' : List Cond} {rm : Room} {Pc : Array Value → State → Prop} {Qc : Array Value → State → Outcome → State → Prop} {XC : String → State → State → Prop} {mc ms : Nat} {free : Addr → Prop} {cc : ByteArray} {maxL : Nat} {ret : Option FieldType} {hh : List (Nat × Nat × Nat × Nat)}
    (hy : plainName y.cls = true) (hw : ws = Cond.codeWith y cc maxL ret hh :: ws')
    (body : ∀ p e s m args below meth c s₁, BodyLoose p l y (headSpec ws rm) cc maxL ret e s m args below meth c s₁ → c.maxLocals = maxL → Pc args s →
      W p l e (headSpec ws rm).room s m args below meth c s.heap [] 0 0 (vx_MQ below Qc XC args s mc ms free) (entryFrame m args maxL)) : vx_Met l y ws rm Pc Qc XC mc ms free := by
  refine MetFree.of_bodyS (code := cc) (maxLocals := maxL) (ret := ret) hy ?_ ?_
  · intro args s m h hn
    obtain ⟨m9, meth, c, hn9, h1, h2, h3, h4, -, h5, h6, -⟩ := Cond.codeWith_spec (atoms_spec (ws := ws) h _ (by rw [hw]; exact List.mem_cons_self))
    cases hn.symm.trans hn9
    exact ⟨meth, c, h1, h2, h3, h4, h5, h6⟩
  · intro p e s m args below meth c s₁ B hml hP _
    have hh0 : s₁.heap = s.heap := by rw [B.state]; rfl
    obtain ⟨t, a1, o, b1, b2, b3⟩ := body p e s m args below meth c s₁ B hml hP s₁ hh0 (Stand.of_body B)
    exact ⟨t, o, a1, b1, b2, b3⟩
/-! ===== END ===== -/

/-! ===== BEGIN printed: names, fields, word lists, decode rows ===== -/
def RX0 : String := "Threadline$Forest"
def TX0 : u_T := fun k => match k with
  | 0 => ("Threadline$Forest", "mail", "LThreadline$Mail;", true)
  | 1 => ("Threadline$Forest", "known", "[Z", true)
  | 2 => ("Threadline$Forest", "link", "[I", true)
  | 3 => ("Threadline$Forest", "parentOf", "[I", true)
  | 4 => ("Threadline$Forest", "standing", "[Z", true)
  | 5 => ("Threadline$Forest", "earliest", "[I", true)
  | 6 => ("Threadline$Forest", "turn", "[I", true)
  | 7 => ("Threadline$Forest", "size", "[I", true)
  | 8 => ("Threadline$Forest", "offset", "[I", true)
  | 9 => ("Threadline$Forest", "start", "[I", true)
  | 10 => ("Threadline$Forest", "order", "[I", true)
  | 11 => ("Threadline$Forest", "rootRow", "[I", true)
  | _ => ("Threadline$Forest", "rootCount", "I", false)
def tyX0 : Nat → FieldType := fun k => match k with
  | 0 => .object "Threadline$Mail"
  | 1 => .array .boolean
  | 2 => .array .int
  | 3 => .array .int
  | 4 => .array .boolean
  | 5 => .array .int
  | 6 => .array .int
  | 7 => .array .int
  | 8 => .array .int
  | 9 => .array .int
  | 10 => .array .int
  | 11 => .array .int
  | _ => .int
abbrev wsX00 : List Cond := u_ws RX0 TX0 13
theorem nmX0 : ∀ a, a < 13 → ∀ b, b < 13 → a ≠ b → (TX0 a).2.1 ≠ (TX0 b).2.1 := by decide +kernel
theorem tyX0_ok : ∀ k, k < 13 → parseFieldDescriptor (TX0 k).2.2.1 = some (tyX0 k) := by decide +kernel
abbrev cX0_init : ByteArray := prog_2_method_1_code
def yX0_init : MethodName := ⟨RX0, "<init>", "(LThreadline$Mail;)V"⟩
abbrev cX0_knows : ByteArray := prog_2_method_2_code
def yX0_knows : MethodName := ⟨RX0, "knows", "(I)Z"⟩
abbrev cX0_contains : ByteArray := prog_2_method_3_code
def yX0_contains : MethodName := ⟨RX0, "contains", "(I)Z"⟩
abbrev cX0_parentIn : ByteArray := prog_2_method_4_code
def yX0_parentIn : MethodName := ⟨RX0, "parentIn", "(I)I"⟩
abbrev cX0_countRoots : ByteArray := prog_2_method_5_code
def yX0_countRoots : MethodName := ⟨RX0, "countRoots", "()I"⟩
abbrev cX0_rootIdAt : ByteArray := prog_2_method_6_code
def yX0_rootIdAt : MethodName := ⟨RX0, "rootIdAt", "(I)I"⟩
abbrev cX0_countChildren : ByteArray := prog_2_method_7_code
def yX0_countChildren : MethodName := ⟨RX0, "countChildren", "(I)I"⟩
abbrev cX0_idAt : ByteArray := prog_2_method_8_code
def yX0_idAt : MethodName := ⟨RX0, "idAt", "(II)I"⟩
abbrev cX0_isInTree : ByteArray := prog_2_method_10_code
def yX0_isInTree : MethodName := ⟨RX0, "isInTree", "(II)Z"⟩
abbrev cX0_grow : ByteArray := prog_2_method_11_code
def yX0_grow : MethodName := ⟨RX0, "grow", "()V"⟩
abbrev cX0_findKnown : ByteArray := prog_2_method_12_code
def yX0_findKnown : MethodName := ⟨RX0, "findKnown", "()V"⟩
abbrev cX0_learn : ByteArray := prog_2_method_13_code
def yX0_learn : MethodName := ⟨RX0, "learn", "(I)V"⟩
abbrev cX0_linkKnown : ByteArray := prog_2_method_14_code
def yX0_linkKnown : MethodName := ⟨RX0, "linkKnown", "()V"⟩
abbrev cX0_linksLead : ByteArray := prog_2_method_15_code
def yX0_linksLead : MethodName := ⟨RX0, "linksLead", "(II)Z"⟩
abbrev cX0_hangByLinks : ByteArray := prog_2_method_16_code
def yX0_hangByLinks : MethodName := ⟨RX0, "hangByLinks", "()V"⟩
abbrev cX0_parentByLinks : ByteArray := prog_2_method_17_code
def yX0_parentByLinks : MethodName := ⟨RX0, "parentByLinks", "(I)I"⟩
abbrev cX0_keepMissing : ByteArray := prog_2_method_18_code
def yX0_keepMissing : MethodName := ⟨RX0, "keepMissing", "()V"⟩
abbrev cX0_freeChildren : ByteArray := prog_2_method_19_code
def yX0_freeChildren : MethodName := ⟨RX0, "freeChildren", "(I)V"⟩
abbrev cX0_hangReplies : ByteArray := prog_2_method_20_code
def yX0_hangReplies : MethodName := ⟨RX0, "hangReplies", "()V"⟩
abbrev cX0_letterAnsweredBy : ByteArray := prog_2_method_21_code
def yX0_letterAnsweredBy : MethodName := ⟨RX0, "letterAnsweredBy", "(I)I"⟩
abbrev cX0_measureTrees : ByteArray := prog_2_method_22_code
def yX0_measureTrees : MethodName := ⟨RX0, "measureTrees", "()V"⟩
abbrev cX0_countUpwards : ByteArray := prog_2_method_23_code
def yX0_countUpwards : MethodName := ⟨RX0, "countUpwards", "(I)V"⟩
abbrev cX0_comesBefore : ByteArray := prog_2_method_24_code
def yX0_comesBefore : MethodName := ⟨RX0, "comesBefore", "(II)Z"⟩
abbrev cX0_placeRoots : ByteArray := prog_2_method_25_code
def yX0_placeRoots : MethodName := ⟨RX0, "placeRoots", "()V"⟩
abbrev cX0_placeRoot : ByteArray := prog_2_method_26_code
def yX0_placeRoot : MethodName := ⟨RX0, "placeRoot", "(I)V"⟩
abbrev cX0_placeTrees : ByteArray := prog_2_method_27_code
def yX0_placeTrees : MethodName := ⟨RX0, "placeTrees", "()V"⟩
abbrev cX0_offsetBehindParent : ByteArray := prog_2_method_28_code
def yX0_offsetBehindParent : MethodName := ⟨RX0, "offsetBehindParent", "(I)I"⟩
abbrev cX0_startInOrder : ByteArray := prog_2_method_29_code
def yX0_startInOrder : MethodName := ⟨RX0, "startInOrder", "(I)I"⟩
def RX1 : String := "Threadline$Mail"
def TX1 : u_T := fun k => match k with
  | 0 => ("Threadline$Mail", "there", "[Z", true)
  | 1 => ("Threadline$Mail", "toldGrandparent", "[I", true)
  | 2 => ("Threadline$Mail", "toldParent", "[I", true)
  | 3 => ("Threadline$Mail", "subject", "[I", true)
  | 4 => ("Threadline$Mail", "reply", "[Z", true)
  | 5 => ("Threadline$Mail", "day", "[I", true)
  | 6 => ("Threadline$Mail", "person", "[I", true)
  | 7 => ("Threadline$Mail", "unseen", "[Z", true)
  | _ => ("Threadline$Mail", "hand", "[I", true)
def tyX1 : Nat → FieldType := fun k => match k with
  | 0 => .array .boolean
  | 1 => .array .int
  | 2 => .array .int
  | 3 => .array .int
  | 4 => .array .boolean
  | 5 => .array .int
  | 6 => .array .int
  | 7 => .array .boolean
  | _ => .array .int
abbrev wsX10 : List Cond := u_ws RX1 TX1 9
theorem nmX1 : ∀ a, a < 9 → ∀ b, b < 9 → a ≠ b → (TX1 a).2.1 ≠ (TX1 b).2.1 := by decide +kernel
theorem tyX1_ok : ∀ k, k < 9 → parseFieldDescriptor (TX1 k).2.2.1 = some (tyX1 k) := by decide +kernel
abbrev cX1_init : ByteArray := prog_3_method_1_code
def yX1_init : MethodName := ⟨RX1, "<init>", "()V"⟩
abbrev cX1_holds : ByteArray := prog_3_method_2_code
def yX1_holds : MethodName := ⟨RX1, "holds", "(I)Z"⟩
abbrev cX1_put : ByteArray := prog_3_method_3_code
def yX1_put : MethodName := ⟨RX1, "put", "(IIIIII)V"⟩
abbrev cX1_drop : ByteArray := prog_3_method_4_code
def yX1_drop : MethodName := ⟨RX1, "drop", "(I)V"⟩
abbrev cX1_setHand : ByteArray := prog_3_method_5_code
def yX1_setHand : MethodName := ⟨RX1, "setHand", "(II)V"⟩
abbrev cX1_handOf : ByteArray := prog_3_method_6_code
def yX1_handOf : MethodName := ⟨RX1, "handOf", "(I)I"⟩
abbrev cX1_writerBit : ByteArray := prog_3_method_9_code
def yX1_writerBit : MethodName := ⟨RX1, "writerBit", "(I)I"⟩
abbrev cX1_dayOf : ByteArray := prog_3_method_10_code
def yX1_dayOf : MethodName := ⟨RX1, "dayOf", "(I)I"⟩
abbrev cX1_parentToldBy : ByteArray := prog_3_method_11_code
def yX1_parentToldBy : MethodName := ⟨RX1, "parentToldBy", "(I)I"⟩
abbrev cX1_grandparentToldBy : ByteArray := prog_3_method_12_code
def yX1_grandparentToldBy : MethodName := ⟨RX1, "grandparentToldBy", "(I)I"⟩
abbrev cX1_toldParentOf : ByteArray := prog_3_method_13_code
def yX1_toldParentOf : MethodName := ⟨RX1, "toldParentOf", "(I)I"⟩
abbrev cX1_guessedParentOf : ByteArray := prog_3_method_14_code
def yX1_guessedParentOf : MethodName := ⟨RX1, "guessedParentOf", "(I)I"⟩
abbrev cX1_isReply : ByteArray := prog_3_method_15_code
def yX1_isReply : MethodName := ⟨RX1, "isReply", "(I)Z"⟩
abbrev cX1_isAnsweredBy : ByteArray := prog_3_method_16_code
def yX1_isAnsweredBy : MethodName := ⟨RX1, "isAnsweredBy", "(II)Z"⟩
def RX2 : String := "Threadline"
def TX2 : u_T := fun k => match k with
  | 0 => ("Threadline", "mail", "LThreadline$Mail;", true)
  | _ => ("Threadline", "forest", "LThreadline$Forest;", true)
def tyX2 : Nat → FieldType := fun k => match k with
  | 0 => .object "Threadline$Mail"
  | _ => .object "Threadline$Forest"
abbrev wsX20 : List Cond := u_ws RX2 TX2 2
theorem nmX2 : ∀ a, a < 2 → ∀ b, b < 2 → a ≠ b → (TX2 a).2.1 ≠ (TX2 b).2.1 := by decide +kernel
theorem tyX2_ok : ∀ k, k < 2 → parseFieldDescriptor (TX2 k).2.2.1 = some (tyX2 k) := by decide +kernel
abbrev cX2_init : ByteArray := prog_1_method_1_code
def yX2_init : MethodName := ⟨RX2, "<init>", "()V"⟩
abbrev cX2_letter : ByteArray := prog_1_method_2_code
def yX2_letter : MethodName := ⟨RX2, "letter", "(IIIIII)I"⟩
abbrev cX2_delete : ByteArray := prog_1_method_3_code
def yX2_delete : MethodName := ⟨RX2, "delete", "(I)I"⟩
abbrev cX2_split : ByteArray := prog_1_method_4_code
def yX2_split : MethodName := ⟨RX2, "split", "(I)I"⟩
abbrev cX2_join : ByteArray := prog_1_method_5_code
def yX2_join : MethodName := ⟨RX2, "join", "(II)I"⟩
abbrev cX2_release : ByteArray := prog_1_method_6_code
def yX2_release : MethodName := ⟨RX2, "release", "(I)Z"⟩
abbrev cX2_state : ByteArray := prog_1_method_8_code
def yX2_state : MethodName := ⟨RX2, "state", "(I)I"⟩
abbrev cX2_parent : ByteArray := prog_1_method_9_code
def yX2_parent : MethodName := ⟨RX2, "parent", "(I)I"⟩
abbrev cX2_roots : ByteArray := prog_1_method_11_code
def yX2_roots : MethodName := ⟨RX2, "roots", "()I"⟩
abbrev cX2_root : ByteArray := prog_1_method_12_code
def yX2_root : MethodName := ⟨RX2, "root", "(I)I"⟩
abbrev cX2_inTree : ByteArray := prog_1_method_13_code
def yX2_inTree : MethodName := ⟨RX2, "inTree", "(II)I"⟩
abbrev cX2_letters : ByteArray := prog_1_method_15_code
def yX2_letters : MethodName := ⟨RX2, "letters", "(I)I"⟩
abbrev cX2_people : ByteArray := prog_1_method_17_code
def yX2_people : MethodName := ⟨RX2, "people", "(I)I"⟩
abbrev cX2_latest : ByteArray := prog_1_method_18_code
def yX2_latest : MethodName := ⟨RX2, "latest", "(I)I"⟩
abbrev cX2_isId : ByteArray := prog_1_method_19_code
def yX2_isId : MethodName := ⟨RX2, "isId", "(I)Z"⟩
abbrev cX2_requireId : ByteArray := prog_1_method_20_code
def yX2_requireId : MethodName := ⟨RX2, "requireId", "(I)V"⟩
abbrev cX2_requireTold : ByteArray := prog_1_method_21_code
def yX2_requireTold : MethodName := ⟨RX2, "requireTold", "(II)V"⟩
abbrev cX2_requireBelow : ByteArray := prog_1_method_22_code
def yX2_requireBelow : MethodName := ⟨RX2, "requireBelow", "(II)V"⟩
abbrev cX2_requireLetter : ByteArray := prog_1_method_23_code
def yX2_requireLetter : MethodName := ⟨RX2, "requireLetter", "(I)V"⟩
abbrev cX2_requireInForest : ByteArray := prog_1_method_24_code
def yX2_requireInForest : MethodName := ⟨RX2, "requireInForest", "(I)V"⟩
def RX3 : String := "ThreadlineModel"
def TX3 : u_T := fun k => match k with
  | _ => ("", "", "", false)
def tyX3 : Nat → FieldType := fun k => match k with
  | _ => .int
abbrev wsX30 : List Cond := u_ws RX3 TX3 0
theorem nmX3 : ∀ a, a < 0 → ∀ b, b < 0 → a ≠ b → (TX3 a).2.1 ≠ (TX3 b).2.1 := by decide +kernel
theorem tyX3_ok : ∀ k, k < 0 → parseFieldDescriptor (TX3 k).2.2.1 = some (tyX3 k) := by decide +kernel
def RJ9 : String := "java/lang/Math"
def TJ9 : u_T := fun k => match k with
  | _ => ("", "", "", false)
def tyJ9 : Nat → FieldType := fun k => match k with
  | _ => .int
abbrev wsJ90 : List Cond := u_ws RJ9 TJ9 0
theorem nmJ9 : ∀ a, a < 0 → ∀ b, b < 0 → a ≠ b → (TJ9 a).2.1 ≠ (TJ9 b).2.1 := by decide +kernel
theorem tyJ9_ok : ∀ k, k < 0 → parseFieldDescriptor (TJ9 k).2.2.1 = some (tyJ9 k) := by decide +kernel
abbrev cJ9_max_7cf53 : ByteArray := prog_10_method_65_code
def yJ9_max_7cf53 : MethodName := ⟨RJ9, "max", "(II)I"⟩
abbrev cJ9_min_7cf53 : ByteArray := prog_10_method_69_code
def yJ9_min_7cf53 : MethodName := ⟨RJ9, "min", "(II)I"⟩
def RJ0 : String := "java/lang/String"
def TJ0 : u_T := fun k => match k with
  | _ => ("", "", "", false)
def tyJ0 : Nat → FieldType := fun k => match k with
  | _ => .int
abbrev wsJ00 : List Cond := u_ws RJ0 TJ0 0
theorem nmJ0 : ∀ a, a < 0 → ∀ b, b < 0 → a ≠ b → (TJ0 a).2.1 ≠ (TJ0 b).2.1 := by decide +kernel
theorem tyJ0_ok : ∀ k, k < 0 → parseFieldDescriptor (TJ0 k).2.2.1 = some (tyJ0 k) := by decide +kernel
def RL : String := "ThreadlineLaw"
abbrev cL_drawn : ByteArray := method_2_code
def yL_drawn : MethodName := ⟨RL, "drawn", "([II)I"⟩
abbrev cL_come : ByteArray := method_3_code
def yL_come : MethodName := ⟨RL, "come", "(LThreadline;II)I"⟩
abbrev cL_does : ByteArray := method_4_code
def yL_does : MethodName := ⟨RL, "does", "(LThreadline;II)I"⟩
abbrev cL_of : ByteArray := method_5_code
def yL_of : MethodName := ⟨RL, "of", "(LThreadline;II)I"⟩
abbrev cL_inTree : ByteArray := method_6_code
def yL_inTree : MethodName := ⟨RL, "inTree", "(LThreadline;II)I"⟩
abbrev cL_areAlike : ByteArray := method_7_code
def yL_areAlike : MethodName := ⟨RL, "areAlike", "(LThreadline;LThreadline;)Z"⟩
abbrev cL_law : ByteArray := code
def yL_law : MethodName := ⟨RL, "law", "([I)Z"⟩
abbrev vwCl : List vw_C := [(RX0, TX0, 13), (RX1, TX1, 9), (RX2, TX2, 2)]
end
section
theorem dX0_init_0 : decode cX0_init 0 = .ok (.aload_n 0, 1) := by decide +kernel
theorem dX0_init_1 : decode cX0_init 1 = .ok (.invokespecial 3, 3) := by decide +kernel
theorem dX0_init_4 : decode cX0_init 4 = .ok (.aload_n 0, 1) := by decide +kernel
theorem dX0_init_5 : decode cX0_init 5 = .ok (.bipush 30, 2) := by decide +kernel
theorem dX0_init_7 : decode cX0_init 7 = .ok (.newarray .boolean, 2) := by decide +kernel
theorem dX0_init_9 : decode cX0_init 9 = .ok (.putfield 9, 3) := by decide +kernel
theorem dX0_init_12 : decode cX0_init 12 = .ok (.aload_n 0, 1) := by decide +kernel
theorem dX0_init_13 : decode cX0_init 13 = .ok (.bipush 30, 2) := by decide +kernel
theorem dX0_init_15 : decode cX0_init 15 = .ok (.newarray .int, 2) := by decide +kernel
theorem dX0_init_17 : decode cX0_init 17 = .ok (.putfield 15, 3) := by decide +kernel
theorem dX0_init_20 : decode cX0_init 20 = .ok (.aload_n 0, 1) := by decide +kernel
theorem dX0_init_21 : decode cX0_init 21 = .ok (.bipush 30, 2) := by decide +kernel
theorem dX0_init_23 : decode cX0_init 23 = .ok (.newarray .int, 2) := by decide +kernel
theorem dX0_init_25 : decode cX0_init 25 = .ok (.putfield 19, 3) := by decide +kernel
theorem dX0_init_28 : decode cX0_init 28 = .ok (.aload_n 0, 1) := by decide +kernel
theorem dX0_init_29 : decode cX0_init 29 = .ok (.bipush 30, 2) := by decide +kernel
theorem dX0_init_31 : decode cX0_init 31 = .ok (.newarray .boolean, 2) := by decide +kernel
theorem dX0_init_33 : decode cX0_init 33 = .ok (.putfield 22, 3) := by decide +kernel
theorem dX0_init_36 : decode cX0_init 36 = .ok (.aload_n 0, 1) := by decide +kernel
theorem dX0_init_37 : decode cX0_init 37 = .ok (.bipush 30, 2) := by decide +kernel
theorem dX0_init_39 : decode cX0_init 39 = .ok (.newarray .int, 2) := by decide +kernel
theorem dX0_init_41 : decode cX0_init 41 = .ok (.putfield 25, 3) := by decide +kernel
theorem dX0_init_44 : decode cX0_init 44 = .ok (.aload_n 0, 1) := by decide +kernel
theorem dX0_init_45 : decode cX0_init 45 = .ok (.bipush 30, 2) := by decide +kernel
theorem dX0_init_47 : decode cX0_init 47 = .ok (.newarray .int, 2) := by decide +kernel
theorem dX0_init_49 : decode cX0_init 49 = .ok (.putfield 28, 3) := by decide +kernel
theorem dX0_init_52 : decode cX0_init 52 = .ok (.aload_n 0, 1) := by decide +kernel
theorem dX0_init_53 : decode cX0_init 53 = .ok (.bipush 30, 2) := by decide +kernel
theorem dX0_init_55 : decode cX0_init 55 = .ok (.newarray .int, 2) := by decide +kernel
theorem dX0_init_57 : decode cX0_init 57 = .ok (.putfield 31, 3) := by decide +kernel
theorem dX0_init_60 : decode cX0_init 60 = .ok (.aload_n 0, 1) := by decide +kernel
theorem dX0_init_61 : decode cX0_init 61 = .ok (.bipush 30, 2) := by decide +kernel
theorem dX0_init_63 : decode cX0_init 63 = .ok (.newarray .int, 2) := by decide +kernel
theorem dX0_init_65 : decode cX0_init 65 = .ok (.putfield 34, 3) := by decide +kernel
theorem dX0_init_68 : decode cX0_init 68 = .ok (.aload_n 0, 1) := by decide +kernel
theorem dX0_init_69 : decode cX0_init 69 = .ok (.bipush 30, 2) := by decide +kernel
theorem dX0_init_71 : decode cX0_init 71 = .ok (.newarray .int, 2) := by decide +kernel
theorem dX0_init_73 : decode cX0_init 73 = .ok (.putfield 37, 3) := by decide +kernel
theorem dX0_init_76 : decode cX0_init 76 = .ok (.aload_n 0, 1) := by decide +kernel
theorem dX0_init_77 : decode cX0_init 77 = .ok (.bipush 30, 2) := by decide +kernel
theorem dX0_init_79 : decode cX0_init 79 = .ok (.newarray .int, 2) := by decide +kernel
theorem dX0_init_81 : decode cX0_init 81 = .ok (.putfield 40, 3) := by decide +kernel
theorem dX0_init_84 : decode cX0_init 84 = .ok (.aload_n 0, 1) := by decide +kernel
theorem dX0_init_85 : decode cX0_init 85 = .ok (.bipush 30, 2) := by decide +kernel
theorem dX0_init_87 : decode cX0_init 87 = .ok (.newarray .int, 2) := by decide +kernel
theorem dX0_init_89 : decode cX0_init 89 = .ok (.putfield 43, 3) := by decide +kernel
theorem dX0_init_92 : decode cX0_init 92 = .ok (.aload_n 0, 1) := by decide +kernel
theorem dX0_init_93 : decode cX0_init 93 = .ok (.aload_n 1, 1) := by decide +kernel
theorem dX0_init_94 : decode cX0_init 94 = .ok (.putfield 46, 3) := by decide +kernel
theorem dX0_init_97 : decode cX0_init 97 = .ok (.return_, 1) := by decide +kernel
theorem dX0_knows_0 : decode cX0_knows 0 = .ok (.iload_n 1, 1) := by decide +kernel
theorem dX0_knows_1 : decode cX0_knows 1 = .ok (.invokestatic 50, 3) := by decide +kernel
theorem dX0_knows_4 : decode cX0_knows 4 = .ok (.ifCond .eq 16, 3) := by decide +kernel
theorem dX0_knows_7 : decode cX0_knows 7 = .ok (.aload_n 0, 1) := by decide +kernel
theorem dX0_knows_8 : decode cX0_knows 8 = .ok (.getfield 9, 3) := by decide +kernel
theorem dX0_knows_11 : decode cX0_knows 11 = .ok (.iload_n 1, 1) := by decide +kernel
theorem dX0_knows_12 : decode cX0_knows 12 = .ok (.baload, 1) := by decide +kernel
theorem dX0_knows_13 : decode cX0_knows 13 = .ok (.ifCond .eq 7, 3) := by decide +kernel
theorem dX0_knows_16 : decode cX0_knows 16 = .ok (.iconst 1, 1) := by decide +kernel
theorem dX0_knows_17 : decode cX0_knows 17 = .ok (.goto 4, 3) := by decide +kernel
theorem dX0_knows_20 : decode cX0_knows 20 = .ok (.iconst 0, 1) := by decide +kernel
theorem dX0_knows_21 : decode cX0_knows 21 = .ok (.ireturn, 1) := by decide +kernel
theorem dX0_contains_0 : decode cX0_contains 0 = .ok (.iload_n 1, 1) := by decide +kernel
theorem dX0_contains_1 : decode cX0_contains 1 = .ok (.invokestatic 50, 3) := by decide +kernel
theorem dX0_contains_4 : decode cX0_contains 4 = .ok (.ifCond .eq 16, 3) := by decide +kernel
theorem dX0_contains_7 : decode cX0_contains 7 = .ok (.aload_n 0, 1) := by decide +kernel
theorem dX0_contains_8 : decode cX0_contains 8 = .ok (.getfield 22, 3) := by decide +kernel
theorem dX0_contains_11 : decode cX0_contains 11 = .ok (.iload_n 1, 1) := by decide +kernel
theorem dX0_contains_12 : decode cX0_contains 12 = .ok (.baload, 1) := by decide +kernel
theorem dX0_contains_13 : decode cX0_contains 13 = .ok (.ifCond .eq 7, 3) := by decide +kernel
theorem dX0_contains_16 : decode cX0_contains 16 = .ok (.iconst 1, 1) := by decide +kernel
theorem dX0_contains_17 : decode cX0_contains 17 = .ok (.goto 4, 3) := by decide +kernel
theorem dX0_contains_20 : decode cX0_contains 20 = .ok (.iconst 0, 1) := by decide +kernel
theorem dX0_contains_21 : decode cX0_contains 21 = .ok (.ireturn, 1) := by decide +kernel
theorem dX0_parentIn_0 : decode cX0_parentIn 0 = .ok (.aload_n 0, 1) := by decide +kernel
theorem dX0_parentIn_1 : decode cX0_parentIn 1 = .ok (.iload_n 1, 1) := by decide +kernel
theorem dX0_parentIn_2 : decode cX0_parentIn 2 = .ok (.invokevirtual 54, 3) := by decide +kernel
theorem dX0_parentIn_5 : decode cX0_parentIn 5 = .ok (.ifCond .eq 12, 3) := by decide +kernel
theorem dX0_parentIn_8 : decode cX0_parentIn 8 = .ok (.aload_n 0, 1) := by decide +kernel
theorem dX0_parentIn_9 : decode cX0_parentIn 9 = .ok (.getfield 19, 3) := by decide +kernel
theorem dX0_parentIn_12 : decode cX0_parentIn 12 = .ok (.iload_n 1, 1) := by decide +kernel
theorem dX0_parentIn_13 : decode cX0_parentIn 13 = .ok (.iaload, 1) := by decide +kernel
theorem dX0_parentIn_14 : decode cX0_parentIn 14 = .ok (.goto 4, 3) := by decide +kernel
theorem dX0_parentIn_17 : decode cX0_parentIn 17 = .ok (.iconst (-1), 1) := by decide +kernel
theorem dX0_parentIn_18 : decode cX0_parentIn 18 = .ok (.ireturn, 1) := by decide +kernel
theorem dX0_countRoots_0 : decode cX0_countRoots 0 = .ok (.aload_n 0, 1) := by decide +kernel
theorem dX0_countRoots_1 : decode cX0_countRoots 1 = .ok (.getfield 57, 3) := by decide +kernel
theorem dX0_countRoots_4 : decode cX0_countRoots 4 = .ok (.ireturn, 1) := by decide +kernel
theorem dX0_rootIdAt_0 : decode cX0_rootIdAt 0 = .ok (.iload_n 1, 1) := by decide +kernel
theorem dX0_rootIdAt_1 : decode cX0_rootIdAt 1 = .ok (.invokestatic 50, 3) := by decide +kernel
theorem dX0_rootIdAt_4 : decode cX0_rootIdAt 4 = .ok (.ifCond .eq 20, 3) := by decide +kernel
theorem dX0_rootIdAt_7 : decode cX0_rootIdAt 7 = .ok (.iload_n 1, 1) := by decide +kernel
theorem dX0_rootIdAt_8 : decode cX0_rootIdAt 8 = .ok (.aload_n 0, 1) := by decide +kernel
theorem dX0_rootIdAt_9 : decode cX0_rootIdAt 9 = .ok (.getfield 57, 3) := by decide +kernel
theorem dX0_rootIdAt_12 : decode cX0_rootIdAt 12 = .ok (.if_icmp .ge 12, 3) := by decide +kernel
theorem dX0_rootIdAt_15 : decode cX0_rootIdAt 15 = .ok (.aload_n 0, 1) := by decide +kernel
theorem dX0_rootIdAt_16 : decode cX0_rootIdAt 16 = .ok (.getfield 43, 3) := by decide +kernel
theorem dX0_rootIdAt_19 : decode cX0_rootIdAt 19 = .ok (.iload_n 1, 1) := by decide +kernel
theorem dX0_rootIdAt_20 : decode cX0_rootIdAt 20 = .ok (.iaload, 1) := by decide +kernel
theorem dX0_rootIdAt_21 : decode cX0_rootIdAt 21 = .ok (.goto 4, 3) := by decide +kernel
theorem dX0_rootIdAt_24 : decode cX0_rootIdAt 24 = .ok (.iconst (-1), 1) := by decide +kernel
theorem dX0_rootIdAt_25 : decode cX0_rootIdAt 25 = .ok (.ireturn, 1) := by decide +kernel
theorem dX0_countChildren_0 : decode cX0_countChildren 0 = .ok (.iconst 0, 1) := by decide +kernel
theorem dX0_countChildren_1 : decode cX0_countChildren 1 = .ok (.istore_n 2, 1) := by decide +kernel
theorem dX0_countChildren_2 : decode cX0_countChildren 2 = .ok (.iconst 0, 1) := by decide +kernel
theorem dX0_countChildren_3 : decode cX0_countChildren 3 = .ok (.istore_n 3, 1) := by decide +kernel
theorem dX0_countChildren_4 : decode cX0_countChildren 4 = .ok (.iload_n 3, 1) := by decide +kernel
theorem dX0_countChildren_5 : decode cX0_countChildren 5 = .ok (.bipush 30, 2) := by decide +kernel
theorem dX0_countChildren_7 : decode cX0_countChildren 7 = .ok (.if_icmp .ge 22, 3) := by decide +kernel
theorem dX0_countChildren_10 : decode cX0_countChildren 10 = .ok (.aload_n 0, 1) := by decide +kernel
theorem dX0_countChildren_11 : decode cX0_countChildren 11 = .ok (.getfield 19, 3) := by decide +kernel
theorem dX0_countChildren_14 : decode cX0_countChildren 14 = .ok (.iload_n 3, 1) := by decide +kernel
theorem dX0_countChildren_15 : decode cX0_countChildren 15 = .ok (.iaload, 1) := by decide +kernel
theorem dX0_countChildren_16 : decode cX0_countChildren 16 = .ok (.iload_n 1, 1) := by decide +kernel
theorem dX0_countChildren_17 : decode cX0_countChildren 17 = .ok (.if_icmp .ne 6, 3) := by decide +kernel
theorem dX0_countChildren_20 : decode cX0_countChildren 20 = .ok (.iinc 2 1, 3) := by decide +kernel
theorem dX0_countChildren_23 : decode cX0_countChildren 23 = .ok (.iinc 3 1, 3) := by decide +kernel
theorem dX0_countChildren_26 : decode cX0_countChildren 26 = .ok (.goto (-22), 3) := by decide +kernel
theorem dX0_countChildren_29 : decode cX0_countChildren 29 = .ok (.iload_n 2, 1) := by decide +kernel
theorem dX0_countChildren_30 : decode cX0_countChildren 30 = .ok (.ireturn, 1) := by decide +kernel
theorem dX0_idAt_0 : decode cX0_idAt 0 = .ok (.aload_n 0, 1) := by decide +kernel
theorem dX0_idAt_1 : decode cX0_idAt 1 = .ok (.iload_n 1, 1) := by decide +kernel
theorem dX0_idAt_2 : decode cX0_idAt 2 = .ok (.invokevirtual 54, 3) := by decide +kernel
theorem dX0_idAt_5 : decode cX0_idAt 5 = .ok (.ifCond .eq 17, 3) := by decide +kernel
theorem dX0_idAt_8 : decode cX0_idAt 8 = .ok (.iload_n 2, 1) := by decide +kernel
theorem dX0_idAt_9 : decode cX0_idAt 9 = .ok (.ifCond .lt 13, 3) := by decide +kernel
theorem dX0_idAt_12 : decode cX0_idAt 12 = .ok (.iload_n 2, 1) := by decide +kernel
theorem dX0_idAt_13 : decode cX0_idAt 13 = .ok (.aload_n 0, 1) := by decide +kernel
theorem dX0_idAt_14 : decode cX0_idAt 14 = .ok (.getfield 31, 3) := by decide +kernel
theorem dX0_idAt_17 : decode cX0_idAt 17 = .ok (.iload_n 1, 1) := by decide +kernel
theorem dX0_idAt_18 : decode cX0_idAt 18 = .ok (.iaload, 1) := by decide +kernel
theorem dX0_idAt_19 : decode cX0_idAt 19 = .ok (.if_icmp .lt 5, 3) := by decide +kernel
theorem dX0_idAt_22 : decode cX0_idAt 22 = .ok (.iconst (-1), 1) := by decide +kernel
theorem dX0_idAt_23 : decode cX0_idAt 23 = .ok (.ireturn, 1) := by decide +kernel
theorem dX0_idAt_24 : decode cX0_idAt 24 = .ok (.aload_n 0, 1) := by decide +kernel
theorem dX0_idAt_25 : decode cX0_idAt 25 = .ok (.getfield 37, 3) := by decide +kernel
theorem dX0_idAt_28 : decode cX0_idAt 28 = .ok (.iload_n 1, 1) := by decide +kernel
theorem dX0_idAt_29 : decode cX0_idAt 29 = .ok (.iaload, 1) := by decide +kernel
theorem dX0_idAt_30 : decode cX0_idAt 30 = .ok (.iload_n 2, 1) := by decide +kernel
theorem dX0_idAt_31 : decode cX0_idAt 31 = .ok (.iadd, 1) := by decide +kernel
theorem dX0_idAt_32 : decode cX0_idAt 32 = .ok (.istore_n 3, 1) := by decide +kernel
theorem dX0_idAt_33 : decode cX0_idAt 33 = .ok (.iload_n 3, 1) := by decide +kernel
theorem dX0_idAt_34 : decode cX0_idAt 34 = .ok (.invokestatic 50, 3) := by decide +kernel
theorem dX0_idAt_37 : decode cX0_idAt 37 = .ok (.ifCond .eq 12, 3) := by decide +kernel
theorem dX0_idAt_40 : decode cX0_idAt 40 = .ok (.aload_n 0, 1) := by decide +kernel
theorem dX0_idAt_41 : decode cX0_idAt 41 = .ok (.getfield 40, 3) := by decide +kernel
theorem dX0_idAt_44 : decode cX0_idAt 44 = .ok (.iload_n 3, 1) := by decide +kernel
theorem dX0_idAt_45 : decode cX0_idAt 45 = .ok (.iaload, 1) := by decide +kernel
theorem dX0_idAt_46 : decode cX0_idAt 46 = .ok (.goto 4, 3) := by decide +kernel
theorem dX0_idAt_49 : decode cX0_idAt 49 = .ok (.iconst (-1), 1) := by decide +kernel
theorem dX0_idAt_50 : decode cX0_idAt 50 = .ok (.ireturn, 1) := by decide +kernel
theorem dX0_isInTree_0 : decode cX0_isInTree 0 = .ok (.iload_n 1, 1) := by decide +kernel
theorem dX0_isInTree_1 : decode cX0_isInTree 1 = .ok (.istore_n 3, 1) := by decide +kernel
theorem dX0_isInTree_2 : decode cX0_isInTree 2 = .ok (.iconst 0, 1) := by decide +kernel
theorem dX0_isInTree_3 : decode cX0_isInTree 3 = .ok (.istore 4, 2) := by decide +kernel
theorem dX0_isInTree_5 : decode cX0_isInTree 5 = .ok (.iload_n 3, 1) := by decide +kernel
theorem dX0_isInTree_6 : decode cX0_isInTree 6 = .ok (.invokestatic 50, 3) := by decide +kernel
theorem dX0_isInTree_9 : decode cX0_isInTree 9 = .ok (.ifCond .eq 29, 3) := by decide +kernel
theorem dX0_isInTree_12 : decode cX0_isInTree 12 = .ok (.iload 4, 2) := by decide +kernel
theorem dX0_isInTree_14 : decode cX0_isInTree 14 = .ok (.bipush 30, 2) := by decide +kernel
theorem dX0_isInTree_16 : decode cX0_isInTree 16 = .ok (.if_icmp .ge 22, 3) := by decide +kernel
theorem dX0_isInTree_19 : decode cX0_isInTree 19 = .ok (.iload_n 3, 1) := by decide +kernel
theorem dX0_isInTree_20 : decode cX0_isInTree 20 = .ok (.iload_n 2, 1) := by decide +kernel
theorem dX0_isInTree_21 : decode cX0_isInTree 21 = .ok (.if_icmp .ne 5, 3) := by decide +kernel
theorem dX0_isInTree_24 : decode cX0_isInTree 24 = .ok (.iconst 1, 1) := by decide +kernel
theorem dX0_isInTree_25 : decode cX0_isInTree 25 = .ok (.ireturn, 1) := by decide +kernel
theorem dX0_isInTree_26 : decode cX0_isInTree 26 = .ok (.aload_n 0, 1) := by decide +kernel
theorem dX0_isInTree_27 : decode cX0_isInTree 27 = .ok (.iload_n 3, 1) := by decide +kernel
theorem dX0_isInTree_28 : decode cX0_isInTree 28 = .ok (.invokevirtual 61, 3) := by decide +kernel
theorem dX0_isInTree_31 : decode cX0_isInTree 31 = .ok (.istore_n 3, 1) := by decide +kernel
theorem dX0_isInTree_32 : decode cX0_isInTree 32 = .ok (.iinc 4 1, 3) := by decide +kernel
theorem dX0_isInTree_35 : decode cX0_isInTree 35 = .ok (.goto (-30), 3) := by decide +kernel
theorem dX0_isInTree_38 : decode cX0_isInTree 38 = .ok (.iconst 0, 1) := by decide +kernel
theorem dX0_isInTree_39 : decode cX0_isInTree 39 = .ok (.ireturn, 1) := by decide +kernel
theorem dX0_grow_0 : decode cX0_grow 0 = .ok (.aload_n 0, 1) := by decide +kernel
theorem dX0_grow_1 : decode cX0_grow 1 = .ok (.invokevirtual 65, 3) := by decide +kernel
theorem dX0_grow_4 : decode cX0_grow 4 = .ok (.aload_n 0, 1) := by decide +kernel
theorem dX0_grow_5 : decode cX0_grow 5 = .ok (.invokevirtual 68, 3) := by decide +kernel
theorem dX0_grow_8 : decode cX0_grow 8 = .ok (.aload_n 0, 1) := by decide +kernel
theorem dX0_grow_9 : decode cX0_grow 9 = .ok (.invokevirtual 71, 3) := by decide +kernel
theorem dX0_grow_12 : decode cX0_grow 12 = .ok (.aload_n 0, 1) := by decide +kernel
theorem dX0_grow_13 : decode cX0_grow 13 = .ok (.invokevirtual 74, 3) := by decide +kernel
theorem dX0_grow_16 : decode cX0_grow 16 = .ok (.aload_n 0, 1) := by decide +kernel
theorem dX0_grow_17 : decode cX0_grow 17 = .ok (.invokevirtual 77, 3) := by decide +kernel
theorem dX0_grow_20 : decode cX0_grow 20 = .ok (.aload_n 0, 1) := by decide +kernel
theorem dX0_grow_21 : decode cX0_grow 21 = .ok (.invokevirtual 80, 3) := by decide +kernel
theorem dX0_grow_24 : decode cX0_grow 24 = .ok (.aload_n 0, 1) := by decide +kernel
theorem dX0_grow_25 : decode cX0_grow 25 = .ok (.invokevirtual 83, 3) := by decide +kernel
theorem dX0_grow_28 : decode cX0_grow 28 = .ok (.aload_n 0, 1) := by decide +kernel
theorem dX0_grow_29 : decode cX0_grow 29 = .ok (.invokevirtual 86, 3) := by decide +kernel
theorem dX0_grow_32 : decode cX0_grow 32 = .ok (.return_, 1) := by decide +kernel
theorem dX0_findKnown_0 : decode cX0_findKnown 0 = .ok (.iconst 0, 1) := by decide +kernel
theorem dX0_findKnown_1 : decode cX0_findKnown 1 = .ok (.istore_n 1, 1) := by decide +kernel
theorem dX0_findKnown_2 : decode cX0_findKnown 2 = .ok (.iload_n 1, 1) := by decide +kernel
theorem dX0_findKnown_3 : decode cX0_findKnown 3 = .ok (.bipush 30, 2) := by decide +kernel
theorem dX0_findKnown_5 : decode cX0_findKnown 5 = .ok (.if_icmp .ge 23, 3) := by decide +kernel
theorem dX0_findKnown_8 : decode cX0_findKnown 8 = .ok (.aload_n 0, 1) := by decide +kernel
theorem dX0_findKnown_9 : decode cX0_findKnown 9 = .ok (.getfield 9, 3) := by decide +kernel
theorem dX0_findKnown_12 : decode cX0_findKnown 12 = .ok (.iload_n 1, 1) := by decide +kernel
theorem dX0_findKnown_13 : decode cX0_findKnown 13 = .ok (.aload_n 0, 1) := by decide +kernel
theorem dX0_findKnown_14 : decode cX0_findKnown 14 = .ok (.getfield 46, 3) := by decide +kernel
theorem dX0_findKnown_17 : decode cX0_findKnown 17 = .ok (.iload_n 1, 1) := by decide +kernel
theorem dX0_findKnown_18 : decode cX0_findKnown 18 = .ok (.invokevirtual 89, 3) := by decide +kernel
theorem dX0_findKnown_21 : decode cX0_findKnown 21 = .ok (.bastore, 1) := by decide +kernel
theorem dX0_findKnown_22 : decode cX0_findKnown 22 = .ok (.iinc 1 1, 3) := by decide +kernel
theorem dX0_findKnown_25 : decode cX0_findKnown 25 = .ok (.goto (-23), 3) := by decide +kernel
theorem dX0_findKnown_28 : decode cX0_findKnown 28 = .ok (.iconst 0, 1) := by decide +kernel
theorem dX0_findKnown_29 : decode cX0_findKnown 29 = .ok (.istore_n 1, 1) := by decide +kernel
theorem dX0_findKnown_30 : decode cX0_findKnown 30 = .ok (.iload_n 1, 1) := by decide +kernel
theorem dX0_findKnown_31 : decode cX0_findKnown 31 = .ok (.bipush 30, 2) := by decide +kernel
theorem dX0_findKnown_33 : decode cX0_findKnown 33 = .ok (.if_icmp .ge 45, 3) := by decide +kernel
theorem dX0_findKnown_36 : decode cX0_findKnown 36 = .ok (.aload_n 0, 1) := by decide +kernel
theorem dX0_findKnown_37 : decode cX0_findKnown 37 = .ok (.aload_n 0, 1) := by decide +kernel
theorem dX0_findKnown_38 : decode cX0_findKnown 38 = .ok (.getfield 46, 3) := by decide +kernel
theorem dX0_findKnown_41 : decode cX0_findKnown 41 = .ok (.iload_n 1, 1) := by decide +kernel
theorem dX0_findKnown_42 : decode cX0_findKnown 42 = .ok (.invokevirtual 94, 3) := by decide +kernel
theorem dX0_findKnown_45 : decode cX0_findKnown 45 = .ok (.invokevirtual 97, 3) := by decide +kernel
theorem dX0_findKnown_48 : decode cX0_findKnown 48 = .ok (.aload_n 0, 1) := by decide +kernel
theorem dX0_findKnown_49 : decode cX0_findKnown 49 = .ok (.aload_n 0, 1) := by decide +kernel
theorem dX0_findKnown_50 : decode cX0_findKnown 50 = .ok (.getfield 46, 3) := by decide +kernel
theorem dX0_findKnown_53 : decode cX0_findKnown 53 = .ok (.iload_n 1, 1) := by decide +kernel
theorem dX0_findKnown_54 : decode cX0_findKnown 54 = .ok (.invokevirtual 101, 3) := by decide +kernel
theorem dX0_findKnown_57 : decode cX0_findKnown 57 = .ok (.invokevirtual 97, 3) := by decide +kernel
theorem dX0_findKnown_60 : decode cX0_findKnown 60 = .ok (.aload_n 0, 1) := by decide +kernel
theorem dX0_findKnown_61 : decode cX0_findKnown 61 = .ok (.aload_n 0, 1) := by decide +kernel
theorem dX0_findKnown_62 : decode cX0_findKnown 62 = .ok (.getfield 46, 3) := by decide +kernel
theorem dX0_findKnown_65 : decode cX0_findKnown 65 = .ok (.iload_n 1, 1) := by decide +kernel
theorem dX0_findKnown_66 : decode cX0_findKnown 66 = .ok (.invokevirtual 104, 3) := by decide +kernel
theorem dX0_findKnown_69 : decode cX0_findKnown 69 = .ok (.invokevirtual 97, 3) := by decide +kernel
theorem dX0_findKnown_72 : decode cX0_findKnown 72 = .ok (.iinc 1 1, 3) := by decide +kernel
theorem dX0_findKnown_75 : decode cX0_findKnown 75 = .ok (.goto (-45), 3) := by decide +kernel
theorem dX0_findKnown_78 : decode cX0_findKnown 78 = .ok (.return_, 1) := by decide +kernel
theorem dX0_learn_0 : decode cX0_learn 0 = .ok (.iload_n 1, 1) := by decide +kernel
theorem dX0_learn_1 : decode cX0_learn 1 = .ok (.invokestatic 50, 3) := by decide +kernel
theorem dX0_learn_4 : decode cX0_learn 4 = .ok (.ifCond .eq 10, 3) := by decide +kernel
theorem dX0_learn_7 : decode cX0_learn 7 = .ok (.aload_n 0, 1) := by decide +kernel
theorem dX0_learn_8 : decode cX0_learn 8 = .ok (.getfield 9, 3) := by decide +kernel
theorem dX0_learn_11 : decode cX0_learn 11 = .ok (.iload_n 1, 1) := by decide +kernel
theorem dX0_learn_12 : decode cX0_learn 12 = .ok (.iconst 1, 1) := by decide +kernel
theorem dX0_learn_13 : decode cX0_learn 13 = .ok (.bastore, 1) := by decide +kernel
theorem dX0_learn_14 : decode cX0_learn 14 = .ok (.return_, 1) := by decide +kernel
theorem dX0_linkKnown_0 : decode cX0_linkKnown 0 = .ok (.iconst 0, 1) := by decide +kernel
theorem dX0_linkKnown_1 : decode cX0_linkKnown 1 = .ok (.istore_n 1, 1) := by decide +kernel
theorem dX0_linkKnown_2 : decode cX0_linkKnown 2 = .ok (.iload_n 1, 1) := by decide +kernel
theorem dX0_linkKnown_3 : decode cX0_linkKnown 3 = .ok (.bipush 30, 2) := by decide +kernel
theorem dX0_linkKnown_5 : decode cX0_linkKnown 5 = .ok (.if_icmp .ge 16, 3) := by decide +kernel
theorem dX0_linkKnown_8 : decode cX0_linkKnown 8 = .ok (.aload_n 0, 1) := by decide +kernel
theorem dX0_linkKnown_9 : decode cX0_linkKnown 9 = .ok (.getfield 15, 3) := by decide +kernel
theorem dX0_linkKnown_12 : decode cX0_linkKnown 12 = .ok (.iload_n 1, 1) := by decide +kernel
theorem dX0_linkKnown_13 : decode cX0_linkKnown 13 = .ok (.iconst (-1), 1) := by decide +kernel
theorem dX0_linkKnown_14 : decode cX0_linkKnown 14 = .ok (.iastore, 1) := by decide +kernel
theorem dX0_linkKnown_15 : decode cX0_linkKnown 15 = .ok (.iinc 1 1, 3) := by decide +kernel
theorem dX0_linkKnown_18 : decode cX0_linkKnown 18 = .ok (.goto (-16), 3) := by decide +kernel
theorem dX0_linkKnown_21 : decode cX0_linkKnown 21 = .ok (.iconst 0, 1) := by decide +kernel
theorem dX0_linkKnown_22 : decode cX0_linkKnown 22 = .ok (.istore_n 1, 1) := by decide +kernel
theorem dX0_linkKnown_23 : decode cX0_linkKnown 23 = .ok (.iload_n 1, 1) := by decide +kernel
theorem dX0_linkKnown_24 : decode cX0_linkKnown 24 = .ok (.bipush 30, 2) := by decide +kernel
theorem dX0_linkKnown_26 : decode cX0_linkKnown 26 = .ok (.if_icmp .ge 47, 3) := by decide +kernel
theorem dX0_linkKnown_29 : decode cX0_linkKnown 29 = .ok (.aload_n 0, 1) := by decide +kernel
theorem dX0_linkKnown_30 : decode cX0_linkKnown 30 = .ok (.getfield 9, 3) := by decide +kernel
theorem dX0_linkKnown_33 : decode cX0_linkKnown 33 = .ok (.iload_n 1, 1) := by decide +kernel
theorem dX0_linkKnown_34 : decode cX0_linkKnown 34 = .ok (.baload, 1) := by decide +kernel
theorem dX0_linkKnown_35 : decode cX0_linkKnown 35 = .ok (.ifCond .eq 32, 3) := by decide +kernel
theorem dX0_linkKnown_38 : decode cX0_linkKnown 38 = .ok (.aload_n 0, 1) := by decide +kernel
theorem dX0_linkKnown_39 : decode cX0_linkKnown 39 = .ok (.getfield 46, 3) := by decide +kernel
theorem dX0_linkKnown_42 : decode cX0_linkKnown 42 = .ok (.iload_n 1, 1) := by decide +kernel
theorem dX0_linkKnown_43 : decode cX0_linkKnown 43 = .ok (.invokevirtual 107, 3) := by decide +kernel
theorem dX0_linkKnown_46 : decode cX0_linkKnown 46 = .ok (.istore_n 2, 1) := by decide +kernel
theorem dX0_linkKnown_47 : decode cX0_linkKnown 47 = .ok (.aload_n 0, 1) := by decide +kernel
theorem dX0_linkKnown_48 : decode cX0_linkKnown 48 = .ok (.getfield 15, 3) := by decide +kernel
theorem dX0_linkKnown_51 : decode cX0_linkKnown 51 = .ok (.iload_n 1, 1) := by decide +kernel
theorem dX0_linkKnown_52 : decode cX0_linkKnown 52 = .ok (.aload_n 0, 1) := by decide +kernel
theorem dX0_linkKnown_53 : decode cX0_linkKnown 53 = .ok (.iload_n 2, 1) := by decide +kernel
theorem dX0_linkKnown_54 : decode cX0_linkKnown 54 = .ok (.iload_n 1, 1) := by decide +kernel
theorem dX0_linkKnown_55 : decode cX0_linkKnown 55 = .ok (.invokevirtual 110, 3) := by decide +kernel
theorem dX0_linkKnown_58 : decode cX0_linkKnown 58 = .ok (.ifCond .eq 7, 3) := by decide +kernel
theorem dX0_linkKnown_61 : decode cX0_linkKnown 61 = .ok (.iconst (-1), 1) := by decide +kernel
theorem dX0_linkKnown_62 : decode cX0_linkKnown 62 = .ok (.goto 4, 3) := by decide +kernel
theorem dX0_linkKnown_65 : decode cX0_linkKnown 65 = .ok (.iload_n 2, 1) := by decide +kernel
theorem dX0_linkKnown_66 : decode cX0_linkKnown 66 = .ok (.iastore, 1) := by decide +kernel
theorem dX0_linkKnown_67 : decode cX0_linkKnown 67 = .ok (.iinc 1 1, 3) := by decide +kernel
theorem dX0_linkKnown_70 : decode cX0_linkKnown 70 = .ok (.goto (-47), 3) := by decide +kernel
theorem dX0_linkKnown_73 : decode cX0_linkKnown 73 = .ok (.return_, 1) := by decide +kernel
theorem dX0_linksLead_0 : decode cX0_linksLead 0 = .ok (.iload_n 1, 1) := by decide +kernel
theorem dX0_linksLead_1 : decode cX0_linksLead 1 = .ok (.istore_n 3, 1) := by decide +kernel
theorem dX0_linksLead_2 : decode cX0_linksLead 2 = .ok (.iconst 0, 1) := by decide +kernel
theorem dX0_linksLead_3 : decode cX0_linksLead 3 = .ok (.istore 4, 2) := by decide +kernel
theorem dX0_linksLead_5 : decode cX0_linksLead 5 = .ok (.iload_n 3, 1) := by decide +kernel
theorem dX0_linksLead_6 : decode cX0_linksLead 6 = .ok (.invokestatic 50, 3) := by decide +kernel
theorem dX0_linksLead_9 : decode cX0_linksLead 9 = .ok (.ifCond .eq 30, 3) := by decide +kernel
theorem dX0_linksLead_12 : decode cX0_linksLead 12 = .ok (.iload 4, 2) := by decide +kernel
theorem dX0_linksLead_14 : decode cX0_linksLead 14 = .ok (.bipush 30, 2) := by decide +kernel
theorem dX0_linksLead_16 : decode cX0_linksLead 16 = .ok (.if_icmp .ge 23, 3) := by decide +kernel
theorem dX0_linksLead_19 : decode cX0_linksLead 19 = .ok (.iload_n 3, 1) := by decide +kernel
theorem dX0_linksLead_20 : decode cX0_linksLead 20 = .ok (.iload_n 2, 1) := by decide +kernel
theorem dX0_linksLead_21 : decode cX0_linksLead 21 = .ok (.if_icmp .ne 5, 3) := by decide +kernel
theorem dX0_linksLead_24 : decode cX0_linksLead 24 = .ok (.iconst 1, 1) := by decide +kernel
theorem dX0_linksLead_25 : decode cX0_linksLead 25 = .ok (.ireturn, 1) := by decide +kernel
theorem dX0_linksLead_26 : decode cX0_linksLead 26 = .ok (.aload_n 0, 1) := by decide +kernel
theorem dX0_linksLead_27 : decode cX0_linksLead 27 = .ok (.getfield 15, 3) := by decide +kernel
theorem dX0_linksLead_30 : decode cX0_linksLead 30 = .ok (.iload_n 3, 1) := by decide +kernel
theorem dX0_linksLead_31 : decode cX0_linksLead 31 = .ok (.iaload, 1) := by decide +kernel
theorem dX0_linksLead_32 : decode cX0_linksLead 32 = .ok (.istore_n 3, 1) := by decide +kernel
theorem dX0_linksLead_33 : decode cX0_linksLead 33 = .ok (.iinc 4 1, 3) := by decide +kernel
theorem dX0_linksLead_36 : decode cX0_linksLead 36 = .ok (.goto (-31), 3) := by decide +kernel
theorem dX0_linksLead_39 : decode cX0_linksLead 39 = .ok (.iconst 0, 1) := by decide +kernel
theorem dX0_linksLead_40 : decode cX0_linksLead 40 = .ok (.ireturn, 1) := by decide +kernel
theorem dX0_hangByLinks_0 : decode cX0_hangByLinks 0 = .ok (.iconst 0, 1) := by decide +kernel
theorem dX0_hangByLinks_1 : decode cX0_hangByLinks 1 = .ok (.istore_n 1, 1) := by decide +kernel
theorem dX0_hangByLinks_2 : decode cX0_hangByLinks 2 = .ok (.iload_n 1, 1) := by decide +kernel
theorem dX0_hangByLinks_3 : decode cX0_hangByLinks 3 = .ok (.bipush 30, 2) := by decide +kernel
theorem dX0_hangByLinks_5 : decode cX0_hangByLinks 5 = .ok (.if_icmp .ge 40, 3) := by decide +kernel
theorem dX0_hangByLinks_8 : decode cX0_hangByLinks 8 = .ok (.aload_n 0, 1) := by decide +kernel
theorem dX0_hangByLinks_9 : decode cX0_hangByLinks 9 = .ok (.getfield 19, 3) := by decide +kernel
theorem dX0_hangByLinks_12 : decode cX0_hangByLinks 12 = .ok (.iload_n 1, 1) := by decide +kernel
theorem dX0_hangByLinks_13 : decode cX0_hangByLinks 13 = .ok (.aload_n 0, 1) := by decide +kernel
theorem dX0_hangByLinks_14 : decode cX0_hangByLinks 14 = .ok (.getfield 46, 3) := by decide +kernel
theorem dX0_hangByLinks_17 : decode cX0_hangByLinks 17 = .ok (.iload_n 1, 1) := by decide +kernel
theorem dX0_hangByLinks_18 : decode cX0_hangByLinks 18 = .ok (.invokevirtual 89, 3) := by decide +kernel
theorem dX0_hangByLinks_21 : decode cX0_hangByLinks 21 = .ok (.ifCond .eq 16, 3) := by decide +kernel
theorem dX0_hangByLinks_24 : decode cX0_hangByLinks 24 = .ok (.aload_n 0, 1) := by decide +kernel
theorem dX0_hangByLinks_25 : decode cX0_hangByLinks 25 = .ok (.aload_n 0, 1) := by decide +kernel
theorem dX0_hangByLinks_26 : decode cX0_hangByLinks 26 = .ok (.getfield 15, 3) := by decide +kernel
theorem dX0_hangByLinks_29 : decode cX0_hangByLinks 29 = .ok (.iload_n 1, 1) := by decide +kernel
theorem dX0_hangByLinks_30 : decode cX0_hangByLinks 30 = .ok (.iaload, 1) := by decide +kernel
theorem dX0_hangByLinks_31 : decode cX0_hangByLinks 31 = .ok (.invokevirtual 114, 3) := by decide +kernel
theorem dX0_hangByLinks_34 : decode cX0_hangByLinks 34 = .ok (.goto 4, 3) := by decide +kernel
theorem dX0_hangByLinks_37 : decode cX0_hangByLinks 37 = .ok (.iconst (-1), 1) := by decide +kernel
theorem dX0_hangByLinks_38 : decode cX0_hangByLinks 38 = .ok (.iastore, 1) := by decide +kernel
theorem dX0_hangByLinks_39 : decode cX0_hangByLinks 39 = .ok (.iinc 1 1, 3) := by decide +kernel
theorem dX0_hangByLinks_42 : decode cX0_hangByLinks 42 = .ok (.goto (-40), 3) := by decide +kernel
theorem dX0_hangByLinks_45 : decode cX0_hangByLinks 45 = .ok (.return_, 1) := by decide +kernel
theorem dX0_parentByLinks_0 : decode cX0_parentByLinks 0 = .ok (.iload_n 1, 1) := by decide +kernel
theorem dX0_parentByLinks_1 : decode cX0_parentByLinks 1 = .ok (.istore_n 2, 1) := by decide +kernel
theorem dX0_parentByLinks_2 : decode cX0_parentByLinks 2 = .ok (.iconst 0, 1) := by decide +kernel
theorem dX0_parentByLinks_3 : decode cX0_parentByLinks 3 = .ok (.istore_n 3, 1) := by decide +kernel
theorem dX0_parentByLinks_4 : decode cX0_parentByLinks 4 = .ok (.iload_n 2, 1) := by decide +kernel
theorem dX0_parentByLinks_5 : decode cX0_parentByLinks 5 = .ok (.invokestatic 50, 3) := by decide +kernel
theorem dX0_parentByLinks_8 : decode cX0_parentByLinks 8 = .ok (.ifCond .eq 45, 3) := by decide +kernel
theorem dX0_parentByLinks_11 : decode cX0_parentByLinks 11 = .ok (.iload_n 3, 1) := by decide +kernel
theorem dX0_parentByLinks_12 : decode cX0_parentByLinks 12 = .ok (.bipush 30, 2) := by decide +kernel
theorem dX0_parentByLinks_14 : decode cX0_parentByLinks 14 = .ok (.if_icmp .ge 39, 3) := by decide +kernel
theorem dX0_parentByLinks_17 : decode cX0_parentByLinks 17 = .ok (.aload_n 0, 1) := by decide +kernel
theorem dX0_parentByLinks_18 : decode cX0_parentByLinks 18 = .ok (.getfield 46, 3) := by decide +kernel
theorem dX0_parentByLinks_21 : decode cX0_parentByLinks 21 = .ok (.iload_n 2, 1) := by decide +kernel
theorem dX0_parentByLinks_22 : decode cX0_parentByLinks 22 = .ok (.invokevirtual 89, 3) := by decide +kernel
theorem dX0_parentByLinks_25 : decode cX0_parentByLinks 25 = .ok (.ifCond .ne 13, 3) := by decide +kernel
theorem dX0_parentByLinks_28 : decode cX0_parentByLinks 28 = .ok (.aload_n 0, 1) := by decide +kernel
theorem dX0_parentByLinks_29 : decode cX0_parentByLinks 29 = .ok (.getfield 15, 3) := by decide +kernel
theorem dX0_parentByLinks_32 : decode cX0_parentByLinks 32 = .ok (.iload_n 2, 1) := by decide +kernel
theorem dX0_parentByLinks_33 : decode cX0_parentByLinks 33 = .ok (.iaload, 1) := by decide +kernel
theorem dX0_parentByLinks_34 : decode cX0_parentByLinks 34 = .ok (.iconst (-1), 1) := by decide +kernel
theorem dX0_parentByLinks_35 : decode cX0_parentByLinks 35 = .ok (.if_icmp .ne 5, 3) := by decide +kernel
theorem dX0_parentByLinks_38 : decode cX0_parentByLinks 38 = .ok (.iload_n 2, 1) := by decide +kernel
theorem dX0_parentByLinks_39 : decode cX0_parentByLinks 39 = .ok (.ireturn, 1) := by decide +kernel
theorem dX0_parentByLinks_40 : decode cX0_parentByLinks 40 = .ok (.aload_n 0, 1) := by decide +kernel
theorem dX0_parentByLinks_41 : decode cX0_parentByLinks 41 = .ok (.getfield 15, 3) := by decide +kernel
theorem dX0_parentByLinks_44 : decode cX0_parentByLinks 44 = .ok (.iload_n 2, 1) := by decide +kernel
theorem dX0_parentByLinks_45 : decode cX0_parentByLinks 45 = .ok (.iaload, 1) := by decide +kernel
theorem dX0_parentByLinks_46 : decode cX0_parentByLinks 46 = .ok (.istore_n 2, 1) := by decide +kernel
theorem dX0_parentByLinks_47 : decode cX0_parentByLinks 47 = .ok (.iinc 3 1, 3) := by decide +kernel
theorem dX0_parentByLinks_50 : decode cX0_parentByLinks 50 = .ok (.goto (-46), 3) := by decide +kernel
theorem dX0_parentByLinks_53 : decode cX0_parentByLinks 53 = .ok (.iconst (-1), 1) := by decide +kernel
theorem dX0_parentByLinks_54 : decode cX0_parentByLinks 54 = .ok (.ireturn, 1) := by decide +kernel
theorem dX0_keepMissing_0 : decode cX0_keepMissing 0 = .ok (.iconst 0, 1) := by decide +kernel
theorem dX0_keepMissing_1 : decode cX0_keepMissing 1 = .ok (.istore_n 1, 1) := by decide +kernel
theorem dX0_keepMissing_2 : decode cX0_keepMissing 2 = .ok (.iload_n 1, 1) := by decide +kernel
theorem dX0_keepMissing_3 : decode cX0_keepMissing 3 = .ok (.bipush 30, 2) := by decide +kernel
theorem dX0_keepMissing_5 : decode cX0_keepMissing 5 = .ok (.if_icmp .ge 54, 3) := by decide +kernel
theorem dX0_keepMissing_8 : decode cX0_keepMissing 8 = .ok (.aload_n 0, 1) := by decide +kernel
theorem dX0_keepMissing_9 : decode cX0_keepMissing 9 = .ok (.getfield 22, 3) := by decide +kernel
theorem dX0_keepMissing_12 : decode cX0_keepMissing 12 = .ok (.iload_n 1, 1) := by decide +kernel
theorem dX0_keepMissing_13 : decode cX0_keepMissing 13 = .ok (.aload_n 0, 1) := by decide +kernel
theorem dX0_keepMissing_14 : decode cX0_keepMissing 14 = .ok (.getfield 46, 3) := by decide +kernel
theorem dX0_keepMissing_17 : decode cX0_keepMissing 17 = .ok (.iload_n 1, 1) := by decide +kernel
theorem dX0_keepMissing_18 : decode cX0_keepMissing 18 = .ok (.invokevirtual 89, 3) := by decide +kernel
theorem dX0_keepMissing_21 : decode cX0_keepMissing 21 = .ok (.ifCond .ne 12, 3) := by decide +kernel
theorem dX0_keepMissing_24 : decode cX0_keepMissing 24 = .ok (.aload_n 0, 1) := by decide +kernel
theorem dX0_keepMissing_25 : decode cX0_keepMissing 25 = .ok (.iload_n 1, 1) := by decide +kernel
theorem dX0_keepMissing_26 : decode cX0_keepMissing 26 = .ok (.invokevirtual 117, 3) := by decide +kernel
theorem dX0_keepMissing_29 : decode cX0_keepMissing 29 = .ok (.iconst 2, 1) := by decide +kernel
theorem dX0_keepMissing_30 : decode cX0_keepMissing 30 = .ok (.if_icmp .lt 7, 3) := by decide +kernel
theorem dX0_keepMissing_33 : decode cX0_keepMissing 33 = .ok (.iconst 1, 1) := by decide +kernel
theorem dX0_keepMissing_34 : decode cX0_keepMissing 34 = .ok (.goto 4, 3) := by decide +kernel
theorem dX0_keepMissing_37 : decode cX0_keepMissing 37 = .ok (.iconst 0, 1) := by decide +kernel
theorem dX0_keepMissing_38 : decode cX0_keepMissing 38 = .ok (.bastore, 1) := by decide +kernel
theorem dX0_keepMissing_39 : decode cX0_keepMissing 39 = .ok (.aload_n 0, 1) := by decide +kernel
theorem dX0_keepMissing_40 : decode cX0_keepMissing 40 = .ok (.getfield 22, 3) := by decide +kernel
theorem dX0_keepMissing_43 : decode cX0_keepMissing 43 = .ok (.iload_n 1, 1) := by decide +kernel
theorem dX0_keepMissing_44 : decode cX0_keepMissing 44 = .ok (.baload, 1) := by decide +kernel
theorem dX0_keepMissing_45 : decode cX0_keepMissing 45 = .ok (.ifCond .ne 8, 3) := by decide +kernel
theorem dX0_keepMissing_48 : decode cX0_keepMissing 48 = .ok (.aload_n 0, 1) := by decide +kernel
theorem dX0_keepMissing_49 : decode cX0_keepMissing 49 = .ok (.iload_n 1, 1) := by decide +kernel
theorem dX0_keepMissing_50 : decode cX0_keepMissing 50 = .ok (.invokevirtual 120, 3) := by decide +kernel
theorem dX0_keepMissing_53 : decode cX0_keepMissing 53 = .ok (.iinc 1 1, 3) := by decide +kernel
theorem dX0_keepMissing_56 : decode cX0_keepMissing 56 = .ok (.goto (-54), 3) := by decide +kernel
theorem dX0_keepMissing_59 : decode cX0_keepMissing 59 = .ok (.return_, 1) := by decide +kernel
theorem dX0_freeChildren_0 : decode cX0_freeChildren 0 = .ok (.iconst 0, 1) := by decide +kernel
theorem dX0_freeChildren_1 : decode cX0_freeChildren 1 = .ok (.istore_n 2, 1) := by decide +kernel
theorem dX0_freeChildren_2 : decode cX0_freeChildren 2 = .ok (.iload_n 2, 1) := by decide +kernel
theorem dX0_freeChildren_3 : decode cX0_freeChildren 3 = .ok (.bipush 30, 2) := by decide +kernel
theorem dX0_freeChildren_5 : decode cX0_freeChildren 5 = .ok (.if_icmp .ge 26, 3) := by decide +kernel
theorem dX0_freeChildren_8 : decode cX0_freeChildren 8 = .ok (.aload_n 0, 1) := by decide +kernel
theorem dX0_freeChildren_9 : decode cX0_freeChildren 9 = .ok (.getfield 19, 3) := by decide +kernel
theorem dX0_freeChildren_12 : decode cX0_freeChildren 12 = .ok (.iload_n 2, 1) := by decide +kernel
theorem dX0_freeChildren_13 : decode cX0_freeChildren 13 = .ok (.iaload, 1) := by decide +kernel
theorem dX0_freeChildren_14 : decode cX0_freeChildren 14 = .ok (.iload_n 1, 1) := by decide +kernel
theorem dX0_freeChildren_15 : decode cX0_freeChildren 15 = .ok (.if_icmp .ne 10, 3) := by decide +kernel
theorem dX0_freeChildren_18 : decode cX0_freeChildren 18 = .ok (.aload_n 0, 1) := by decide +kernel
theorem dX0_freeChildren_19 : decode cX0_freeChildren 19 = .ok (.getfield 19, 3) := by decide +kernel
theorem dX0_freeChildren_22 : decode cX0_freeChildren 22 = .ok (.iload_n 2, 1) := by decide +kernel
theorem dX0_freeChildren_23 : decode cX0_freeChildren 23 = .ok (.iconst (-1), 1) := by decide +kernel
theorem dX0_freeChildren_24 : decode cX0_freeChildren 24 = .ok (.iastore, 1) := by decide +kernel
theorem dX0_freeChildren_25 : decode cX0_freeChildren 25 = .ok (.iinc 2 1, 3) := by decide +kernel
theorem dX0_freeChildren_28 : decode cX0_freeChildren 28 = .ok (.goto (-26), 3) := by decide +kernel
theorem dX0_freeChildren_31 : decode cX0_freeChildren 31 = .ok (.return_, 1) := by decide +kernel
theorem dX0_hangReplies_0 : decode cX0_hangReplies 0 = .ok (.iconst 0, 1) := by decide +kernel
theorem dX0_hangReplies_1 : decode cX0_hangReplies 1 = .ok (.istore_n 1, 1) := by decide +kernel
theorem dX0_hangReplies_2 : decode cX0_hangReplies 2 = .ok (.iload_n 1, 1) := by decide +kernel
theorem dX0_hangReplies_3 : decode cX0_hangReplies 3 = .ok (.bipush 30, 2) := by decide +kernel
theorem dX0_hangReplies_5 : decode cX0_hangReplies 5 = .ok (.if_icmp .ge 54, 3) := by decide +kernel
theorem dX0_hangReplies_8 : decode cX0_hangReplies 8 = .ok (.aload_n 0, 1) := by decide +kernel
theorem dX0_hangReplies_9 : decode cX0_hangReplies 9 = .ok (.getfield 46, 3) := by decide +kernel
theorem dX0_hangReplies_12 : decode cX0_hangReplies 12 = .ok (.iload_n 1, 1) := by decide +kernel
theorem dX0_hangReplies_13 : decode cX0_hangReplies 13 = .ok (.invokevirtual 123, 3) := by decide +kernel
theorem dX0_hangReplies_16 : decode cX0_hangReplies 16 = .ok (.ifCond .eq 37, 3) := by decide +kernel
theorem dX0_hangReplies_19 : decode cX0_hangReplies 19 = .ok (.aload_n 0, 1) := by decide +kernel
theorem dX0_hangReplies_20 : decode cX0_hangReplies 20 = .ok (.getfield 19, 3) := by decide +kernel
theorem dX0_hangReplies_23 : decode cX0_hangReplies 23 = .ok (.iload_n 1, 1) := by decide +kernel
theorem dX0_hangReplies_24 : decode cX0_hangReplies 24 = .ok (.iaload, 1) := by decide +kernel
theorem dX0_hangReplies_25 : decode cX0_hangReplies 25 = .ok (.iconst (-1), 1) := by decide +kernel
theorem dX0_hangReplies_26 : decode cX0_hangReplies 26 = .ok (.if_icmp .ne 27, 3) := by decide +kernel
theorem dX0_hangReplies_29 : decode cX0_hangReplies 29 = .ok (.aload_n 0, 1) := by decide +kernel
theorem dX0_hangReplies_30 : decode cX0_hangReplies 30 = .ok (.getfield 46, 3) := by decide +kernel
theorem dX0_hangReplies_33 : decode cX0_hangReplies 33 = .ok (.iload_n 1, 1) := by decide +kernel
theorem dX0_hangReplies_34 : decode cX0_hangReplies 34 = .ok (.invokevirtual 104, 3) := by decide +kernel
theorem dX0_hangReplies_37 : decode cX0_hangReplies 37 = .ok (.bipush (-2), 2) := by decide +kernel
theorem dX0_hangReplies_39 : decode cX0_hangReplies 39 = .ok (.if_icmp .eq 14, 3) := by decide +kernel
theorem dX0_hangReplies_42 : decode cX0_hangReplies 42 = .ok (.aload_n 0, 1) := by decide +kernel
theorem dX0_hangReplies_43 : decode cX0_hangReplies 43 = .ok (.getfield 19, 3) := by decide +kernel
theorem dX0_hangReplies_46 : decode cX0_hangReplies 46 = .ok (.iload_n 1, 1) := by decide +kernel
theorem dX0_hangReplies_47 : decode cX0_hangReplies 47 = .ok (.aload_n 0, 1) := by decide +kernel
theorem dX0_hangReplies_48 : decode cX0_hangReplies 48 = .ok (.iload_n 1, 1) := by decide +kernel
theorem dX0_hangReplies_49 : decode cX0_hangReplies 49 = .ok (.invokevirtual 126, 3) := by decide +kernel
theorem dX0_hangReplies_52 : decode cX0_hangReplies 52 = .ok (.iastore, 1) := by decide +kernel
theorem dX0_hangReplies_53 : decode cX0_hangReplies 53 = .ok (.iinc 1 1, 3) := by decide +kernel
theorem dX0_hangReplies_56 : decode cX0_hangReplies 56 = .ok (.goto (-54), 3) := by decide +kernel
theorem dX0_hangReplies_59 : decode cX0_hangReplies 59 = .ok (.return_, 1) := by decide +kernel
theorem dX0_letterAnsweredBy_0 : decode cX0_letterAnsweredBy 0 = .ok (.iconst (-1), 1) := by decide +kernel
theorem dX0_letterAnsweredBy_1 : decode cX0_letterAnsweredBy 1 = .ok (.istore_n 2, 1) := by decide +kernel
theorem dX0_letterAnsweredBy_2 : decode cX0_letterAnsweredBy 2 = .ok (.iconst 0, 1) := by decide +kernel
theorem dX0_letterAnsweredBy_3 : decode cX0_letterAnsweredBy 3 = .ok (.istore_n 3, 1) := by decide +kernel
theorem dX0_letterAnsweredBy_4 : decode cX0_letterAnsweredBy 4 = .ok (.iload_n 3, 1) := by decide +kernel
theorem dX0_letterAnsweredBy_5 : decode cX0_letterAnsweredBy 5 = .ok (.bipush 30, 2) := by decide +kernel
theorem dX0_letterAnsweredBy_7 : decode cX0_letterAnsweredBy 7 = .ok (.if_icmp .ge 69, 3) := by decide +kernel
theorem dX0_letterAnsweredBy_10 : decode cX0_letterAnsweredBy 10 = .ok (.aload_n 0, 1) := by decide +kernel
theorem dX0_letterAnsweredBy_11 : decode cX0_letterAnsweredBy 11 = .ok (.getfield 19, 3) := by decide +kernel
theorem dX0_letterAnsweredBy_14 : decode cX0_letterAnsweredBy 14 = .ok (.iload_n 3, 1) := by decide +kernel
theorem dX0_letterAnsweredBy_15 : decode cX0_letterAnsweredBy 15 = .ok (.iaload, 1) := by decide +kernel
theorem dX0_letterAnsweredBy_16 : decode cX0_letterAnsweredBy 16 = .ok (.iconst (-1), 1) := by decide +kernel
theorem dX0_letterAnsweredBy_17 : decode cX0_letterAnsweredBy 17 = .ok (.if_icmp .ne 19, 3) := by decide +kernel
theorem dX0_letterAnsweredBy_20 : decode cX0_letterAnsweredBy 20 = .ok (.aload_n 0, 1) := by decide +kernel
theorem dX0_letterAnsweredBy_21 : decode cX0_letterAnsweredBy 21 = .ok (.getfield 46, 3) := by decide +kernel
theorem dX0_letterAnsweredBy_24 : decode cX0_letterAnsweredBy 24 = .ok (.iload_n 3, 1) := by decide +kernel
theorem dX0_letterAnsweredBy_25 : decode cX0_letterAnsweredBy 25 = .ok (.iload_n 1, 1) := by decide +kernel
theorem dX0_letterAnsweredBy_26 : decode cX0_letterAnsweredBy 26 = .ok (.invokevirtual 129, 3) := by decide +kernel
theorem dX0_letterAnsweredBy_29 : decode cX0_letterAnsweredBy 29 = .ok (.ifCond .eq 7, 3) := by decide +kernel
theorem dX0_letterAnsweredBy_32 : decode cX0_letterAnsweredBy 32 = .ok (.iconst 1, 1) := by decide +kernel
theorem dX0_letterAnsweredBy_33 : decode cX0_letterAnsweredBy 33 = .ok (.goto 4, 3) := by decide +kernel
theorem dX0_letterAnsweredBy_36 : decode cX0_letterAnsweredBy 36 = .ok (.iconst 0, 1) := by decide +kernel
theorem dX0_letterAnsweredBy_37 : decode cX0_letterAnsweredBy 37 = .ok (.istore 4, 2) := by decide +kernel
theorem dX0_letterAnsweredBy_39 : decode cX0_letterAnsweredBy 39 = .ok (.iload 4, 2) := by decide +kernel
theorem dX0_letterAnsweredBy_41 : decode cX0_letterAnsweredBy 41 = .ok (.ifCond .eq 29, 3) := by decide +kernel
theorem dX0_letterAnsweredBy_44 : decode cX0_letterAnsweredBy 44 = .ok (.iload_n 2, 1) := by decide +kernel
theorem dX0_letterAnsweredBy_45 : decode cX0_letterAnsweredBy 45 = .ok (.iconst (-1), 1) := by decide +kernel
theorem dX0_letterAnsweredBy_46 : decode cX0_letterAnsweredBy 46 = .ok (.if_icmp .eq 22, 3) := by decide +kernel
theorem dX0_letterAnsweredBy_49 : decode cX0_letterAnsweredBy 49 = .ok (.aload_n 0, 1) := by decide +kernel
theorem dX0_letterAnsweredBy_50 : decode cX0_letterAnsweredBy 50 = .ok (.getfield 46, 3) := by decide +kernel
theorem dX0_letterAnsweredBy_53 : decode cX0_letterAnsweredBy 53 = .ok (.iload_n 3, 1) := by decide +kernel
theorem dX0_letterAnsweredBy_54 : decode cX0_letterAnsweredBy 54 = .ok (.invokevirtual 132, 3) := by decide +kernel
theorem dX0_letterAnsweredBy_57 : decode cX0_letterAnsweredBy 57 = .ok (.aload_n 0, 1) := by decide +kernel
theorem dX0_letterAnsweredBy_58 : decode cX0_letterAnsweredBy 58 = .ok (.getfield 46, 3) := by decide +kernel
theorem dX0_letterAnsweredBy_61 : decode cX0_letterAnsweredBy 61 = .ok (.iload_n 2, 1) := by decide +kernel
theorem dX0_letterAnsweredBy_62 : decode cX0_letterAnsweredBy 62 = .ok (.invokevirtual 132, 3) := by decide +kernel
theorem dX0_letterAnsweredBy_65 : decode cX0_letterAnsweredBy 65 = .ok (.if_icmp .le 5, 3) := by decide +kernel
theorem dX0_letterAnsweredBy_68 : decode cX0_letterAnsweredBy 68 = .ok (.iload_n 3, 1) := by decide +kernel
theorem dX0_letterAnsweredBy_69 : decode cX0_letterAnsweredBy 69 = .ok (.istore_n 2, 1) := by decide +kernel
theorem dX0_letterAnsweredBy_70 : decode cX0_letterAnsweredBy 70 = .ok (.iinc 3 1, 3) := by decide +kernel
theorem dX0_letterAnsweredBy_73 : decode cX0_letterAnsweredBy 73 = .ok (.goto (-69), 3) := by decide +kernel
theorem dX0_letterAnsweredBy_76 : decode cX0_letterAnsweredBy 76 = .ok (.iload_n 2, 1) := by decide +kernel
theorem dX0_letterAnsweredBy_77 : decode cX0_letterAnsweredBy 77 = .ok (.ireturn, 1) := by decide +kernel
theorem dX0_measureTrees_0 : decode cX0_measureTrees 0 = .ok (.iconst 0, 1) := by decide +kernel
theorem dX0_measureTrees_1 : decode cX0_measureTrees 1 = .ok (.istore_n 1, 1) := by decide +kernel
theorem dX0_measureTrees_2 : decode cX0_measureTrees 2 = .ok (.iload_n 1, 1) := by decide +kernel
theorem dX0_measureTrees_3 : decode cX0_measureTrees 3 = .ok (.bipush 30, 2) := by decide +kernel
theorem dX0_measureTrees_5 : decode cX0_measureTrees 5 = .ok (.if_icmp .ge 25, 3) := by decide +kernel
theorem dX0_measureTrees_8 : decode cX0_measureTrees 8 = .ok (.aload_n 0, 1) := by decide +kernel
theorem dX0_measureTrees_9 : decode cX0_measureTrees 9 = .ok (.getfield 31, 3) := by decide +kernel
theorem dX0_measureTrees_12 : decode cX0_measureTrees 12 = .ok (.iload_n 1, 1) := by decide +kernel
theorem dX0_measureTrees_13 : decode cX0_measureTrees 13 = .ok (.iconst 0, 1) := by decide +kernel
theorem dX0_measureTrees_14 : decode cX0_measureTrees 14 = .ok (.iastore, 1) := by decide +kernel
theorem dX0_measureTrees_15 : decode cX0_measureTrees 15 = .ok (.aload_n 0, 1) := by decide +kernel
theorem dX0_measureTrees_16 : decode cX0_measureTrees 16 = .ok (.getfield 25, 3) := by decide +kernel
theorem dX0_measureTrees_19 : decode cX0_measureTrees 19 = .ok (.iload_n 1, 1) := by decide +kernel
theorem dX0_measureTrees_20 : decode cX0_measureTrees 20 = .ok (.sipush 1000, 3) := by decide +kernel
theorem dX0_measureTrees_23 : decode cX0_measureTrees 23 = .ok (.iastore, 1) := by decide +kernel
theorem dX0_measureTrees_24 : decode cX0_measureTrees 24 = .ok (.iinc 1 1, 3) := by decide +kernel
theorem dX0_measureTrees_27 : decode cX0_measureTrees 27 = .ok (.goto (-25), 3) := by decide +kernel
theorem dX0_measureTrees_30 : decode cX0_measureTrees 30 = .ok (.iconst 0, 1) := by decide +kernel
theorem dX0_measureTrees_31 : decode cX0_measureTrees 31 = .ok (.istore_n 1, 1) := by decide +kernel
theorem dX0_measureTrees_32 : decode cX0_measureTrees 32 = .ok (.iload_n 1, 1) := by decide +kernel
theorem dX0_measureTrees_33 : decode cX0_measureTrees 33 = .ok (.bipush 30, 2) := by decide +kernel
theorem dX0_measureTrees_35 : decode cX0_measureTrees 35 = .ok (.if_icmp .ge 23, 3) := by decide +kernel
theorem dX0_measureTrees_38 : decode cX0_measureTrees 38 = .ok (.aload_n 0, 1) := by decide +kernel
theorem dX0_measureTrees_39 : decode cX0_measureTrees 39 = .ok (.getfield 22, 3) := by decide +kernel
theorem dX0_measureTrees_42 : decode cX0_measureTrees 42 = .ok (.iload_n 1, 1) := by decide +kernel
theorem dX0_measureTrees_43 : decode cX0_measureTrees 43 = .ok (.baload, 1) := by decide +kernel
theorem dX0_measureTrees_44 : decode cX0_measureTrees 44 = .ok (.ifCond .eq 8, 3) := by decide +kernel
theorem dX0_measureTrees_47 : decode cX0_measureTrees 47 = .ok (.aload_n 0, 1) := by decide +kernel
theorem dX0_measureTrees_48 : decode cX0_measureTrees 48 = .ok (.iload_n 1, 1) := by decide +kernel
theorem dX0_measureTrees_49 : decode cX0_measureTrees 49 = .ok (.invokevirtual 135, 3) := by decide +kernel
theorem dX0_measureTrees_52 : decode cX0_measureTrees 52 = .ok (.iinc 1 1, 3) := by decide +kernel
theorem dX0_measureTrees_55 : decode cX0_measureTrees 55 = .ok (.goto (-23), 3) := by decide +kernel
theorem dX0_measureTrees_58 : decode cX0_measureTrees 58 = .ok (.iconst 0, 1) := by decide +kernel
theorem dX0_measureTrees_59 : decode cX0_measureTrees 59 = .ok (.istore_n 1, 1) := by decide +kernel
theorem dX0_measureTrees_60 : decode cX0_measureTrees 60 = .ok (.iload_n 1, 1) := by decide +kernel
theorem dX0_measureTrees_61 : decode cX0_measureTrees 61 = .ok (.bipush 30, 2) := by decide +kernel
theorem dX0_measureTrees_63 : decode cX0_measureTrees 63 = .ok (.if_icmp .ge 42, 3) := by decide +kernel
theorem dX0_measureTrees_66 : decode cX0_measureTrees 66 = .ok (.aload_n 0, 1) := by decide +kernel
theorem dX0_measureTrees_67 : decode cX0_measureTrees 67 = .ok (.getfield 28, 3) := by decide +kernel
theorem dX0_measureTrees_70 : decode cX0_measureTrees 70 = .ok (.iload_n 1, 1) := by decide +kernel
theorem dX0_measureTrees_71 : decode cX0_measureTrees 71 = .ok (.aload_n 0, 1) := by decide +kernel
theorem dX0_measureTrees_72 : decode cX0_measureTrees 72 = .ok (.getfield 19, 3) := by decide +kernel
theorem dX0_measureTrees_75 : decode cX0_measureTrees 75 = .ok (.iload_n 1, 1) := by decide +kernel
theorem dX0_measureTrees_76 : decode cX0_measureTrees 76 = .ok (.iaload, 1) := by decide +kernel
theorem dX0_measureTrees_77 : decode cX0_measureTrees 77 = .ok (.iconst (-1), 1) := by decide +kernel
theorem dX0_measureTrees_78 : decode cX0_measureTrees 78 = .ok (.if_icmp .ne 12, 3) := by decide +kernel
theorem dX0_measureTrees_81 : decode cX0_measureTrees 81 = .ok (.aload_n 0, 1) := by decide +kernel
theorem dX0_measureTrees_82 : decode cX0_measureTrees 82 = .ok (.getfield 25, 3) := by decide +kernel
theorem dX0_measureTrees_85 : decode cX0_measureTrees 85 = .ok (.iload_n 1, 1) := by decide +kernel
theorem dX0_measureTrees_86 : decode cX0_measureTrees 86 = .ok (.iaload, 1) := by decide +kernel
theorem dX0_measureTrees_87 : decode cX0_measureTrees 87 = .ok (.goto 11, 3) := by decide +kernel
theorem dX0_measureTrees_90 : decode cX0_measureTrees 90 = .ok (.aload_n 0, 1) := by decide +kernel
theorem dX0_measureTrees_91 : decode cX0_measureTrees 91 = .ok (.getfield 46, 3) := by decide +kernel
theorem dX0_measureTrees_94 : decode cX0_measureTrees 94 = .ok (.iload_n 1, 1) := by decide +kernel
theorem dX0_measureTrees_95 : decode cX0_measureTrees 95 = .ok (.invokevirtual 132, 3) := by decide +kernel
theorem dX0_measureTrees_98 : decode cX0_measureTrees 98 = .ok (.iastore, 1) := by decide +kernel
theorem dX0_measureTrees_99 : decode cX0_measureTrees 99 = .ok (.iinc 1 1, 3) := by decide +kernel
theorem dX0_measureTrees_102 : decode cX0_measureTrees 102 = .ok (.goto (-42), 3) := by decide +kernel
theorem dX0_measureTrees_105 : decode cX0_measureTrees 105 = .ok (.return_, 1) := by decide +kernel
theorem dX0_countUpwards_0 : decode cX0_countUpwards 0 = .ok (.aload_n 0, 1) := by decide +kernel
theorem dX0_countUpwards_1 : decode cX0_countUpwards 1 = .ok (.getfield 46, 3) := by decide +kernel
theorem dX0_countUpwards_4 : decode cX0_countUpwards 4 = .ok (.iload_n 1, 1) := by decide +kernel
theorem dX0_countUpwards_5 : decode cX0_countUpwards 5 = .ok (.invokevirtual 132, 3) := by decide +kernel
theorem dX0_countUpwards_8 : decode cX0_countUpwards 8 = .ok (.istore_n 2, 1) := by decide +kernel
theorem dX0_countUpwards_9 : decode cX0_countUpwards 9 = .ok (.iload_n 1, 1) := by decide +kernel
theorem dX0_countUpwards_10 : decode cX0_countUpwards 10 = .ok (.istore_n 3, 1) := by decide +kernel
theorem dX0_countUpwards_11 : decode cX0_countUpwards 11 = .ok (.iconst 0, 1) := by decide +kernel
theorem dX0_countUpwards_12 : decode cX0_countUpwards 12 = .ok (.istore 4, 2) := by decide +kernel
theorem dX0_countUpwards_14 : decode cX0_countUpwards 14 = .ok (.iload_n 3, 1) := by decide +kernel
theorem dX0_countUpwards_15 : decode cX0_countUpwards 15 = .ok (.invokestatic 50, 3) := by decide +kernel
theorem dX0_countUpwards_18 : decode cX0_countUpwards 18 = .ok (.ifCond .eq 49, 3) := by decide +kernel
theorem dX0_countUpwards_21 : decode cX0_countUpwards 21 = .ok (.iload 4, 2) := by decide +kernel
theorem dX0_countUpwards_23 : decode cX0_countUpwards 23 = .ok (.bipush 30, 2) := by decide +kernel
theorem dX0_countUpwards_25 : decode cX0_countUpwards 25 = .ok (.if_icmp .ge 42, 3) := by decide +kernel
theorem dX0_countUpwards_28 : decode cX0_countUpwards 28 = .ok (.aload_n 0, 1) := by decide +kernel
theorem dX0_countUpwards_29 : decode cX0_countUpwards 29 = .ok (.getfield 31, 3) := by decide +kernel
theorem dX0_countUpwards_32 : decode cX0_countUpwards 32 = .ok (.iload_n 3, 1) := by decide +kernel
theorem dX0_countUpwards_33 : decode cX0_countUpwards 33 = .ok (.dup2, 1) := by decide +kernel
theorem dX0_countUpwards_34 : decode cX0_countUpwards 34 = .ok (.iaload, 1) := by decide +kernel
theorem dX0_countUpwards_35 : decode cX0_countUpwards 35 = .ok (.iconst 1, 1) := by decide +kernel
theorem dX0_countUpwards_36 : decode cX0_countUpwards 36 = .ok (.iadd, 1) := by decide +kernel
theorem dX0_countUpwards_37 : decode cX0_countUpwards 37 = .ok (.iastore, 1) := by decide +kernel
theorem dX0_countUpwards_38 : decode cX0_countUpwards 38 = .ok (.aload_n 0, 1) := by decide +kernel
theorem dX0_countUpwards_39 : decode cX0_countUpwards 39 = .ok (.getfield 25, 3) := by decide +kernel
theorem dX0_countUpwards_42 : decode cX0_countUpwards 42 = .ok (.iload_n 3, 1) := by decide +kernel
theorem dX0_countUpwards_43 : decode cX0_countUpwards 43 = .ok (.aload_n 0, 1) := by decide +kernel
theorem dX0_countUpwards_44 : decode cX0_countUpwards 44 = .ok (.getfield 25, 3) := by decide +kernel
theorem dX0_countUpwards_47 : decode cX0_countUpwards 47 = .ok (.iload_n 3, 1) := by decide +kernel
theorem dX0_countUpwards_48 : decode cX0_countUpwards 48 = .ok (.iaload, 1) := by decide +kernel
theorem dX0_countUpwards_49 : decode cX0_countUpwards 49 = .ok (.iload_n 2, 1) := by decide +kernel
theorem dX0_countUpwards_50 : decode cX0_countUpwards 50 = .ok (.invokestatic 138, 3) := by decide +kernel
theorem dX0_countUpwards_53 : decode cX0_countUpwards 53 = .ok (.iastore, 1) := by decide +kernel
theorem dX0_countUpwards_54 : decode cX0_countUpwards 54 = .ok (.aload_n 0, 1) := by decide +kernel
theorem dX0_countUpwards_55 : decode cX0_countUpwards 55 = .ok (.getfield 19, 3) := by decide +kernel
theorem dX0_countUpwards_58 : decode cX0_countUpwards 58 = .ok (.iload_n 3, 1) := by decide +kernel
theorem dX0_countUpwards_59 : decode cX0_countUpwards 59 = .ok (.iaload, 1) := by decide +kernel
theorem dX0_countUpwards_60 : decode cX0_countUpwards 60 = .ok (.istore_n 3, 1) := by decide +kernel
theorem dX0_countUpwards_61 : decode cX0_countUpwards 61 = .ok (.iinc 4 1, 3) := by decide +kernel
theorem dX0_countUpwards_64 : decode cX0_countUpwards 64 = .ok (.goto (-50), 3) := by decide +kernel
theorem dX0_countUpwards_67 : decode cX0_countUpwards 67 = .ok (.return_, 1) := by decide +kernel
theorem dX0_comesBefore_0 : decode cX0_comesBefore 0 = .ok (.aload_n 0, 1) := by decide +kernel
theorem dX0_comesBefore_1 : decode cX0_comesBefore 1 = .ok (.iload_n 1, 1) := by decide +kernel
theorem dX0_comesBefore_2 : decode cX0_comesBefore 2 = .ok (.invokevirtual 54, 3) := by decide +kernel
theorem dX0_comesBefore_5 : decode cX0_comesBefore 5 = .ok (.ifCond .eq 26, 3) := by decide +kernel
theorem dX0_comesBefore_8 : decode cX0_comesBefore 8 = .ok (.aload_n 0, 1) := by decide +kernel
theorem dX0_comesBefore_9 : decode cX0_comesBefore 9 = .ok (.iload_n 2, 1) := by decide +kernel
theorem dX0_comesBefore_10 : decode cX0_comesBefore 10 = .ok (.invokevirtual 54, 3) := by decide +kernel
theorem dX0_comesBefore_13 : decode cX0_comesBefore 13 = .ok (.ifCond .eq 18, 3) := by decide +kernel
theorem dX0_comesBefore_16 : decode cX0_comesBefore 16 = .ok (.aload_n 0, 1) := by decide +kernel
theorem dX0_comesBefore_17 : decode cX0_comesBefore 17 = .ok (.getfield 19, 3) := by decide +kernel
theorem dX0_comesBefore_20 : decode cX0_comesBefore 20 = .ok (.iload_n 1, 1) := by decide +kernel
theorem dX0_comesBefore_21 : decode cX0_comesBefore 21 = .ok (.iaload, 1) := by decide +kernel
theorem dX0_comesBefore_22 : decode cX0_comesBefore 22 = .ok (.aload_n 0, 1) := by decide +kernel
theorem dX0_comesBefore_23 : decode cX0_comesBefore 23 = .ok (.getfield 19, 3) := by decide +kernel
theorem dX0_comesBefore_26 : decode cX0_comesBefore 26 = .ok (.iload_n 2, 1) := by decide +kernel
theorem dX0_comesBefore_27 : decode cX0_comesBefore 27 = .ok (.iaload, 1) := by decide +kernel
theorem dX0_comesBefore_28 : decode cX0_comesBefore 28 = .ok (.if_icmp .eq 5, 3) := by decide +kernel
theorem dX0_comesBefore_31 : decode cX0_comesBefore 31 = .ok (.iconst 0, 1) := by decide +kernel
theorem dX0_comesBefore_32 : decode cX0_comesBefore 32 = .ok (.ireturn, 1) := by decide +kernel
theorem dX0_comesBefore_33 : decode cX0_comesBefore 33 = .ok (.aload_n 0, 1) := by decide +kernel
theorem dX0_comesBefore_34 : decode cX0_comesBefore 34 = .ok (.getfield 28, 3) := by decide +kernel
theorem dX0_comesBefore_37 : decode cX0_comesBefore 37 = .ok (.iload_n 1, 1) := by decide +kernel
theorem dX0_comesBefore_38 : decode cX0_comesBefore 38 = .ok (.iaload, 1) := by decide +kernel
theorem dX0_comesBefore_39 : decode cX0_comesBefore 39 = .ok (.aload_n 0, 1) := by decide +kernel
theorem dX0_comesBefore_40 : decode cX0_comesBefore 40 = .ok (.getfield 28, 3) := by decide +kernel
theorem dX0_comesBefore_43 : decode cX0_comesBefore 43 = .ok (.iload_n 2, 1) := by decide +kernel
theorem dX0_comesBefore_44 : decode cX0_comesBefore 44 = .ok (.iaload, 1) := by decide +kernel
theorem dX0_comesBefore_45 : decode cX0_comesBefore 45 = .ok (.if_icmp .lt 23, 3) := by decide +kernel
theorem dX0_comesBefore_48 : decode cX0_comesBefore 48 = .ok (.aload_n 0, 1) := by decide +kernel
theorem dX0_comesBefore_49 : decode cX0_comesBefore 49 = .ok (.getfield 28, 3) := by decide +kernel
theorem dX0_comesBefore_52 : decode cX0_comesBefore 52 = .ok (.iload_n 1, 1) := by decide +kernel
theorem dX0_comesBefore_53 : decode cX0_comesBefore 53 = .ok (.iaload, 1) := by decide +kernel
theorem dX0_comesBefore_54 : decode cX0_comesBefore 54 = .ok (.aload_n 0, 1) := by decide +kernel
theorem dX0_comesBefore_55 : decode cX0_comesBefore 55 = .ok (.getfield 28, 3) := by decide +kernel
theorem dX0_comesBefore_58 : decode cX0_comesBefore 58 = .ok (.iload_n 2, 1) := by decide +kernel
theorem dX0_comesBefore_59 : decode cX0_comesBefore 59 = .ok (.iaload, 1) := by decide +kernel
theorem dX0_comesBefore_60 : decode cX0_comesBefore 60 = .ok (.if_icmp .ne 12, 3) := by decide +kernel
theorem dX0_comesBefore_63 : decode cX0_comesBefore 63 = .ok (.iload_n 1, 1) := by decide +kernel
theorem dX0_comesBefore_64 : decode cX0_comesBefore 64 = .ok (.iload_n 2, 1) := by decide +kernel
theorem dX0_comesBefore_65 : decode cX0_comesBefore 65 = .ok (.if_icmp .ge 7, 3) := by decide +kernel
theorem dX0_comesBefore_68 : decode cX0_comesBefore 68 = .ok (.iconst 1, 1) := by decide +kernel
theorem dX0_comesBefore_69 : decode cX0_comesBefore 69 = .ok (.goto 4, 3) := by decide +kernel
theorem dX0_comesBefore_72 : decode cX0_comesBefore 72 = .ok (.iconst 0, 1) := by decide +kernel
theorem dX0_comesBefore_73 : decode cX0_comesBefore 73 = .ok (.ireturn, 1) := by decide +kernel
theorem dX0_placeRoots_0 : decode cX0_placeRoots 0 = .ok (.aload_n 0, 1) := by decide +kernel
theorem dX0_placeRoots_1 : decode cX0_placeRoots 1 = .ok (.iconst 0, 1) := by decide +kernel
theorem dX0_placeRoots_2 : decode cX0_placeRoots 2 = .ok (.putfield 57, 3) := by decide +kernel
theorem dX0_placeRoots_5 : decode cX0_placeRoots 5 = .ok (.iconst 0, 1) := by decide +kernel
theorem dX0_placeRoots_6 : decode cX0_placeRoots 6 = .ok (.istore_n 1, 1) := by decide +kernel
theorem dX0_placeRoots_7 : decode cX0_placeRoots 7 = .ok (.iload_n 1, 1) := by decide +kernel
theorem dX0_placeRoots_8 : decode cX0_placeRoots 8 = .ok (.bipush 30, 2) := by decide +kernel
theorem dX0_placeRoots_10 : decode cX0_placeRoots 10 = .ok (.if_icmp .ge 43, 3) := by decide +kernel
theorem dX0_placeRoots_13 : decode cX0_placeRoots 13 = .ok (.aload_n 0, 1) := by decide +kernel
theorem dX0_placeRoots_14 : decode cX0_placeRoots 14 = .ok (.getfield 22, 3) := by decide +kernel
theorem dX0_placeRoots_17 : decode cX0_placeRoots 17 = .ok (.iload_n 1, 1) := by decide +kernel
theorem dX0_placeRoots_18 : decode cX0_placeRoots 18 = .ok (.baload, 1) := by decide +kernel
theorem dX0_placeRoots_19 : decode cX0_placeRoots 19 = .ok (.ifCond .eq 28, 3) := by decide +kernel
theorem dX0_placeRoots_22 : decode cX0_placeRoots 22 = .ok (.aload_n 0, 1) := by decide +kernel
theorem dX0_placeRoots_23 : decode cX0_placeRoots 23 = .ok (.getfield 19, 3) := by decide +kernel
theorem dX0_placeRoots_26 : decode cX0_placeRoots 26 = .ok (.iload_n 1, 1) := by decide +kernel
theorem dX0_placeRoots_27 : decode cX0_placeRoots 27 = .ok (.iaload, 1) := by decide +kernel
theorem dX0_placeRoots_28 : decode cX0_placeRoots 28 = .ok (.iconst (-1), 1) := by decide +kernel
theorem dX0_placeRoots_29 : decode cX0_placeRoots 29 = .ok (.if_icmp .ne 18, 3) := by decide +kernel
theorem dX0_placeRoots_32 : decode cX0_placeRoots 32 = .ok (.aload_n 0, 1) := by decide +kernel
theorem dX0_placeRoots_33 : decode cX0_placeRoots 33 = .ok (.iload_n 1, 1) := by decide +kernel
theorem dX0_placeRoots_34 : decode cX0_placeRoots 34 = .ok (.invokevirtual 144, 3) := by decide +kernel
theorem dX0_placeRoots_37 : decode cX0_placeRoots 37 = .ok (.aload_n 0, 1) := by decide +kernel
theorem dX0_placeRoots_38 : decode cX0_placeRoots 38 = .ok (.dup, 1) := by decide +kernel
theorem dX0_placeRoots_39 : decode cX0_placeRoots 39 = .ok (.getfield 57, 3) := by decide +kernel
theorem dX0_placeRoots_42 : decode cX0_placeRoots 42 = .ok (.iconst 1, 1) := by decide +kernel
theorem dX0_placeRoots_43 : decode cX0_placeRoots 43 = .ok (.iadd, 1) := by decide +kernel
theorem dX0_placeRoots_44 : decode cX0_placeRoots 44 = .ok (.putfield 57, 3) := by decide +kernel
theorem dX0_placeRoots_47 : decode cX0_placeRoots 47 = .ok (.iinc 1 1, 3) := by decide +kernel
theorem dX0_placeRoots_50 : decode cX0_placeRoots 50 = .ok (.goto (-43), 3) := by decide +kernel
theorem dX0_placeRoots_53 : decode cX0_placeRoots 53 = .ok (.return_, 1) := by decide +kernel
theorem dX0_placeRoot_0 : decode cX0_placeRoot 0 = .ok (.iconst 0, 1) := by decide +kernel
theorem dX0_placeRoot_1 : decode cX0_placeRoot 1 = .ok (.istore_n 2, 1) := by decide +kernel
theorem dX0_placeRoot_2 : decode cX0_placeRoot 2 = .ok (.iconst 0, 1) := by decide +kernel
theorem dX0_placeRoot_3 : decode cX0_placeRoot 3 = .ok (.istore_n 3, 1) := by decide +kernel
theorem dX0_placeRoot_4 : decode cX0_placeRoot 4 = .ok (.iload_n 3, 1) := by decide +kernel
theorem dX0_placeRoot_5 : decode cX0_placeRoot 5 = .ok (.bipush 30, 2) := by decide +kernel
theorem dX0_placeRoot_7 : decode cX0_placeRoot 7 = .ok (.if_icmp .ge 21, 3) := by decide +kernel
theorem dX0_placeRoot_10 : decode cX0_placeRoot 10 = .ok (.aload_n 0, 1) := by decide +kernel
theorem dX0_placeRoot_11 : decode cX0_placeRoot 11 = .ok (.iload_n 3, 1) := by decide +kernel
theorem dX0_placeRoot_12 : decode cX0_placeRoot 12 = .ok (.iload_n 1, 1) := by decide +kernel
theorem dX0_placeRoot_13 : decode cX0_placeRoot 13 = .ok (.invokevirtual 147, 3) := by decide +kernel
theorem dX0_placeRoot_16 : decode cX0_placeRoot 16 = .ok (.ifCond .eq 6, 3) := by decide +kernel
theorem dX0_placeRoot_19 : decode cX0_placeRoot 19 = .ok (.iinc 2 1, 3) := by decide +kernel
theorem dX0_placeRoot_22 : decode cX0_placeRoot 22 = .ok (.iinc 3 1, 3) := by decide +kernel
theorem dX0_placeRoot_25 : decode cX0_placeRoot 25 = .ok (.goto (-21), 3) := by decide +kernel
theorem dX0_placeRoot_28 : decode cX0_placeRoot 28 = .ok (.iload_n 2, 1) := by decide +kernel
theorem dX0_placeRoot_29 : decode cX0_placeRoot 29 = .ok (.invokestatic 50, 3) := by decide +kernel
theorem dX0_placeRoot_32 : decode cX0_placeRoot 32 = .ok (.ifCond .eq 10, 3) := by decide +kernel
theorem dX0_placeRoot_35 : decode cX0_placeRoot 35 = .ok (.aload_n 0, 1) := by decide +kernel
theorem dX0_placeRoot_36 : decode cX0_placeRoot 36 = .ok (.getfield 43, 3) := by decide +kernel
theorem dX0_placeRoot_39 : decode cX0_placeRoot 39 = .ok (.iload_n 2, 1) := by decide +kernel
theorem dX0_placeRoot_40 : decode cX0_placeRoot 40 = .ok (.iload_n 1, 1) := by decide +kernel
theorem dX0_placeRoot_41 : decode cX0_placeRoot 41 = .ok (.iastore, 1) := by decide +kernel
theorem dX0_placeRoot_42 : decode cX0_placeRoot 42 = .ok (.return_, 1) := by decide +kernel
theorem dX0_placeTrees_0 : decode cX0_placeTrees 0 = .ok (.iconst 0, 1) := by decide +kernel
theorem dX0_placeTrees_1 : decode cX0_placeTrees 1 = .ok (.istore_n 1, 1) := by decide +kernel
theorem dX0_placeTrees_2 : decode cX0_placeTrees 2 = .ok (.iload_n 1, 1) := by decide +kernel
theorem dX0_placeTrees_3 : decode cX0_placeTrees 3 = .ok (.bipush 30, 2) := by decide +kernel
theorem dX0_placeTrees_5 : decode cX0_placeTrees 5 = .ok (.if_icmp .ge 20, 3) := by decide +kernel
theorem dX0_placeTrees_8 : decode cX0_placeTrees 8 = .ok (.aload_n 0, 1) := by decide +kernel
theorem dX0_placeTrees_9 : decode cX0_placeTrees 9 = .ok (.getfield 34, 3) := by decide +kernel
theorem dX0_placeTrees_12 : decode cX0_placeTrees 12 = .ok (.iload_n 1, 1) := by decide +kernel
theorem dX0_placeTrees_13 : decode cX0_placeTrees 13 = .ok (.aload_n 0, 1) := by decide +kernel
theorem dX0_placeTrees_14 : decode cX0_placeTrees 14 = .ok (.iload_n 1, 1) := by decide +kernel
theorem dX0_placeTrees_15 : decode cX0_placeTrees 15 = .ok (.invokevirtual 150, 3) := by decide +kernel
theorem dX0_placeTrees_18 : decode cX0_placeTrees 18 = .ok (.iastore, 1) := by decide +kernel
theorem dX0_placeTrees_19 : decode cX0_placeTrees 19 = .ok (.iinc 1 1, 3) := by decide +kernel
theorem dX0_placeTrees_22 : decode cX0_placeTrees 22 = .ok (.goto (-20), 3) := by decide +kernel
theorem dX0_placeTrees_25 : decode cX0_placeTrees 25 = .ok (.iconst 0, 1) := by decide +kernel
theorem dX0_placeTrees_26 : decode cX0_placeTrees 26 = .ok (.istore_n 1, 1) := by decide +kernel
theorem dX0_placeTrees_27 : decode cX0_placeTrees 27 = .ok (.iload_n 1, 1) := by decide +kernel
theorem dX0_placeTrees_28 : decode cX0_placeTrees 28 = .ok (.bipush 30, 2) := by decide +kernel
theorem dX0_placeTrees_30 : decode cX0_placeTrees 30 = .ok (.if_icmp .ge 53, 3) := by decide +kernel
theorem dX0_placeTrees_33 : decode cX0_placeTrees 33 = .ok (.aload_n 0, 1) := by decide +kernel
theorem dX0_placeTrees_34 : decode cX0_placeTrees 34 = .ok (.getfield 37, 3) := by decide +kernel
theorem dX0_placeTrees_37 : decode cX0_placeTrees 37 = .ok (.iload_n 1, 1) := by decide +kernel
theorem dX0_placeTrees_38 : decode cX0_placeTrees 38 = .ok (.aload_n 0, 1) := by decide +kernel
theorem dX0_placeTrees_39 : decode cX0_placeTrees 39 = .ok (.iload_n 1, 1) := by decide +kernel
theorem dX0_placeTrees_40 : decode cX0_placeTrees 40 = .ok (.invokevirtual 153, 3) := by decide +kernel
theorem dX0_placeTrees_43 : decode cX0_placeTrees 43 = .ok (.iastore, 1) := by decide +kernel
theorem dX0_placeTrees_44 : decode cX0_placeTrees 44 = .ok (.aload_n 0, 1) := by decide +kernel
theorem dX0_placeTrees_45 : decode cX0_placeTrees 45 = .ok (.getfield 22, 3) := by decide +kernel
theorem dX0_placeTrees_48 : decode cX0_placeTrees 48 = .ok (.iload_n 1, 1) := by decide +kernel
theorem dX0_placeTrees_49 : decode cX0_placeTrees 49 = .ok (.baload, 1) := by decide +kernel
theorem dX0_placeTrees_50 : decode cX0_placeTrees 50 = .ok (.ifCond .eq 27, 3) := by decide +kernel
theorem dX0_placeTrees_53 : decode cX0_placeTrees 53 = .ok (.aload_n 0, 1) := by decide +kernel
theorem dX0_placeTrees_54 : decode cX0_placeTrees 54 = .ok (.getfield 37, 3) := by decide +kernel
theorem dX0_placeTrees_57 : decode cX0_placeTrees 57 = .ok (.iload_n 1, 1) := by decide +kernel
theorem dX0_placeTrees_58 : decode cX0_placeTrees 58 = .ok (.iaload, 1) := by decide +kernel
theorem dX0_placeTrees_59 : decode cX0_placeTrees 59 = .ok (.invokestatic 50, 3) := by decide +kernel
theorem dX0_placeTrees_62 : decode cX0_placeTrees 62 = .ok (.ifCond .eq 15, 3) := by decide +kernel
theorem dX0_placeTrees_65 : decode cX0_placeTrees 65 = .ok (.aload_n 0, 1) := by decide +kernel
theorem dX0_placeTrees_66 : decode cX0_placeTrees 66 = .ok (.getfield 40, 3) := by decide +kernel
theorem dX0_placeTrees_69 : decode cX0_placeTrees 69 = .ok (.aload_n 0, 1) := by decide +kernel
theorem dX0_placeTrees_70 : decode cX0_placeTrees 70 = .ok (.getfield 37, 3) := by decide +kernel
theorem dX0_placeTrees_73 : decode cX0_placeTrees 73 = .ok (.iload_n 1, 1) := by decide +kernel
theorem dX0_placeTrees_74 : decode cX0_placeTrees 74 = .ok (.iaload, 1) := by decide +kernel
theorem dX0_placeTrees_75 : decode cX0_placeTrees 75 = .ok (.iload_n 1, 1) := by decide +kernel
theorem dX0_placeTrees_76 : decode cX0_placeTrees 76 = .ok (.iastore, 1) := by decide +kernel
theorem dX0_placeTrees_77 : decode cX0_placeTrees 77 = .ok (.iinc 1 1, 3) := by decide +kernel
theorem dX0_placeTrees_80 : decode cX0_placeTrees 80 = .ok (.goto (-53), 3) := by decide +kernel
theorem dX0_placeTrees_83 : decode cX0_placeTrees 83 = .ok (.return_, 1) := by decide +kernel
theorem dX0_offsetBehindParent_0 : decode cX0_offsetBehindParent 0 = .ok (.aload_n 0, 1) := by decide +kernel
theorem dX0_offsetBehindParent_1 : decode cX0_offsetBehindParent 1 = .ok (.iload_n 1, 1) := by decide +kernel
theorem dX0_offsetBehindParent_2 : decode cX0_offsetBehindParent 2 = .ok (.invokevirtual 61, 3) := by decide +kernel
theorem dX0_offsetBehindParent_5 : decode cX0_offsetBehindParent 5 = .ok (.iconst (-1), 1) := by decide +kernel
theorem dX0_offsetBehindParent_6 : decode cX0_offsetBehindParent 6 = .ok (.if_icmp .ne 7, 3) := by decide +kernel
theorem dX0_offsetBehindParent_9 : decode cX0_offsetBehindParent 9 = .ok (.iconst 0, 1) := by decide +kernel
theorem dX0_offsetBehindParent_10 : decode cX0_offsetBehindParent 10 = .ok (.goto 4, 3) := by decide +kernel
theorem dX0_offsetBehindParent_13 : decode cX0_offsetBehindParent 13 = .ok (.iconst 1, 1) := by decide +kernel
theorem dX0_offsetBehindParent_14 : decode cX0_offsetBehindParent 14 = .ok (.istore_n 2, 1) := by decide +kernel
theorem dX0_offsetBehindParent_15 : decode cX0_offsetBehindParent 15 = .ok (.iconst 0, 1) := by decide +kernel
theorem dX0_offsetBehindParent_16 : decode cX0_offsetBehindParent 16 = .ok (.istore_n 3, 1) := by decide +kernel
theorem dX0_offsetBehindParent_17 : decode cX0_offsetBehindParent 17 = .ok (.iload_n 3, 1) := by decide +kernel
theorem dX0_offsetBehindParent_18 : decode cX0_offsetBehindParent 18 = .ok (.bipush 30, 2) := by decide +kernel
theorem dX0_offsetBehindParent_20 : decode cX0_offsetBehindParent 20 = .ok (.if_icmp .ge 27, 3) := by decide +kernel
theorem dX0_offsetBehindParent_23 : decode cX0_offsetBehindParent 23 = .ok (.aload_n 0, 1) := by decide +kernel
theorem dX0_offsetBehindParent_24 : decode cX0_offsetBehindParent 24 = .ok (.iload_n 3, 1) := by decide +kernel
theorem dX0_offsetBehindParent_25 : decode cX0_offsetBehindParent 25 = .ok (.iload_n 1, 1) := by decide +kernel
theorem dX0_offsetBehindParent_26 : decode cX0_offsetBehindParent 26 = .ok (.invokevirtual 147, 3) := by decide +kernel
theorem dX0_offsetBehindParent_29 : decode cX0_offsetBehindParent 29 = .ok (.ifCond .eq 12, 3) := by decide +kernel
theorem dX0_offsetBehindParent_32 : decode cX0_offsetBehindParent 32 = .ok (.iload_n 2, 1) := by decide +kernel
theorem dX0_offsetBehindParent_33 : decode cX0_offsetBehindParent 33 = .ok (.aload_n 0, 1) := by decide +kernel
theorem dX0_offsetBehindParent_34 : decode cX0_offsetBehindParent 34 = .ok (.getfield 31, 3) := by decide +kernel
theorem dX0_offsetBehindParent_37 : decode cX0_offsetBehindParent 37 = .ok (.iload_n 3, 1) := by decide +kernel
theorem dX0_offsetBehindParent_38 : decode cX0_offsetBehindParent 38 = .ok (.iaload, 1) := by decide +kernel
theorem dX0_offsetBehindParent_39 : decode cX0_offsetBehindParent 39 = .ok (.iadd, 1) := by decide +kernel
theorem dX0_offsetBehindParent_40 : decode cX0_offsetBehindParent 40 = .ok (.istore_n 2, 1) := by decide +kernel
theorem dX0_offsetBehindParent_41 : decode cX0_offsetBehindParent 41 = .ok (.iinc 3 1, 3) := by decide +kernel
theorem dX0_offsetBehindParent_44 : decode cX0_offsetBehindParent 44 = .ok (.goto (-27), 3) := by decide +kernel
theorem dX0_offsetBehindParent_47 : decode cX0_offsetBehindParent 47 = .ok (.iload_n 2, 1) := by decide +kernel
theorem dX0_offsetBehindParent_48 : decode cX0_offsetBehindParent 48 = .ok (.ireturn, 1) := by decide +kernel
theorem dX0_startInOrder_0 : decode cX0_startInOrder 0 = .ok (.iconst 0, 1) := by decide +kernel
theorem dX0_startInOrder_1 : decode cX0_startInOrder 1 = .ok (.istore_n 2, 1) := by decide +kernel
theorem dX0_startInOrder_2 : decode cX0_startInOrder 2 = .ok (.iload_n 1, 1) := by decide +kernel
theorem dX0_startInOrder_3 : decode cX0_startInOrder 3 = .ok (.istore_n 3, 1) := by decide +kernel
theorem dX0_startInOrder_4 : decode cX0_startInOrder 4 = .ok (.iconst 0, 1) := by decide +kernel
theorem dX0_startInOrder_5 : decode cX0_startInOrder 5 = .ok (.istore 4, 2) := by decide +kernel
theorem dX0_startInOrder_7 : decode cX0_startInOrder 7 = .ok (.iload_n 3, 1) := by decide +kernel
theorem dX0_startInOrder_8 : decode cX0_startInOrder 8 = .ok (.invokestatic 50, 3) := by decide +kernel
theorem dX0_startInOrder_11 : decode cX0_startInOrder 11 = .ok (.ifCond .eq 32, 3) := by decide +kernel
theorem dX0_startInOrder_14 : decode cX0_startInOrder 14 = .ok (.iload 4, 2) := by decide +kernel
theorem dX0_startInOrder_16 : decode cX0_startInOrder 16 = .ok (.bipush 30, 2) := by decide +kernel
theorem dX0_startInOrder_18 : decode cX0_startInOrder 18 = .ok (.if_icmp .ge 25, 3) := by decide +kernel
theorem dX0_startInOrder_21 : decode cX0_startInOrder 21 = .ok (.iload_n 2, 1) := by decide +kernel
theorem dX0_startInOrder_22 : decode cX0_startInOrder 22 = .ok (.aload_n 0, 1) := by decide +kernel
theorem dX0_startInOrder_23 : decode cX0_startInOrder 23 = .ok (.getfield 34, 3) := by decide +kernel
theorem dX0_startInOrder_26 : decode cX0_startInOrder 26 = .ok (.iload_n 3, 1) := by decide +kernel
theorem dX0_startInOrder_27 : decode cX0_startInOrder 27 = .ok (.iaload, 1) := by decide +kernel
theorem dX0_startInOrder_28 : decode cX0_startInOrder 28 = .ok (.iadd, 1) := by decide +kernel
theorem dX0_startInOrder_29 : decode cX0_startInOrder 29 = .ok (.istore_n 2, 1) := by decide +kernel
theorem dX0_startInOrder_30 : decode cX0_startInOrder 30 = .ok (.aload_n 0, 1) := by decide +kernel
theorem dX0_startInOrder_31 : decode cX0_startInOrder 31 = .ok (.getfield 19, 3) := by decide +kernel
theorem dX0_startInOrder_34 : decode cX0_startInOrder 34 = .ok (.iload_n 3, 1) := by decide +kernel
theorem dX0_startInOrder_35 : decode cX0_startInOrder 35 = .ok (.iaload, 1) := by decide +kernel
theorem dX0_startInOrder_36 : decode cX0_startInOrder 36 = .ok (.istore_n 3, 1) := by decide +kernel
theorem dX0_startInOrder_37 : decode cX0_startInOrder 37 = .ok (.iinc 4 1, 3) := by decide +kernel
theorem dX0_startInOrder_40 : decode cX0_startInOrder 40 = .ok (.goto (-33), 3) := by decide +kernel
theorem dX0_startInOrder_43 : decode cX0_startInOrder 43 = .ok (.iload_n 2, 1) := by decide +kernel
theorem dX0_startInOrder_44 : decode cX0_startInOrder 44 = .ok (.ireturn, 1) := by decide +kernel
theorem dX1_init_0 : decode cX1_init 0 = .ok (.aload_n 0, 1) := by decide +kernel
theorem dX1_init_1 : decode cX1_init 1 = .ok (.invokespecial 3, 3) := by decide +kernel
theorem dX1_init_4 : decode cX1_init 4 = .ok (.aload_n 0, 1) := by decide +kernel
theorem dX1_init_5 : decode cX1_init 5 = .ok (.bipush 30, 2) := by decide +kernel
theorem dX1_init_7 : decode cX1_init 7 = .ok (.newarray .boolean, 2) := by decide +kernel
theorem dX1_init_9 : decode cX1_init 9 = .ok (.putfield 9, 3) := by decide +kernel
theorem dX1_init_12 : decode cX1_init 12 = .ok (.aload_n 0, 1) := by decide +kernel
theorem dX1_init_13 : decode cX1_init 13 = .ok (.bipush 30, 2) := by decide +kernel
theorem dX1_init_15 : decode cX1_init 15 = .ok (.newarray .int, 2) := by decide +kernel
theorem dX1_init_17 : decode cX1_init 17 = .ok (.putfield 15, 3) := by decide +kernel
theorem dX1_init_20 : decode cX1_init 20 = .ok (.aload_n 0, 1) := by decide +kernel
theorem dX1_init_21 : decode cX1_init 21 = .ok (.bipush 30, 2) := by decide +kernel
theorem dX1_init_23 : decode cX1_init 23 = .ok (.newarray .int, 2) := by decide +kernel
theorem dX1_init_25 : decode cX1_init 25 = .ok (.putfield 19, 3) := by decide +kernel
theorem dX1_init_28 : decode cX1_init 28 = .ok (.aload_n 0, 1) := by decide +kernel
theorem dX1_init_29 : decode cX1_init 29 = .ok (.bipush 30, 2) := by decide +kernel
theorem dX1_init_31 : decode cX1_init 31 = .ok (.newarray .int, 2) := by decide +kernel
theorem dX1_init_33 : decode cX1_init 33 = .ok (.putfield 22, 3) := by decide +kernel
theorem dX1_init_36 : decode cX1_init 36 = .ok (.aload_n 0, 1) := by decide +kernel
theorem dX1_init_37 : decode cX1_init 37 = .ok (.bipush 30, 2) := by decide +kernel
theorem dX1_init_39 : decode cX1_init 39 = .ok (.newarray .boolean, 2) := by decide +kernel
theorem dX1_init_41 : decode cX1_init 41 = .ok (.putfield 25, 3) := by decide +kernel
theorem dX1_init_44 : decode cX1_init 44 = .ok (.aload_n 0, 1) := by decide +kernel
theorem dX1_init_45 : decode cX1_init 45 = .ok (.bipush 30, 2) := by decide +kernel
theorem dX1_init_47 : decode cX1_init 47 = .ok (.newarray .int, 2) := by decide +kernel
theorem dX1_init_49 : decode cX1_init 49 = .ok (.putfield 28, 3) := by decide +kernel
theorem dX1_init_52 : decode cX1_init 52 = .ok (.aload_n 0, 1) := by decide +kernel
theorem dX1_init_53 : decode cX1_init 53 = .ok (.bipush 30, 2) := by decide +kernel
theorem dX1_init_55 : decode cX1_init 55 = .ok (.newarray .int, 2) := by decide +kernel
theorem dX1_init_57 : decode cX1_init 57 = .ok (.putfield 31, 3) := by decide +kernel
theorem dX1_init_60 : decode cX1_init 60 = .ok (.aload_n 0, 1) := by decide +kernel
theorem dX1_init_61 : decode cX1_init 61 = .ok (.bipush 30, 2) := by decide +kernel
theorem dX1_init_63 : decode cX1_init 63 = .ok (.newarray .boolean, 2) := by decide +kernel
theorem dX1_init_65 : decode cX1_init 65 = .ok (.putfield 34, 3) := by decide +kernel
theorem dX1_init_68 : decode cX1_init 68 = .ok (.aload_n 0, 1) := by decide +kernel
theorem dX1_init_69 : decode cX1_init 69 = .ok (.bipush 30, 2) := by decide +kernel
theorem dX1_init_71 : decode cX1_init 71 = .ok (.newarray .int, 2) := by decide +kernel
theorem dX1_init_73 : decode cX1_init 73 = .ok (.putfield 37, 3) := by decide +kernel
theorem dX1_init_76 : decode cX1_init 76 = .ok (.return_, 1) := by decide +kernel
theorem dX1_holds_0 : decode cX1_holds 0 = .ok (.iload_n 1, 1) := by decide +kernel
theorem dX1_holds_1 : decode cX1_holds 1 = .ok (.ifCond .lt 22, 3) := by decide +kernel
theorem dX1_holds_4 : decode cX1_holds 4 = .ok (.iload_n 1, 1) := by decide +kernel
theorem dX1_holds_5 : decode cX1_holds 5 = .ok (.bipush 30, 2) := by decide +kernel
theorem dX1_holds_7 : decode cX1_holds 7 = .ok (.if_icmp .ge 16, 3) := by decide +kernel
theorem dX1_holds_10 : decode cX1_holds 10 = .ok (.aload_n 0, 1) := by decide +kernel
theorem dX1_holds_11 : decode cX1_holds 11 = .ok (.getfield 9, 3) := by decide +kernel
theorem dX1_holds_14 : decode cX1_holds 14 = .ok (.iload_n 1, 1) := by decide +kernel
theorem dX1_holds_15 : decode cX1_holds 15 = .ok (.baload, 1) := by decide +kernel
theorem dX1_holds_16 : decode cX1_holds 16 = .ok (.ifCond .eq 7, 3) := by decide +kernel
theorem dX1_holds_19 : decode cX1_holds 19 = .ok (.iconst 1, 1) := by decide +kernel
theorem dX1_holds_20 : decode cX1_holds 20 = .ok (.goto 4, 3) := by decide +kernel
theorem dX1_holds_23 : decode cX1_holds 23 = .ok (.iconst 0, 1) := by decide +kernel
theorem dX1_holds_24 : decode cX1_holds 24 = .ok (.ireturn, 1) := by decide +kernel
theorem dX1_put_0 : decode cX1_put 0 = .ok (.iload_n 1, 1) := by decide +kernel
theorem dX1_put_1 : decode cX1_put 1 = .ok (.invokestatic 40, 3) := by decide +kernel
theorem dX1_put_4 : decode cX1_put 4 = .ok (.ifCond .ne 4, 3) := by decide +kernel
theorem dX1_put_7 : decode cX1_put 7 = .ok (.return_, 1) := by decide +kernel
theorem dX1_put_8 : decode cX1_put 8 = .ok (.aload_n 0, 1) := by decide +kernel
theorem dX1_put_9 : decode cX1_put 9 = .ok (.getfield 9, 3) := by decide +kernel
theorem dX1_put_12 : decode cX1_put 12 = .ok (.iload_n 1, 1) := by decide +kernel
theorem dX1_put_13 : decode cX1_put 13 = .ok (.iconst 1, 1) := by decide +kernel
theorem dX1_put_14 : decode cX1_put 14 = .ok (.bastore, 1) := by decide +kernel
theorem dX1_put_15 : decode cX1_put 15 = .ok (.aload_n 0, 1) := by decide +kernel
theorem dX1_put_16 : decode cX1_put 16 = .ok (.getfield 15, 3) := by decide +kernel
theorem dX1_put_19 : decode cX1_put 19 = .ok (.iload_n 1, 1) := by decide +kernel
theorem dX1_put_20 : decode cX1_put 20 = .ok (.iload_n 2, 1) := by decide +kernel
theorem dX1_put_21 : decode cX1_put 21 = .ok (.iastore, 1) := by decide +kernel
theorem dX1_put_22 : decode cX1_put 22 = .ok (.aload_n 0, 1) := by decide +kernel
theorem dX1_put_23 : decode cX1_put 23 = .ok (.getfield 19, 3) := by decide +kernel
theorem dX1_put_26 : decode cX1_put 26 = .ok (.iload_n 1, 1) := by decide +kernel
theorem dX1_put_27 : decode cX1_put 27 = .ok (.iload_n 3, 1) := by decide +kernel
theorem dX1_put_28 : decode cX1_put 28 = .ok (.iastore, 1) := by decide +kernel
theorem dX1_put_29 : decode cX1_put 29 = .ok (.aload_n 0, 1) := by decide +kernel
theorem dX1_put_30 : decode cX1_put 30 = .ok (.getfield 25, 3) := by decide +kernel
theorem dX1_put_33 : decode cX1_put 33 = .ok (.iload_n 1, 1) := by decide +kernel
theorem dX1_put_34 : decode cX1_put 34 = .ok (.iload 4, 2) := by decide +kernel
theorem dX1_put_36 : decode cX1_put 36 = .ok (.bipush 10, 2) := by decide +kernel
theorem dX1_put_38 : decode cX1_put 38 = .ok (.if_icmp .lt 7, 3) := by decide +kernel
theorem dX1_put_41 : decode cX1_put 41 = .ok (.iconst 1, 1) := by decide +kernel
theorem dX1_put_42 : decode cX1_put 42 = .ok (.goto 4, 3) := by decide +kernel
theorem dX1_put_45 : decode cX1_put 45 = .ok (.iconst 0, 1) := by decide +kernel
theorem dX1_put_46 : decode cX1_put 46 = .ok (.bastore, 1) := by decide +kernel
theorem dX1_put_47 : decode cX1_put 47 = .ok (.aload_n 0, 1) := by decide +kernel
theorem dX1_put_48 : decode cX1_put 48 = .ok (.getfield 22, 3) := by decide +kernel
theorem dX1_put_51 : decode cX1_put 51 = .ok (.iload_n 1, 1) := by decide +kernel
theorem dX1_put_52 : decode cX1_put 52 = .ok (.aload_n 0, 1) := by decide +kernel
theorem dX1_put_53 : decode cX1_put 53 = .ok (.getfield 25, 3) := by decide +kernel
theorem dX1_put_56 : decode cX1_put 56 = .ok (.iload_n 1, 1) := by decide +kernel
theorem dX1_put_57 : decode cX1_put 57 = .ok (.baload, 1) := by decide +kernel
theorem dX1_put_58 : decode cX1_put 58 = .ok (.ifCond .eq 11, 3) := by decide +kernel
theorem dX1_put_61 : decode cX1_put 61 = .ok (.iload 4, 2) := by decide +kernel
theorem dX1_put_63 : decode cX1_put 63 = .ok (.bipush 10, 2) := by decide +kernel
theorem dX1_put_65 : decode cX1_put 65 = .ok (.isub, 1) := by decide +kernel
theorem dX1_put_66 : decode cX1_put 66 = .ok (.goto 5, 3) := by decide +kernel
theorem dX1_put_69 : decode cX1_put 69 = .ok (.iload 4, 2) := by decide +kernel
theorem dX1_put_71 : decode cX1_put 71 = .ok (.iastore, 1) := by decide +kernel
theorem dX1_put_72 : decode cX1_put 72 = .ok (.aload_n 0, 1) := by decide +kernel
theorem dX1_put_73 : decode cX1_put 73 = .ok (.getfield 28, 3) := by decide +kernel
theorem dX1_put_76 : decode cX1_put 76 = .ok (.iload_n 1, 1) := by decide +kernel
theorem dX1_put_77 : decode cX1_put 77 = .ok (.iload 5, 2) := by decide +kernel
theorem dX1_put_79 : decode cX1_put 79 = .ok (.iastore, 1) := by decide +kernel
theorem dX1_put_80 : decode cX1_put 80 = .ok (.aload_n 0, 1) := by decide +kernel
theorem dX1_put_81 : decode cX1_put 81 = .ok (.getfield 31, 3) := by decide +kernel
theorem dX1_put_84 : decode cX1_put 84 = .ok (.iload_n 1, 1) := by decide +kernel
theorem dX1_put_85 : decode cX1_put 85 = .ok (.iload 6, 2) := by decide +kernel
theorem dX1_put_87 : decode cX1_put 87 = .ok (.iastore, 1) := by decide +kernel
theorem dX1_put_88 : decode cX1_put 88 = .ok (.aload_n 0, 1) := by decide +kernel
theorem dX1_put_89 : decode cX1_put 89 = .ok (.getfield 34, 3) := by decide +kernel
theorem dX1_put_92 : decode cX1_put 92 = .ok (.iload_n 1, 1) := by decide +kernel
theorem dX1_put_93 : decode cX1_put 93 = .ok (.iconst 1, 1) := by decide +kernel
theorem dX1_put_94 : decode cX1_put 94 = .ok (.bastore, 1) := by decide +kernel
theorem dX1_put_95 : decode cX1_put 95 = .ok (.aload_n 0, 1) := by decide +kernel
theorem dX1_put_96 : decode cX1_put 96 = .ok (.getfield 37, 3) := by decide +kernel
theorem dX1_put_99 : decode cX1_put 99 = .ok (.iload_n 1, 1) := by decide +kernel
theorem dX1_put_100 : decode cX1_put 100 = .ok (.iconst (-1), 1) := by decide +kernel
theorem dX1_put_101 : decode cX1_put 101 = .ok (.iastore, 1) := by decide +kernel
theorem dX1_put_102 : decode cX1_put 102 = .ok (.return_, 1) := by decide +kernel
theorem dX1_drop_0 : decode cX1_drop 0 = .ok (.iload_n 1, 1) := by decide +kernel
theorem dX1_drop_1 : decode cX1_drop 1 = .ok (.invokestatic 40, 3) := by decide +kernel
theorem dX1_drop_4 : decode cX1_drop 4 = .ok (.ifCond .eq 10, 3) := by decide +kernel
theorem dX1_drop_7 : decode cX1_drop 7 = .ok (.aload_n 0, 1) := by decide +kernel
theorem dX1_drop_8 : decode cX1_drop 8 = .ok (.getfield 9, 3) := by decide +kernel
theorem dX1_drop_11 : decode cX1_drop 11 = .ok (.iload_n 1, 1) := by decide +kernel
theorem dX1_drop_12 : decode cX1_drop 12 = .ok (.iconst 0, 1) := by decide +kernel
theorem dX1_drop_13 : decode cX1_drop 13 = .ok (.bastore, 1) := by decide +kernel
theorem dX1_drop_14 : decode cX1_drop 14 = .ok (.return_, 1) := by decide +kernel
theorem dX1_setHand_0 : decode cX1_setHand 0 = .ok (.aload_n 0, 1) := by decide +kernel
theorem dX1_setHand_1 : decode cX1_setHand 1 = .ok (.iload_n 1, 1) := by decide +kernel
theorem dX1_setHand_2 : decode cX1_setHand 2 = .ok (.invokevirtual 44, 3) := by decide +kernel
theorem dX1_setHand_5 : decode cX1_setHand 5 = .ok (.ifCond .eq 10, 3) := by decide +kernel
theorem dX1_setHand_8 : decode cX1_setHand 8 = .ok (.aload_n 0, 1) := by decide +kernel
theorem dX1_setHand_9 : decode cX1_setHand 9 = .ok (.getfield 37, 3) := by decide +kernel
theorem dX1_setHand_12 : decode cX1_setHand 12 = .ok (.iload_n 1, 1) := by decide +kernel
theorem dX1_setHand_13 : decode cX1_setHand 13 = .ok (.iload_n 2, 1) := by decide +kernel
theorem dX1_setHand_14 : decode cX1_setHand 14 = .ok (.iastore, 1) := by decide +kernel
theorem dX1_setHand_15 : decode cX1_setHand 15 = .ok (.return_, 1) := by decide +kernel
theorem dX1_handOf_0 : decode cX1_handOf 0 = .ok (.aload_n 0, 1) := by decide +kernel
theorem dX1_handOf_1 : decode cX1_handOf 1 = .ok (.iload_n 1, 1) := by decide +kernel
theorem dX1_handOf_2 : decode cX1_handOf 2 = .ok (.invokevirtual 44, 3) := by decide +kernel
theorem dX1_handOf_5 : decode cX1_handOf 5 = .ok (.ifCond .eq 12, 3) := by decide +kernel
theorem dX1_handOf_8 : decode cX1_handOf 8 = .ok (.aload_n 0, 1) := by decide +kernel
theorem dX1_handOf_9 : decode cX1_handOf 9 = .ok (.getfield 37, 3) := by decide +kernel
theorem dX1_handOf_12 : decode cX1_handOf 12 = .ok (.iload_n 1, 1) := by decide +kernel
theorem dX1_handOf_13 : decode cX1_handOf 13 = .ok (.iaload, 1) := by decide +kernel
theorem dX1_handOf_14 : decode cX1_handOf 14 = .ok (.goto 4, 3) := by decide +kernel
theorem dX1_handOf_17 : decode cX1_handOf 17 = .ok (.iconst (-1), 1) := by decide +kernel
theorem dX1_handOf_18 : decode cX1_handOf 18 = .ok (.ireturn, 1) := by decide +kernel
theorem dX1_writerBit_0 : decode cX1_writerBit 0 = .ok (.aload_n 0, 1) := by decide +kernel
theorem dX1_writerBit_1 : decode cX1_writerBit 1 = .ok (.iload_n 1, 1) := by decide +kernel
theorem dX1_writerBit_2 : decode cX1_writerBit 2 = .ok (.invokevirtual 44, 3) := by decide +kernel
theorem dX1_writerBit_5 : decode cX1_writerBit 5 = .ok (.ifCond .eq 14, 3) := by decide +kernel
theorem dX1_writerBit_8 : decode cX1_writerBit 8 = .ok (.iconst 1, 1) := by decide +kernel
theorem dX1_writerBit_9 : decode cX1_writerBit 9 = .ok (.aload_n 0, 1) := by decide +kernel
theorem dX1_writerBit_10 : decode cX1_writerBit 10 = .ok (.getfield 31, 3) := by decide +kernel
theorem dX1_writerBit_13 : decode cX1_writerBit 13 = .ok (.iload_n 1, 1) := by decide +kernel
theorem dX1_writerBit_14 : decode cX1_writerBit 14 = .ok (.iaload, 1) := by decide +kernel
theorem dX1_writerBit_15 : decode cX1_writerBit 15 = .ok (.ishl, 1) := by decide +kernel
theorem dX1_writerBit_16 : decode cX1_writerBit 16 = .ok (.goto 4, 3) := by decide +kernel
theorem dX1_writerBit_19 : decode cX1_writerBit 19 = .ok (.iconst 0, 1) := by decide +kernel
theorem dX1_writerBit_20 : decode cX1_writerBit 20 = .ok (.ireturn, 1) := by decide +kernel
theorem dX1_dayOf_0 : decode cX1_dayOf 0 = .ok (.aload_n 0, 1) := by decide +kernel
theorem dX1_dayOf_1 : decode cX1_dayOf 1 = .ok (.iload_n 1, 1) := by decide +kernel
theorem dX1_dayOf_2 : decode cX1_dayOf 2 = .ok (.invokevirtual 44, 3) := by decide +kernel
theorem dX1_dayOf_5 : decode cX1_dayOf 5 = .ok (.ifCond .eq 12, 3) := by decide +kernel
theorem dX1_dayOf_8 : decode cX1_dayOf 8 = .ok (.aload_n 0, 1) := by decide +kernel
theorem dX1_dayOf_9 : decode cX1_dayOf 9 = .ok (.getfield 28, 3) := by decide +kernel
theorem dX1_dayOf_12 : decode cX1_dayOf 12 = .ok (.iload_n 1, 1) := by decide +kernel
theorem dX1_dayOf_13 : decode cX1_dayOf 13 = .ok (.iaload, 1) := by decide +kernel
theorem dX1_dayOf_14 : decode cX1_dayOf 14 = .ok (.goto 6, 3) := by decide +kernel
theorem dX1_dayOf_17 : decode cX1_dayOf 17 = .ok (.sipush 1000, 3) := by decide +kernel
theorem dX1_dayOf_20 : decode cX1_dayOf 20 = .ok (.ireturn, 1) := by decide +kernel
theorem dX1_parentToldBy_0 : decode cX1_parentToldBy 0 = .ok (.aload_n 0, 1) := by decide +kernel
theorem dX1_parentToldBy_1 : decode cX1_parentToldBy 1 = .ok (.iload_n 1, 1) := by decide +kernel
theorem dX1_parentToldBy_2 : decode cX1_parentToldBy 2 = .ok (.invokevirtual 44, 3) := by decide +kernel
theorem dX1_parentToldBy_5 : decode cX1_parentToldBy 5 = .ok (.ifCond .eq 12, 3) := by decide +kernel
theorem dX1_parentToldBy_8 : decode cX1_parentToldBy 8 = .ok (.aload_n 0, 1) := by decide +kernel
theorem dX1_parentToldBy_9 : decode cX1_parentToldBy 9 = .ok (.getfield 19, 3) := by decide +kernel
theorem dX1_parentToldBy_12 : decode cX1_parentToldBy 12 = .ok (.iload_n 1, 1) := by decide +kernel
theorem dX1_parentToldBy_13 : decode cX1_parentToldBy 13 = .ok (.iaload, 1) := by decide +kernel
theorem dX1_parentToldBy_14 : decode cX1_parentToldBy 14 = .ok (.goto 4, 3) := by decide +kernel
theorem dX1_parentToldBy_17 : decode cX1_parentToldBy 17 = .ok (.iconst (-1), 1) := by decide +kernel
theorem dX1_parentToldBy_18 : decode cX1_parentToldBy 18 = .ok (.ireturn, 1) := by decide +kernel
theorem dX1_grandparentToldBy_0 : decode cX1_grandparentToldBy 0 = .ok (.aload_n 0, 1) := by decide +kernel
theorem dX1_grandparentToldBy_1 : decode cX1_grandparentToldBy 1 = .ok (.iload_n 1, 1) := by decide +kernel
theorem dX1_grandparentToldBy_2 : decode cX1_grandparentToldBy 2 = .ok (.invokevirtual 44, 3) := by decide +kernel
theorem dX1_grandparentToldBy_5 : decode cX1_grandparentToldBy 5 = .ok (.ifCond .eq 12, 3) := by decide +kernel
theorem dX1_grandparentToldBy_8 : decode cX1_grandparentToldBy 8 = .ok (.aload_n 0, 1) := by decide +kernel
theorem dX1_grandparentToldBy_9 : decode cX1_grandparentToldBy 9 = .ok (.getfield 15, 3) := by decide +kernel
theorem dX1_grandparentToldBy_12 : decode cX1_grandparentToldBy 12 = .ok (.iload_n 1, 1) := by decide +kernel
theorem dX1_grandparentToldBy_13 : decode cX1_grandparentToldBy 13 = .ok (.iaload, 1) := by decide +kernel
theorem dX1_grandparentToldBy_14 : decode cX1_grandparentToldBy 14 = .ok (.goto 4, 3) := by decide +kernel
theorem dX1_grandparentToldBy_17 : decode cX1_grandparentToldBy 17 = .ok (.iconst (-1), 1) := by decide +kernel
theorem dX1_grandparentToldBy_18 : decode cX1_grandparentToldBy 18 = .ok (.ireturn, 1) := by decide +kernel
theorem dX1_toldParentOf_0 : decode cX1_toldParentOf 0 = .ok (.aload_n 0, 1) := by decide +kernel
theorem dX1_toldParentOf_1 : decode cX1_toldParentOf 1 = .ok (.iload_n 1, 1) := by decide +kernel
theorem dX1_toldParentOf_2 : decode cX1_toldParentOf 2 = .ok (.invokevirtual 44, 3) := by decide +kernel
theorem dX1_toldParentOf_5 : decode cX1_toldParentOf 5 = .ok (.ifCond .ne 9, 3) := by decide +kernel
theorem dX1_toldParentOf_8 : decode cX1_toldParentOf 8 = .ok (.aload_n 0, 1) := by decide +kernel
theorem dX1_toldParentOf_9 : decode cX1_toldParentOf 9 = .ok (.iload_n 1, 1) := by decide +kernel
theorem dX1_toldParentOf_10 : decode cX1_toldParentOf 10 = .ok (.invokevirtual 50, 3) := by decide +kernel
theorem dX1_toldParentOf_13 : decode cX1_toldParentOf 13 = .ok (.ireturn, 1) := by decide +kernel
theorem dX1_toldParentOf_14 : decode cX1_toldParentOf 14 = .ok (.aload_n 0, 1) := by decide +kernel
theorem dX1_toldParentOf_15 : decode cX1_toldParentOf 15 = .ok (.iload_n 1, 1) := by decide +kernel
theorem dX1_toldParentOf_16 : decode cX1_toldParentOf 16 = .ok (.invokevirtual 54, 3) := by decide +kernel
theorem dX1_toldParentOf_19 : decode cX1_toldParentOf 19 = .ok (.istore_n 2, 1) := by decide +kernel
theorem dX1_toldParentOf_20 : decode cX1_toldParentOf 20 = .ok (.iload_n 2, 1) := by decide +kernel
theorem dX1_toldParentOf_21 : decode cX1_toldParentOf 21 = .ok (.iconst (-1), 1) := by decide +kernel
theorem dX1_toldParentOf_22 : decode cX1_toldParentOf 22 = .ok (.if_icmp .ne 9, 3) := by decide +kernel
theorem dX1_toldParentOf_25 : decode cX1_toldParentOf 25 = .ok (.aload_n 0, 1) := by decide +kernel
theorem dX1_toldParentOf_26 : decode cX1_toldParentOf 26 = .ok (.iload_n 1, 1) := by decide +kernel
theorem dX1_toldParentOf_27 : decode cX1_toldParentOf 27 = .ok (.invokevirtual 57, 3) := by decide +kernel
theorem dX1_toldParentOf_30 : decode cX1_toldParentOf 30 = .ok (.ireturn, 1) := by decide +kernel
theorem dX1_toldParentOf_31 : decode cX1_toldParentOf 31 = .ok (.iload_n 2, 1) := by decide +kernel
theorem dX1_toldParentOf_32 : decode cX1_toldParentOf 32 = .ok (.bipush (-2), 2) := by decide +kernel
theorem dX1_toldParentOf_34 : decode cX1_toldParentOf 34 = .ok (.if_icmp .ne 7, 3) := by decide +kernel
theorem dX1_toldParentOf_37 : decode cX1_toldParentOf 37 = .ok (.iconst (-1), 1) := by decide +kernel
theorem dX1_toldParentOf_38 : decode cX1_toldParentOf 38 = .ok (.goto 4, 3) := by decide +kernel
theorem dX1_toldParentOf_41 : decode cX1_toldParentOf 41 = .ok (.iload_n 2, 1) := by decide +kernel
theorem dX1_toldParentOf_42 : decode cX1_toldParentOf 42 = .ok (.ireturn, 1) := by decide +kernel
theorem dX1_guessedParentOf_0 : decode cX1_guessedParentOf 0 = .ok (.iconst 0, 1) := by decide +kernel
theorem dX1_guessedParentOf_1 : decode cX1_guessedParentOf 1 = .ok (.istore_n 2, 1) := by decide +kernel
theorem dX1_guessedParentOf_2 : decode cX1_guessedParentOf 2 = .ok (.iload_n 2, 1) := by decide +kernel
theorem dX1_guessedParentOf_3 : decode cX1_guessedParentOf 3 = .ok (.bipush 30, 2) := by decide +kernel
theorem dX1_guessedParentOf_5 : decode cX1_guessedParentOf 5 = .ok (.if_icmp .ge 33, 3) := by decide +kernel
theorem dX1_guessedParentOf_8 : decode cX1_guessedParentOf 8 = .ok (.aload_n 0, 1) := by decide +kernel
theorem dX1_guessedParentOf_9 : decode cX1_guessedParentOf 9 = .ok (.iload_n 2, 1) := by decide +kernel
theorem dX1_guessedParentOf_10 : decode cX1_guessedParentOf 10 = .ok (.invokevirtual 57, 3) := by decide +kernel
theorem dX1_guessedParentOf_13 : decode cX1_guessedParentOf 13 = .ok (.iload_n 1, 1) := by decide +kernel
theorem dX1_guessedParentOf_14 : decode cX1_guessedParentOf 14 = .ok (.if_icmp .ne 18, 3) := by decide +kernel
theorem dX1_guessedParentOf_17 : decode cX1_guessedParentOf 17 = .ok (.aload_n 0, 1) := by decide +kernel
theorem dX1_guessedParentOf_18 : decode cX1_guessedParentOf 18 = .ok (.iload_n 2, 1) := by decide +kernel
theorem dX1_guessedParentOf_19 : decode cX1_guessedParentOf 19 = .ok (.invokevirtual 60, 3) := by decide +kernel
theorem dX1_guessedParentOf_22 : decode cX1_guessedParentOf 22 = .ok (.iconst (-1), 1) := by decide +kernel
theorem dX1_guessedParentOf_23 : decode cX1_guessedParentOf 23 = .ok (.if_icmp .eq 9, 3) := by decide +kernel
theorem dX1_guessedParentOf_26 : decode cX1_guessedParentOf 26 = .ok (.aload_n 0, 1) := by decide +kernel
theorem dX1_guessedParentOf_27 : decode cX1_guessedParentOf 27 = .ok (.iload_n 2, 1) := by decide +kernel
theorem dX1_guessedParentOf_28 : decode cX1_guessedParentOf 28 = .ok (.invokevirtual 60, 3) := by decide +kernel
theorem dX1_guessedParentOf_31 : decode cX1_guessedParentOf 31 = .ok (.ireturn, 1) := by decide +kernel
theorem dX1_guessedParentOf_32 : decode cX1_guessedParentOf 32 = .ok (.iinc 2 1, 3) := by decide +kernel
theorem dX1_guessedParentOf_35 : decode cX1_guessedParentOf 35 = .ok (.goto (-33), 3) := by decide +kernel
theorem dX1_guessedParentOf_38 : decode cX1_guessedParentOf 38 = .ok (.iconst (-1), 1) := by decide +kernel
theorem dX1_guessedParentOf_39 : decode cX1_guessedParentOf 39 = .ok (.ireturn, 1) := by decide +kernel
theorem dX1_isReply_0 : decode cX1_isReply 0 = .ok (.aload_n 0, 1) := by decide +kernel
theorem dX1_isReply_1 : decode cX1_isReply 1 = .ok (.iload_n 1, 1) := by decide +kernel
theorem dX1_isReply_2 : decode cX1_isReply 2 = .ok (.invokevirtual 44, 3) := by decide +kernel
theorem dX1_isReply_5 : decode cX1_isReply 5 = .ok (.ifCond .eq 16, 3) := by decide +kernel
theorem dX1_isReply_8 : decode cX1_isReply 8 = .ok (.aload_n 0, 1) := by decide +kernel
theorem dX1_isReply_9 : decode cX1_isReply 9 = .ok (.getfield 25, 3) := by decide +kernel
theorem dX1_isReply_12 : decode cX1_isReply 12 = .ok (.iload_n 1, 1) := by decide +kernel
theorem dX1_isReply_13 : decode cX1_isReply 13 = .ok (.baload, 1) := by decide +kernel
theorem dX1_isReply_14 : decode cX1_isReply 14 = .ok (.ifCond .eq 7, 3) := by decide +kernel
theorem dX1_isReply_17 : decode cX1_isReply 17 = .ok (.iconst 1, 1) := by decide +kernel
theorem dX1_isReply_18 : decode cX1_isReply 18 = .ok (.goto 4, 3) := by decide +kernel
theorem dX1_isReply_21 : decode cX1_isReply 21 = .ok (.iconst 0, 1) := by decide +kernel
theorem dX1_isReply_22 : decode cX1_isReply 22 = .ok (.ireturn, 1) := by decide +kernel
theorem dX1_isAnsweredBy_0 : decode cX1_isAnsweredBy 0 = .ok (.aload_n 0, 1) := by decide +kernel
theorem dX1_isAnsweredBy_1 : decode cX1_isAnsweredBy 1 = .ok (.iload_n 1, 1) := by decide +kernel
theorem dX1_isAnsweredBy_2 : decode cX1_isAnsweredBy 2 = .ok (.invokevirtual 44, 3) := by decide +kernel
theorem dX1_isAnsweredBy_5 : decode cX1_isAnsweredBy 5 = .ok (.ifCond .eq 29, 3) := by decide +kernel
theorem dX1_isAnsweredBy_8 : decode cX1_isAnsweredBy 8 = .ok (.aload_n 0, 1) := by decide +kernel
theorem dX1_isAnsweredBy_9 : decode cX1_isAnsweredBy 9 = .ok (.iload_n 2, 1) := by decide +kernel
theorem dX1_isAnsweredBy_10 : decode cX1_isAnsweredBy 10 = .ok (.invokevirtual 44, 3) := by decide +kernel
theorem dX1_isAnsweredBy_13 : decode cX1_isAnsweredBy 13 = .ok (.ifCond .eq 21, 3) := by decide +kernel
theorem dX1_isAnsweredBy_16 : decode cX1_isAnsweredBy 16 = .ok (.aload_n 0, 1) := by decide +kernel
theorem dX1_isAnsweredBy_17 : decode cX1_isAnsweredBy 17 = .ok (.getfield 25, 3) := by decide +kernel
theorem dX1_isAnsweredBy_20 : decode cX1_isAnsweredBy 20 = .ok (.iload_n 1, 1) := by decide +kernel
theorem dX1_isAnsweredBy_21 : decode cX1_isAnsweredBy 21 = .ok (.baload, 1) := by decide +kernel
theorem dX1_isAnsweredBy_22 : decode cX1_isAnsweredBy 22 = .ok (.ifCond .ne 12, 3) := by decide +kernel
theorem dX1_isAnsweredBy_25 : decode cX1_isAnsweredBy 25 = .ok (.aload_n 0, 1) := by decide +kernel
theorem dX1_isAnsweredBy_26 : decode cX1_isAnsweredBy 26 = .ok (.getfield 25, 3) := by decide +kernel
theorem dX1_isAnsweredBy_29 : decode cX1_isAnsweredBy 29 = .ok (.iload_n 2, 1) := by decide +kernel
theorem dX1_isAnsweredBy_30 : decode cX1_isAnsweredBy 30 = .ok (.baload, 1) := by decide +kernel
theorem dX1_isAnsweredBy_31 : decode cX1_isAnsweredBy 31 = .ok (.ifCond .ne 5, 3) := by decide +kernel
theorem dX1_isAnsweredBy_34 : decode cX1_isAnsweredBy 34 = .ok (.iconst 0, 1) := by decide +kernel
theorem dX1_isAnsweredBy_35 : decode cX1_isAnsweredBy 35 = .ok (.ireturn, 1) := by decide +kernel
theorem dX1_isAnsweredBy_36 : decode cX1_isAnsweredBy 36 = .ok (.aload_n 0, 1) := by decide +kernel
theorem dX1_isAnsweredBy_37 : decode cX1_isAnsweredBy 37 = .ok (.getfield 28, 3) := by decide +kernel
theorem dX1_isAnsweredBy_40 : decode cX1_isAnsweredBy 40 = .ok (.iload_n 2, 1) := by decide +kernel
theorem dX1_isAnsweredBy_41 : decode cX1_isAnsweredBy 41 = .ok (.iaload, 1) := by decide +kernel
theorem dX1_isAnsweredBy_42 : decode cX1_isAnsweredBy 42 = .ok (.aload_n 0, 1) := by decide +kernel
theorem dX1_isAnsweredBy_43 : decode cX1_isAnsweredBy 43 = .ok (.getfield 28, 3) := by decide +kernel
theorem dX1_isAnsweredBy_46 : decode cX1_isAnsweredBy 46 = .ok (.iload_n 1, 1) := by decide +kernel
theorem dX1_isAnsweredBy_47 : decode cX1_isAnsweredBy 47 = .ok (.iaload, 1) := by decide +kernel
theorem dX1_isAnsweredBy_48 : decode cX1_isAnsweredBy 48 = .ok (.isub, 1) := by decide +kernel
theorem dX1_isAnsweredBy_49 : decode cX1_isAnsweredBy 49 = .ok (.istore_n 3, 1) := by decide +kernel
theorem dX1_isAnsweredBy_50 : decode cX1_isAnsweredBy 50 = .ok (.aload_n 0, 1) := by decide +kernel
theorem dX1_isAnsweredBy_51 : decode cX1_isAnsweredBy 51 = .ok (.getfield 22, 3) := by decide +kernel
theorem dX1_isAnsweredBy_54 : decode cX1_isAnsweredBy 54 = .ok (.iload_n 1, 1) := by decide +kernel
theorem dX1_isAnsweredBy_55 : decode cX1_isAnsweredBy 55 = .ok (.iaload, 1) := by decide +kernel
theorem dX1_isAnsweredBy_56 : decode cX1_isAnsweredBy 56 = .ok (.aload_n 0, 1) := by decide +kernel
theorem dX1_isAnsweredBy_57 : decode cX1_isAnsweredBy 57 = .ok (.getfield 22, 3) := by decide +kernel
theorem dX1_isAnsweredBy_60 : decode cX1_isAnsweredBy 60 = .ok (.iload_n 2, 1) := by decide +kernel
theorem dX1_isAnsweredBy_61 : decode cX1_isAnsweredBy 61 = .ok (.iaload, 1) := by decide +kernel
theorem dX1_isAnsweredBy_62 : decode cX1_isAnsweredBy 62 = .ok (.if_icmp .ne 17, 3) := by decide +kernel
theorem dX1_isAnsweredBy_65 : decode cX1_isAnsweredBy 65 = .ok (.iload_n 3, 1) := by decide +kernel
theorem dX1_isAnsweredBy_66 : decode cX1_isAnsweredBy 66 = .ok (.ifCond .lt 13, 3) := by decide +kernel
theorem dX1_isAnsweredBy_69 : decode cX1_isAnsweredBy 69 = .ok (.iload_n 3, 1) := by decide +kernel
theorem dX1_isAnsweredBy_70 : decode cX1_isAnsweredBy 70 = .ok (.bipush 14, 2) := by decide +kernel
theorem dX1_isAnsweredBy_72 : decode cX1_isAnsweredBy 72 = .ok (.if_icmp .gt 7, 3) := by decide +kernel
theorem dX1_isAnsweredBy_75 : decode cX1_isAnsweredBy 75 = .ok (.iconst 1, 1) := by decide +kernel
theorem dX1_isAnsweredBy_76 : decode cX1_isAnsweredBy 76 = .ok (.goto 4, 3) := by decide +kernel
theorem dX1_isAnsweredBy_79 : decode cX1_isAnsweredBy 79 = .ok (.iconst 0, 1) := by decide +kernel
theorem dX1_isAnsweredBy_80 : decode cX1_isAnsweredBy 80 = .ok (.ireturn, 1) := by decide +kernel
theorem dX2_init_0 : decode cX2_init 0 = .ok (.aload_n 0, 1) := by decide +kernel
theorem dX2_init_1 : decode cX2_init 1 = .ok (.invokespecial 1, 3) := by decide +kernel
theorem dX2_init_4 : decode cX2_init 4 = .ok (.aload_n 0, 1) := by decide +kernel
theorem dX2_init_5 : decode cX2_init 5 = .ok (.new 7, 3) := by decide +kernel
theorem dX2_init_8 : decode cX2_init 8 = .ok (.dup, 1) := by decide +kernel
theorem dX2_init_9 : decode cX2_init 9 = .ok (.invokespecial 9, 3) := by decide +kernel
theorem dX2_init_12 : decode cX2_init 12 = .ok (.putfield 10, 3) := by decide +kernel
theorem dX2_init_15 : decode cX2_init 15 = .ok (.aload_n 0, 1) := by decide +kernel
theorem dX2_init_16 : decode cX2_init 16 = .ok (.new 16, 3) := by decide +kernel
theorem dX2_init_19 : decode cX2_init 19 = .ok (.dup, 1) := by decide +kernel
theorem dX2_init_20 : decode cX2_init 20 = .ok (.aload_n 0, 1) := by decide +kernel
theorem dX2_init_21 : decode cX2_init 21 = .ok (.getfield 10, 3) := by decide +kernel
theorem dX2_init_24 : decode cX2_init 24 = .ok (.invokespecial 18, 3) := by decide +kernel
theorem dX2_init_27 : decode cX2_init 27 = .ok (.putfield 21, 3) := by decide +kernel
theorem dX2_init_30 : decode cX2_init 30 = .ok (.return_, 1) := by decide +kernel
theorem dX2_letter_0 : decode cX2_letter 0 = .ok (.iload_n 1, 1) := by decide +kernel
theorem dX2_letter_1 : decode cX2_letter 1 = .ok (.invokestatic 25, 3) := by decide +kernel
theorem dX2_letter_4 : decode cX2_letter 4 = .ok (.iload_n 2, 1) := by decide +kernel
theorem dX2_letter_5 : decode cX2_letter 5 = .ok (.iload_n 3, 1) := by decide +kernel
theorem dX2_letter_6 : decode cX2_letter 6 = .ok (.invokestatic 29, 3) := by decide +kernel
theorem dX2_letter_9 : decode cX2_letter 9 = .ok (.iload 4, 2) := by decide +kernel
theorem dX2_letter_11 : decode cX2_letter 11 = .ok (.bipush 20, 2) := by decide +kernel
theorem dX2_letter_13 : decode cX2_letter 13 = .ok (.invokestatic 33, 3) := by decide +kernel
theorem dX2_letter_16 : decode cX2_letter 16 = .ok (.iload 5, 2) := by decide +kernel
theorem dX2_letter_18 : decode cX2_letter 18 = .ok (.sipush 1000, 3) := by decide +kernel
theorem dX2_letter_21 : decode cX2_letter 21 = .ok (.invokestatic 33, 3) := by decide +kernel
theorem dX2_letter_24 : decode cX2_letter 24 = .ok (.iload 6, 2) := by decide +kernel
theorem dX2_letter_26 : decode cX2_letter 26 = .ok (.bipush 10, 2) := by decide +kernel
theorem dX2_letter_28 : decode cX2_letter 28 = .ok (.invokestatic 33, 3) := by decide +kernel
theorem dX2_letter_31 : decode cX2_letter 31 = .ok (.aload_n 0, 1) := by decide +kernel
theorem dX2_letter_32 : decode cX2_letter 32 = .ok (.getfield 10, 3) := by decide +kernel
theorem dX2_letter_35 : decode cX2_letter 35 = .ok (.iload_n 1, 1) := by decide +kernel
theorem dX2_letter_36 : decode cX2_letter 36 = .ok (.invokevirtual 36, 3) := by decide +kernel
theorem dX2_letter_39 : decode cX2_letter 39 = .ok (.ifCond .eq 13, 3) := by decide +kernel
theorem dX2_letter_42 : decode cX2_letter 42 = .ok (.new 40, 3) := by decide +kernel
theorem dX2_letter_45 : decode cX2_letter 45 = .ok (.dup, 1) := by decide +kernel
theorem dX2_letter_46 : decode cX2_letter 46 = .ok (.ldc 42, 2) := by decide +kernel
theorem dX2_letter_48 : decode cX2_letter 48 = .ok (.invokespecial 44, 3) := by decide +kernel
theorem dX2_letter_51 : decode cX2_letter 51 = .ok (.athrow, 1) := by decide +kernel
theorem dX2_letter_52 : decode cX2_letter 52 = .ok (.aload_n 0, 1) := by decide +kernel
theorem dX2_letter_53 : decode cX2_letter 53 = .ok (.getfield 10, 3) := by decide +kernel
theorem dX2_letter_56 : decode cX2_letter 56 = .ok (.iload_n 1, 1) := by decide +kernel
theorem dX2_letter_57 : decode cX2_letter 57 = .ok (.iload_n 2, 1) := by decide +kernel
theorem dX2_letter_58 : decode cX2_letter 58 = .ok (.iload_n 3, 1) := by decide +kernel
theorem dX2_letter_59 : decode cX2_letter 59 = .ok (.iload 4, 2) := by decide +kernel
theorem dX2_letter_61 : decode cX2_letter 61 = .ok (.iload 5, 2) := by decide +kernel
theorem dX2_letter_63 : decode cX2_letter 63 = .ok (.iload 6, 2) := by decide +kernel
theorem dX2_letter_65 : decode cX2_letter 65 = .ok (.invokevirtual 47, 3) := by decide +kernel
theorem dX2_letter_68 : decode cX2_letter 68 = .ok (.aload_n 0, 1) := by decide +kernel
theorem dX2_letter_69 : decode cX2_letter 69 = .ok (.getfield 21, 3) := by decide +kernel
theorem dX2_letter_72 : decode cX2_letter 72 = .ok (.invokevirtual 51, 3) := by decide +kernel
theorem dX2_letter_75 : decode cX2_letter 75 = .ok (.aload_n 0, 1) := by decide +kernel
theorem dX2_letter_76 : decode cX2_letter 76 = .ok (.getfield 21, 3) := by decide +kernel
theorem dX2_letter_79 : decode cX2_letter 79 = .ok (.invokevirtual 54, 3) := by decide +kernel
theorem dX2_letter_82 : decode cX2_letter 82 = .ok (.ireturn, 1) := by decide +kernel
theorem dX2_delete_0 : decode cX2_delete 0 = .ok (.aload_n 0, 1) := by decide +kernel
theorem dX2_delete_1 : decode cX2_delete 1 = .ok (.iload_n 1, 1) := by decide +kernel
theorem dX2_delete_2 : decode cX2_delete 2 = .ok (.invokevirtual 58, 3) := by decide +kernel
theorem dX2_delete_5 : decode cX2_delete 5 = .ok (.aload_n 0, 1) := by decide +kernel
theorem dX2_delete_6 : decode cX2_delete 6 = .ok (.getfield 10, 3) := by decide +kernel
theorem dX2_delete_9 : decode cX2_delete 9 = .ok (.iload_n 1, 1) := by decide +kernel
theorem dX2_delete_10 : decode cX2_delete 10 = .ok (.invokevirtual 61, 3) := by decide +kernel
theorem dX2_delete_13 : decode cX2_delete 13 = .ok (.aload_n 0, 1) := by decide +kernel
theorem dX2_delete_14 : decode cX2_delete 14 = .ok (.getfield 21, 3) := by decide +kernel
theorem dX2_delete_17 : decode cX2_delete 17 = .ok (.invokevirtual 51, 3) := by decide +kernel
theorem dX2_delete_20 : decode cX2_delete 20 = .ok (.aload_n 0, 1) := by decide +kernel
theorem dX2_delete_21 : decode cX2_delete 21 = .ok (.getfield 21, 3) := by decide +kernel
theorem dX2_delete_24 : decode cX2_delete 24 = .ok (.invokevirtual 54, 3) := by decide +kernel
theorem dX2_delete_27 : decode cX2_delete 27 = .ok (.ireturn, 1) := by decide +kernel
theorem dX2_split_0 : decode cX2_split 0 = .ok (.aload_n 0, 1) := by decide +kernel
theorem dX2_split_1 : decode cX2_split 1 = .ok (.iload_n 1, 1) := by decide +kernel
theorem dX2_split_2 : decode cX2_split 2 = .ok (.invokevirtual 58, 3) := by decide +kernel
theorem dX2_split_5 : decode cX2_split 5 = .ok (.aload_n 0, 1) := by decide +kernel
theorem dX2_split_6 : decode cX2_split 6 = .ok (.getfield 21, 3) := by decide +kernel
theorem dX2_split_9 : decode cX2_split 9 = .ok (.iload_n 1, 1) := by decide +kernel
theorem dX2_split_10 : decode cX2_split 10 = .ok (.invokevirtual 64, 3) := by decide +kernel
theorem dX2_split_13 : decode cX2_split 13 = .ok (.istore_n 2, 1) := by decide +kernel
theorem dX2_split_14 : decode cX2_split 14 = .ok (.aload_n 0, 1) := by decide +kernel
theorem dX2_split_15 : decode cX2_split 15 = .ok (.getfield 10, 3) := by decide +kernel
theorem dX2_split_18 : decode cX2_split 18 = .ok (.iload_n 1, 1) := by decide +kernel
theorem dX2_split_19 : decode cX2_split 19 = .ok (.bipush (-2), 2) := by decide +kernel
theorem dX2_split_21 : decode cX2_split 21 = .ok (.invokevirtual 68, 3) := by decide +kernel
theorem dX2_split_24 : decode cX2_split 24 = .ok (.aload_n 0, 1) := by decide +kernel
theorem dX2_split_25 : decode cX2_split 25 = .ok (.getfield 21, 3) := by decide +kernel
theorem dX2_split_28 : decode cX2_split 28 = .ok (.invokevirtual 51, 3) := by decide +kernel
theorem dX2_split_31 : decode cX2_split 31 = .ok (.iload_n 2, 1) := by decide +kernel
theorem dX2_split_32 : decode cX2_split 32 = .ok (.ireturn, 1) := by decide +kernel
theorem dX2_join_0 : decode cX2_join 0 = .ok (.iload_n 1, 1) := by decide +kernel
theorem dX2_join_1 : decode cX2_join 1 = .ok (.invokestatic 25, 3) := by decide +kernel
theorem dX2_join_4 : decode cX2_join 4 = .ok (.iload_n 2, 1) := by decide +kernel
theorem dX2_join_5 : decode cX2_join 5 = .ok (.invokestatic 25, 3) := by decide +kernel
theorem dX2_join_8 : decode cX2_join 8 = .ok (.iload_n 1, 1) := by decide +kernel
theorem dX2_join_9 : decode cX2_join 9 = .ok (.iload_n 2, 1) := by decide +kernel
theorem dX2_join_10 : decode cX2_join 10 = .ok (.if_icmp .ne 13, 3) := by decide +kernel
theorem dX2_join_13 : decode cX2_join 13 = .ok (.new 71, 3) := by decide +kernel
theorem dX2_join_16 : decode cX2_join 16 = .ok (.dup, 1) := by decide +kernel
theorem dX2_join_17 : decode cX2_join 17 = .ok (.ldc 73, 2) := by decide +kernel
theorem dX2_join_19 : decode cX2_join 19 = .ok (.invokespecial 75, 3) := by decide +kernel
theorem dX2_join_22 : decode cX2_join 22 = .ok (.athrow, 1) := by decide +kernel
theorem dX2_join_23 : decode cX2_join 23 = .ok (.aload_n 0, 1) := by decide +kernel
theorem dX2_join_24 : decode cX2_join 24 = .ok (.iload_n 1, 1) := by decide +kernel
theorem dX2_join_25 : decode cX2_join 25 = .ok (.invokevirtual 58, 3) := by decide +kernel
theorem dX2_join_28 : decode cX2_join 28 = .ok (.aload_n 0, 1) := by decide +kernel
theorem dX2_join_29 : decode cX2_join 29 = .ok (.iload_n 2, 1) := by decide +kernel
theorem dX2_join_30 : decode cX2_join 30 = .ok (.invokevirtual 58, 3) := by decide +kernel
theorem dX2_join_33 : decode cX2_join 33 = .ok (.aload_n 0, 1) := by decide +kernel
theorem dX2_join_34 : decode cX2_join 34 = .ok (.getfield 21, 3) := by decide +kernel
theorem dX2_join_37 : decode cX2_join 37 = .ok (.iload_n 2, 1) := by decide +kernel
theorem dX2_join_38 : decode cX2_join 38 = .ok (.iload_n 1, 1) := by decide +kernel
theorem dX2_join_39 : decode cX2_join 39 = .ok (.invokevirtual 76, 3) := by decide +kernel
theorem dX2_join_42 : decode cX2_join 42 = .ok (.ifCond .eq 13, 3) := by decide +kernel
theorem dX2_join_45 : decode cX2_join 45 = .ok (.new 40, 3) := by decide +kernel
theorem dX2_join_48 : decode cX2_join 48 = .ok (.dup, 1) := by decide +kernel
theorem dX2_join_49 : decode cX2_join 49 = .ok (.ldc 80, 2) := by decide +kernel
theorem dX2_join_51 : decode cX2_join 51 = .ok (.invokespecial 44, 3) := by decide +kernel
theorem dX2_join_54 : decode cX2_join 54 = .ok (.athrow, 1) := by decide +kernel
theorem dX2_join_55 : decode cX2_join 55 = .ok (.aload_n 0, 1) := by decide +kernel
theorem dX2_join_56 : decode cX2_join 56 = .ok (.getfield 10, 3) := by decide +kernel
theorem dX2_join_59 : decode cX2_join 59 = .ok (.iload_n 1, 1) := by decide +kernel
theorem dX2_join_60 : decode cX2_join 60 = .ok (.iload_n 2, 1) := by decide +kernel
theorem dX2_join_61 : decode cX2_join 61 = .ok (.invokevirtual 68, 3) := by decide +kernel
theorem dX2_join_64 : decode cX2_join 64 = .ok (.aload_n 0, 1) := by decide +kernel
theorem dX2_join_65 : decode cX2_join 65 = .ok (.getfield 21, 3) := by decide +kernel
theorem dX2_join_68 : decode cX2_join 68 = .ok (.invokevirtual 51, 3) := by decide +kernel
theorem dX2_join_71 : decode cX2_join 71 = .ok (.aload_n 0, 1) := by decide +kernel
theorem dX2_join_72 : decode cX2_join 72 = .ok (.getfield 21, 3) := by decide +kernel
theorem dX2_join_75 : decode cX2_join 75 = .ok (.iload_n 1, 1) := by decide +kernel
theorem dX2_join_76 : decode cX2_join 76 = .ok (.invokevirtual 64, 3) := by decide +kernel
theorem dX2_join_79 : decode cX2_join 79 = .ok (.ireturn, 1) := by decide +kernel
theorem dX2_release_0 : decode cX2_release 0 = .ok (.aload_n 0, 1) := by decide +kernel
theorem dX2_release_1 : decode cX2_release 1 = .ok (.iload_n 1, 1) := by decide +kernel
theorem dX2_release_2 : decode cX2_release 2 = .ok (.invokevirtual 58, 3) := by decide +kernel
theorem dX2_release_5 : decode cX2_release 5 = .ok (.aload_n 0, 1) := by decide +kernel
theorem dX2_release_6 : decode cX2_release 6 = .ok (.getfield 10, 3) := by decide +kernel
theorem dX2_release_9 : decode cX2_release 9 = .ok (.iload_n 1, 1) := by decide +kernel
theorem dX2_release_10 : decode cX2_release 10 = .ok (.invokevirtual 82, 3) := by decide +kernel
theorem dX2_release_13 : decode cX2_release 13 = .ok (.iconst (-1), 1) := by decide +kernel
theorem dX2_release_14 : decode cX2_release 14 = .ok (.if_icmp .eq 7, 3) := by decide +kernel
theorem dX2_release_17 : decode cX2_release 17 = .ok (.iconst 1, 1) := by decide +kernel
theorem dX2_release_18 : decode cX2_release 18 = .ok (.goto 4, 3) := by decide +kernel
theorem dX2_release_21 : decode cX2_release 21 = .ok (.iconst 0, 1) := by decide +kernel
theorem dX2_release_22 : decode cX2_release 22 = .ok (.istore_n 2, 1) := by decide +kernel
theorem dX2_release_23 : decode cX2_release 23 = .ok (.aload_n 0, 1) := by decide +kernel
theorem dX2_release_24 : decode cX2_release 24 = .ok (.getfield 10, 3) := by decide +kernel
theorem dX2_release_27 : decode cX2_release 27 = .ok (.iload_n 1, 1) := by decide +kernel
theorem dX2_release_28 : decode cX2_release 28 = .ok (.iconst (-1), 1) := by decide +kernel
theorem dX2_release_29 : decode cX2_release 29 = .ok (.invokevirtual 68, 3) := by decide +kernel
theorem dX2_release_32 : decode cX2_release 32 = .ok (.aload_n 0, 1) := by decide +kernel
theorem dX2_release_33 : decode cX2_release 33 = .ok (.getfield 21, 3) := by decide +kernel
theorem dX2_release_36 : decode cX2_release 36 = .ok (.invokevirtual 51, 3) := by decide +kernel
theorem dX2_release_39 : decode cX2_release 39 = .ok (.iload_n 2, 1) := by decide +kernel
theorem dX2_release_40 : decode cX2_release 40 = .ok (.ireturn, 1) := by decide +kernel
theorem dX2_state_0 : decode cX2_state 0 = .ok (.iload_n 1, 1) := by decide +kernel
theorem dX2_state_1 : decode cX2_state 1 = .ok (.invokestatic 25, 3) := by decide +kernel
theorem dX2_state_4 : decode cX2_state 4 = .ok (.aload_n 0, 1) := by decide +kernel
theorem dX2_state_5 : decode cX2_state 5 = .ok (.getfield 10, 3) := by decide +kernel
theorem dX2_state_8 : decode cX2_state 8 = .ok (.iload_n 1, 1) := by decide +kernel
theorem dX2_state_9 : decode cX2_state 9 = .ok (.invokevirtual 36, 3) := by decide +kernel
theorem dX2_state_12 : decode cX2_state 12 = .ok (.ifCond .eq 5, 3) := by decide +kernel
theorem dX2_state_15 : decode cX2_state 15 = .ok (.iconst 3, 1) := by decide +kernel
theorem dX2_state_16 : decode cX2_state 16 = .ok (.ireturn, 1) := by decide +kernel
theorem dX2_state_17 : decode cX2_state 17 = .ok (.aload_n 0, 1) := by decide +kernel
theorem dX2_state_18 : decode cX2_state 18 = .ok (.getfield 21, 3) := by decide +kernel
theorem dX2_state_21 : decode cX2_state 21 = .ok (.iload_n 1, 1) := by decide +kernel
theorem dX2_state_22 : decode cX2_state 22 = .ok (.invokevirtual 95, 3) := by decide +kernel
theorem dX2_state_25 : decode cX2_state 25 = .ok (.ifCond .eq 5, 3) := by decide +kernel
theorem dX2_state_28 : decode cX2_state 28 = .ok (.iconst 2, 1) := by decide +kernel
theorem dX2_state_29 : decode cX2_state 29 = .ok (.ireturn, 1) := by decide +kernel
theorem dX2_state_30 : decode cX2_state 30 = .ok (.aload_n 0, 1) := by decide +kernel
theorem dX2_state_31 : decode cX2_state 31 = .ok (.getfield 21, 3) := by decide +kernel
theorem dX2_state_34 : decode cX2_state 34 = .ok (.iload_n 1, 1) := by decide +kernel
theorem dX2_state_35 : decode cX2_state 35 = .ok (.invokevirtual 98, 3) := by decide +kernel
theorem dX2_state_38 : decode cX2_state 38 = .ok (.ifCond .eq 7, 3) := by decide +kernel
theorem dX2_state_41 : decode cX2_state 41 = .ok (.iconst 1, 1) := by decide +kernel
theorem dX2_state_42 : decode cX2_state 42 = .ok (.goto 4, 3) := by decide +kernel
theorem dX2_state_45 : decode cX2_state 45 = .ok (.iconst 0, 1) := by decide +kernel
theorem dX2_state_46 : decode cX2_state 46 = .ok (.ireturn, 1) := by decide +kernel
theorem dX2_parent_0 : decode cX2_parent 0 = .ok (.aload_n 0, 1) := by decide +kernel
theorem dX2_parent_1 : decode cX2_parent 1 = .ok (.iload_n 1, 1) := by decide +kernel
theorem dX2_parent_2 : decode cX2_parent 2 = .ok (.invokevirtual 85, 3) := by decide +kernel
theorem dX2_parent_5 : decode cX2_parent 5 = .ok (.aload_n 0, 1) := by decide +kernel
theorem dX2_parent_6 : decode cX2_parent 6 = .ok (.getfield 21, 3) := by decide +kernel
theorem dX2_parent_9 : decode cX2_parent 9 = .ok (.iload_n 1, 1) := by decide +kernel
theorem dX2_parent_10 : decode cX2_parent 10 = .ok (.invokevirtual 64, 3) := by decide +kernel
theorem dX2_parent_13 : decode cX2_parent 13 = .ok (.ireturn, 1) := by decide +kernel
theorem dX2_roots_0 : decode cX2_roots 0 = .ok (.aload_n 0, 1) := by decide +kernel
theorem dX2_roots_1 : decode cX2_roots 1 = .ok (.getfield 21, 3) := by decide +kernel
theorem dX2_roots_4 : decode cX2_roots 4 = .ok (.invokevirtual 54, 3) := by decide +kernel
theorem dX2_roots_7 : decode cX2_roots 7 = .ok (.ireturn, 1) := by decide +kernel
theorem dX2_root_0 : decode cX2_root 0 = .ok (.aload_n 0, 1) := by decide +kernel
theorem dX2_root_1 : decode cX2_root 1 = .ok (.getfield 21, 3) := by decide +kernel
theorem dX2_root_4 : decode cX2_root 4 = .ok (.iload_n 1, 1) := by decide +kernel
theorem dX2_root_5 : decode cX2_root 5 = .ok (.invokevirtual 104, 3) := by decide +kernel
theorem dX2_root_8 : decode cX2_root 8 = .ok (.istore_n 2, 1) := by decide +kernel
theorem dX2_root_9 : decode cX2_root 9 = .ok (.iload_n 2, 1) := by decide +kernel
theorem dX2_root_10 : decode cX2_root 10 = .ok (.iconst (-1), 1) := by decide +kernel
theorem dX2_root_11 : decode cX2_root 11 = .ok (.if_icmp .ne 13, 3) := by decide +kernel
theorem dX2_root_14 : decode cX2_root 14 = .ok (.new 107, 3) := by decide +kernel
theorem dX2_root_17 : decode cX2_root 17 = .ok (.dup, 1) := by decide +kernel
theorem dX2_root_18 : decode cX2_root 18 = .ok (.ldc 109, 2) := by decide +kernel
theorem dX2_root_20 : decode cX2_root 20 = .ok (.invokespecial 111, 3) := by decide +kernel
theorem dX2_root_23 : decode cX2_root 23 = .ok (.athrow, 1) := by decide +kernel
theorem dX2_root_24 : decode cX2_root 24 = .ok (.iload_n 2, 1) := by decide +kernel
theorem dX2_root_25 : decode cX2_root 25 = .ok (.ireturn, 1) := by decide +kernel
theorem dX2_inTree_0 : decode cX2_inTree 0 = .ok (.aload_n 0, 1) := by decide +kernel
theorem dX2_inTree_1 : decode cX2_inTree 1 = .ok (.iload_n 1, 1) := by decide +kernel
theorem dX2_inTree_2 : decode cX2_inTree 2 = .ok (.invokevirtual 85, 3) := by decide +kernel
theorem dX2_inTree_5 : decode cX2_inTree 5 = .ok (.aload_n 0, 1) := by decide +kernel
theorem dX2_inTree_6 : decode cX2_inTree 6 = .ok (.getfield 21, 3) := by decide +kernel
theorem dX2_inTree_9 : decode cX2_inTree 9 = .ok (.iload_n 1, 1) := by decide +kernel
theorem dX2_inTree_10 : decode cX2_inTree 10 = .ok (.iload_n 2, 1) := by decide +kernel
theorem dX2_inTree_11 : decode cX2_inTree 11 = .ok (.invokevirtual 88, 3) := by decide +kernel
theorem dX2_inTree_14 : decode cX2_inTree 14 = .ok (.istore_n 3, 1) := by decide +kernel
theorem dX2_inTree_15 : decode cX2_inTree 15 = .ok (.iload_n 3, 1) := by decide +kernel
theorem dX2_inTree_16 : decode cX2_inTree 16 = .ok (.iconst (-1), 1) := by decide +kernel
theorem dX2_inTree_17 : decode cX2_inTree 17 = .ok (.if_icmp .ne 13, 3) := by decide +kernel
theorem dX2_inTree_20 : decode cX2_inTree 20 = .ok (.new 107, 3) := by decide +kernel
theorem dX2_inTree_23 : decode cX2_inTree 23 = .ok (.dup, 1) := by decide +kernel
theorem dX2_inTree_24 : decode cX2_inTree 24 = .ok (.ldc 112, 2) := by decide +kernel
theorem dX2_inTree_26 : decode cX2_inTree 26 = .ok (.invokespecial 111, 3) := by decide +kernel
theorem dX2_inTree_29 : decode cX2_inTree 29 = .ok (.athrow, 1) := by decide +kernel
theorem dX2_inTree_30 : decode cX2_inTree 30 = .ok (.iload_n 3, 1) := by decide +kernel
theorem dX2_inTree_31 : decode cX2_inTree 31 = .ok (.ireturn, 1) := by decide +kernel
theorem dX2_letters_0 : decode cX2_letters 0 = .ok (.aload_n 0, 1) := by decide +kernel
theorem dX2_letters_1 : decode cX2_letters 1 = .ok (.iload_n 1, 1) := by decide +kernel
theorem dX2_letters_2 : decode cX2_letters 2 = .ok (.invokevirtual 85, 3) := by decide +kernel
theorem dX2_letters_5 : decode cX2_letters 5 = .ok (.iconst 0, 1) := by decide +kernel
theorem dX2_letters_6 : decode cX2_letters 6 = .ok (.istore_n 2, 1) := by decide +kernel
theorem dX2_letters_7 : decode cX2_letters 7 = .ok (.iconst 0, 1) := by decide +kernel
theorem dX2_letters_8 : decode cX2_letters 8 = .ok (.istore_n 3, 1) := by decide +kernel
theorem dX2_letters_9 : decode cX2_letters 9 = .ok (.iload_n 3, 1) := by decide +kernel
theorem dX2_letters_10 : decode cX2_letters 10 = .ok (.bipush 30, 2) := by decide +kernel
theorem dX2_letters_12 : decode cX2_letters 12 = .ok (.if_icmp .ge 31, 3) := by decide +kernel
theorem dX2_letters_15 : decode cX2_letters 15 = .ok (.aload_n 0, 1) := by decide +kernel
theorem dX2_letters_16 : decode cX2_letters 16 = .ok (.getfield 10, 3) := by decide +kernel
theorem dX2_letters_19 : decode cX2_letters 19 = .ok (.aload_n 0, 1) := by decide +kernel
theorem dX2_letters_20 : decode cX2_letters 20 = .ok (.getfield 21, 3) := by decide +kernel
theorem dX2_letters_23 : decode cX2_letters 23 = .ok (.iload_n 1, 1) := by decide +kernel
theorem dX2_letters_24 : decode cX2_letters 24 = .ok (.iload_n 3, 1) := by decide +kernel
theorem dX2_letters_25 : decode cX2_letters 25 = .ok (.invokevirtual 88, 3) := by decide +kernel
theorem dX2_letters_28 : decode cX2_letters 28 = .ok (.invokevirtual 36, 3) := by decide +kernel
theorem dX2_letters_31 : decode cX2_letters 31 = .ok (.ifCond .eq 6, 3) := by decide +kernel
theorem dX2_letters_34 : decode cX2_letters 34 = .ok (.iinc 2 1, 3) := by decide +kernel
theorem dX2_letters_37 : decode cX2_letters 37 = .ok (.iinc 3 1, 3) := by decide +kernel
theorem dX2_letters_40 : decode cX2_letters 40 = .ok (.goto (-31), 3) := by decide +kernel
theorem dX2_letters_43 : decode cX2_letters 43 = .ok (.iload_n 2, 1) := by decide +kernel
theorem dX2_letters_44 : decode cX2_letters 44 = .ok (.ireturn, 1) := by decide +kernel
theorem dX2_people_0 : decode cX2_people 0 = .ok (.aload_n 0, 1) := by decide +kernel
theorem dX2_people_1 : decode cX2_people 1 = .ok (.iload_n 1, 1) := by decide +kernel
theorem dX2_people_2 : decode cX2_people 2 = .ok (.invokevirtual 85, 3) := by decide +kernel
theorem dX2_people_5 : decode cX2_people 5 = .ok (.iconst 0, 1) := by decide +kernel
theorem dX2_people_6 : decode cX2_people 6 = .ok (.istore_n 2, 1) := by decide +kernel
theorem dX2_people_7 : decode cX2_people 7 = .ok (.iconst 0, 1) := by decide +kernel
theorem dX2_people_8 : decode cX2_people 8 = .ok (.istore_n 3, 1) := by decide +kernel
theorem dX2_people_9 : decode cX2_people 9 = .ok (.iload_n 3, 1) := by decide +kernel
theorem dX2_people_10 : decode cX2_people 10 = .ok (.bipush 30, 2) := by decide +kernel
theorem dX2_people_12 : decode cX2_people 12 = .ok (.if_icmp .ge 28, 3) := by decide +kernel
theorem dX2_people_15 : decode cX2_people 15 = .ok (.iload_n 2, 1) := by decide +kernel
theorem dX2_people_16 : decode cX2_people 16 = .ok (.aload_n 0, 1) := by decide +kernel
theorem dX2_people_17 : decode cX2_people 17 = .ok (.getfield 10, 3) := by decide +kernel
theorem dX2_people_20 : decode cX2_people 20 = .ok (.aload_n 0, 1) := by decide +kernel
theorem dX2_people_21 : decode cX2_people 21 = .ok (.getfield 21, 3) := by decide +kernel
theorem dX2_people_24 : decode cX2_people 24 = .ok (.iload_n 1, 1) := by decide +kernel
theorem dX2_people_25 : decode cX2_people 25 = .ok (.iload_n 3, 1) := by decide +kernel
theorem dX2_people_26 : decode cX2_people 26 = .ok (.invokevirtual 88, 3) := by decide +kernel
theorem dX2_people_29 : decode cX2_people 29 = .ok (.invokevirtual 120, 3) := by decide +kernel
theorem dX2_people_32 : decode cX2_people 32 = .ok (.ior, 1) := by decide +kernel
theorem dX2_people_33 : decode cX2_people 33 = .ok (.istore_n 2, 1) := by decide +kernel
theorem dX2_people_34 : decode cX2_people 34 = .ok (.iinc 3 1, 3) := by decide +kernel
theorem dX2_people_37 : decode cX2_people 37 = .ok (.goto (-28), 3) := by decide +kernel
theorem dX2_people_40 : decode cX2_people 40 = .ok (.iload_n 2, 1) := by decide +kernel
theorem dX2_people_41 : decode cX2_people 41 = .ok (.ireturn, 1) := by decide +kernel
theorem dX2_latest_0 : decode cX2_latest 0 = .ok (.aload_n 0, 1) := by decide +kernel
theorem dX2_latest_1 : decode cX2_latest 1 = .ok (.iload_n 1, 1) := by decide +kernel
theorem dX2_latest_2 : decode cX2_latest 2 = .ok (.invokevirtual 85, 3) := by decide +kernel
theorem dX2_latest_5 : decode cX2_latest 5 = .ok (.iconst (-1), 1) := by decide +kernel
theorem dX2_latest_6 : decode cX2_latest 6 = .ok (.istore_n 2, 1) := by decide +kernel
theorem dX2_latest_7 : decode cX2_latest 7 = .ok (.iconst 0, 1) := by decide +kernel
theorem dX2_latest_8 : decode cX2_latest 8 = .ok (.istore_n 3, 1) := by decide +kernel
theorem dX2_latest_9 : decode cX2_latest 9 = .ok (.iload_n 3, 1) := by decide +kernel
theorem dX2_latest_10 : decode cX2_latest 10 = .ok (.bipush 30, 2) := by decide +kernel
theorem dX2_latest_12 : decode cX2_latest 12 = .ok (.if_icmp .ge 46, 3) := by decide +kernel
theorem dX2_latest_15 : decode cX2_latest 15 = .ok (.aload_n 0, 1) := by decide +kernel
theorem dX2_latest_16 : decode cX2_latest 16 = .ok (.getfield 21, 3) := by decide +kernel
theorem dX2_latest_19 : decode cX2_latest 19 = .ok (.iload_n 1, 1) := by decide +kernel
theorem dX2_latest_20 : decode cX2_latest 20 = .ok (.iload_n 3, 1) := by decide +kernel
theorem dX2_latest_21 : decode cX2_latest 21 = .ok (.invokevirtual 88, 3) := by decide +kernel
theorem dX2_latest_24 : decode cX2_latest 24 = .ok (.istore 4, 2) := by decide +kernel
theorem dX2_latest_26 : decode cX2_latest 26 = .ok (.aload_n 0, 1) := by decide +kernel
theorem dX2_latest_27 : decode cX2_latest 27 = .ok (.getfield 10, 3) := by decide +kernel
theorem dX2_latest_30 : decode cX2_latest 30 = .ok (.iload 4, 2) := by decide +kernel
theorem dX2_latest_32 : decode cX2_latest 32 = .ok (.invokevirtual 36, 3) := by decide +kernel
theorem dX2_latest_35 : decode cX2_latest 35 = .ok (.ifCond .eq 17, 3) := by decide +kernel
theorem dX2_latest_38 : decode cX2_latest 38 = .ok (.iload_n 2, 1) := by decide +kernel
theorem dX2_latest_39 : decode cX2_latest 39 = .ok (.aload_n 0, 1) := by decide +kernel
theorem dX2_latest_40 : decode cX2_latest 40 = .ok (.getfield 10, 3) := by decide +kernel
theorem dX2_latest_43 : decode cX2_latest 43 = .ok (.iload 4, 2) := by decide +kernel
theorem dX2_latest_45 : decode cX2_latest 45 = .ok (.invokevirtual 123, 3) := by decide +kernel
theorem dX2_latest_48 : decode cX2_latest 48 = .ok (.invokestatic 126, 3) := by decide +kernel
theorem dX2_latest_51 : decode cX2_latest 51 = .ok (.istore_n 2, 1) := by decide +kernel
theorem dX2_latest_52 : decode cX2_latest 52 = .ok (.iinc 3 1, 3) := by decide +kernel
theorem dX2_latest_55 : decode cX2_latest 55 = .ok (.goto (-46), 3) := by decide +kernel
theorem dX2_latest_58 : decode cX2_latest 58 = .ok (.iload_n 2, 1) := by decide +kernel
theorem dX2_latest_59 : decode cX2_latest 59 = .ok (.ireturn, 1) := by decide +kernel
theorem dX2_isId_0 : decode cX2_isId 0 = .ok (.iload_n 0, 1) := by decide +kernel
theorem dX2_isId_1 : decode cX2_isId 1 = .ok (.ifCond .lt 13, 3) := by decide +kernel
theorem dX2_isId_4 : decode cX2_isId 4 = .ok (.iload_n 0, 1) := by decide +kernel
theorem dX2_isId_5 : decode cX2_isId 5 = .ok (.bipush 30, 2) := by decide +kernel
theorem dX2_isId_7 : decode cX2_isId 7 = .ok (.if_icmp .ge 7, 3) := by decide +kernel
theorem dX2_isId_10 : decode cX2_isId 10 = .ok (.iconst 1, 1) := by decide +kernel
theorem dX2_isId_11 : decode cX2_isId 11 = .ok (.goto 4, 3) := by decide +kernel
theorem dX2_isId_14 : decode cX2_isId 14 = .ok (.iconst 0, 1) := by decide +kernel
theorem dX2_isId_15 : decode cX2_isId 15 = .ok (.ireturn, 1) := by decide +kernel
theorem dX2_requireId_0 : decode cX2_requireId 0 = .ok (.iload_n 0, 1) := by decide +kernel
theorem dX2_requireId_1 : decode cX2_requireId 1 = .ok (.invokestatic 131, 3) := by decide +kernel
theorem dX2_requireId_4 : decode cX2_requireId 4 = .ok (.ifCond .ne 13, 3) := by decide +kernel
theorem dX2_requireId_7 : decode cX2_requireId 7 = .ok (.new 71, 3) := by decide +kernel
theorem dX2_requireId_10 : decode cX2_requireId 10 = .ok (.dup, 1) := by decide +kernel
theorem dX2_requireId_11 : decode cX2_requireId 11 = .ok (.ldc 134, 2) := by decide +kernel
theorem dX2_requireId_13 : decode cX2_requireId 13 = .ok (.invokespecial 75, 3) := by decide +kernel
theorem dX2_requireId_16 : decode cX2_requireId 16 = .ok (.athrow, 1) := by decide +kernel
theorem dX2_requireId_17 : decode cX2_requireId 17 = .ok (.return_, 1) := by decide +kernel
theorem dX2_requireTold_0 : decode cX2_requireTold 0 = .ok (.iload_n 0, 1) := by decide +kernel
theorem dX2_requireTold_1 : decode cX2_requireTold 1 = .ok (.iconst (-1), 1) := by decide +kernel
theorem dX2_requireTold_2 : decode cX2_requireTold 2 = .ok (.if_icmp .eq 7, 3) := by decide +kernel
theorem dX2_requireTold_5 : decode cX2_requireTold 5 = .ok (.iload_n 0, 1) := by decide +kernel
theorem dX2_requireTold_6 : decode cX2_requireTold 6 = .ok (.invokestatic 25, 3) := by decide +kernel
theorem dX2_requireTold_9 : decode cX2_requireTold 9 = .ok (.iload_n 1, 1) := by decide +kernel
theorem dX2_requireTold_10 : decode cX2_requireTold 10 = .ok (.iconst (-1), 1) := by decide +kernel
theorem dX2_requireTold_11 : decode cX2_requireTold 11 = .ok (.if_icmp .eq 7, 3) := by decide +kernel
theorem dX2_requireTold_14 : decode cX2_requireTold 14 = .ok (.iload_n 1, 1) := by decide +kernel
theorem dX2_requireTold_15 : decode cX2_requireTold 15 = .ok (.invokestatic 25, 3) := by decide +kernel
theorem dX2_requireTold_18 : decode cX2_requireTold 18 = .ok (.iload_n 0, 1) := by decide +kernel
theorem dX2_requireTold_19 : decode cX2_requireTold 19 = .ok (.iconst (-1), 1) := by decide +kernel
theorem dX2_requireTold_20 : decode cX2_requireTold 20 = .ok (.if_icmp .eq 18, 3) := by decide +kernel
theorem dX2_requireTold_23 : decode cX2_requireTold 23 = .ok (.iload_n 1, 1) := by decide +kernel
theorem dX2_requireTold_24 : decode cX2_requireTold 24 = .ok (.iconst (-1), 1) := by decide +kernel
theorem dX2_requireTold_25 : decode cX2_requireTold 25 = .ok (.if_icmp .ne 13, 3) := by decide +kernel
theorem dX2_requireTold_28 : decode cX2_requireTold 28 = .ok (.new 71, 3) := by decide +kernel
theorem dX2_requireTold_31 : decode cX2_requireTold 31 = .ok (.dup, 1) := by decide +kernel
theorem dX2_requireTold_32 : decode cX2_requireTold 32 = .ok (.ldc 136, 2) := by decide +kernel
theorem dX2_requireTold_34 : decode cX2_requireTold 34 = .ok (.invokespecial 75, 3) := by decide +kernel
theorem dX2_requireTold_37 : decode cX2_requireTold 37 = .ok (.athrow, 1) := by decide +kernel
theorem dX2_requireTold_38 : decode cX2_requireTold 38 = .ok (.return_, 1) := by decide +kernel
theorem dX2_requireBelow_0 : decode cX2_requireBelow 0 = .ok (.iload_n 0, 1) := by decide +kernel
theorem dX2_requireBelow_1 : decode cX2_requireBelow 1 = .ok (.ifCond .lt 8, 3) := by decide +kernel
theorem dX2_requireBelow_4 : decode cX2_requireBelow 4 = .ok (.iload_n 0, 1) := by decide +kernel
theorem dX2_requireBelow_5 : decode cX2_requireBelow 5 = .ok (.iload_n 1, 1) := by decide +kernel
theorem dX2_requireBelow_6 : decode cX2_requireBelow 6 = .ok (.if_icmp .lt 13, 3) := by decide +kernel
theorem dX2_requireBelow_9 : decode cX2_requireBelow 9 = .ok (.new 71, 3) := by decide +kernel
theorem dX2_requireBelow_12 : decode cX2_requireBelow 12 = .ok (.dup, 1) := by decide +kernel
theorem dX2_requireBelow_13 : decode cX2_requireBelow 13 = .ok (.ldc 138, 2) := by decide +kernel
theorem dX2_requireBelow_15 : decode cX2_requireBelow 15 = .ok (.invokespecial 75, 3) := by decide +kernel
theorem dX2_requireBelow_18 : decode cX2_requireBelow 18 = .ok (.athrow, 1) := by decide +kernel
theorem dX2_requireBelow_19 : decode cX2_requireBelow 19 = .ok (.return_, 1) := by decide +kernel
theorem dX2_requireLetter_0 : decode cX2_requireLetter 0 = .ok (.iload_n 1, 1) := by decide +kernel
theorem dX2_requireLetter_1 : decode cX2_requireLetter 1 = .ok (.invokestatic 25, 3) := by decide +kernel
theorem dX2_requireLetter_4 : decode cX2_requireLetter 4 = .ok (.aload_n 0, 1) := by decide +kernel
theorem dX2_requireLetter_5 : decode cX2_requireLetter 5 = .ok (.getfield 10, 3) := by decide +kernel
theorem dX2_requireLetter_8 : decode cX2_requireLetter 8 = .ok (.iload_n 1, 1) := by decide +kernel
theorem dX2_requireLetter_9 : decode cX2_requireLetter 9 = .ok (.invokevirtual 36, 3) := by decide +kernel
theorem dX2_requireLetter_12 : decode cX2_requireLetter 12 = .ok (.ifCond .ne 13, 3) := by decide +kernel
theorem dX2_requireLetter_15 : decode cX2_requireLetter 15 = .ok (.new 40, 3) := by decide +kernel
theorem dX2_requireLetter_18 : decode cX2_requireLetter 18 = .ok (.dup, 1) := by decide +kernel
theorem dX2_requireLetter_19 : decode cX2_requireLetter 19 = .ok (.ldc 140, 2) := by decide +kernel
theorem dX2_requireLetter_21 : decode cX2_requireLetter 21 = .ok (.invokespecial 44, 3) := by decide +kernel
theorem dX2_requireLetter_24 : decode cX2_requireLetter 24 = .ok (.athrow, 1) := by decide +kernel
theorem dX2_requireLetter_25 : decode cX2_requireLetter 25 = .ok (.return_, 1) := by decide +kernel
theorem dX2_requireInForest_0 : decode cX2_requireInForest 0 = .ok (.iload_n 1, 1) := by decide +kernel
theorem dX2_requireInForest_1 : decode cX2_requireInForest 1 = .ok (.invokestatic 25, 3) := by decide +kernel
theorem dX2_requireInForest_4 : decode cX2_requireInForest 4 = .ok (.aload_n 0, 1) := by decide +kernel
theorem dX2_requireInForest_5 : decode cX2_requireInForest 5 = .ok (.getfield 21, 3) := by decide +kernel
theorem dX2_requireInForest_8 : decode cX2_requireInForest 8 = .ok (.iload_n 1, 1) := by decide +kernel
theorem dX2_requireInForest_9 : decode cX2_requireInForest 9 = .ok (.invokevirtual 95, 3) := by decide +kernel
theorem dX2_requireInForest_12 : decode cX2_requireInForest 12 = .ok (.ifCond .ne 13, 3) := by decide +kernel
theorem dX2_requireInForest_15 : decode cX2_requireInForest 15 = .ok (.new 107, 3) := by decide +kernel
theorem dX2_requireInForest_18 : decode cX2_requireInForest 18 = .ok (.dup, 1) := by decide +kernel
theorem dX2_requireInForest_19 : decode cX2_requireInForest 19 = .ok (.ldc 142, 2) := by decide +kernel
theorem dX2_requireInForest_21 : decode cX2_requireInForest 21 = .ok (.invokespecial 111, 3) := by decide +kernel
theorem dX2_requireInForest_24 : decode cX2_requireInForest 24 = .ok (.athrow, 1) := by decide +kernel
theorem dX2_requireInForest_25 : decode cX2_requireInForest 25 = .ok (.return_, 1) := by decide +kernel
theorem dJ9_max_7cf53_0 : decode cJ9_max_7cf53 0 = .ok (.iload_n 0, 1) := by decide +kernel
theorem dJ9_max_7cf53_1 : decode cJ9_max_7cf53 1 = .ok (.iload_n 1, 1) := by decide +kernel
theorem dJ9_max_7cf53_2 : decode cJ9_max_7cf53 2 = .ok (.if_icmp .lt 7, 3) := by decide +kernel
theorem dJ9_max_7cf53_5 : decode cJ9_max_7cf53 5 = .ok (.iload_n 0, 1) := by decide +kernel
theorem dJ9_max_7cf53_6 : decode cJ9_max_7cf53 6 = .ok (.goto 4, 3) := by decide +kernel
theorem dJ9_max_7cf53_9 : decode cJ9_max_7cf53 9 = .ok (.iload_n 1, 1) := by decide +kernel
theorem dJ9_max_7cf53_10 : decode cJ9_max_7cf53 10 = .ok (.ireturn, 1) := by decide +kernel
theorem dJ9_min_7cf53_0 : decode cJ9_min_7cf53 0 = .ok (.iload_n 0, 1) := by decide +kernel
theorem dJ9_min_7cf53_1 : decode cJ9_min_7cf53 1 = .ok (.iload_n 1, 1) := by decide +kernel
theorem dJ9_min_7cf53_2 : decode cJ9_min_7cf53 2 = .ok (.if_icmp .gt 7, 3) := by decide +kernel
theorem dJ9_min_7cf53_5 : decode cJ9_min_7cf53 5 = .ok (.iload_n 0, 1) := by decide +kernel
theorem dJ9_min_7cf53_6 : decode cJ9_min_7cf53 6 = .ok (.goto 4, 3) := by decide +kernel
theorem dJ9_min_7cf53_9 : decode cJ9_min_7cf53 9 = .ok (.iload_n 1, 1) := by decide +kernel
theorem dJ9_min_7cf53_10 : decode cJ9_min_7cf53 10 = .ok (.ireturn, 1) := by decide +kernel
end
section
theorem dL_drawn_0 : decode cL_drawn 0 = .ok (.iload_n 1, 1) := by decide +kernel
theorem dL_drawn_1 : decode cL_drawn 1 = .ok (.aload_n 0, 1) := by decide +kernel
theorem dL_drawn_2 : decode cL_drawn 2 = .ok (.arraylength, 1) := by decide +kernel
theorem dL_drawn_3 : decode cL_drawn 3 = .ok (.if_icmp .ge 9, 3) := by decide +kernel
theorem dL_drawn_6 : decode cL_drawn 6 = .ok (.aload_n 0, 1) := by decide +kernel
theorem dL_drawn_7 : decode cL_drawn 7 = .ok (.iload_n 1, 1) := by decide +kernel
theorem dL_drawn_8 : decode cL_drawn 8 = .ok (.iaload, 1) := by decide +kernel
theorem dL_drawn_9 : decode cL_drawn 9 = .ok (.goto 12, 3) := by decide +kernel
theorem dL_drawn_12 : decode cL_drawn 12 = .ok (.sipush 12203, 3) := by decide +kernel
theorem dL_drawn_15 : decode cL_drawn 15 = .ok (.iload_n 1, 1) := by decide +kernel
theorem dL_drawn_16 : decode cL_drawn 16 = .ok (.imul, 1) := by decide +kernel
theorem dL_drawn_17 : decode cL_drawn 17 = .ok (.sipush 7753, 3) := by decide +kernel
theorem dL_drawn_20 : decode cL_drawn 20 = .ok (.iadd, 1) := by decide +kernel
theorem dL_drawn_21 : decode cL_drawn 21 = .ok (.istore_n 2, 1) := by decide +kernel
theorem dL_drawn_22 : decode cL_drawn 22 = .ok (.iload_n 2, 1) := by decide +kernel
theorem dL_drawn_23 : decode cL_drawn 23 = .ok (.ldc 7, 2) := by decide +kernel
theorem dL_drawn_25 : decode cL_drawn 25 = .ok (.iand, 1) := by decide +kernel
theorem dL_drawn_26 : decode cL_drawn 26 = .ok (.ireturn, 1) := by decide +kernel
theorem dL_come_0 : decode cL_come 0 = .ok (.iload_n 2, 1) := by decide +kernel
theorem dL_come_1 : decode cL_come 1 = .ok (.iconst 4, 1) := by decide +kernel
theorem dL_come_2 : decode cL_come 2 = .ok (.irem, 1) := by decide +kernel
theorem dL_come_3 : decode cL_come 3 = .ok (.ifCond .ne 7, 3) := by decide +kernel
theorem dL_come_6 : decode cL_come 6 = .ok (.iconst (-1), 1) := by decide +kernel
theorem dL_come_7 : decode cL_come 7 = .ok (.goto 9, 3) := by decide +kernel
theorem dL_come_10 : decode cL_come 10 = .ok (.iload_n 2, 1) := by decide +kernel
theorem dL_come_11 : decode cL_come 11 = .ok (.iconst 4, 1) := by decide +kernel
theorem dL_come_12 : decode cL_come 12 = .ok (.idiv, 1) := by decide +kernel
theorem dL_come_13 : decode cL_come 13 = .ok (.bipush 16, 2) := by decide +kernel
theorem dL_come_15 : decode cL_come 15 = .ok (.irem, 1) := by decide +kernel
theorem dL_come_16 : decode cL_come 16 = .ok (.istore_n 3, 1) := by decide +kernel
theorem dL_come_17 : decode cL_come 17 = .ok (.iload_n 3, 1) := by decide +kernel
theorem dL_come_18 : decode cL_come 18 = .ok (.iconst (-1), 1) := by decide +kernel
theorem dL_come_19 : decode cL_come 19 = .ok (.if_icmp .eq 12, 3) := by decide +kernel
theorem dL_come_22 : decode cL_come 22 = .ok (.iload_n 2, 1) := by decide +kernel
theorem dL_come_23 : decode cL_come 23 = .ok (.bipush 64, 2) := by decide +kernel
theorem dL_come_25 : decode cL_come 25 = .ok (.idiv, 1) := by decide +kernel
theorem dL_come_26 : decode cL_come 26 = .ok (.iconst 2, 1) := by decide +kernel
theorem dL_come_27 : decode cL_come 27 = .ok (.irem, 1) := by decide +kernel
theorem dL_come_28 : decode cL_come 28 = .ok (.ifCond .ne 7, 3) := by decide +kernel
theorem dL_come_31 : decode cL_come 31 = .ok (.iconst (-1), 1) := by decide +kernel
theorem dL_come_32 : decode cL_come 32 = .ok (.goto 11, 3) := by decide +kernel
theorem dL_come_35 : decode cL_come 35 = .ok (.iload_n 2, 1) := by decide +kernel
theorem dL_come_36 : decode cL_come 36 = .ok (.sipush 128, 3) := by decide +kernel
theorem dL_come_39 : decode cL_come 39 = .ok (.idiv, 1) := by decide +kernel
theorem dL_come_40 : decode cL_come 40 = .ok (.bipush 16, 2) := by decide +kernel
theorem dL_come_42 : decode cL_come 42 = .ok (.irem, 1) := by decide +kernel
theorem dL_come_43 : decode cL_come 43 = .ok (.istore 4, 2) := by decide +kernel
theorem dL_come_45 : decode cL_come 45 = .ok (.aload_n 0, 1) := by decide +kernel
theorem dL_come_46 : decode cL_come 46 = .ok (.iload_n 1, 1) := by decide +kernel
theorem dL_come_47 : decode cL_come 47 = .ok (.iload 4, 2) := by decide +kernel
theorem dL_come_49 : decode cL_come 49 = .ok (.iload_n 3, 1) := by decide +kernel
theorem dL_come_50 : decode cL_come 50 = .ok (.iload_n 2, 1) := by decide +kernel
theorem dL_come_51 : decode cL_come 51 = .ok (.sipush 2048, 3) := by decide +kernel
theorem dL_come_54 : decode cL_come 54 = .ok (.idiv, 1) := by decide +kernel
theorem dL_come_55 : decode cL_come 55 = .ok (.iconst 2, 1) := by decide +kernel
theorem dL_come_56 : decode cL_come 56 = .ok (.irem, 1) := by decide +kernel
theorem dL_come_57 : decode cL_come 57 = .ok (.bipush 10, 2) := by decide +kernel
theorem dL_come_59 : decode cL_come 59 = .ok (.imul, 1) := by decide +kernel
theorem dL_come_60 : decode cL_come 60 = .ok (.iload_n 2, 1) := by decide +kernel
theorem dL_come_61 : decode cL_come 61 = .ok (.sipush 4096, 3) := by decide +kernel
theorem dL_come_64 : decode cL_come 64 = .ok (.idiv, 1) := by decide +kernel
theorem dL_come_65 : decode cL_come 65 = .ok (.iconst 2, 1) := by decide +kernel
theorem dL_come_66 : decode cL_come 66 = .ok (.irem, 1) := by decide +kernel
theorem dL_come_67 : decode cL_come 67 = .ok (.iadd, 1) := by decide +kernel
theorem dL_come_68 : decode cL_come 68 = .ok (.iload_n 2, 1) := by decide +kernel
theorem dL_come_69 : decode cL_come 69 = .ok (.sipush 8192, 3) := by decide +kernel
theorem dL_come_72 : decode cL_come 72 = .ok (.idiv, 1) := by decide +kernel
theorem dL_come_73 : decode cL_come 73 = .ok (.bipush 50, 2) := by decide +kernel
theorem dL_come_75 : decode cL_come 75 = .ok (.irem, 1) := by decide +kernel
theorem dL_come_76 : decode cL_come 76 = .ok (.iload_n 2, 1) := by decide +kernel
theorem dL_come_77 : decode cL_come 77 = .ok (.bipush 11, 2) := by decide +kernel
theorem dL_come_79 : decode cL_come 79 = .ok (.idiv, 1) := by decide +kernel
theorem dL_come_80 : decode cL_come 80 = .ok (.bipush 10, 2) := by decide +kernel
theorem dL_come_82 : decode cL_come 82 = .ok (.irem, 1) := by decide +kernel
theorem dL_come_83 : decode cL_come 83 = .ok (.invokevirtual 8, 3) := by decide +kernel
theorem dL_come_86 : decode cL_come 86 = .ok (.ireturn, 1) := by decide +kernel
theorem dL_come_87 : decode cL_come 87 = .ok (.astore 5, 2) := by decide +kernel
theorem dL_come_89 : decode cL_come 89 = .ok (.bipush (-9), 2) := by decide +kernel
theorem dL_come_91 : decode cL_come 91 = .ok (.ireturn, 1) := by decide +kernel
theorem dL_come_92 : decode cL_come 92 = .ok (.astore 5, 2) := by decide +kernel
theorem dL_come_94 : decode cL_come 94 = .ok (.bipush (-9), 2) := by decide +kernel
theorem dL_come_96 : decode cL_come 96 = .ok (.ireturn, 1) := by decide +kernel
theorem dL_does_0 : decode cL_does 0 = .ok (.iload_n 1, 1) := by decide +kernel
theorem dL_does_1 : decode cL_does 1 = .ok (.ifCond .ne 11, 3) := by decide +kernel
theorem dL_does_4 : decode cL_does 4 = .ok (.aload_n 0, 1) := by decide +kernel
theorem dL_does_5 : decode cL_does 5 = .ok (.iload_n 2, 1) := by decide +kernel
theorem dL_does_6 : decode cL_does 6 = .ok (.invokevirtual 18, 3) := by decide +kernel
theorem dL_does_9 : decode cL_does 9 = .ok (.goto 45, 3) := by decide +kernel
theorem dL_does_12 : decode cL_does 12 = .ok (.iload_n 1, 1) := by decide +kernel
theorem dL_does_13 : decode cL_does 13 = .ok (.iconst 1, 1) := by decide +kernel
theorem dL_does_14 : decode cL_does 14 = .ok (.if_icmp .ne 11, 3) := by decide +kernel
theorem dL_does_17 : decode cL_does 17 = .ok (.aload_n 0, 1) := by decide +kernel
theorem dL_does_18 : decode cL_does 18 = .ok (.iload_n 2, 1) := by decide +kernel
theorem dL_does_19 : decode cL_does 19 = .ok (.invokevirtual 22, 3) := by decide +kernel
theorem dL_does_22 : decode cL_does 22 = .ok (.goto 32, 3) := by decide +kernel
theorem dL_does_25 : decode cL_does 25 = .ok (.iload_n 1, 1) := by decide +kernel
theorem dL_does_26 : decode cL_does 26 = .ok (.iconst 2, 1) := by decide +kernel
theorem dL_does_27 : decode cL_does 27 = .ok (.if_icmp .ne 19, 3) := by decide +kernel
theorem dL_does_30 : decode cL_does 30 = .ok (.aload_n 0, 1) := by decide +kernel
theorem dL_does_31 : decode cL_does 31 = .ok (.iload_n 2, 1) := by decide +kernel
theorem dL_does_32 : decode cL_does 32 = .ok (.invokevirtual 25, 3) := by decide +kernel
theorem dL_does_35 : decode cL_does 35 = .ok (.ifCond .eq 7, 3) := by decide +kernel
theorem dL_does_38 : decode cL_does 38 = .ok (.iconst 1, 1) := by decide +kernel
theorem dL_does_39 : decode cL_does 39 = .ok (.goto 15, 3) := by decide +kernel
theorem dL_does_42 : decode cL_does 42 = .ok (.iconst 0, 1) := by decide +kernel
theorem dL_does_43 : decode cL_does 43 = .ok (.goto 11, 3) := by decide +kernel
theorem dL_does_46 : decode cL_does 46 = .ok (.aload_n 0, 1) := by decide +kernel
theorem dL_does_47 : decode cL_does 47 = .ok (.iload_n 2, 1) := by decide +kernel
theorem dL_does_48 : decode cL_does 48 = .ok (.iload_n 1, 1) := by decide +kernel
theorem dL_does_49 : decode cL_does 49 = .ok (.iconst 3, 1) := by decide +kernel
theorem dL_does_50 : decode cL_does 50 = .ok (.isub, 1) := by decide +kernel
theorem dL_does_51 : decode cL_does 51 = .ok (.invokevirtual 29, 3) := by decide +kernel
theorem dL_does_54 : decode cL_does 54 = .ok (.ireturn, 1) := by decide +kernel
theorem dL_does_55 : decode cL_does 55 = .ok (.astore_n 3, 1) := by decide +kernel
theorem dL_does_56 : decode cL_does 56 = .ok (.bipush (-9), 2) := by decide +kernel
theorem dL_does_58 : decode cL_does 58 = .ok (.ireturn, 1) := by decide +kernel
theorem dL_does_59 : decode cL_does 59 = .ok (.astore_n 3, 1) := by decide +kernel
theorem dL_does_60 : decode cL_does 60 = .ok (.bipush (-9), 2) := by decide +kernel
theorem dL_does_62 : decode cL_does 62 = .ok (.ireturn, 1) := by decide +kernel
theorem dL_of_0 : decode cL_of 0 = .ok (.iload_n 1, 1) := by decide +kernel
theorem dL_of_1 : decode cL_of 1 = .ok (.ifCond .ne 11, 3) := by decide +kernel
theorem dL_of_4 : decode cL_of 4 = .ok (.aload_n 0, 1) := by decide +kernel
theorem dL_of_5 : decode cL_of 5 = .ok (.iload_n 2, 1) := by decide +kernel
theorem dL_of_6 : decode cL_of 6 = .ok (.invokevirtual 33, 3) := by decide +kernel
theorem dL_of_9 : decode cL_of 9 = .ok (.goto 60, 3) := by decide +kernel
theorem dL_of_12 : decode cL_of 12 = .ok (.iload_n 1, 1) := by decide +kernel
theorem dL_of_13 : decode cL_of 13 = .ok (.iconst 1, 1) := by decide +kernel
theorem dL_of_14 : decode cL_of 14 = .ok (.if_icmp .ne 11, 3) := by decide +kernel
theorem dL_of_17 : decode cL_of 17 = .ok (.aload_n 0, 1) := by decide +kernel
theorem dL_of_18 : decode cL_of 18 = .ok (.iload_n 2, 1) := by decide +kernel
theorem dL_of_19 : decode cL_of 19 = .ok (.invokevirtual 36, 3) := by decide +kernel
theorem dL_of_22 : decode cL_of 22 = .ok (.goto 47, 3) := by decide +kernel
theorem dL_of_25 : decode cL_of 25 = .ok (.iload_n 1, 1) := by decide +kernel
theorem dL_of_26 : decode cL_of 26 = .ok (.iconst 2, 1) := by decide +kernel
theorem dL_of_27 : decode cL_of 27 = .ok (.if_icmp .ne 11, 3) := by decide +kernel
theorem dL_of_30 : decode cL_of 30 = .ok (.aload_n 0, 1) := by decide +kernel
theorem dL_of_31 : decode cL_of 31 = .ok (.iload_n 2, 1) := by decide +kernel
theorem dL_of_32 : decode cL_of 32 = .ok (.invokevirtual 39, 3) := by decide +kernel
theorem dL_of_35 : decode cL_of 35 = .ok (.goto 34, 3) := by decide +kernel
theorem dL_of_38 : decode cL_of 38 = .ok (.iload_n 1, 1) := by decide +kernel
theorem dL_of_39 : decode cL_of 39 = .ok (.iconst 3, 1) := by decide +kernel
theorem dL_of_40 : decode cL_of 40 = .ok (.if_icmp .ne 11, 3) := by decide +kernel
theorem dL_of_43 : decode cL_of 43 = .ok (.aload_n 0, 1) := by decide +kernel
theorem dL_of_44 : decode cL_of 44 = .ok (.iload_n 2, 1) := by decide +kernel
theorem dL_of_45 : decode cL_of 45 = .ok (.invokevirtual 42, 3) := by decide +kernel
theorem dL_of_48 : decode cL_of 48 = .ok (.goto 21, 3) := by decide +kernel
theorem dL_of_51 : decode cL_of 51 = .ok (.iload_n 1, 1) := by decide +kernel
theorem dL_of_52 : decode cL_of 52 = .ok (.iconst 4, 1) := by decide +kernel
theorem dL_of_53 : decode cL_of 53 = .ok (.if_icmp .ne 11, 3) := by decide +kernel
theorem dL_of_56 : decode cL_of 56 = .ok (.aload_n 0, 1) := by decide +kernel
theorem dL_of_57 : decode cL_of 57 = .ok (.iload_n 2, 1) := by decide +kernel
theorem dL_of_58 : decode cL_of 58 = .ok (.invokevirtual 45, 3) := by decide +kernel
theorem dL_of_61 : decode cL_of 61 = .ok (.goto 8, 3) := by decide +kernel
theorem dL_of_64 : decode cL_of 64 = .ok (.aload_n 0, 1) := by decide +kernel
theorem dL_of_65 : decode cL_of 65 = .ok (.iload_n 2, 1) := by decide +kernel
theorem dL_of_66 : decode cL_of 66 = .ok (.invokevirtual 48, 3) := by decide +kernel
theorem dL_of_69 : decode cL_of 69 = .ok (.ireturn, 1) := by decide +kernel
theorem dL_of_70 : decode cL_of 70 = .ok (.astore_n 3, 1) := by decide +kernel
theorem dL_of_71 : decode cL_of 71 = .ok (.bipush (-9), 2) := by decide +kernel
theorem dL_of_73 : decode cL_of 73 = .ok (.ireturn, 1) := by decide +kernel
theorem dL_of_74 : decode cL_of 74 = .ok (.astore_n 3, 1) := by decide +kernel
theorem dL_of_75 : decode cL_of 75 = .ok (.bipush (-9), 2) := by decide +kernel
theorem dL_of_77 : decode cL_of 77 = .ok (.ireturn, 1) := by decide +kernel
theorem dL_inTree_0 : decode cL_inTree 0 = .ok (.aload_n 0, 1) := by decide +kernel
theorem dL_inTree_1 : decode cL_inTree 1 = .ok (.iload_n 1, 1) := by decide +kernel
theorem dL_inTree_2 : decode cL_inTree 2 = .ok (.iload_n 2, 1) := by decide +kernel
theorem dL_inTree_3 : decode cL_inTree 3 = .ok (.invokevirtual 53, 3) := by decide +kernel
theorem dL_inTree_6 : decode cL_inTree 6 = .ok (.ireturn, 1) := by decide +kernel
theorem dL_inTree_7 : decode cL_inTree 7 = .ok (.astore_n 3, 1) := by decide +kernel
theorem dL_inTree_8 : decode cL_inTree 8 = .ok (.bipush (-9), 2) := by decide +kernel
theorem dL_inTree_10 : decode cL_inTree 10 = .ok (.ireturn, 1) := by decide +kernel
theorem dL_inTree_11 : decode cL_inTree 11 = .ok (.astore_n 3, 1) := by decide +kernel
theorem dL_inTree_12 : decode cL_inTree 12 = .ok (.bipush (-9), 2) := by decide +kernel
theorem dL_inTree_14 : decode cL_inTree 14 = .ok (.ireturn, 1) := by decide +kernel
theorem dL_areAlike_0 : decode cL_areAlike 0 = .ok (.aload_n 0, 1) := by decide +kernel
theorem dL_areAlike_1 : decode cL_areAlike 1 = .ok (.invokevirtual 56, 3) := by decide +kernel
theorem dL_areAlike_4 : decode cL_areAlike 4 = .ok (.istore_n 2, 1) := by decide +kernel
theorem dL_areAlike_5 : decode cL_areAlike 5 = .ok (.aload_n 1, 1) := by decide +kernel
theorem dL_areAlike_6 : decode cL_areAlike 6 = .ok (.invokevirtual 56, 3) := by decide +kernel
theorem dL_areAlike_9 : decode cL_areAlike 9 = .ok (.iload_n 2, 1) := by decide +kernel
theorem dL_areAlike_10 : decode cL_areAlike 10 = .ok (.if_icmp .ne 7, 3) := by decide +kernel
theorem dL_areAlike_13 : decode cL_areAlike 13 = .ok (.iconst 1, 1) := by decide +kernel
theorem dL_areAlike_14 : decode cL_areAlike 14 = .ok (.goto 4, 3) := by decide +kernel
theorem dL_areAlike_17 : decode cL_areAlike 17 = .ok (.iconst 0, 1) := by decide +kernel
theorem dL_areAlike_18 : decode cL_areAlike 18 = .ok (.istore_n 3, 1) := by decide +kernel
theorem dL_areAlike_19 : decode cL_areAlike 19 = .ok (.iconst 0, 1) := by decide +kernel
theorem dL_areAlike_20 : decode cL_areAlike 20 = .ok (.istore 4, 2) := by decide +kernel
theorem dL_areAlike_22 : decode cL_areAlike 22 = .ok (.iload 4, 2) := by decide +kernel
theorem dL_areAlike_24 : decode cL_areAlike 24 = .ok (.iload_n 2, 1) := by decide +kernel
theorem dL_areAlike_25 : decode cL_areAlike 25 = .ok (.if_icmp .ge 158, 3) := by decide +kernel
theorem dL_areAlike_28 : decode cL_areAlike 28 = .ok (.iload_n 3, 1) := by decide +kernel
theorem dL_areAlike_29 : decode cL_areAlike 29 = .ok (.ifCond .eq 154, 3) := by decide +kernel
theorem dL_areAlike_32 : decode cL_areAlike 32 = .ok (.aload_n 0, 1) := by decide +kernel
theorem dL_areAlike_33 : decode cL_areAlike 33 = .ok (.iconst 2, 1) := by decide +kernel
theorem dL_areAlike_34 : decode cL_areAlike 34 = .ok (.iload 4, 2) := by decide +kernel
theorem dL_areAlike_36 : decode cL_areAlike 36 = .ok (.invokestatic 60, 3) := by decide +kernel
theorem dL_areAlike_39 : decode cL_areAlike 39 = .ok (.istore 5, 2) := by decide +kernel
theorem dL_areAlike_41 : decode cL_areAlike 41 = .ok (.aload_n 1, 1) := by decide +kernel
theorem dL_areAlike_42 : decode cL_areAlike 42 = .ok (.iconst 2, 1) := by decide +kernel
theorem dL_areAlike_43 : decode cL_areAlike 43 = .ok (.iload 4, 2) := by decide +kernel
theorem dL_areAlike_45 : decode cL_areAlike 45 = .ok (.invokestatic 60, 3) := by decide +kernel
theorem dL_areAlike_48 : decode cL_areAlike 48 = .ok (.iload 5, 2) := by decide +kernel
theorem dL_areAlike_50 : decode cL_areAlike 50 = .ok (.if_icmp .ne 7, 3) := by decide +kernel
theorem dL_areAlike_53 : decode cL_areAlike 53 = .ok (.iconst 1, 1) := by decide +kernel
theorem dL_areAlike_54 : decode cL_areAlike 54 = .ok (.goto 4, 3) := by decide +kernel
theorem dL_areAlike_57 : decode cL_areAlike 57 = .ok (.iconst 0, 1) := by decide +kernel
theorem dL_areAlike_58 : decode cL_areAlike 58 = .ok (.istore_n 3, 1) := by decide +kernel
theorem dL_areAlike_59 : decode cL_areAlike 59 = .ok (.iconst 3, 1) := by decide +kernel
theorem dL_areAlike_60 : decode cL_areAlike 60 = .ok (.istore 6, 2) := by decide +kernel
theorem dL_areAlike_62 : decode cL_areAlike 62 = .ok (.iload 6, 2) := by decide +kernel
theorem dL_areAlike_64 : decode cL_areAlike 64 = .ok (.bipush 6, 2) := by decide +kernel
theorem dL_areAlike_66 : decode cL_areAlike 66 = .ok (.if_icmp .ge 38, 3) := by decide +kernel
theorem dL_areAlike_69 : decode cL_areAlike 69 = .ok (.iload_n 3, 1) := by decide +kernel
theorem dL_areAlike_70 : decode cL_areAlike 70 = .ok (.ifCond .eq 34, 3) := by decide +kernel
theorem dL_areAlike_73 : decode cL_areAlike 73 = .ok (.aload_n 0, 1) := by decide +kernel
theorem dL_areAlike_74 : decode cL_areAlike 74 = .ok (.iload 6, 2) := by decide +kernel
theorem dL_areAlike_76 : decode cL_areAlike 76 = .ok (.iload 5, 2) := by decide +kernel
theorem dL_areAlike_78 : decode cL_areAlike 78 = .ok (.invokestatic 60, 3) := by decide +kernel
theorem dL_areAlike_81 : decode cL_areAlike 81 = .ok (.aload_n 1, 1) := by decide +kernel
theorem dL_areAlike_82 : decode cL_areAlike 82 = .ok (.iload 6, 2) := by decide +kernel
theorem dL_areAlike_84 : decode cL_areAlike 84 = .ok (.iload 5, 2) := by decide +kernel
theorem dL_areAlike_86 : decode cL_areAlike 86 = .ok (.invokestatic 60, 3) := by decide +kernel
theorem dL_areAlike_89 : decode cL_areAlike 89 = .ok (.if_icmp .ne 7, 3) := by decide +kernel
theorem dL_areAlike_92 : decode cL_areAlike 92 = .ok (.iconst 1, 1) := by decide +kernel
theorem dL_areAlike_93 : decode cL_areAlike 93 = .ok (.goto 4, 3) := by decide +kernel
theorem dL_areAlike_96 : decode cL_areAlike 96 = .ok (.iconst 0, 1) := by decide +kernel
theorem dL_areAlike_97 : decode cL_areAlike 97 = .ok (.istore_n 3, 1) := by decide +kernel
theorem dL_areAlike_98 : decode cL_areAlike 98 = .ok (.iinc 6 1, 3) := by decide +kernel
theorem dL_areAlike_101 : decode cL_areAlike 101 = .ok (.goto (-39), 3) := by decide +kernel
theorem dL_areAlike_104 : decode cL_areAlike 104 = .ok (.iconst 0, 1) := by decide +kernel
theorem dL_areAlike_105 : decode cL_areAlike 105 = .ok (.istore 6, 2) := by decide +kernel
theorem dL_areAlike_107 : decode cL_areAlike 107 = .ok (.iload 5, 2) := by decide +kernel
theorem dL_areAlike_109 : decode cL_areAlike 109 = .ok (.istore 7, 2) := by decide +kernel
theorem dL_areAlike_111 : decode cL_areAlike 111 = .ok (.iload 7, 2) := by decide +kernel
theorem dL_areAlike_113 : decode cL_areAlike 113 = .ok (.ifCond .lt 64, 3) := by decide +kernel
theorem dL_areAlike_116 : decode cL_areAlike 116 = .ok (.iload_n 3, 1) := by decide +kernel
theorem dL_areAlike_117 : decode cL_areAlike 117 = .ok (.ifCond .eq 60, 3) := by decide +kernel
theorem dL_areAlike_120 : decode cL_areAlike 120 = .ok (.aload_n 0, 1) := by decide +kernel
theorem dL_areAlike_121 : decode cL_areAlike 121 = .ok (.iload 5, 2) := by decide +kernel
theorem dL_areAlike_123 : decode cL_areAlike 123 = .ok (.iload 6, 2) := by decide +kernel
theorem dL_areAlike_125 : decode cL_areAlike 125 = .ok (.invokestatic 66, 3) := by decide +kernel
theorem dL_areAlike_128 : decode cL_areAlike 128 = .ok (.istore 7, 2) := by decide +kernel
theorem dL_areAlike_130 : decode cL_areAlike 130 = .ok (.aload_n 1, 1) := by decide +kernel
theorem dL_areAlike_131 : decode cL_areAlike 131 = .ok (.iload 5, 2) := by decide +kernel
theorem dL_areAlike_133 : decode cL_areAlike 133 = .ok (.iload 6, 2) := by decide +kernel
theorem dL_areAlike_135 : decode cL_areAlike 135 = .ok (.invokestatic 66, 3) := by decide +kernel
theorem dL_areAlike_138 : decode cL_areAlike 138 = .ok (.iload 7, 2) := by decide +kernel
theorem dL_areAlike_140 : decode cL_areAlike 140 = .ok (.if_icmp .ne 29, 3) := by decide +kernel
theorem dL_areAlike_143 : decode cL_areAlike 143 = .ok (.iload 7, 2) := by decide +kernel
theorem dL_areAlike_145 : decode cL_areAlike 145 = .ok (.ifCond .lt 20, 3) := by decide +kernel
theorem dL_areAlike_148 : decode cL_areAlike 148 = .ok (.aload_n 0, 1) := by decide +kernel
theorem dL_areAlike_149 : decode cL_areAlike 149 = .ok (.iconst 1, 1) := by decide +kernel
theorem dL_areAlike_150 : decode cL_areAlike 150 = .ok (.iload 7, 2) := by decide +kernel
theorem dL_areAlike_152 : decode cL_areAlike 152 = .ok (.invokestatic 60, 3) := by decide +kernel
theorem dL_areAlike_155 : decode cL_areAlike 155 = .ok (.aload_n 1, 1) := by decide +kernel
theorem dL_areAlike_156 : decode cL_areAlike 156 = .ok (.iconst 1, 1) := by decide +kernel
theorem dL_areAlike_157 : decode cL_areAlike 157 = .ok (.iload 7, 2) := by decide +kernel
theorem dL_areAlike_159 : decode cL_areAlike 159 = .ok (.invokestatic 60, 3) := by decide +kernel
theorem dL_areAlike_162 : decode cL_areAlike 162 = .ok (.if_icmp .ne 7, 3) := by decide +kernel
theorem dL_areAlike_165 : decode cL_areAlike 165 = .ok (.iconst 1, 1) := by decide +kernel
theorem dL_areAlike_166 : decode cL_areAlike 166 = .ok (.goto 4, 3) := by decide +kernel
theorem dL_areAlike_169 : decode cL_areAlike 169 = .ok (.iconst 0, 1) := by decide +kernel
theorem dL_areAlike_170 : decode cL_areAlike 170 = .ok (.istore_n 3, 1) := by decide +kernel
theorem dL_areAlike_171 : decode cL_areAlike 171 = .ok (.iinc 6 1, 3) := by decide +kernel
theorem dL_areAlike_174 : decode cL_areAlike 174 = .ok (.goto (-63), 3) := by decide +kernel
theorem dL_areAlike_177 : decode cL_areAlike 177 = .ok (.iinc 4 1, 3) := by decide +kernel
theorem dL_areAlike_180 : decode cL_areAlike 180 = .ok (.goto (-158), 3) := by decide +kernel
theorem dL_areAlike_183 : decode cL_areAlike 183 = .ok (.iload_n 3, 1) := by decide +kernel
theorem dL_areAlike_184 : decode cL_areAlike 184 = .ok (.ireturn, 1) := by decide +kernel
theorem dL_law_0 : decode cL_law 0 = .ok (.new 9, 3) := by decide +kernel
theorem dL_law_3 : decode cL_law 3 = .ok (.dup, 1) := by decide +kernel
theorem dL_law_4 : decode cL_law 4 = .ok (.invokespecial 68, 3) := by decide +kernel
theorem dL_law_7 : decode cL_law 7 = .ok (.astore_n 1, 1) := by decide +kernel
theorem dL_law_8 : decode cL_law 8 = .ok (.new 9, 3) := by decide +kernel
theorem dL_law_11 : decode cL_law 11 = .ok (.dup, 1) := by decide +kernel
theorem dL_law_12 : decode cL_law 12 = .ok (.invokespecial 68, 3) := by decide +kernel
theorem dL_law_15 : decode cL_law 15 = .ok (.astore_n 2, 1) := by decide +kernel
theorem dL_law_16 : decode cL_law 16 = .ok (.aload_n 0, 1) := by decide +kernel
theorem dL_law_17 : decode cL_law 17 = .ok (.iconst 0, 1) := by decide +kernel
theorem dL_law_18 : decode cL_law 18 = .ok (.invokestatic 69, 3) := by decide +kernel
theorem dL_law_21 : decode cL_law 21 = .ok (.bipush 30, 2) := by decide +kernel
theorem dL_law_23 : decode cL_law 23 = .ok (.irem, 1) := by decide +kernel
theorem dL_law_24 : decode cL_law 24 = .ok (.istore_n 3, 1) := by decide +kernel
theorem dL_law_25 : decode cL_law 25 = .ok (.iconst 1, 1) := by decide +kernel
theorem dL_law_26 : decode cL_law 26 = .ok (.istore 4, 2) := by decide +kernel
theorem dL_law_28 : decode cL_law 28 = .ok (.iconst 0, 1) := by decide +kernel
theorem dL_law_29 : decode cL_law 29 = .ok (.istore 5, 2) := by decide +kernel
theorem dL_law_31 : decode cL_law 31 = .ok (.iload 5, 2) := by decide +kernel
theorem dL_law_33 : decode cL_law 33 = .ok (.bipush 16, 2) := by decide +kernel
theorem dL_law_35 : decode cL_law 35 = .ok (.if_icmp .ge 46, 3) := by decide +kernel
theorem dL_law_38 : decode cL_law 38 = .ok (.iload 4, 2) := by decide +kernel
theorem dL_law_40 : decode cL_law 40 = .ok (.ifCond .eq 41, 3) := by decide +kernel
theorem dL_law_43 : decode cL_law 43 = .ok (.aload_n 1, 1) := by decide +kernel
theorem dL_law_44 : decode cL_law 44 = .ok (.iload_n 3, 1) := by decide +kernel
theorem dL_law_45 : decode cL_law 45 = .ok (.bipush 7, 2) := by decide +kernel
theorem dL_law_47 : decode cL_law 47 = .ok (.iload 5, 2) := by decide +kernel
theorem dL_law_49 : decode cL_law 49 = .ok (.imul, 1) := by decide +kernel
theorem dL_law_50 : decode cL_law 50 = .ok (.iadd, 1) := by decide +kernel
theorem dL_law_51 : decode cL_law 51 = .ok (.bipush 30, 2) := by decide +kernel
theorem dL_law_53 : decode cL_law 53 = .ok (.irem, 1) := by decide +kernel
theorem dL_law_54 : decode cL_law 54 = .ok (.aload_n 0, 1) := by decide +kernel
theorem dL_law_55 : decode cL_law 55 = .ok (.iconst 1, 1) := by decide +kernel
theorem dL_law_56 : decode cL_law 56 = .ok (.iload 5, 2) := by decide +kernel
theorem dL_law_58 : decode cL_law 58 = .ok (.iadd, 1) := by decide +kernel
theorem dL_law_59 : decode cL_law 59 = .ok (.invokestatic 69, 3) := by decide +kernel
theorem dL_law_62 : decode cL_law 62 = .ok (.invokestatic 73, 3) := by decide +kernel
theorem dL_law_65 : decode cL_law 65 = .ok (.ifCond .lt 7, 3) := by decide +kernel
theorem dL_law_68 : decode cL_law 68 = .ok (.iconst 1, 1) := by decide +kernel
theorem dL_law_69 : decode cL_law 69 = .ok (.goto 4, 3) := by decide +kernel
theorem dL_law_72 : decode cL_law 72 = .ok (.iconst 0, 1) := by decide +kernel
theorem dL_law_73 : decode cL_law 73 = .ok (.istore 4, 2) := by decide +kernel
theorem dL_law_75 : decode cL_law 75 = .ok (.iinc 5 1, 3) := by decide +kernel
theorem dL_law_78 : decode cL_law 78 = .ok (.goto (-47), 3) := by decide +kernel
theorem dL_law_81 : decode cL_law 81 = .ok (.iconst 0, 1) := by decide +kernel
theorem dL_law_82 : decode cL_law 82 = .ok (.istore 5, 2) := by decide +kernel
theorem dL_law_84 : decode cL_law 84 = .ok (.iload 5, 2) := by decide +kernel
theorem dL_law_86 : decode cL_law 86 = .ok (.bipush 8, 2) := by decide +kernel
theorem dL_law_88 : decode cL_law 88 = .ok (.if_icmp .ge 49, 3) := by decide +kernel
theorem dL_law_91 : decode cL_law 91 = .ok (.iload 4, 2) := by decide +kernel
theorem dL_law_93 : decode cL_law 93 = .ok (.ifCond .eq 44, 3) := by decide +kernel
theorem dL_law_96 : decode cL_law 96 = .ok (.aload_n 2, 1) := by decide +kernel
theorem dL_law_97 : decode cL_law 97 = .ok (.iload_n 3, 1) := by decide +kernel
theorem dL_law_98 : decode cL_law 98 = .ok (.bipush 7, 2) := by decide +kernel
theorem dL_law_100 : decode cL_law 100 = .ok (.iload 5, 2) := by decide +kernel
theorem dL_law_102 : decode cL_law 102 = .ok (.imul, 1) := by decide +kernel
theorem dL_law_103 : decode cL_law 103 = .ok (.iadd, 1) := by decide +kernel
theorem dL_law_104 : decode cL_law 104 = .ok (.iconst 2, 1) := by decide +kernel
theorem dL_law_105 : decode cL_law 105 = .ok (.iadd, 1) := by decide +kernel
theorem dL_law_106 : decode cL_law 106 = .ok (.bipush 30, 2) := by decide +kernel
theorem dL_law_108 : decode cL_law 108 = .ok (.irem, 1) := by decide +kernel
theorem dL_law_109 : decode cL_law 109 = .ok (.aload_n 0, 1) := by decide +kernel
theorem dL_law_110 : decode cL_law 110 = .ok (.bipush 17, 2) := by decide +kernel
theorem dL_law_112 : decode cL_law 112 = .ok (.iload 5, 2) := by decide +kernel
theorem dL_law_114 : decode cL_law 114 = .ok (.iadd, 1) := by decide +kernel
theorem dL_law_115 : decode cL_law 115 = .ok (.invokestatic 69, 3) := by decide +kernel
theorem dL_law_118 : decode cL_law 118 = .ok (.invokestatic 73, 3) := by decide +kernel
theorem dL_law_121 : decode cL_law 121 = .ok (.ifCond .lt 7, 3) := by decide +kernel
theorem dL_law_124 : decode cL_law 124 = .ok (.iconst 1, 1) := by decide +kernel
theorem dL_law_125 : decode cL_law 125 = .ok (.goto 4, 3) := by decide +kernel
theorem dL_law_128 : decode cL_law 128 = .ok (.iconst 0, 1) := by decide +kernel
theorem dL_law_129 : decode cL_law 129 = .ok (.istore 4, 2) := by decide +kernel
theorem dL_law_131 : decode cL_law 131 = .ok (.iinc 5 1, 3) := by decide +kernel
theorem dL_law_134 : decode cL_law 134 = .ok (.goto (-50), 3) := by decide +kernel
theorem dL_law_137 : decode cL_law 137 = .ok (.bipush 15, 2) := by decide +kernel
theorem dL_law_139 : decode cL_law 139 = .ok (.istore 5, 2) := by decide +kernel
theorem dL_law_141 : decode cL_law 141 = .ok (.iload 5, 2) := by decide +kernel
theorem dL_law_143 : decode cL_law 143 = .ok (.ifCond .lt 71, 3) := by decide +kernel
theorem dL_law_146 : decode cL_law 146 = .ok (.iload 4, 2) := by decide +kernel
theorem dL_law_148 : decode cL_law 148 = .ok (.ifCond .eq 66, 3) := by decide +kernel
theorem dL_law_151 : decode cL_law 151 = .ok (.iload_n 3, 1) := by decide +kernel
theorem dL_law_152 : decode cL_law 152 = .ok (.bipush 7, 2) := by decide +kernel
theorem dL_law_154 : decode cL_law 154 = .ok (.iload 5, 2) := by decide +kernel
theorem dL_law_156 : decode cL_law 156 = .ok (.imul, 1) := by decide +kernel
theorem dL_law_157 : decode cL_law 157 = .ok (.iadd, 1) := by decide +kernel
theorem dL_law_158 : decode cL_law 158 = .ok (.bipush 30, 2) := by decide +kernel
theorem dL_law_160 : decode cL_law 160 = .ok (.irem, 1) := by decide +kernel
theorem dL_law_161 : decode cL_law 161 = .ok (.istore 6, 2) := by decide +kernel
theorem dL_law_163 : decode cL_law 163 = .ok (.aload_n 2, 1) := by decide +kernel
theorem dL_law_164 : decode cL_law 164 = .ok (.iconst 0, 1) := by decide +kernel
theorem dL_law_165 : decode cL_law 165 = .ok (.iload 6, 2) := by decide +kernel
theorem dL_law_167 : decode cL_law 167 = .ok (.invokestatic 60, 3) := by decide +kernel
theorem dL_law_170 : decode cL_law 170 = .ok (.iconst 3, 1) := by decide +kernel
theorem dL_law_171 : decode cL_law 171 = .ok (.if_icmp .lt 13, 3) := by decide +kernel
theorem dL_law_174 : decode cL_law 174 = .ok (.aload_n 2, 1) := by decide +kernel
theorem dL_law_175 : decode cL_law 175 = .ok (.iconst 0, 1) := by decide +kernel
theorem dL_law_176 : decode cL_law 176 = .ok (.iload 6, 2) := by decide +kernel
theorem dL_law_178 : decode cL_law 178 = .ok (.invokestatic 76, 3) := by decide +kernel
theorem dL_law_181 : decode cL_law 181 = .ok (.ifCond .lt 24, 3) := by decide +kernel
theorem dL_law_184 : decode cL_law 184 = .ok (.aload_n 2, 1) := by decide +kernel
theorem dL_law_185 : decode cL_law 185 = .ok (.iload 6, 2) := by decide +kernel
theorem dL_law_187 : decode cL_law 187 = .ok (.aload_n 0, 1) := by decide +kernel
theorem dL_law_188 : decode cL_law 188 = .ok (.iconst 1, 1) := by decide +kernel
theorem dL_law_189 : decode cL_law 189 = .ok (.iload 5, 2) := by decide +kernel
theorem dL_law_191 : decode cL_law 191 = .ok (.iadd, 1) := by decide +kernel
theorem dL_law_192 : decode cL_law 192 = .ok (.invokestatic 69, 3) := by decide +kernel
theorem dL_law_195 : decode cL_law 195 = .ok (.invokestatic 73, 3) := by decide +kernel
theorem dL_law_198 : decode cL_law 198 = .ok (.ifCond .lt 7, 3) := by decide +kernel
theorem dL_law_201 : decode cL_law 201 = .ok (.iconst 1, 1) := by decide +kernel
theorem dL_law_202 : decode cL_law 202 = .ok (.goto 4, 3) := by decide +kernel
theorem dL_law_205 : decode cL_law 205 = .ok (.iconst 0, 1) := by decide +kernel
theorem dL_law_206 : decode cL_law 206 = .ok (.istore 4, 2) := by decide +kernel
theorem dL_law_208 : decode cL_law 208 = .ok (.iinc 5 (-1), 3) := by decide +kernel
theorem dL_law_211 : decode cL_law 211 = .ok (.goto (-70), 3) := by decide +kernel
theorem dL_law_214 : decode cL_law 214 = .ok (.iconst 0, 1) := by decide +kernel
theorem dL_law_215 : decode cL_law 215 = .ok (.istore 5, 2) := by decide +kernel
theorem dL_law_217 : decode cL_law 217 = .ok (.iload 5, 2) := by decide +kernel
theorem dL_law_219 : decode cL_law 219 = .ok (.bipush 30, 2) := by decide +kernel
theorem dL_law_221 : decode cL_law 221 = .ok (.if_icmp .ge 53, 3) := by decide +kernel
theorem dL_law_224 : decode cL_law 224 = .ok (.iload 4, 2) := by decide +kernel
theorem dL_law_226 : decode cL_law 226 = .ok (.ifCond .eq 48, 3) := by decide +kernel
theorem dL_law_229 : decode cL_law 229 = .ok (.aload_n 1, 1) := by decide +kernel
theorem dL_law_230 : decode cL_law 230 = .ok (.iconst 0, 1) := by decide +kernel
theorem dL_law_231 : decode cL_law 231 = .ok (.iload 5, 2) := by decide +kernel
theorem dL_law_233 : decode cL_law 233 = .ok (.invokestatic 60, 3) := by decide +kernel
theorem dL_law_236 : decode cL_law 236 = .ok (.iconst 3, 1) := by decide +kernel
theorem dL_law_237 : decode cL_law 237 = .ok (.if_icmp .eq 24, 3) := by decide +kernel
theorem dL_law_240 : decode cL_law 240 = .ok (.aload_n 2, 1) := by decide +kernel
theorem dL_law_241 : decode cL_law 241 = .ok (.iconst 0, 1) := by decide +kernel
theorem dL_law_242 : decode cL_law 242 = .ok (.iload 5, 2) := by decide +kernel
theorem dL_law_244 : decode cL_law 244 = .ok (.invokestatic 60, 3) := by decide +kernel
theorem dL_law_247 : decode cL_law 247 = .ok (.iconst 3, 1) := by decide +kernel
theorem dL_law_248 : decode cL_law 248 = .ok (.if_icmp .lt 13, 3) := by decide +kernel
theorem dL_law_251 : decode cL_law 251 = .ok (.aload_n 2, 1) := by decide +kernel
theorem dL_law_252 : decode cL_law 252 = .ok (.iconst 0, 1) := by decide +kernel
theorem dL_law_253 : decode cL_law 253 = .ok (.iload 5, 2) := by decide +kernel
theorem dL_law_255 : decode cL_law 255 = .ok (.invokestatic 76, 3) := by decide +kernel
theorem dL_law_258 : decode cL_law 258 = .ok (.ifCond .lt 7, 3) := by decide +kernel
theorem dL_law_261 : decode cL_law 261 = .ok (.iconst 1, 1) := by decide +kernel
theorem dL_law_262 : decode cL_law 262 = .ok (.goto 4, 3) := by decide +kernel
theorem dL_law_265 : decode cL_law 265 = .ok (.iconst 0, 1) := by decide +kernel
theorem dL_law_266 : decode cL_law 266 = .ok (.istore 4, 2) := by decide +kernel
theorem dL_law_268 : decode cL_law 268 = .ok (.iinc 5 1, 3) := by decide +kernel
theorem dL_law_271 : decode cL_law 271 = .ok (.goto (-54), 3) := by decide +kernel
theorem dL_law_274 : decode cL_law 274 = .ok (.iload 4, 2) := by decide +kernel
theorem dL_law_276 : decode cL_law 276 = .ok (.ifCond .eq 15, 3) := by decide +kernel
theorem dL_law_279 : decode cL_law 279 = .ok (.aload_n 1, 1) := by decide +kernel
theorem dL_law_280 : decode cL_law 280 = .ok (.aload_n 2, 1) := by decide +kernel
theorem dL_law_281 : decode cL_law 281 = .ok (.invokestatic 79, 3) := by decide +kernel
theorem dL_law_284 : decode cL_law 284 = .ok (.ifCond .eq 7, 3) := by decide +kernel
theorem dL_law_287 : decode cL_law 287 = .ok (.iconst 1, 1) := by decide +kernel
theorem dL_law_288 : decode cL_law 288 = .ok (.goto 4, 3) := by decide +kernel
theorem dL_law_291 : decode cL_law 291 = .ok (.iconst 0, 1) := by decide +kernel
theorem dL_law_292 : decode cL_law 292 = .ok (.istore 4, 2) := by decide +kernel
theorem dL_law_294 : decode cL_law 294 = .ok (.bipush 25, 2) := by decide +kernel
theorem dL_law_296 : decode cL_law 296 = .ok (.istore 5, 2) := by decide +kernel
theorem dL_law_298 : decode cL_law 298 = .ok (.iload 5, 2) := by decide +kernel
theorem dL_law_300 : decode cL_law 300 = .ok (.bipush 49, 2) := by decide +kernel
theorem dL_law_302 : decode cL_law 302 = .ok (.if_icmp .ge 201, 3) := by decide +kernel
theorem dL_law_305 : decode cL_law 305 = .ok (.iload 4, 2) := by decide +kernel
theorem dL_law_307 : decode cL_law 307 = .ok (.ifCond .eq 196, 3) := by decide +kernel
theorem dL_law_310 : decode cL_law 310 = .ok (.aload_n 0, 1) := by decide +kernel
theorem dL_law_311 : decode cL_law 311 = .ok (.iload 5, 2) := by decide +kernel
theorem dL_law_313 : decode cL_law 313 = .ok (.invokestatic 69, 3) := by decide +kernel
theorem dL_law_316 : decode cL_law 316 = .ok (.istore 6, 2) := by decide +kernel
theorem dL_law_318 : decode cL_law 318 = .ok (.iload_n 3, 1) := by decide +kernel
theorem dL_law_319 : decode cL_law 319 = .ok (.bipush 7, 2) := by decide +kernel
theorem dL_law_321 : decode cL_law 321 = .ok (.iload 6, 2) := by decide +kernel
theorem dL_law_323 : decode cL_law 323 = .ok (.bipush 8, 2) := by decide +kernel
theorem dL_law_325 : decode cL_law 325 = .ok (.idiv, 1) := by decide +kernel
theorem dL_law_326 : decode cL_law 326 = .ok (.bipush 16, 2) := by decide +kernel
theorem dL_law_328 : decode cL_law 328 = .ok (.irem, 1) := by decide +kernel
theorem dL_law_329 : decode cL_law 329 = .ok (.imul, 1) := by decide +kernel
theorem dL_law_330 : decode cL_law 330 = .ok (.iadd, 1) := by decide +kernel
theorem dL_law_331 : decode cL_law 331 = .ok (.bipush 30, 2) := by decide +kernel
theorem dL_law_333 : decode cL_law 333 = .ok (.irem, 1) := by decide +kernel
theorem dL_law_334 : decode cL_law 334 = .ok (.istore 7, 2) := by decide +kernel
theorem dL_law_336 : decode cL_law 336 = .ok (.iload_n 3, 1) := by decide +kernel
theorem dL_law_337 : decode cL_law 337 = .ok (.bipush 7, 2) := by decide +kernel
theorem dL_law_339 : decode cL_law 339 = .ok (.iload 6, 2) := by decide +kernel
theorem dL_law_341 : decode cL_law 341 = .ok (.sipush 128, 3) := by decide +kernel
theorem dL_law_344 : decode cL_law 344 = .ok (.idiv, 1) := by decide +kernel
theorem dL_law_345 : decode cL_law 345 = .ok (.bipush 16, 2) := by decide +kernel
theorem dL_law_347 : decode cL_law 347 = .ok (.irem, 1) := by decide +kernel
theorem dL_law_348 : decode cL_law 348 = .ok (.imul, 1) := by decide +kernel
theorem dL_law_349 : decode cL_law 349 = .ok (.iadd, 1) := by decide +kernel
theorem dL_law_350 : decode cL_law 350 = .ok (.bipush 30, 2) := by decide +kernel
theorem dL_law_352 : decode cL_law 352 = .ok (.irem, 1) := by decide +kernel
theorem dL_law_353 : decode cL_law 353 = .ok (.istore 8, 2) := by decide +kernel
theorem dL_law_355 : decode cL_law 355 = .ok (.iload 6, 2) := by decide +kernel
theorem dL_law_357 : decode cL_law 357 = .ok (.bipush 8, 2) := by decide +kernel
theorem dL_law_359 : decode cL_law 359 = .ok (.irem, 1) := by decide +kernel
theorem dL_law_360 : decode cL_law 360 = .ok (.iconst 3, 1) := by decide +kernel
theorem dL_law_361 : decode cL_law 361 = .ok (.if_icmp .ge 10, 3) := by decide +kernel
theorem dL_law_364 : decode cL_law 364 = .ok (.iconst 3, 1) := by decide +kernel
theorem dL_law_365 : decode cL_law 365 = .ok (.iload 8, 2) := by decide +kernel
theorem dL_law_367 : decode cL_law 367 = .ok (.iadd, 1) := by decide +kernel
theorem dL_law_368 : decode cL_law 368 = .ok (.goto 30, 3) := by decide +kernel
theorem dL_law_371 : decode cL_law 371 = .ok (.iload 6, 2) := by decide +kernel
theorem dL_law_373 : decode cL_law 373 = .ok (.bipush 8, 2) := by decide +kernel
theorem dL_law_375 : decode cL_law 375 = .ok (.irem, 1) := by decide +kernel
theorem dL_law_376 : decode cL_law 376 = .ok (.iconst 5, 1) := by decide +kernel
theorem dL_law_377 : decode cL_law 377 = .ok (.if_icmp .ge 7, 3) := by decide +kernel
theorem dL_law_380 : decode cL_law 380 = .ok (.iconst 1, 1) := by decide +kernel
theorem dL_law_381 : decode cL_law 381 = .ok (.goto 17, 3) := by decide +kernel
theorem dL_law_384 : decode cL_law 384 = .ok (.iload 6, 2) := by decide +kernel
theorem dL_law_386 : decode cL_law 386 = .ok (.bipush 8, 2) := by decide +kernel
theorem dL_law_388 : decode cL_law 388 = .ok (.irem, 1) := by decide +kernel
theorem dL_law_389 : decode cL_law 389 = .ok (.iconst 5, 1) := by decide +kernel
theorem dL_law_390 : decode cL_law 390 = .ok (.if_icmp .ne 7, 3) := by decide +kernel
theorem dL_law_393 : decode cL_law 393 = .ok (.iconst 2, 1) := by decide +kernel
theorem dL_law_394 : decode cL_law 394 = .ok (.goto 4, 3) := by decide +kernel
theorem dL_law_397 : decode cL_law 397 = .ok (.iconst 0, 1) := by decide +kernel
theorem dL_law_398 : decode cL_law 398 = .ok (.istore 9, 2) := by decide +kernel
theorem dL_law_400 : decode cL_law 400 = .ok (.iload 9, 2) := by decide +kernel
theorem dL_law_402 : decode cL_law 402 = .ok (.ifCond .gt 14, 3) := by decide +kernel
theorem dL_law_405 : decode cL_law 405 = .ok (.iload 6, 2) := by decide +kernel
theorem dL_law_407 : decode cL_law 407 = .ok (.sipush 2048, 3) := by decide +kernel
theorem dL_law_410 : decode cL_law 410 = .ok (.idiv, 1) := by decide +kernel
theorem dL_law_411 : decode cL_law 411 = .ok (.iconst 2, 1) := by decide +kernel
theorem dL_law_412 : decode cL_law 412 = .ok (.irem, 1) := by decide +kernel
theorem dL_law_413 : decode cL_law 413 = .ok (.ifCond .ne 25, 3) := by decide +kernel
theorem dL_law_416 : decode cL_law 416 = .ok (.aload_n 1, 1) := by decide +kernel
theorem dL_law_417 : decode cL_law 417 = .ok (.iload 9, 2) := by decide +kernel
theorem dL_law_419 : decode cL_law 419 = .ok (.iload 7, 2) := by decide +kernel
theorem dL_law_421 : decode cL_law 421 = .ok (.invokestatic 76, 3) := by decide +kernel
theorem dL_law_424 : decode cL_law 424 = .ok (.aload_n 2, 1) := by decide +kernel
theorem dL_law_425 : decode cL_law 425 = .ok (.iload 9, 2) := by decide +kernel
theorem dL_law_427 : decode cL_law 427 = .ok (.iload 7, 2) := by decide +kernel
theorem dL_law_429 : decode cL_law 429 = .ok (.invokestatic 76, 3) := by decide +kernel
theorem dL_law_432 : decode cL_law 432 = .ok (.if_icmp .ne 62, 3) := by decide +kernel
theorem dL_law_435 : decode cL_law 435 = .ok (.goto 26, 3) := by decide +kernel
theorem dL_law_438 : decode cL_law 438 = .ok (.aload_n 1, 1) := by decide +kernel
theorem dL_law_439 : decode cL_law 439 = .ok (.iload 7, 2) := by decide +kernel
theorem dL_law_441 : decode cL_law 441 = .ok (.iload 6, 2) := by decide +kernel
theorem dL_law_443 : decode cL_law 443 = .ok (.iconst 3, 1) := by decide +kernel
theorem dL_law_444 : decode cL_law 444 = .ok (.idiv, 1) := by decide +kernel
theorem dL_law_445 : decode cL_law 445 = .ok (.invokestatic 73, 3) := by decide +kernel
theorem dL_law_448 : decode cL_law 448 = .ok (.aload_n 2, 1) := by decide +kernel
theorem dL_law_449 : decode cL_law 449 = .ok (.iload 7, 2) := by decide +kernel
theorem dL_law_451 : decode cL_law 451 = .ok (.iload 6, 2) := by decide +kernel
theorem dL_law_453 : decode cL_law 453 = .ok (.iconst 3, 1) := by decide +kernel
theorem dL_law_454 : decode cL_law 454 = .ok (.idiv, 1) := by decide +kernel
theorem dL_law_455 : decode cL_law 455 = .ok (.invokestatic 73, 3) := by decide +kernel
theorem dL_law_458 : decode cL_law 458 = .ok (.if_icmp .ne 36, 3) := by decide +kernel
theorem dL_law_461 : decode cL_law 461 = .ok (.aload_n 1, 1) := by decide +kernel
theorem dL_law_462 : decode cL_law 462 = .ok (.invokevirtual 56, 3) := by decide +kernel
theorem dL_law_465 : decode cL_law 465 = .ok (.aload_n 2, 1) := by decide +kernel
theorem dL_law_466 : decode cL_law 466 = .ok (.invokevirtual 56, 3) := by decide +kernel
theorem dL_law_469 : decode cL_law 469 = .ok (.if_icmp .ne 25, 3) := by decide +kernel
theorem dL_law_472 : decode cL_law 472 = .ok (.iload 5, 2) := by decide +kernel
theorem dL_law_474 : decode cL_law 474 = .ok (.bipush 8, 2) := by decide +kernel
theorem dL_law_476 : decode cL_law 476 = .ok (.irem, 1) := by decide +kernel
theorem dL_law_477 : decode cL_law 477 = .ok (.bipush 7, 2) := by decide +kernel
theorem dL_law_479 : decode cL_law 479 = .ok (.if_icmp .lt 11, 3) := by decide +kernel
theorem dL_law_482 : decode cL_law 482 = .ok (.aload_n 1, 1) := by decide +kernel
theorem dL_law_483 : decode cL_law 483 = .ok (.aload_n 2, 1) := by decide +kernel
theorem dL_law_484 : decode cL_law 484 = .ok (.invokestatic 79, 3) := by decide +kernel
theorem dL_law_487 : decode cL_law 487 = .ok (.ifCond .eq 7, 3) := by decide +kernel
theorem dL_law_490 : decode cL_law 490 = .ok (.iconst 1, 1) := by decide +kernel
theorem dL_law_491 : decode cL_law 491 = .ok (.goto 4, 3) := by decide +kernel
theorem dL_law_494 : decode cL_law 494 = .ok (.iconst 0, 1) := by decide +kernel
theorem dL_law_495 : decode cL_law 495 = .ok (.istore 4, 2) := by decide +kernel
theorem dL_law_497 : decode cL_law 497 = .ok (.iinc 5 1, 3) := by decide +kernel
theorem dL_law_500 : decode cL_law 500 = .ok (.goto (-202), 3) := by decide +kernel
theorem dL_law_503 : decode cL_law 503 = .ok (.iload 4, 2) := by decide +kernel
theorem dL_law_505 : decode cL_law 505 = .ok (.ifCond .eq 15, 3) := by decide +kernel
theorem dL_law_508 : decode cL_law 508 = .ok (.aload_n 1, 1) := by decide +kernel
theorem dL_law_509 : decode cL_law 509 = .ok (.aload_n 2, 1) := by decide +kernel
theorem dL_law_510 : decode cL_law 510 = .ok (.invokestatic 79, 3) := by decide +kernel
theorem dL_law_513 : decode cL_law 513 = .ok (.ifCond .eq 7, 3) := by decide +kernel
theorem dL_law_516 : decode cL_law 516 = .ok (.iconst 1, 1) := by decide +kernel
theorem dL_law_517 : decode cL_law 517 = .ok (.goto 4, 3) := by decide +kernel
theorem dL_law_520 : decode cL_law 520 = .ok (.iconst 0, 1) := by decide +kernel
theorem dL_law_521 : decode cL_law 521 = .ok (.ireturn, 1) := by decide +kernel
end
section
/-! ===== 01w: the tables' words by their places (printed by wip/whole/mkwords.py) ===== -/
def tw_G : List Cond := lw_tbl.filter goodWord
theorem tw_in {w x : Cond} (h : w ∈ lw_tbl) (hg : goodWord w = true) : w ∈ x :: tw_G := List.mem_cons_of_mem _ (List.mem_filter.mpr ⟨h, hg⟩)
theorem tw_m1 {w : Cond} (h : w ∈ tables_1_1) : w ∈ lw_tbl := List.mem_append_right _ (List.mem_append_left _ h)
theorem tw_m2 {w : Cond} (h : w ∈ tables_1_2) : w ∈ lw_tbl := List.mem_append_right _ (List.mem_append_right _ (List.mem_append_left _ h))
theorem tw_m3 {w : Cond} (h : w ∈ tables_1_3) : w ∈ lw_tbl := List.mem_append_right _ (List.mem_append_right _ (List.mem_append_right _ h))
theorem tw_m0 {q : MethodName × Nat} (h : q ∈ lw_privs) : Cond.selects q.1.cls q.1 q.1 ∈ lw_tbl := List.mem_append_left _ (List.mem_map.mpr ⟨q, h, rfl⟩)
theorem tw_good {w x : Cond} (hw : w ∈ tw_G) : w ∈ x :: tw_G ∧ ((w.onTables && w.keeps) = true ∨ ∃ ty, w = .arrayClass ty) := ⟨List.mem_cons_of_mem _ hw, good_of_word (List.mem_filter.mp hw).2⟩
theorem tw_one {w x : Cond} (h : w ∈ lw_tbl) (hg : goodWord w = true) : w ∈ x :: tw_G ∧ ((w.onTables && w.keeps) = true ∨ ∃ ty, w = .arrayClass ty) := ⟨tw_in h hg, good_of_word hg⟩
theorem tw_gW {x w : Cond} (h : w ∈ lw_tbl) (hg : goodWord w = true) : GoodIn (x :: tw_G) (w :: tw_G) := fun v hv => (List.mem_cons.mp hv).elim (fun e => by rw [e]; exact tw_one h hg) tw_good
theorem tw_gV {x w : Cond} {own C : String} {idx : Nat} {y : MethodName} (h1 : Cond.methodLink own idx y ∈ lw_tbl) (h2 : Cond.instanceMethod y ∈ lw_tbl) (h3 : Cond.selects C y y ∈ lw_tbl) (h4 : Cond.initialized C ∈ lw_tbl) (h5 : w ∈ lw_tbl) (hg : (goodWord (.methodLink own idx y) && goodWord (.instanceMethod y) && goodWord (.selects C y y) && goodWord (.initialized C) && goodWord w) = true) : GoodIn (x :: tw_G) (wsV own idx C y (w :: tw_G)) := by
  simp only [Bool.and_eq_true] at hg
  intro v hv
  unfold wsV at hv
  rcases List.mem_append.mp hv with h | h
  · simp only [List.mem_cons, List.not_mem_nil, or_false] at h
    rcases h with rfl | rfl | rfl | rfl
    · exact tw_one h1 hg.1.1.1.1
    · exact tw_one h2 hg.1.1.1.2
    · exact tw_one h3 hg.1.1.2
    · exact tw_one h4 hg.1.2
  · exact tw_gW h5 hg.2 v h
theorem tw_gS {x w : Cond} {own : String} {idx : Nat} {y : MethodName} (h1 : Cond.methodLink own idx y ∈ lw_tbl) (h2 : Cond.static y ∈ lw_tbl) (h4 : Cond.initialized y.cls ∈ lw_tbl) (h5 : w ∈ lw_tbl) (hg : (goodWord (.methodLink own idx y) && goodWord (.static y) && goodWord (.initialized y.cls) && goodWord w) = true) : GoodIn (x :: tw_G) (va_wsS own idx y (w :: tw_G)) := by
  simp only [Bool.and_eq_true] at hg
  intro v hv
  unfold va_wsS at hv
  rcases List.mem_append.mp hv with h | h
  · simp only [List.mem_cons, List.not_mem_nil, or_false] at h
    rcases h with rfl | rfl | rfl
    · exact tw_one h1 hg.1.1.1
    · exact tw_one h2 hg.1.1.2
    · exact tw_one h4 hg.1.2
  · exact tw_gW h5 hg.2 v h
theorem in_RL : Cond.initialized RL ∈ lw_tbl := tw_m1 (List.mem_of_getElem? (i := 0) rfl)
theorem in_RX2 : Cond.initialized RX2 ∈ lw_tbl := tw_m1 (List.mem_of_getElem? (i := 1) rfl)
theorem in_RX1 : Cond.initialized RX1 ∈ lw_tbl := tw_m1 (List.mem_of_getElem? (i := 2) rfl)
theorem in_RX0 : Cond.initialized RX0 ∈ lw_tbl := tw_m1 (List.mem_of_getElem? (i := 3) rfl)
theorem in_Throwable : Cond.initialized "java/lang/Throwable" ∈ lw_tbl := tw_m1 (List.mem_of_getElem? (i := 4) rfl)
theorem in_Exception : Cond.initialized "java/lang/Exception" ∈ lw_tbl := tw_m1 (List.mem_of_getElem? (i := 5) rfl)
theorem in_RuntimeException : Cond.initialized "java/lang/RuntimeException" ∈ lw_tbl := tw_m1 (List.mem_of_getElem? (i := 6) rfl)
theorem in_IllegalArgumentException : Cond.initialized "java/lang/IllegalArgumentException" ∈ lw_tbl := tw_m1 (List.mem_of_getElem? (i := 7) rfl)
theorem in_IllegalStateException : Cond.initialized "java/lang/IllegalStateException" ∈ lw_tbl := tw_m1 (List.mem_of_getElem? (i := 8) rfl)
theorem in_Math : Cond.initialized "java/lang/Math" ∈ lw_tbl := tw_m1 (List.mem_of_getElem? (i := 9) rfl)
theorem in_IndexOutOfBoundsException : Cond.initialized "java/lang/IndexOutOfBoundsException" ∈ lw_tbl := tw_m1 (List.mem_of_getElem? (i := 10) rfl)
theorem ml_RL_68 : Cond.methodLink RL 68 yX2_init ∈ lw_tbl := tw_m1 (List.mem_of_getElem? (i := 13) rfl)
theorem im_X2_init : Cond.instanceMethod yX2_init ∈ lw_tbl := tw_m1 (List.mem_of_getElem? (i := 14) rfl)
theorem co_X2_init : Cond.code yX2_init cX2_init 1 none ∈ lw_tbl := tw_m1 (List.mem_of_getElem? (i := 15) rfl)
theorem ml_RX2_1 : Cond.methodLink RX2 1 objectInit ∈ lw_tbl := tw_m1 (List.mem_of_getElem? (i := 16) rfl)
theorem im_objectInit : Cond.instanceMethod objectInit ∈ lw_tbl := tw_m1 (List.mem_of_getElem? (i := 17) rfl)
theorem co_objectInit : Cond.code objectInit ⟨#[0xb1]⟩ 1 none ∈ lw_tbl := tw_m1 (List.mem_of_getElem? (i := 18) rfl)
theorem im_X1_init : Cond.instanceMethod yX1_init ∈ lw_tbl := tw_m1 (List.mem_of_getElem? (i := 22) rfl)
theorem co_X1_init : Cond.code yX1_init cX1_init 1 none ∈ lw_tbl := tw_m1 (List.mem_of_getElem? (i := 23) rfl)
theorem ml_RX1_3 : Cond.methodLink RX1 3 objectInit ∈ lw_tbl := tw_m1 (List.mem_of_getElem? (i := 24) rfl)
theorem fl_RX1_9 : Cond.fieldLink RX1 9 "Threadline$Mail" "there" "[Z" ∈ lw_tbl := tw_m1 (List.mem_of_getElem? (i := 25) rfl)
theorem fl_RX1_15 : Cond.fieldLink RX1 15 "Threadline$Mail" "toldGrandparent" "[I" ∈ lw_tbl := tw_m1 (List.mem_of_getElem? (i := 26) rfl)
theorem fl_RX1_19 : Cond.fieldLink RX1 19 "Threadline$Mail" "toldParent" "[I" ∈ lw_tbl := tw_m1 (List.mem_of_getElem? (i := 27) rfl)
theorem fl_RX1_22 : Cond.fieldLink RX1 22 "Threadline$Mail" "subject" "[I" ∈ lw_tbl := tw_m1 (List.mem_of_getElem? (i := 28) rfl)
theorem fl_RX1_25 : Cond.fieldLink RX1 25 "Threadline$Mail" "reply" "[Z" ∈ lw_tbl := tw_m1 (List.mem_of_getElem? (i := 29) rfl)
theorem fl_RX1_28 : Cond.fieldLink RX1 28 "Threadline$Mail" "day" "[I" ∈ lw_tbl := tw_m1 (List.mem_of_getElem? (i := 30) rfl)
theorem fl_RX1_31 : Cond.fieldLink RX1 31 "Threadline$Mail" "person" "[I" ∈ lw_tbl := tw_m1 (List.mem_of_getElem? (i := 31) rfl)
theorem fl_RX1_34 : Cond.fieldLink RX1 34 "Threadline$Mail" "unseen" "[Z" ∈ lw_tbl := tw_m1 (List.mem_of_getElem? (i := 32) rfl)
theorem fl_RX1_37 : Cond.fieldLink RX1 37 "Threadline$Mail" "hand" "[I" ∈ lw_tbl := tw_m1 (List.mem_of_getElem? (i := 33) rfl)
theorem im_X0_init : Cond.instanceMethod yX0_init ∈ lw_tbl := tw_m1 (List.mem_of_getElem? (i := 58) rfl)
theorem co_X0_init : Cond.code yX0_init cX0_init 2 none ∈ lw_tbl := tw_m1 (List.mem_of_getElem? (i := 59) rfl)
theorem ml_RX0_3 : Cond.methodLink RX0 3 objectInit ∈ lw_tbl := tw_m1 (List.mem_of_getElem? (i := 60) rfl)
theorem fl_RX0_46 : Cond.fieldLink RX0 46 "Threadline$Forest" "mail" "LThreadline$Mail;" ∈ lw_tbl := tw_m1 (List.mem_of_getElem? (i := 61) rfl)
theorem fl_RX0_9 : Cond.fieldLink RX0 9 "Threadline$Forest" "known" "[Z" ∈ lw_tbl := tw_m1 (List.mem_of_getElem? (i := 62) rfl)
theorem fl_RX0_15 : Cond.fieldLink RX0 15 "Threadline$Forest" "link" "[I" ∈ lw_tbl := tw_m1 (List.mem_of_getElem? (i := 63) rfl)
theorem fl_RX0_19 : Cond.fieldLink RX0 19 "Threadline$Forest" "parentOf" "[I" ∈ lw_tbl := tw_m1 (List.mem_of_getElem? (i := 64) rfl)
theorem fl_RX0_22 : Cond.fieldLink RX0 22 "Threadline$Forest" "standing" "[Z" ∈ lw_tbl := tw_m1 (List.mem_of_getElem? (i := 65) rfl)
theorem fl_RX0_25 : Cond.fieldLink RX0 25 "Threadline$Forest" "earliest" "[I" ∈ lw_tbl := tw_m1 (List.mem_of_getElem? (i := 66) rfl)
theorem fl_RX0_28 : Cond.fieldLink RX0 28 "Threadline$Forest" "turn" "[I" ∈ lw_tbl := tw_m1 (List.mem_of_getElem? (i := 67) rfl)
theorem fl_RX0_31 : Cond.fieldLink RX0 31 "Threadline$Forest" "size" "[I" ∈ lw_tbl := tw_m1 (List.mem_of_getElem? (i := 68) rfl)
theorem fl_RX0_34 : Cond.fieldLink RX0 34 "Threadline$Forest" "offset" "[I" ∈ lw_tbl := tw_m1 (List.mem_of_getElem? (i := 69) rfl)
theorem fl_RX0_37 : Cond.fieldLink RX0 37 "Threadline$Forest" "start" "[I" ∈ lw_tbl := tw_m1 (List.mem_of_getElem? (i := 70) rfl)
theorem fl_RX0_40 : Cond.fieldLink RX0 40 "Threadline$Forest" "order" "[I" ∈ lw_tbl := tw_m1 (List.mem_of_getElem? (i := 71) rfl)
theorem fl_RX0_43 : Cond.fieldLink RX0 43 "Threadline$Forest" "rootRow" "[I" ∈ lw_tbl := tw_m1 (List.mem_of_getElem? (i := 72) rfl)
theorem fl_RX0_57 : Cond.fieldLink RX0 57 "Threadline$Forest" "rootCount" "I" ∈ lw_tbl := tw_m1 (List.mem_of_getElem? (i := 73) rfl)
theorem fl_RX2_10 : Cond.fieldLink RX2 10 "Threadline" "mail" "LThreadline$Mail;" ∈ lw_tbl := tw_m1 (List.mem_of_getElem? (i := 101) rfl)
theorem fl_RX2_21 : Cond.fieldLink RX2 21 "Threadline" "forest" "LThreadline$Forest;" ∈ lw_tbl := tw_m1 (List.mem_of_getElem? (i := 102) rfl)
theorem ml_RL_56 : Cond.methodLink RL 56 yX2_roots ∈ lw_tbl := tw_m1 (List.mem_of_getElem? (i := 108) rfl)
theorem im_X2_roots : Cond.instanceMethod yX2_roots ∈ lw_tbl := tw_m1 (List.mem_of_getElem? (i := 109) rfl)
theorem se_X2_roots : Cond.selects RX2 yX2_roots yX2_roots ∈ lw_tbl := tw_m1 (List.mem_of_getElem? (i := 110) rfl)
theorem co_X2_roots : Cond.code yX2_roots cX2_roots 1 (some .int) ∈ lw_tbl := tw_m1 (List.mem_of_getElem? (i := 111) rfl)
theorem im_X0_countRoots : Cond.instanceMethod yX0_countRoots ∈ lw_tbl := tw_m1 (List.mem_of_getElem? (i := 114) rfl)
theorem co_X0_countRoots : Cond.code yX0_countRoots cX0_countRoots 1 (some .int) ∈ lw_tbl := tw_m1 (List.mem_of_getElem? (i := 115) rfl)
theorem ml_RL_69 : Cond.methodLink RL 69 yL_drawn ∈ lw_tbl := tw_m1 (List.mem_of_getElem? (i := 116) rfl)
theorem st_L_drawn : Cond.static yL_drawn ∈ lw_tbl := tw_m1 (List.mem_of_getElem? (i := 117) rfl)
theorem co_L_drawn : Cond.code yL_drawn cL_drawn 3 (some .int) ∈ lw_tbl := tw_m1 (List.mem_of_getElem? (i := 118) rfl)
theorem ml_RL_73 : Cond.methodLink RL 73 yL_come ∈ lw_tbl := tw_m1 (List.mem_of_getElem? (i := 120) rfl)
theorem st_L_come : Cond.static yL_come ∈ lw_tbl := tw_m1 (List.mem_of_getElem? (i := 121) rfl)
theorem co_L_come : Cond.codeWith yL_come cL_come 6 (some .int) [(45, 86, 87, 14), (45, 86, 92, 16)] ∈ lw_tbl := tw_m1 (List.mem_of_getElem? (i := 122) rfl)
theorem ml_RL_8 : Cond.methodLink RL 8 yX2_letter ∈ lw_tbl := tw_m1 (List.mem_of_getElem? (i := 125) rfl)
theorem im_X2_letter : Cond.instanceMethod yX2_letter ∈ lw_tbl := tw_m1 (List.mem_of_getElem? (i := 126) rfl)
theorem se_X2_letter : Cond.selects RX2 yX2_letter yX2_letter ∈ lw_tbl := tw_m1 (List.mem_of_getElem? (i := 127) rfl)
theorem co_X2_letter : Cond.code yX2_letter cX2_letter 7 (some .int) ∈ lw_tbl := tw_m1 (List.mem_of_getElem? (i := 128) rfl)
theorem ml_RX2_25 : Cond.methodLink RX2 25 yX2_requireId ∈ lw_tbl := tw_m1 (List.mem_of_getElem? (i := 129) rfl)
theorem st_X2_requireId : Cond.static yX2_requireId ∈ lw_tbl := tw_m1 (List.mem_of_getElem? (i := 130) rfl)
theorem co_X2_requireId : Cond.code yX2_requireId cX2_requireId 1 none ∈ lw_tbl := tw_m1 (List.mem_of_getElem? (i := 131) rfl)
theorem ml_RX2_131 : Cond.methodLink RX2 131 yX2_isId ∈ lw_tbl := tw_m1 (List.mem_of_getElem? (i := 132) rfl)
theorem st_X2_isId : Cond.static yX2_isId ∈ lw_tbl := tw_m1 (List.mem_of_getElem? (i := 133) rfl)
theorem co_X2_isId : Cond.code yX2_isId cX2_isId 1 (some .boolean) ∈ lw_tbl := tw_m1 (List.mem_of_getElem? (i := 134) rfl)
theorem ml_RX2_29 : Cond.methodLink RX2 29 yX2_requireTold ∈ lw_tbl := tw_m1 (List.mem_of_getElem? (i := 203) rfl)
theorem st_X2_requireTold : Cond.static yX2_requireTold ∈ lw_tbl := tw_m1 (List.mem_of_getElem? (i := 204) rfl)
theorem co_X2_requireTold : Cond.code yX2_requireTold cX2_requireTold 2 none ∈ lw_tbl := tw_m1 (List.mem_of_getElem? (i := 205) rfl)
theorem ml_RX2_33 : Cond.methodLink RX2 33 yX2_requireBelow ∈ lw_tbl := tw_m1 (List.mem_of_getElem? (i := 207) rfl)
theorem st_X2_requireBelow : Cond.static yX2_requireBelow ∈ lw_tbl := tw_m1 (List.mem_of_getElem? (i := 208) rfl)
theorem co_X2_requireBelow : Cond.code yX2_requireBelow cX2_requireBelow 2 none ∈ lw_tbl := tw_m1 (List.mem_of_getElem? (i := 209) rfl)
theorem im_X1_holds : Cond.instanceMethod yX1_holds ∈ lw_tbl := tw_m1 (List.mem_of_getElem? (i := 213) rfl)
theorem co_X1_holds : Cond.code yX1_holds cX1_holds 2 (some .boolean) ∈ lw_tbl := tw_m1 (List.mem_of_getElem? (i := 214) rfl)
theorem im_X1_put : Cond.instanceMethod yX1_put ∈ lw_tbl := tw_m1 (List.mem_of_getElem? (i := 233) rfl)
theorem co_X1_put : Cond.code yX1_put cX1_put 7 none ∈ lw_tbl := tw_m1 (List.mem_of_getElem? (i := 234) rfl)
theorem im_X0_grow : Cond.instanceMethod yX0_grow ∈ lw_tbl := tw_m1 (List.mem_of_getElem? (i := 238) rfl)
theorem co_X0_grow : Cond.code yX0_grow cX0_grow 1 none ∈ lw_tbl := tw_m1 (List.mem_of_getElem? (i := 239) rfl)
theorem ml_RX0_65 : Cond.methodLink RX0 65 yX0_findKnown ∈ lw_tbl := tw_m2 (List.mem_of_getElem? (i := 0) rfl)
theorem im_X0_findKnown : Cond.instanceMethod yX0_findKnown ∈ lw_tbl := tw_m2 (List.mem_of_getElem? (i := 2) rfl)
theorem co_X0_findKnown : Cond.code yX0_findKnown cX0_findKnown 2 none ∈ lw_tbl := tw_m2 (List.mem_of_getElem? (i := 3) rfl)
theorem im_X1_parentToldBy : Cond.instanceMethod yX1_parentToldBy ∈ lw_tbl := tw_m2 (List.mem_of_getElem? (i := 7) rfl)
theorem co_X1_parentToldBy : Cond.code yX1_parentToldBy cX1_parentToldBy 2 (some .int) ∈ lw_tbl := tw_m2 (List.mem_of_getElem? (i := 8) rfl)
theorem ml_RX1_44 : Cond.methodLink RX1 44 yX1_holds ∈ lw_tbl := tw_m2 (List.mem_of_getElem? (i := 9) rfl)
theorem ml_RX0_97 : Cond.methodLink RX0 97 yX0_learn ∈ lw_tbl := tw_m2 (List.mem_of_getElem? (i := 10) rfl)
theorem im_X0_learn : Cond.instanceMethod yX0_learn ∈ lw_tbl := tw_m2 (List.mem_of_getElem? (i := 12) rfl)
theorem co_X0_learn : Cond.code yX0_learn cX0_learn 2 none ∈ lw_tbl := tw_m2 (List.mem_of_getElem? (i := 13) rfl)
theorem im_X1_grandparentToldBy : Cond.instanceMethod yX1_grandparentToldBy ∈ lw_tbl := tw_m2 (List.mem_of_getElem? (i := 17) rfl)
theorem co_X1_grandparentToldBy : Cond.code yX1_grandparentToldBy cX1_grandparentToldBy 2 (some .int) ∈ lw_tbl := tw_m2 (List.mem_of_getElem? (i := 18) rfl)
theorem im_X1_handOf : Cond.instanceMethod yX1_handOf ∈ lw_tbl := tw_m2 (List.mem_of_getElem? (i := 21) rfl)
theorem co_X1_handOf : Cond.code yX1_handOf cX1_handOf 2 (some .int) ∈ lw_tbl := tw_m2 (List.mem_of_getElem? (i := 22) rfl)
theorem ml_RX0_68 : Cond.methodLink RX0 68 yX0_linkKnown ∈ lw_tbl := tw_m2 (List.mem_of_getElem? (i := 23) rfl)
theorem im_X0_linkKnown : Cond.instanceMethod yX0_linkKnown ∈ lw_tbl := tw_m2 (List.mem_of_getElem? (i := 25) rfl)
theorem co_X0_linkKnown : Cond.code yX0_linkKnown cX0_linkKnown 3 none ∈ lw_tbl := tw_m2 (List.mem_of_getElem? (i := 26) rfl)
theorem im_X1_toldParentOf : Cond.instanceMethod yX1_toldParentOf ∈ lw_tbl := tw_m2 (List.mem_of_getElem? (i := 29) rfl)
theorem co_X1_toldParentOf : Cond.code yX1_toldParentOf cX1_toldParentOf 3 (some .int) ∈ lw_tbl := tw_m2 (List.mem_of_getElem? (i := 30) rfl)
theorem ml_RX1_50 : Cond.methodLink RX1 50 yX1_guessedParentOf ∈ lw_tbl := tw_m2 (List.mem_of_getElem? (i := 31) rfl)
theorem im_X1_guessedParentOf : Cond.instanceMethod yX1_guessedParentOf ∈ lw_tbl := tw_m2 (List.mem_of_getElem? (i := 33) rfl)
theorem co_X1_guessedParentOf : Cond.code yX1_guessedParentOf cX1_guessedParentOf 3 (some .int) ∈ lw_tbl := tw_m2 (List.mem_of_getElem? (i := 34) rfl)
theorem ml_RX1_57 : Cond.methodLink RX1 57 yX1_parentToldBy ∈ lw_tbl := tw_m2 (List.mem_of_getElem? (i := 35) rfl)
theorem ml_RX1_60 : Cond.methodLink RX1 60 yX1_grandparentToldBy ∈ lw_tbl := tw_m2 (List.mem_of_getElem? (i := 36) rfl)
theorem ml_RX1_54 : Cond.methodLink RX1 54 yX1_handOf ∈ lw_tbl := tw_m2 (List.mem_of_getElem? (i := 37) rfl)
theorem ml_RX0_110 : Cond.methodLink RX0 110 yX0_linksLead ∈ lw_tbl := tw_m2 (List.mem_of_getElem? (i := 38) rfl)
theorem im_X0_linksLead : Cond.instanceMethod yX0_linksLead ∈ lw_tbl := tw_m2 (List.mem_of_getElem? (i := 40) rfl)
theorem co_X0_linksLead : Cond.code yX0_linksLead cX0_linksLead 5 (some .boolean) ∈ lw_tbl := tw_m2 (List.mem_of_getElem? (i := 41) rfl)
theorem ml_RX0_71 : Cond.methodLink RX0 71 yX0_hangByLinks ∈ lw_tbl := tw_m2 (List.mem_of_getElem? (i := 42) rfl)
theorem im_X0_hangByLinks : Cond.instanceMethod yX0_hangByLinks ∈ lw_tbl := tw_m2 (List.mem_of_getElem? (i := 44) rfl)
theorem co_X0_hangByLinks : Cond.code yX0_hangByLinks cX0_hangByLinks 2 none ∈ lw_tbl := tw_m2 (List.mem_of_getElem? (i := 45) rfl)
theorem ml_RX0_114 : Cond.methodLink RX0 114 yX0_parentByLinks ∈ lw_tbl := tw_m2 (List.mem_of_getElem? (i := 46) rfl)
theorem im_X0_parentByLinks : Cond.instanceMethod yX0_parentByLinks ∈ lw_tbl := tw_m2 (List.mem_of_getElem? (i := 48) rfl)
theorem co_X0_parentByLinks : Cond.code yX0_parentByLinks cX0_parentByLinks 4 (some .int) ∈ lw_tbl := tw_m2 (List.mem_of_getElem? (i := 49) rfl)
theorem ml_RX0_74 : Cond.methodLink RX0 74 yX0_keepMissing ∈ lw_tbl := tw_m2 (List.mem_of_getElem? (i := 50) rfl)
theorem im_X0_keepMissing : Cond.instanceMethod yX0_keepMissing ∈ lw_tbl := tw_m2 (List.mem_of_getElem? (i := 52) rfl)
theorem co_X0_keepMissing : Cond.code yX0_keepMissing cX0_keepMissing 2 none ∈ lw_tbl := tw_m2 (List.mem_of_getElem? (i := 53) rfl)
theorem ml_RX0_117 : Cond.methodLink RX0 117 yX0_countChildren ∈ lw_tbl := tw_m2 (List.mem_of_getElem? (i := 54) rfl)
theorem im_X0_countChildren : Cond.instanceMethod yX0_countChildren ∈ lw_tbl := tw_m2 (List.mem_of_getElem? (i := 56) rfl)
theorem co_X0_countChildren : Cond.code yX0_countChildren cX0_countChildren 4 (some .int) ∈ lw_tbl := tw_m2 (List.mem_of_getElem? (i := 57) rfl)
theorem ml_RX0_120 : Cond.methodLink RX0 120 yX0_freeChildren ∈ lw_tbl := tw_m2 (List.mem_of_getElem? (i := 58) rfl)
theorem im_X0_freeChildren : Cond.instanceMethod yX0_freeChildren ∈ lw_tbl := tw_m2 (List.mem_of_getElem? (i := 60) rfl)
theorem co_X0_freeChildren : Cond.code yX0_freeChildren cX0_freeChildren 3 none ∈ lw_tbl := tw_m2 (List.mem_of_getElem? (i := 61) rfl)
theorem ml_RX0_77 : Cond.methodLink RX0 77 yX0_hangReplies ∈ lw_tbl := tw_m2 (List.mem_of_getElem? (i := 62) rfl)
theorem im_X0_hangReplies : Cond.instanceMethod yX0_hangReplies ∈ lw_tbl := tw_m2 (List.mem_of_getElem? (i := 64) rfl)
theorem co_X0_hangReplies : Cond.code yX0_hangReplies cX0_hangReplies 2 none ∈ lw_tbl := tw_m2 (List.mem_of_getElem? (i := 65) rfl)
theorem im_X1_isReply : Cond.instanceMethod yX1_isReply ∈ lw_tbl := tw_m2 (List.mem_of_getElem? (i := 68) rfl)
theorem co_X1_isReply : Cond.code yX1_isReply cX1_isReply 2 (some .boolean) ∈ lw_tbl := tw_m2 (List.mem_of_getElem? (i := 69) rfl)
theorem ml_RX0_126 : Cond.methodLink RX0 126 yX0_letterAnsweredBy ∈ lw_tbl := tw_m2 (List.mem_of_getElem? (i := 70) rfl)
theorem im_X0_letterAnsweredBy : Cond.instanceMethod yX0_letterAnsweredBy ∈ lw_tbl := tw_m2 (List.mem_of_getElem? (i := 72) rfl)
theorem co_X0_letterAnsweredBy : Cond.code yX0_letterAnsweredBy cX0_letterAnsweredBy 5 (some .int) ∈ lw_tbl := tw_m2 (List.mem_of_getElem? (i := 73) rfl)
theorem im_X1_isAnsweredBy : Cond.instanceMethod yX1_isAnsweredBy ∈ lw_tbl := tw_m2 (List.mem_of_getElem? (i := 76) rfl)
theorem co_X1_isAnsweredBy : Cond.code yX1_isAnsweredBy cX1_isAnsweredBy 4 (some .boolean) ∈ lw_tbl := tw_m2 (List.mem_of_getElem? (i := 77) rfl)
theorem im_X1_dayOf : Cond.instanceMethod yX1_dayOf ∈ lw_tbl := tw_m2 (List.mem_of_getElem? (i := 80) rfl)
theorem co_X1_dayOf : Cond.code yX1_dayOf cX1_dayOf 2 (some .int) ∈ lw_tbl := tw_m2 (List.mem_of_getElem? (i := 81) rfl)
theorem ml_RX0_80 : Cond.methodLink RX0 80 yX0_measureTrees ∈ lw_tbl := tw_m2 (List.mem_of_getElem? (i := 82) rfl)
theorem im_X0_measureTrees : Cond.instanceMethod yX0_measureTrees ∈ lw_tbl := tw_m2 (List.mem_of_getElem? (i := 84) rfl)
theorem co_X0_measureTrees : Cond.code yX0_measureTrees cX0_measureTrees 2 none ∈ lw_tbl := tw_m2 (List.mem_of_getElem? (i := 85) rfl)
theorem ml_RX0_135 : Cond.methodLink RX0 135 yX0_countUpwards ∈ lw_tbl := tw_m2 (List.mem_of_getElem? (i := 86) rfl)
theorem im_X0_countUpwards : Cond.instanceMethod yX0_countUpwards ∈ lw_tbl := tw_m2 (List.mem_of_getElem? (i := 88) rfl)
theorem co_X0_countUpwards : Cond.code yX0_countUpwards cX0_countUpwards 5 none ∈ lw_tbl := tw_m2 (List.mem_of_getElem? (i := 89) rfl)
theorem ml_RX0_138 : Cond.methodLink RX0 138 Lib.Math.min.name ∈ lw_tbl := tw_m2 (List.mem_of_getElem? (i := 90) rfl)
theorem st_Math_min : Cond.static Lib.Math.min.name ∈ lw_tbl := tw_m2 (List.mem_of_getElem? (i := 91) rfl)
theorem co_Math_min : Cond.code Lib.Math.min.name Lib.Math.min.code 2 (some .int) ∈ lw_tbl := tw_m2 (List.mem_of_getElem? (i := 92) rfl)
theorem ml_RX0_83 : Cond.methodLink RX0 83 yX0_placeRoots ∈ lw_tbl := tw_m2 (List.mem_of_getElem? (i := 93) rfl)
theorem im_X0_placeRoots : Cond.instanceMethod yX0_placeRoots ∈ lw_tbl := tw_m2 (List.mem_of_getElem? (i := 95) rfl)
theorem co_X0_placeRoots : Cond.code yX0_placeRoots cX0_placeRoots 2 none ∈ lw_tbl := tw_m2 (List.mem_of_getElem? (i := 96) rfl)
theorem ml_RX0_144 : Cond.methodLink RX0 144 yX0_placeRoot ∈ lw_tbl := tw_m2 (List.mem_of_getElem? (i := 97) rfl)
theorem im_X0_placeRoot : Cond.instanceMethod yX0_placeRoot ∈ lw_tbl := tw_m2 (List.mem_of_getElem? (i := 99) rfl)
theorem co_X0_placeRoot : Cond.code yX0_placeRoot cX0_placeRoot 4 none ∈ lw_tbl := tw_m2 (List.mem_of_getElem? (i := 100) rfl)
theorem ml_RX0_147 : Cond.methodLink RX0 147 yX0_comesBefore ∈ lw_tbl := tw_m2 (List.mem_of_getElem? (i := 101) rfl)
theorem im_X0_comesBefore : Cond.instanceMethod yX0_comesBefore ∈ lw_tbl := tw_m2 (List.mem_of_getElem? (i := 103) rfl)
theorem co_X0_comesBefore : Cond.code yX0_comesBefore cX0_comesBefore 3 (some .boolean) ∈ lw_tbl := tw_m2 (List.mem_of_getElem? (i := 104) rfl)
theorem ml_RX0_54 : Cond.methodLink RX0 54 yX0_contains ∈ lw_tbl := tw_m2 (List.mem_of_getElem? (i := 105) rfl)
theorem im_X0_contains : Cond.instanceMethod yX0_contains ∈ lw_tbl := tw_m2 (List.mem_of_getElem? (i := 107) rfl)
theorem co_X0_contains : Cond.code yX0_contains cX0_contains 2 (some .boolean) ∈ lw_tbl := tw_m2 (List.mem_of_getElem? (i := 108) rfl)
theorem ml_RX0_86 : Cond.methodLink RX0 86 yX0_placeTrees ∈ lw_tbl := tw_m2 (List.mem_of_getElem? (i := 109) rfl)
theorem im_X0_placeTrees : Cond.instanceMethod yX0_placeTrees ∈ lw_tbl := tw_m2 (List.mem_of_getElem? (i := 111) rfl)
theorem co_X0_placeTrees : Cond.code yX0_placeTrees cX0_placeTrees 2 none ∈ lw_tbl := tw_m2 (List.mem_of_getElem? (i := 112) rfl)
theorem ml_RX0_150 : Cond.methodLink RX0 150 yX0_offsetBehindParent ∈ lw_tbl := tw_m2 (List.mem_of_getElem? (i := 113) rfl)
theorem im_X0_offsetBehindParent : Cond.instanceMethod yX0_offsetBehindParent ∈ lw_tbl := tw_m2 (List.mem_of_getElem? (i := 115) rfl)
theorem co_X0_offsetBehindParent : Cond.code yX0_offsetBehindParent cX0_offsetBehindParent 4 (some .int) ∈ lw_tbl := tw_m2 (List.mem_of_getElem? (i := 116) rfl)
theorem ml_RX0_61 : Cond.methodLink RX0 61 yX0_parentIn ∈ lw_tbl := tw_m2 (List.mem_of_getElem? (i := 117) rfl)
theorem im_X0_parentIn : Cond.instanceMethod yX0_parentIn ∈ lw_tbl := tw_m2 (List.mem_of_getElem? (i := 119) rfl)
theorem co_X0_parentIn : Cond.code yX0_parentIn cX0_parentIn 2 (some .int) ∈ lw_tbl := tw_m2 (List.mem_of_getElem? (i := 120) rfl)
theorem ml_RX0_153 : Cond.methodLink RX0 153 yX0_startInOrder ∈ lw_tbl := tw_m2 (List.mem_of_getElem? (i := 121) rfl)
theorem im_X0_startInOrder : Cond.instanceMethod yX0_startInOrder ∈ lw_tbl := tw_m2 (List.mem_of_getElem? (i := 123) rfl)
theorem co_X0_startInOrder : Cond.code yX0_startInOrder cX0_startInOrder 5 (some .int) ∈ lw_tbl := tw_m2 (List.mem_of_getElem? (i := 124) rfl)
theorem ml_RL_76 : Cond.methodLink RL 76 yL_does ∈ lw_tbl := tw_m2 (List.mem_of_getElem? (i := 125) rfl)
theorem st_L_does : Cond.static yL_does ∈ lw_tbl := tw_m2 (List.mem_of_getElem? (i := 126) rfl)
theorem co_L_does : Cond.codeWith yL_does cL_does 4 (some .int) [(0, 54, 55, 14), (0, 54, 59, 16)] ∈ lw_tbl := tw_m2 (List.mem_of_getElem? (i := 127) rfl)
theorem ml_RL_18 : Cond.methodLink RL 18 yX2_delete ∈ lw_tbl := tw_m2 (List.mem_of_getElem? (i := 128) rfl)
theorem im_X2_delete : Cond.instanceMethod yX2_delete ∈ lw_tbl := tw_m2 (List.mem_of_getElem? (i := 129) rfl)
theorem se_X2_delete : Cond.selects RX2 yX2_delete yX2_delete ∈ lw_tbl := tw_m2 (List.mem_of_getElem? (i := 130) rfl)
theorem co_X2_delete : Cond.code yX2_delete cX2_delete 2 (some .int) ∈ lw_tbl := tw_m2 (List.mem_of_getElem? (i := 131) rfl)
theorem ml_RX2_58 : Cond.methodLink RX2 58 yX2_requireLetter ∈ lw_tbl := tw_m2 (List.mem_of_getElem? (i := 132) rfl)
theorem im_X2_requireLetter : Cond.instanceMethod yX2_requireLetter ∈ lw_tbl := tw_m2 (List.mem_of_getElem? (i := 134) rfl)
theorem co_X2_requireLetter : Cond.code yX2_requireLetter cX2_requireLetter 2 none ∈ lw_tbl := tw_m2 (List.mem_of_getElem? (i := 135) rfl)
theorem im_X1_drop : Cond.instanceMethod yX1_drop ∈ lw_tbl := tw_m2 (List.mem_of_getElem? (i := 139) rfl)
theorem co_X1_drop : Cond.code yX1_drop cX1_drop 2 none ∈ lw_tbl := tw_m2 (List.mem_of_getElem? (i := 140) rfl)
theorem ml_RL_22 : Cond.methodLink RL 22 yX2_split ∈ lw_tbl := tw_m2 (List.mem_of_getElem? (i := 141) rfl)
theorem im_X2_split : Cond.instanceMethod yX2_split ∈ lw_tbl := tw_m2 (List.mem_of_getElem? (i := 142) rfl)
theorem se_X2_split : Cond.selects RX2 yX2_split yX2_split ∈ lw_tbl := tw_m2 (List.mem_of_getElem? (i := 143) rfl)
theorem co_X2_split : Cond.code yX2_split cX2_split 3 (some .int) ∈ lw_tbl := tw_m2 (List.mem_of_getElem? (i := 144) rfl)
theorem im_X1_setHand : Cond.instanceMethod yX1_setHand ∈ lw_tbl := tw_m2 (List.mem_of_getElem? (i := 148) rfl)
theorem co_X1_setHand : Cond.code yX1_setHand cX1_setHand 3 none ∈ lw_tbl := tw_m2 (List.mem_of_getElem? (i := 149) rfl)
theorem ml_RL_25 : Cond.methodLink RL 25 yX2_release ∈ lw_tbl := tw_m2 (List.mem_of_getElem? (i := 150) rfl)
theorem im_X2_release : Cond.instanceMethod yX2_release ∈ lw_tbl := tw_m2 (List.mem_of_getElem? (i := 151) rfl)
theorem se_X2_release : Cond.selects RX2 yX2_release yX2_release ∈ lw_tbl := tw_m2 (List.mem_of_getElem? (i := 152) rfl)
theorem co_X2_release : Cond.code yX2_release cX2_release 3 (some .boolean) ∈ lw_tbl := tw_m2 (List.mem_of_getElem? (i := 153) rfl)
theorem ml_RL_29 : Cond.methodLink RL 29 yX2_join ∈ lw_tbl := tw_m2 (List.mem_of_getElem? (i := 155) rfl)
theorem im_X2_join : Cond.instanceMethod yX2_join ∈ lw_tbl := tw_m2 (List.mem_of_getElem? (i := 156) rfl)
theorem se_X2_join : Cond.selects RX2 yX2_join yX2_join ∈ lw_tbl := tw_m2 (List.mem_of_getElem? (i := 157) rfl)
theorem co_X2_join : Cond.code yX2_join cX2_join 3 (some .int) ∈ lw_tbl := tw_m2 (List.mem_of_getElem? (i := 158) rfl)
theorem im_X0_isInTree : Cond.instanceMethod yX0_isInTree ∈ lw_tbl := tw_m2 (List.mem_of_getElem? (i := 162) rfl)
theorem co_X0_isInTree : Cond.code yX0_isInTree cX0_isInTree 5 (some .boolean) ∈ lw_tbl := tw_m2 (List.mem_of_getElem? (i := 163) rfl)
theorem ml_RL_60 : Cond.methodLink RL 60 yL_of ∈ lw_tbl := tw_m2 (List.mem_of_getElem? (i := 165) rfl)
theorem st_L_of : Cond.static yL_of ∈ lw_tbl := tw_m2 (List.mem_of_getElem? (i := 166) rfl)
theorem co_L_of : Cond.codeWith yL_of cL_of 4 (some .int) [(0, 69, 70, 14), (0, 69, 74, 51)] ∈ lw_tbl := tw_m2 (List.mem_of_getElem? (i := 167) rfl)
theorem ml_RL_33 : Cond.methodLink RL 33 yX2_state ∈ lw_tbl := tw_m2 (List.mem_of_getElem? (i := 169) rfl)
theorem im_X2_state : Cond.instanceMethod yX2_state ∈ lw_tbl := tw_m2 (List.mem_of_getElem? (i := 170) rfl)
theorem se_X2_state : Cond.selects RX2 yX2_state yX2_state ∈ lw_tbl := tw_m2 (List.mem_of_getElem? (i := 171) rfl)
theorem co_X2_state : Cond.code yX2_state cX2_state 2 (some .int) ∈ lw_tbl := tw_m2 (List.mem_of_getElem? (i := 172) rfl)
theorem im_X0_knows : Cond.instanceMethod yX0_knows ∈ lw_tbl := tw_m2 (List.mem_of_getElem? (i := 176) rfl)
theorem co_X0_knows : Cond.code yX0_knows cX0_knows 2 (some .boolean) ∈ lw_tbl := tw_m2 (List.mem_of_getElem? (i := 177) rfl)
theorem ml_RL_36 : Cond.methodLink RL 36 yX2_parent ∈ lw_tbl := tw_m2 (List.mem_of_getElem? (i := 178) rfl)
theorem im_X2_parent : Cond.instanceMethod yX2_parent ∈ lw_tbl := tw_m2 (List.mem_of_getElem? (i := 179) rfl)
theorem se_X2_parent : Cond.selects RX2 yX2_parent yX2_parent ∈ lw_tbl := tw_m2 (List.mem_of_getElem? (i := 180) rfl)
theorem co_X2_parent : Cond.code yX2_parent cX2_parent 2 (some .int) ∈ lw_tbl := tw_m2 (List.mem_of_getElem? (i := 181) rfl)
theorem ml_RX2_85 : Cond.methodLink RX2 85 yX2_requireInForest ∈ lw_tbl := tw_m2 (List.mem_of_getElem? (i := 182) rfl)
theorem im_X2_requireInForest : Cond.instanceMethod yX2_requireInForest ∈ lw_tbl := tw_m2 (List.mem_of_getElem? (i := 184) rfl)
theorem co_X2_requireInForest : Cond.code yX2_requireInForest cX2_requireInForest 2 none ∈ lw_tbl := tw_m2 (List.mem_of_getElem? (i := 185) rfl)
theorem ml_RL_39 : Cond.methodLink RL 39 yX2_root ∈ lw_tbl := tw_m2 (List.mem_of_getElem? (i := 202) rfl)
theorem im_X2_root : Cond.instanceMethod yX2_root ∈ lw_tbl := tw_m2 (List.mem_of_getElem? (i := 203) rfl)
theorem se_X2_root : Cond.selects RX2 yX2_root yX2_root ∈ lw_tbl := tw_m2 (List.mem_of_getElem? (i := 204) rfl)
theorem co_X2_root : Cond.code yX2_root cX2_root 3 (some .int) ∈ lw_tbl := tw_m2 (List.mem_of_getElem? (i := 205) rfl)
theorem im_X0_rootIdAt : Cond.instanceMethod yX0_rootIdAt ∈ lw_tbl := tw_m2 (List.mem_of_getElem? (i := 208) rfl)
theorem co_X0_rootIdAt : Cond.code yX0_rootIdAt cX0_rootIdAt 2 (some .int) ∈ lw_tbl := tw_m2 (List.mem_of_getElem? (i := 209) rfl)
theorem ml_RL_42 : Cond.methodLink RL 42 yX2_letters ∈ lw_tbl := tw_m2 (List.mem_of_getElem? (i := 211) rfl)
theorem im_X2_letters : Cond.instanceMethod yX2_letters ∈ lw_tbl := tw_m2 (List.mem_of_getElem? (i := 212) rfl)
theorem se_X2_letters : Cond.selects RX2 yX2_letters yX2_letters ∈ lw_tbl := tw_m2 (List.mem_of_getElem? (i := 213) rfl)
theorem co_X2_letters : Cond.code yX2_letters cX2_letters 4 (some .int) ∈ lw_tbl := tw_m2 (List.mem_of_getElem? (i := 214) rfl)
theorem im_X0_idAt : Cond.instanceMethod yX0_idAt ∈ lw_tbl := tw_m2 (List.mem_of_getElem? (i := 217) rfl)
theorem co_X0_idAt : Cond.code yX0_idAt cX0_idAt 4 (some .int) ∈ lw_tbl := tw_m2 (List.mem_of_getElem? (i := 218) rfl)
theorem ml_RL_45 : Cond.methodLink RL 45 yX2_people ∈ lw_tbl := tw_m2 (List.mem_of_getElem? (i := 219) rfl)
theorem im_X2_people : Cond.instanceMethod yX2_people ∈ lw_tbl := tw_m2 (List.mem_of_getElem? (i := 220) rfl)
theorem se_X2_people : Cond.selects RX2 yX2_people yX2_people ∈ lw_tbl := tw_m2 (List.mem_of_getElem? (i := 221) rfl)
theorem co_X2_people : Cond.code yX2_people cX2_people 4 (some .int) ∈ lw_tbl := tw_m2 (List.mem_of_getElem? (i := 222) rfl)
theorem im_X1_writerBit : Cond.instanceMethod yX1_writerBit ∈ lw_tbl := tw_m2 (List.mem_of_getElem? (i := 225) rfl)
theorem co_X1_writerBit : Cond.code yX1_writerBit cX1_writerBit 2 (some .int) ∈ lw_tbl := tw_m2 (List.mem_of_getElem? (i := 226) rfl)
theorem ml_RL_48 : Cond.methodLink RL 48 yX2_latest ∈ lw_tbl := tw_m2 (List.mem_of_getElem? (i := 227) rfl)
theorem im_X2_latest : Cond.instanceMethod yX2_latest ∈ lw_tbl := tw_m2 (List.mem_of_getElem? (i := 228) rfl)
theorem se_X2_latest : Cond.selects RX2 yX2_latest yX2_latest ∈ lw_tbl := tw_m2 (List.mem_of_getElem? (i := 229) rfl)
theorem co_X2_latest : Cond.code yX2_latest cX2_latest 5 (some .int) ∈ lw_tbl := tw_m2 (List.mem_of_getElem? (i := 230) rfl)
theorem ml_RX2_126 : Cond.methodLink RX2 126 Lib.Math.max.name ∈ lw_tbl := tw_m2 (List.mem_of_getElem? (i := 232) rfl)
theorem st_Math_max : Cond.static Lib.Math.max.name ∈ lw_tbl := tw_m2 (List.mem_of_getElem? (i := 233) rfl)
theorem co_Math_max : Cond.code Lib.Math.max.name Lib.Math.max.code 2 (some .int) ∈ lw_tbl := tw_m2 (List.mem_of_getElem? (i := 234) rfl)
theorem ml_RL_79 : Cond.methodLink RL 79 yL_areAlike ∈ lw_tbl := tw_m2 (List.mem_of_getElem? (i := 235) rfl)
theorem st_L_areAlike : Cond.static yL_areAlike ∈ lw_tbl := tw_m2 (List.mem_of_getElem? (i := 236) rfl)
theorem co_L_areAlike : Cond.code yL_areAlike cL_areAlike 8 (some .boolean) ∈ lw_tbl := tw_m2 (List.mem_of_getElem? (i := 237) rfl)
theorem ml_RL_66 : Cond.methodLink RL 66 yL_inTree ∈ lw_tbl := tw_m2 (List.mem_of_getElem? (i := 238) rfl)
theorem st_L_inTree : Cond.static yL_inTree ∈ lw_tbl := tw_m2 (List.mem_of_getElem? (i := 239) rfl)
theorem co_L_inTree : Cond.codeWith yL_inTree cL_inTree 4 (some .int) [(0, 6, 7, 14), (0, 6, 11, 51)] ∈ lw_tbl := tw_m3 (List.mem_of_getElem? (i := 0) rfl)
theorem ml_RL_53 : Cond.methodLink RL 53 yX2_inTree ∈ lw_tbl := tw_m3 (List.mem_of_getElem? (i := 1) rfl)
theorem im_X2_inTree : Cond.instanceMethod yX2_inTree ∈ lw_tbl := tw_m3 (List.mem_of_getElem? (i := 2) rfl)
theorem se_X2_inTree : Cond.selects RX2 yX2_inTree yX2_inTree ∈ lw_tbl := tw_m3 (List.mem_of_getElem? (i := 3) rfl)
theorem co_X2_inTree : Cond.code yX2_inTree cX2_inTree 4 (some .int) ∈ lw_tbl := tw_m3 (List.mem_of_getElem? (i := 4) rfl)
theorem se_X0_countRoots : Cond.selects RX0 yX0_countRoots yX0_countRoots ∈ lw_tbl := tw_m0 (q := (yX0_countRoots, 13)) (List.mem_append_left _ (List.mem_of_getElem? (i := 0) rfl))
theorem se_X1_holds : Cond.selects RX1 yX1_holds yX1_holds ∈ lw_tbl := tw_m0 (q := (yX1_holds, 9)) (List.mem_append_left _ (List.mem_of_getElem? (i := 2) rfl))
theorem se_X1_put : Cond.selects RX1 yX1_put yX1_put ∈ lw_tbl := tw_m0 (q := (yX1_put, 9)) (List.mem_append_left _ (List.mem_of_getElem? (i := 3) rfl))
theorem se_X0_grow : Cond.selects RX0 yX0_grow yX0_grow ∈ lw_tbl := tw_m0 (q := (yX0_grow, 13)) (List.mem_append_left _ (List.mem_of_getElem? (i := 4) rfl))
theorem se_X0_findKnown : Cond.selects RX0 yX0_findKnown yX0_findKnown ∈ lw_tbl := tw_m0 (q := (yX0_findKnown, 13)) (List.mem_append_left _ (List.mem_of_getElem? (i := 5) rfl))
theorem se_X1_parentToldBy : Cond.selects RX1 yX1_parentToldBy yX1_parentToldBy ∈ lw_tbl := tw_m0 (q := (yX1_parentToldBy, 9)) (List.mem_append_left _ (List.mem_of_getElem? (i := 6) rfl))
theorem se_X0_learn : Cond.selects RX0 yX0_learn yX0_learn ∈ lw_tbl := tw_m0 (q := (yX0_learn, 13)) (List.mem_append_left _ (List.mem_of_getElem? (i := 7) rfl))
theorem se_X1_grandparentToldBy : Cond.selects RX1 yX1_grandparentToldBy yX1_grandparentToldBy ∈ lw_tbl := tw_m0 (q := (yX1_grandparentToldBy, 9)) (List.mem_append_left _ (List.mem_of_getElem? (i := 8) rfl))
theorem se_X1_handOf : Cond.selects RX1 yX1_handOf yX1_handOf ∈ lw_tbl := tw_m0 (q := (yX1_handOf, 9)) (List.mem_append_left _ (List.mem_of_getElem? (i := 9) rfl))
theorem se_X0_linkKnown : Cond.selects RX0 yX0_linkKnown yX0_linkKnown ∈ lw_tbl := tw_m0 (q := (yX0_linkKnown, 13)) (List.mem_append_left _ (List.mem_of_getElem? (i := 10) rfl))
theorem se_X1_toldParentOf : Cond.selects RX1 yX1_toldParentOf yX1_toldParentOf ∈ lw_tbl := tw_m0 (q := (yX1_toldParentOf, 9)) (List.mem_append_left _ (List.mem_of_getElem? (i := 11) rfl))
theorem se_X1_guessedParentOf : Cond.selects RX1 yX1_guessedParentOf yX1_guessedParentOf ∈ lw_tbl := tw_m0 (q := (yX1_guessedParentOf, 9)) (List.mem_append_left _ (List.mem_of_getElem? (i := 12) rfl))
theorem se_X0_linksLead : Cond.selects RX0 yX0_linksLead yX0_linksLead ∈ lw_tbl := tw_m0 (q := (yX0_linksLead, 13)) (List.mem_append_left _ (List.mem_of_getElem? (i := 13) rfl))
theorem se_X0_hangByLinks : Cond.selects RX0 yX0_hangByLinks yX0_hangByLinks ∈ lw_tbl := tw_m0 (q := (yX0_hangByLinks, 13)) (List.mem_append_left _ (List.mem_of_getElem? (i := 14) rfl))
theorem se_X0_parentByLinks : Cond.selects RX0 yX0_parentByLinks yX0_parentByLinks ∈ lw_tbl := tw_m0 (q := (yX0_parentByLinks, 13)) (List.mem_append_left _ (List.mem_of_getElem? (i := 15) rfl))
theorem se_X0_keepMissing : Cond.selects RX0 yX0_keepMissing yX0_keepMissing ∈ lw_tbl := tw_m0 (q := (yX0_keepMissing, 13)) (List.mem_append_right _ (List.mem_append_left _ (List.mem_of_getElem? (i := 0) rfl)))
theorem se_X0_countChildren : Cond.selects RX0 yX0_countChildren yX0_countChildren ∈ lw_tbl := tw_m0 (q := (yX0_countChildren, 13)) (List.mem_append_right _ (List.mem_append_left _ (List.mem_of_getElem? (i := 1) rfl)))
theorem se_X0_freeChildren : Cond.selects RX0 yX0_freeChildren yX0_freeChildren ∈ lw_tbl := tw_m0 (q := (yX0_freeChildren, 13)) (List.mem_append_right _ (List.mem_append_left _ (List.mem_of_getElem? (i := 2) rfl)))
theorem se_X0_hangReplies : Cond.selects RX0 yX0_hangReplies yX0_hangReplies ∈ lw_tbl := tw_m0 (q := (yX0_hangReplies, 13)) (List.mem_append_right _ (List.mem_append_left _ (List.mem_of_getElem? (i := 3) rfl)))
theorem se_X1_isReply : Cond.selects RX1 yX1_isReply yX1_isReply ∈ lw_tbl := tw_m0 (q := (yX1_isReply, 9)) (List.mem_append_right _ (List.mem_append_left _ (List.mem_of_getElem? (i := 4) rfl)))
theorem se_X0_letterAnsweredBy : Cond.selects RX0 yX0_letterAnsweredBy yX0_letterAnsweredBy ∈ lw_tbl := tw_m0 (q := (yX0_letterAnsweredBy, 13)) (List.mem_append_right _ (List.mem_append_left _ (List.mem_of_getElem? (i := 5) rfl)))
theorem se_X1_isAnsweredBy : Cond.selects RX1 yX1_isAnsweredBy yX1_isAnsweredBy ∈ lw_tbl := tw_m0 (q := (yX1_isAnsweredBy, 9)) (List.mem_append_right _ (List.mem_append_left _ (List.mem_of_getElem? (i := 6) rfl)))
theorem se_X1_dayOf : Cond.selects RX1 yX1_dayOf yX1_dayOf ∈ lw_tbl := tw_m0 (q := (yX1_dayOf, 9)) (List.mem_append_right _ (List.mem_append_left _ (List.mem_of_getElem? (i := 7) rfl)))
theorem se_X0_measureTrees : Cond.selects RX0 yX0_measureTrees yX0_measureTrees ∈ lw_tbl := tw_m0 (q := (yX0_measureTrees, 13)) (List.mem_append_right _ (List.mem_append_left _ (List.mem_of_getElem? (i := 8) rfl)))
theorem se_X0_countUpwards : Cond.selects RX0 yX0_countUpwards yX0_countUpwards ∈ lw_tbl := tw_m0 (q := (yX0_countUpwards, 13)) (List.mem_append_right _ (List.mem_append_left _ (List.mem_of_getElem? (i := 9) rfl)))
theorem se_X0_placeRoots : Cond.selects RX0 yX0_placeRoots yX0_placeRoots ∈ lw_tbl := tw_m0 (q := (yX0_placeRoots, 13)) (List.mem_append_right _ (List.mem_append_left _ (List.mem_of_getElem? (i := 10) rfl)))
theorem se_X0_placeRoot : Cond.selects RX0 yX0_placeRoot yX0_placeRoot ∈ lw_tbl := tw_m0 (q := (yX0_placeRoot, 13)) (List.mem_append_right _ (List.mem_append_left _ (List.mem_of_getElem? (i := 11) rfl)))
theorem se_X0_comesBefore : Cond.selects RX0 yX0_comesBefore yX0_comesBefore ∈ lw_tbl := tw_m0 (q := (yX0_comesBefore, 13)) (List.mem_append_right _ (List.mem_append_left _ (List.mem_of_getElem? (i := 12) rfl)))
theorem se_X0_contains : Cond.selects RX0 yX0_contains yX0_contains ∈ lw_tbl := tw_m0 (q := (yX0_contains, 13)) (List.mem_append_right _ (List.mem_append_left _ (List.mem_of_getElem? (i := 13) rfl)))
theorem se_X0_placeTrees : Cond.selects RX0 yX0_placeTrees yX0_placeTrees ∈ lw_tbl := tw_m0 (q := (yX0_placeTrees, 13)) (List.mem_append_right _ (List.mem_append_left _ (List.mem_of_getElem? (i := 14) rfl)))
theorem se_X0_offsetBehindParent : Cond.selects RX0 yX0_offsetBehindParent yX0_offsetBehindParent ∈ lw_tbl := tw_m0 (q := (yX0_offsetBehindParent, 13)) (List.mem_append_right _ (List.mem_append_left _ (List.mem_of_getElem? (i := 15) rfl)))
theorem se_X0_parentIn : Cond.selects RX0 yX0_parentIn yX0_parentIn ∈ lw_tbl := tw_m0 (q := (yX0_parentIn, 13)) (List.mem_append_right _ (List.mem_append_right _ (List.mem_of_getElem? (i := 0) rfl)))
theorem se_X0_startInOrder : Cond.selects RX0 yX0_startInOrder yX0_startInOrder ∈ lw_tbl := tw_m0 (q := (yX0_startInOrder, 13)) (List.mem_append_right _ (List.mem_append_right _ (List.mem_of_getElem? (i := 1) rfl)))
theorem se_X2_requireLetter : Cond.selects RX2 yX2_requireLetter yX2_requireLetter ∈ lw_tbl := tw_m0 (q := (yX2_requireLetter, 2)) (List.mem_append_right _ (List.mem_append_right _ (List.mem_of_getElem? (i := 2) rfl)))
theorem se_X1_drop : Cond.selects RX1 yX1_drop yX1_drop ∈ lw_tbl := tw_m0 (q := (yX1_drop, 9)) (List.mem_append_right _ (List.mem_append_right _ (List.mem_of_getElem? (i := 3) rfl)))
theorem se_X1_setHand : Cond.selects RX1 yX1_setHand yX1_setHand ∈ lw_tbl := tw_m0 (q := (yX1_setHand, 9)) (List.mem_append_right _ (List.mem_append_right _ (List.mem_of_getElem? (i := 4) rfl)))
theorem se_X0_isInTree : Cond.selects RX0 yX0_isInTree yX0_isInTree ∈ lw_tbl := tw_m0 (q := (yX0_isInTree, 13)) (List.mem_append_right _ (List.mem_append_right _ (List.mem_of_getElem? (i := 5) rfl)))
theorem se_X0_knows : Cond.selects RX0 yX0_knows yX0_knows ∈ lw_tbl := tw_m0 (q := (yX0_knows, 13)) (List.mem_append_right _ (List.mem_append_right _ (List.mem_of_getElem? (i := 6) rfl)))
theorem se_X2_requireInForest : Cond.selects RX2 yX2_requireInForest yX2_requireInForest ∈ lw_tbl := tw_m0 (q := (yX2_requireInForest, 2)) (List.mem_append_right _ (List.mem_append_right _ (List.mem_of_getElem? (i := 7) rfl)))
theorem se_X0_rootIdAt : Cond.selects RX0 yX0_rootIdAt yX0_rootIdAt ∈ lw_tbl := tw_m0 (q := (yX0_rootIdAt, 13)) (List.mem_append_right _ (List.mem_append_right _ (List.mem_of_getElem? (i := 8) rfl)))
theorem se_X0_idAt : Cond.selects RX0 yX0_idAt yX0_idAt ∈ lw_tbl := tw_m0 (q := (yX0_idAt, 13)) (List.mem_append_right _ (List.mem_append_right _ (List.mem_of_getElem? (i := 9) rfl)))
theorem se_X1_writerBit : Cond.selects RX1 yX1_writerBit yX1_writerBit ∈ lw_tbl := tw_m0 (q := (yX1_writerBit, 9)) (List.mem_append_right _ (List.mem_append_right _ (List.mem_of_getElem? (i := 10) rfl)))
theorem tw_u0 : ∀ w ∈ u_ws RX0 TX0 13, w ∈ lw_tbl := by
  have h : u_ws RX0 TX0 13 = [74, 76, 78, 80, 82, 84, 86, 88, 90, 92, 94, 96, 98].filterMap (fun i => tables_1_1[i]?) := rfl
  intro w hw
  rw [h] at hw
  obtain ⟨i, -, hi⟩ := List.mem_filterMap.mp hw
  exact tw_m1 (List.mem_of_getElem? hi)
theorem tw_v0 {x : Cond} : ∀ w ∈ u_ws RX0 TX0 13, w ∈ x :: tw_G := fun w h => tw_in (tw_u0 w h) (List.all_eq_true.mp (show (u_ws RX0 TX0 13).all goodWord = true from by decide +kernel) w h)
theorem tw_u1 : ∀ w ∈ u_ws RX1 TX1 9, w ∈ lw_tbl := by
  have h : u_ws RX1 TX1 9 = [34, 36, 38, 40, 42, 44, 46, 48, 50].filterMap (fun i => tables_1_1[i]?) := rfl
  intro w hw
  rw [h] at hw
  obtain ⟨i, -, hi⟩ := List.mem_filterMap.mp hw
  exact tw_m1 (List.mem_of_getElem? hi)
theorem tw_v1 {x : Cond} : ∀ w ∈ u_ws RX1 TX1 9, w ∈ x :: tw_G := fun w h => tw_in (tw_u1 w h) (List.all_eq_true.mp (show (u_ws RX1 TX1 9).all goodWord = true from by decide +kernel) w h)
theorem tw_u2 : ∀ w ∈ u_ws RX2 TX2 2, w ∈ lw_tbl := by
  have h : u_ws RX2 TX2 2 = [103, 105].filterMap (fun i => tables_1_1[i]?) := rfl
  intro w hw
  rw [h] at hw
  obtain ⟨i, -, hi⟩ := List.mem_filterMap.mp hw
  exact tw_m1 (List.mem_of_getElem? hi)
theorem tw_v2 {x : Cond} : ∀ w ∈ u_ws RX2 TX2 2, w ∈ x :: tw_G := fun w h => tw_in (tw_u2 w h) (List.all_eq_true.mp (show (u_ws RX2 TX2 2).all goodWord = true from by decide +kernel) w h)
abbrev wzX0_init : List Cond := Cond.code yX0_init cX0_init 2 none  :: tw_G
abbrev wzX2_isId : List Cond := Cond.code yX2_isId cX2_isId 1 (some .boolean)  :: tw_G
abbrev wzX0_knows : List Cond := Cond.code yX0_knows cX0_knows 2 (some .boolean)  :: tw_G
abbrev wzX0_contains : List Cond := Cond.code yX0_contains cX0_contains 2 (some .boolean)  :: tw_G
abbrev wzX0_parentIn : List Cond := Cond.code yX0_parentIn cX0_parentIn 2 (some .int)  :: tw_G
abbrev wzX0_countRoots : List Cond := Cond.code yX0_countRoots cX0_countRoots 1 (some .int)  :: tw_G
abbrev wzX0_rootIdAt : List Cond := Cond.code yX0_rootIdAt cX0_rootIdAt 2 (some .int)  :: tw_G
abbrev wzX0_countChildren : List Cond := Cond.code yX0_countChildren cX0_countChildren 4 (some .int)  :: tw_G
abbrev wzX0_idAt : List Cond := Cond.code yX0_idAt cX0_idAt 4 (some .int)  :: tw_G
abbrev wzX0_isInTree : List Cond := Cond.code yX0_isInTree cX0_isInTree 5 (some .boolean)  :: tw_G
abbrev wzX1_holds : List Cond := Cond.code yX1_holds cX1_holds 2 (some .boolean)  :: tw_G
abbrev wzX1_parentToldBy : List Cond := Cond.code yX1_parentToldBy cX1_parentToldBy 2 (some .int)  :: tw_G
abbrev wzX0_learn : List Cond := Cond.code yX0_learn cX0_learn 2 none  :: tw_G
abbrev wzX1_grandparentToldBy : List Cond := Cond.code yX1_grandparentToldBy cX1_grandparentToldBy 2 (some .int)  :: tw_G
abbrev wzX1_handOf : List Cond := Cond.code yX1_handOf cX1_handOf 2 (some .int)  :: tw_G
abbrev wzX0_findKnown : List Cond := Cond.code yX0_findKnown cX0_findKnown 2 none  :: tw_G
abbrev wzX1_guessedParentOf : List Cond := Cond.code yX1_guessedParentOf cX1_guessedParentOf 3 (some .int)  :: tw_G
abbrev wzX1_toldParentOf : List Cond := Cond.code yX1_toldParentOf cX1_toldParentOf 3 (some .int)  :: tw_G
abbrev wzX0_linksLead : List Cond := Cond.code yX0_linksLead cX0_linksLead 5 (some .boolean)  :: tw_G
abbrev wzX0_linkKnown : List Cond := Cond.code yX0_linkKnown cX0_linkKnown 3 none  :: tw_G
abbrev wzX0_parentByLinks : List Cond := Cond.code yX0_parentByLinks cX0_parentByLinks 4 (some .int)  :: tw_G
abbrev wzX0_hangByLinks : List Cond := Cond.code yX0_hangByLinks cX0_hangByLinks 2 none  :: tw_G
abbrev wzX0_freeChildren : List Cond := Cond.code yX0_freeChildren cX0_freeChildren 3 none  :: tw_G
abbrev wzX0_keepMissing : List Cond := Cond.code yX0_keepMissing cX0_keepMissing 2 none  :: tw_G
abbrev wzX1_isReply : List Cond := Cond.code yX1_isReply cX1_isReply 2 (some .boolean)  :: tw_G
abbrev wzX1_isAnsweredBy : List Cond := Cond.code yX1_isAnsweredBy cX1_isAnsweredBy 4 (some .boolean)  :: tw_G
abbrev wzX1_dayOf : List Cond := Cond.code yX1_dayOf cX1_dayOf 2 (some .int)  :: tw_G
abbrev wzX0_letterAnsweredBy : List Cond := Cond.code yX0_letterAnsweredBy cX0_letterAnsweredBy 5 (some .int)  :: tw_G
abbrev wzX0_hangReplies : List Cond := Cond.code yX0_hangReplies cX0_hangReplies 2 none  :: tw_G
abbrev wzX0_countUpwards : List Cond := Cond.code yX0_countUpwards cX0_countUpwards 5 none  :: tw_G
abbrev wzX0_measureTrees : List Cond := Cond.code yX0_measureTrees cX0_measureTrees 2 none  :: tw_G
abbrev wzX0_comesBefore : List Cond := Cond.code yX0_comesBefore cX0_comesBefore 3 (some .boolean)  :: tw_G
abbrev wzX0_placeRoot : List Cond := Cond.code yX0_placeRoot cX0_placeRoot 4 none  :: tw_G
abbrev wzX0_placeRoots : List Cond := Cond.code yX0_placeRoots cX0_placeRoots 2 none  :: tw_G
abbrev wzX0_offsetBehindParent : List Cond := Cond.code yX0_offsetBehindParent cX0_offsetBehindParent 4 (some .int)  :: tw_G
abbrev wzX0_startInOrder : List Cond := Cond.code yX0_startInOrder cX0_startInOrder 5 (some .int)  :: tw_G
abbrev wzX0_placeTrees : List Cond := Cond.code yX0_placeTrees cX0_placeTrees 2 none  :: tw_G
abbrev wzX0_grow : List Cond := Cond.code yX0_grow cX0_grow 1 none  :: tw_G
abbrev wzX1_init : List Cond := Cond.code yX1_init cX1_init 1 none  :: tw_G
abbrev wzX1_put : List Cond := Cond.code yX1_put cX1_put 7 none  :: tw_G
abbrev wzX1_drop : List Cond := Cond.code yX1_drop cX1_drop 2 none  :: tw_G
abbrev wzX1_setHand : List Cond := Cond.code yX1_setHand cX1_setHand 3 none  :: tw_G
abbrev wzX1_writerBit : List Cond := Cond.code yX1_writerBit cX1_writerBit 2 (some .int)  :: tw_G
abbrev wzX2_init : List Cond := Cond.code yX2_init cX2_init 1 none  :: tw_G
abbrev wzX2_requireId : List Cond := Cond.code yX2_requireId cX2_requireId 1 none  :: tw_G
abbrev wzX2_requireTold : List Cond := Cond.code yX2_requireTold cX2_requireTold 2 none  :: tw_G
abbrev wzX2_requireBelow : List Cond := Cond.code yX2_requireBelow cX2_requireBelow 2 none  :: tw_G
abbrev wzX2_letter : List Cond := Cond.code yX2_letter cX2_letter 7 (some .int)  :: tw_G
abbrev wzX2_requireLetter : List Cond := Cond.code yX2_requireLetter cX2_requireLetter 2 none  :: tw_G
abbrev wzX2_delete : List Cond := Cond.code yX2_delete cX2_delete 2 (some .int)  :: tw_G
abbrev wzX2_split : List Cond := Cond.code yX2_split cX2_split 3 (some .int)  :: tw_G
abbrev wzX2_join : List Cond := Cond.code yX2_join cX2_join 3 (some .int)  :: tw_G
abbrev wzX2_release : List Cond := Cond.code yX2_release cX2_release 3 (some .boolean)  :: tw_G
abbrev wzX2_state : List Cond := Cond.code yX2_state cX2_state 2 (some .int)  :: tw_G
abbrev wzX2_requireInForest : List Cond := Cond.code yX2_requireInForest cX2_requireInForest 2 none  :: tw_G
abbrev wzX2_parent : List Cond := Cond.code yX2_parent cX2_parent 2 (some .int)  :: tw_G
abbrev wzX2_roots : List Cond := Cond.code yX2_roots cX2_roots 1 (some .int)  :: tw_G
abbrev wzX2_root : List Cond := Cond.code yX2_root cX2_root 3 (some .int)  :: tw_G
abbrev wzX2_inTree : List Cond := Cond.code yX2_inTree cX2_inTree 4 (some .int)  :: tw_G
abbrev wzX2_letters : List Cond := Cond.code yX2_letters cX2_letters 4 (some .int)  :: tw_G
abbrev wzX2_people : List Cond := Cond.code yX2_people cX2_people 4 (some .int)  :: tw_G
abbrev wzX2_latest : List Cond := Cond.code yX2_latest cX2_latest 5 (some .int)  :: tw_G
abbrev wzL_drawn : List Cond := Cond.code yL_drawn cL_drawn 3 (some .int)  :: tw_G
abbrev wzL_come : List Cond := Cond.codeWith yL_come cL_come 6 (some .int) [(45, 86, 87, 14), (45, 86, 92, 16)] :: tw_G
abbrev wzL_does : List Cond := Cond.codeWith yL_does cL_does 4 (some .int) [(0, 54, 55, 14), (0, 54, 59, 16)] :: tw_G
abbrev wzL_of : List Cond := Cond.codeWith yL_of cL_of 4 (some .int) [(0, 69, 70, 14), (0, 69, 74, 51)] :: tw_G
abbrev wzL_inTree : List Cond := Cond.codeWith yL_inTree cL_inTree 4 (some .int) [(0, 6, 7, 14), (0, 6, 11, 51)] :: tw_G
abbrev wzL_areAlike : List Cond := Cond.code yL_areAlike cL_areAlike 8 (some .boolean)  :: tw_G
end
section
/-! ===== 02: rows of our own over the kit's: a goal that speaks of the state alone ===== -/
abbrev tg_Mem : Type := Nat → Nat → Int32
def tg_set (σ : tg_Mem) (k i : Nat) (x : Int32) : tg_Mem := fun a => if a = k then upd (σ a) i x else σ a
def tg_b (b : Bool) : Int32 := if b = true then 1 else 0
def tg_NU (nl : List (String × Nat × MethodName × String)) (U : State) : Prop := ∀ q ∈ nl, va_Nw (.methodLinkNest q.1 q.2.1 q.2.2.1 q.2.2.2) U
theorem tg_NU.warm {nl : List (String × Nat × MethodName × String)} {s U : State} (hW : s.WarmedH U.vm) (h : tg_NU nl s) : tg_NU nl U := fun q hq => va_Nw.warmM hW (h q hq)
theorem tg_NU.same {nl : List (String × Nat × MethodName × String)} {u U : State} (hv : u.vm = U.vm) (h : tg_NU nl u) : tg_NU nl U := fun q hq => va_Nw.same rfl hv (h q hq)
def tg_PT (w : tg_Mem → va_W) (D : va_G) (A : Nat → Prop) (r : Option Value) (σ' : tg_Mem) : Array Value → State → Outcome → State → Prop := fun _ st o t => o = .returned r ∧ va_P D vwCl (w σ') t.heap ∧ va_F A st t
def tg_Pre (w : tg_Mem → va_W) (D : va_G) (tys : List (ClassId × FieldType)) (nl : List (String × Nat × MethodName × String)) (As : List Value) (σ : tg_Mem) : Array Value → State → Prop :=
  va_Pc As (fun U => va_P D vwCl (w σ) U.heap ∧ va_K D vwCl tys U ∧ tg_NU nl U)
/-- a method's contract: from the state σ it returns r and leaves σ' -/
def tg_CT (l : Launch) (y : MethodName) (ws : List Cond) (rm : Room) (w : tg_Mem → va_W) (tys : List (ClassId × FieldType)) (nl : List (String × Nat × MethodName × String)) (A : Nat → Prop) (D : va_G) (As : List Value) (σ : tg_Mem) (r : Option Value) (σ' : tg_Mem) : Prop :=
  Met l y ws rm (tg_Pre w D tys nl As σ) (tg_PT w D A r σ') 0 0 A
theorem tg_blind {w : tg_Mem → va_W} {D : va_G} {tys : List (ClassId × FieldType)} {nl : List (String × Nat × MethodName × String)} {As : List Value} {σ : tg_Mem} : FrameBlind (tg_Pre w D tys nl As σ) := fun a U g mk h => by
  obtain ⟨h1, h2, h3, h4⟩ := h
  exact ⟨h1, h2, va_K.moved (u := U) (U := U.calling g mk a) (Vm.Alike.refl U.vm) h3, tg_NU.same (u := U) (U := U.calling g mk a) rfl h4⟩
def tg_rm (f : Nat) : Room := { frames := f, cells := 0, slots := 0, locals := 28 * f }
section TGR
variable {p : Program} {l : Launch} {e : Env} {R : Room} {s : State} {m : MethodId} {args : Array Value} {below : List Frame} {meth : Method} {c : Code} {D : va_G} {w : tg_Mem → va_W} {A : Nat → Prop} {n k z : Nat} {Q : State → Prop}
def tg_G (p : Program) (l : Launch) (e : Env) (R : Room) (s : State) (m : MethodId) (args : Array Value) (below : List Frame) (meth : Method) (c : Code) (D : va_G) (w : tg_Mem → va_W) (A : Nat → Prop) (n k z : Nat) (Q : State → Prop) (σ : tg_Mem) (pc : Nat) (L : List (Nat × Value)) (st : List Value) : Prop :=
  ∀ (H : Heap) (locs : List Loc) (ls : Array Slot), va_P D vwCl (w σ) H → va_S A s.heap H locs → lv_has ls n L → W p l e R s m args below meth c H locs k z Q (F0 m pc ls st)
variable {cc : ByteArray} {Ts : List Cond} {own : String} {σ : tg_Mem} {pc : Nat} {L L' : List (Nat × Value)} {st : List Value}
theorem tg_iconst (S : CallFix p m c cc n s args Ts own) {j : Int} {v : Int32} (d : decode cc pc = .ok (.iconst j, 1)) (hv : Int32.ofInt j = v) (kk : tg_G p l e R s m args below meth c D w A n k z Q σ (pc + 1) L (.int v :: st)) : tg_G p l e R s m args below meth c D w A n k z Q σ pc L st := fun H locs ls hP hS hl => lv_iconst S.1 S.2.1 d hv (kk H locs ls hP hS hl)
theorem tg_bipush (S : CallFix p m c cc n s args Ts own) {j : Int} {v : Int32} (d : decode cc pc = .ok (.bipush j, 2)) (hv : (Int8.ofInt j).toInt32 = v) (kk : tg_G p l e R s m args below meth c D w A n k z Q σ (pc + 2) L (.int v :: st)) : tg_G p l e R s m args below meth c D w A n k z Q σ pc L st := fun H locs ls hP hS hl => lv_bipush S.1 S.2.1 d hv (kk H locs ls hP hS hl)
theorem tg_sipush (S : CallFix p m c cc n s args Ts own) {j : Int} {v : Int32} (d : decode cc pc = .ok (.sipush j, 3)) (hv : (Int16.ofInt j).toInt32 = v) (kk : tg_G p l e R s m args below meth c D w A n k z Q σ (pc + 3) L (.int v :: st)) : tg_G p l e R s m args below meth c D w A n k z Q σ pc L st := fun H locs ls hP hS hl => lv_sipush S.1 S.2.1 d hv (kk H locs ls hP hS hl)
theorem tg_iload_n (S : CallFix p m c cc n s args Ts own) {j : Fin 4} {x : Int32} {i : Nat} (q : Nat) (d : decode cc pc = .ok (.iload_n j, 1)) (hj : (j : Nat) = i) (hq : L[q]? = some (i, .int x)) (kk : tg_G p l e R s m args below meth c D w A n k z Q σ (pc + 1) L (.int x :: st)) : tg_G p l e R s m args below meth c D w A n k z Q σ pc L st := fun H locs ls hP hS hl => lv_iload_n S.1 S.2.1 d hj (lv_at hl q hq) (kk H locs ls hP hS hl)
theorem tg_iload (S : CallFix p m c cc n s args Ts own) {x : Int32} {i : Nat} (q : Nat) (d : decode cc pc = .ok (.iload i, 2)) (hq : L[q]? = some (i, .int x)) (kk : tg_G p l e R s m args below meth c D w A n k z Q σ (pc + 2) L (.int x :: st)) : tg_G p l e R s m args below meth c D w A n k z Q σ pc L st := fun H locs ls hP hS hl => lv_iload S.1 S.2.1 d (lv_at hl q hq) (kk H locs ls hP hS hl)
theorem tg_aload_n (S : CallFix p m c cc n s args Ts own) {j : Fin 4} {x : Nat} {i : Nat} (q : Nat) (d : decode cc pc = .ok (.aload_n j, 1)) (hj : (j : Nat) = i) (hq : L[q]? = some (i, .ref x)) (kk : tg_G p l e R s m args below meth c D w A n k z Q σ (pc + 1) L (.ref x :: st)) : tg_G p l e R s m args below meth c D w A n k z Q σ pc L st := fun H locs ls hP hS hl => lv_aload_n S.1 S.2.1 d hj (lv_at hl q hq) (kk H locs ls hP hS hl)
theorem tg_aload (S : CallFix p m c cc n s args Ts own) {x : Nat} {i : Nat} (q : Nat) (d : decode cc pc = .ok (.aload i, 2)) (hq : L[q]? = some (i, .ref x)) (kk : tg_G p l e R s m args below meth c D w A n k z Q σ (pc + 2) L (.ref x :: st)) : tg_G p l e R s m args below meth c D w A n k z Q σ pc L st := fun H locs ls hP hS hl => lv_aload S.1 S.2.1 d (lv_at hl q hq) (kk H locs ls hP hS hl)
theorem tg_istore_n (ps : List Nat) (S : CallFix p m c cc n s args Ts own) {j : Fin 4} {x : Int32} {i : Nat} (d : decode cc pc = .ok (.istore_n j, 1)) (hj : (j : Nat) = i) (hi : i < n) (hL : lv_pick ((i, Value.int x) :: L.filter (fun q => !(q.1 == i) && !(q.1 + 1 == i && q.2.category == 2))) ps = L') (kk : tg_G p l e R s m args below meth c D w A n k z Q σ (pc + 1) L' st) : tg_G p l e R s m args below meth c D w A n k z Q σ pc L (.int x :: st) := fun H locs ls hP hS hl => lv_istore_n S.1 S.2.1 d hj hl hi rfl (fun ls' hl' => kk H locs ls' hP hS (lv_sub hl' ps hL))
theorem tg_istore (ps : List Nat) (S : CallFix p m c cc n s args Ts own) {x : Int32} {i : Nat} (d : decode cc pc = .ok (.istore i, 2)) (hi : i < n) (hL : lv_pick ((i, Value.int x) :: L.filter (fun q => !(q.1 == i) && !(q.1 + 1 == i && q.2.category == 2))) ps = L') (kk : tg_G p l e R s m args below meth c D w A n k z Q σ (pc + 2) L' st) : tg_G p l e R s m args below meth c D w A n k z Q σ pc L (.int x :: st) := fun H locs ls hP hS hl => lv_istore S.1 S.2.1 d hl hi rfl (fun ls' hl' => kk H locs ls' hP hS (lv_sub hl' ps hL))
theorem tg_iinc (ps : List Nat) (S : CallFix p m c cc n s args Ts own) {x v : Int32} {i : Nat} {j : Int} (q : Nat) (d : decode cc pc = .ok (.iinc i j, 3)) (hq : L[q]? = some (i, .int x)) (hv : x + Int32.ofInt j = v) (hi : i < n) (hL : lv_pick ((i, Value.int v) :: L.filter (fun q => !(q.1 == i) && !(q.1 + 1 == i && q.2.category == 2))) ps = L') (kk : tg_G p l e R s m args below meth c D w A n k z Q σ (pc + 3) L' st) : tg_G p l e R s m args below meth c D w A n k z Q σ pc L st := fun H locs ls hP hS hl => lv_iinc S.1 S.2.1 d hl hq hv hi rfl (fun ls' hl' => kk H locs ls' hP hS (lv_sub hl' ps hL))
theorem tg_iadd (S : CallFix p m c cc n s args Ts own) {x y : Int32} (d : decode cc pc = .ok (.iadd, 1)) (kk : tg_G p l e R s m args below meth c D w A n k z Q σ (pc + 1) L (.int (x + y) :: st)) : tg_G p l e R s m args below meth c D w A n k z Q σ pc L (.int y :: .int x :: st) := fun H locs ls hP hS hl => lv_iadd S.1 S.2.1 d (kk H locs ls hP hS hl)
theorem tg_isub (S : CallFix p m c cc n s args Ts own) {x y : Int32} (d : decode cc pc = .ok (.isub, 1)) (kk : tg_G p l e R s m args below meth c D w A n k z Q σ (pc + 1) L (.int (x - y) :: st)) : tg_G p l e R s m args below meth c D w A n k z Q σ pc L (.int y :: .int x :: st) := fun H locs ls hP hS hl => lv_isub S.1 S.2.1 d (kk H locs ls hP hS hl)
theorem tg_ior (S : CallFix p m c cc n s args Ts own) {x y : Int32} (d : decode cc pc = .ok (.ior, 1)) (kk : tg_G p l e R s m args below meth c D w A n k z Q σ (pc + 1) L (.int (x ||| y) :: st)) : tg_G p l e R s m args below meth c D w A n k z Q σ pc L (.int y :: .int x :: st) := fun H locs ls hP hS hl => lv_ior S.1 S.2.1 d (kk H locs ls hP hS hl)
theorem tg_ishl (S : CallFix p m c cc n s args Ts own) {x y : Int32} (d : decode cc pc = .ok (.ishl, 1)) (kk : tg_G p l e R s m args below meth c D w A n k z Q σ (pc + 1) L (.int (x <<< (y &&& 31)) :: st)) : tg_G p l e R s m args below meth c D w A n k z Q σ pc L (.int y :: .int x :: st) := fun H locs ls hP hS hl => lv_ishl S.1 S.2.1 d (kk H locs ls hP hS hl)
theorem tg_dup2 (S : CallFix p m c cc n s args Ts own) {va vb : Value} (d : decode cc pc = .ok (.dup2, 1)) (ha : va.category = 1) (hb : vb.category = 1) (kk : tg_G p l e R s m args below meth c D w A n k z Q σ (pc + 1) L (va :: vb :: va :: vb :: st)) : tg_G p l e R s m args below meth c D w A n k z Q σ pc L (va :: vb :: st) := fun H locs ls hP hS hl => lv_dup2_11 S.1 S.2.1 d ha hb (kk H locs ls hP hS hl)
theorem tg_dup (S : CallFix p m c cc n s args Ts own) {va : Value} (d : decode cc pc = .ok (.dup, 1)) (ha : va.category = 1) (kk : tg_G p l e R s m args below meth c D w A n k z Q σ (pc + 1) L (va :: va :: st)) : tg_G p l e R s m args below meth c D w A n k z Q σ pc L (va :: st) := fun H locs ls hP hS hl => lv_dup S.1 S.2.1 d ha (kk H locs ls hP hS hl)
theorem tg_goto (S : CallFix p m c cc n s args Ts own) {off : Int} {tgt : Nat} (d : decode cc pc = .ok (.goto off, 3)) (ht : (pc : Int) + off = (tgt : Int)) (kk : tg_G p l e R s m args below meth c D w A n k z Q σ tgt L st) : tg_G p l e R s m args below meth c D w A n k z Q σ pc L st := fun H locs ls hP hS hl => lv_goto S.1 S.2.1 d ht (kk H locs ls hP hS hl)
/-- a state's goal under another name of the state -/
theorem tg_eq {σ2 : tg_Mem} {L2 : List (Nat × Value)} {st2 : List Value} (h1 : σ = σ2) (h2 : L = L2) (h3 : st = st2) (kk : tg_G p l e R s m args below meth c D w A n k z Q σ2 pc L2 st2) : tg_G p l e R s m args below meth c D w A n k z Q σ pc L st := by subst h1; subst h2; subst h3; exact kk
/-- fewer locals -/
theorem tg_sub (ps : List Nat) (hL : lv_pick L ps = L') (kk : tg_G p l e R s m args below meth c D w A n k z Q σ pc L' st) : tg_G p l e R s m args below meth c D w A n k z Q σ pc L st := fun H locs ls hP hS hl => kk H locs ls hP hS (lv_sub hl ps hL)
theorem tg_b0 {b : Bool} : tg_b b = 0 ↔ b = false := by cases b <;> simp [tg_b]
theorem tg_icmp_eq (S : CallFix p m c cc n s args Ts own) {x y : Int32} {off : Int} {tgt : Nat} (d : decode cc pc = .ok (.if_icmp .eq off, 3)) (ht : (pc : Int) + off = (tgt : Int)) (kt : x = y → tg_G p l e R s m args below meth c D w A n k z Q σ tgt L st) (kf : ¬ x = y → tg_G p l e R s m args below meth c D w A n k z Q σ (pc + 3) L st) : tg_G p l e R s m args below meth c D w A n k z Q σ pc L (.int y :: .int x :: st) := fun H locs ls hP hS hl => lv_icmp_eq S.1 S.2.1 d ht (fun h => kt h H locs ls hP hS hl) (fun h => kf h H locs ls hP hS hl)
theorem tg_if_eq (S : CallFix p m c cc n s args Ts own) {x : Int32} {off : Int} {tgt : Nat} (d : decode cc pc = .ok (.ifCond .eq off, 3)) (ht : (pc : Int) + off = (tgt : Int)) (kt : x = 0 → tg_G p l e R s m args below meth c D w A n k z Q σ tgt L st) (kf : ¬ x = 0 → tg_G p l e R s m args below meth c D w A n k z Q σ (pc + 3) L st) : tg_G p l e R s m args below meth c D w A n k z Q σ pc L (.int x :: st) := fun H locs ls hP hS hl => lv_if_eq S.1 S.2.1 d ht (fun h => kt h H locs ls hP hS hl) (fun h => kf h H locs ls hP hS hl)
theorem tg_icmp_ne (S : CallFix p m c cc n s args Ts own) {x y : Int32} {off : Int} {tgt : Nat} (d : decode cc pc = .ok (.if_icmp .ne off, 3)) (ht : (pc : Int) + off = (tgt : Int)) (kt : ¬ x = y → tg_G p l e R s m args below meth c D w A n k z Q σ tgt L st) (kf : x = y → tg_G p l e R s m args below meth c D w A n k z Q σ (pc + 3) L st) : tg_G p l e R s m args below meth c D w A n k z Q σ pc L (.int y :: .int x :: st) := fun H locs ls hP hS hl => lv_icmp_ne S.1 S.2.1 d ht (fun h => kt h H locs ls hP hS hl) (fun h => kf h H locs ls hP hS hl)
theorem tg_if_ne (S : CallFix p m c cc n s args Ts own) {x : Int32} {off : Int} {tgt : Nat} (d : decode cc pc = .ok (.ifCond .ne off, 3)) (ht : (pc : Int) + off = (tgt : Int)) (kt : ¬ x = 0 → tg_G p l e R s m args below meth c D w A n k z Q σ tgt L st) (kf : x = 0 → tg_G p l e R s m args below meth c D w A n k z Q σ (pc + 3) L st) : tg_G p l e R s m args below meth c D w A n k z Q σ pc L (.int x :: st) := fun H locs ls hP hS hl => lv_if_ne S.1 S.2.1 d ht (fun h => kt h H locs ls hP hS hl) (fun h => kf h H locs ls hP hS hl)
theorem tg_icmp_lt (S : CallFix p m c cc n s args Ts own) {x y : Int32} {off : Int} {tgt : Nat} (d : decode cc pc = .ok (.if_icmp .lt off, 3)) (ht : (pc : Int) + off = (tgt : Int)) (kt : x < y → tg_G p l e R s m args below meth c D w A n k z Q σ tgt L st) (kf : ¬ x < y → tg_G p l e R s m args below meth c D w A n k z Q σ (pc + 3) L st) : tg_G p l e R s m args below meth c D w A n k z Q σ pc L (.int y :: .int x :: st) := fun H locs ls hP hS hl => lv_icmp_lt S.1 S.2.1 d ht (fun h => kt h H locs ls hP hS hl) (fun h => kf h H locs ls hP hS hl)
theorem tg_if_lt (S : CallFix p m c cc n s args Ts own) {x : Int32} {off : Int} {tgt : Nat} (d : decode cc pc = .ok (.ifCond .lt off, 3)) (ht : (pc : Int) + off = (tgt : Int)) (kt : x < 0 → tg_G p l e R s m args below meth c D w A n k z Q σ tgt L st) (kf : ¬ x < 0 → tg_G p l e R s m args below meth c D w A n k z Q σ (pc + 3) L st) : tg_G p l e R s m args below meth c D w A n k z Q σ pc L (.int x :: st) := fun H locs ls hP hS hl => lv_if_lt S.1 S.2.1 d ht (fun h => kt h H locs ls hP hS hl) (fun h => kf h H locs ls hP hS hl)
theorem tg_icmp_ge (S : CallFix p m c cc n s args Ts own) {x y : Int32} {off : Int} {tgt : Nat} (d : decode cc pc = .ok (.if_icmp .ge off, 3)) (ht : (pc : Int) + off = (tgt : Int)) (kt : y ≤ x → tg_G p l e R s m args below meth c D w A n k z Q σ tgt L st) (kf : ¬ y ≤ x → tg_G p l e R s m args below meth c D w A n k z Q σ (pc + 3) L st) : tg_G p l e R s m args below meth c D w A n k z Q σ pc L (.int y :: .int x :: st) := fun H locs ls hP hS hl => lv_icmp_ge S.1 S.2.1 d ht (fun h => kt h H locs ls hP hS hl) (fun h => kf h H locs ls hP hS hl)
theorem tg_if_ge (S : CallFix p m c cc n s args Ts own) {x : Int32} {off : Int} {tgt : Nat} (d : decode cc pc = .ok (.ifCond .ge off, 3)) (ht : (pc : Int) + off = (tgt : Int)) (kt : 0 ≤ x → tg_G p l e R s m args below meth c D w A n k z Q σ tgt L st) (kf : ¬ 0 ≤ x → tg_G p l e R s m args below meth c D w A n k z Q σ (pc + 3) L st) : tg_G p l e R s m args below meth c D w A n k z Q σ pc L (.int x :: st) := fun H locs ls hP hS hl => lv_if_ge S.1 S.2.1 d ht (fun h => kt h H locs ls hP hS hl) (fun h => kf h H locs ls hP hS hl)
theorem tg_icmp_gt (S : CallFix p m c cc n s args Ts own) {x y : Int32} {off : Int} {tgt : Nat} (d : decode cc pc = .ok (.if_icmp .gt off, 3)) (ht : (pc : Int) + off = (tgt : Int)) (kt : y < x → tg_G p l e R s m args below meth c D w A n k z Q σ tgt L st) (kf : ¬ y < x → tg_G p l e R s m args below meth c D w A n k z Q σ (pc + 3) L st) : tg_G p l e R s m args below meth c D w A n k z Q σ pc L (.int y :: .int x :: st) := fun H locs ls hP hS hl => lv_icmp_gt S.1 S.2.1 d ht (fun h => kt h H locs ls hP hS hl) (fun h => kf h H locs ls hP hS hl)
theorem tg_if_gt (S : CallFix p m c cc n s args Ts own) {x : Int32} {off : Int} {tgt : Nat} (d : decode cc pc = .ok (.ifCond .gt off, 3)) (ht : (pc : Int) + off = (tgt : Int)) (kt : 0 < x → tg_G p l e R s m args below meth c D w A n k z Q σ tgt L st) (kf : ¬ 0 < x → tg_G p l e R s m args below meth c D w A n k z Q σ (pc + 3) L st) : tg_G p l e R s m args below meth c D w A n k z Q σ pc L (.int x :: st) := fun H locs ls hP hS hl => lv_if_gt S.1 S.2.1 d ht (fun h => kt h H locs ls hP hS hl) (fun h => kf h H locs ls hP hS hl)
theorem tg_icmp_le (S : CallFix p m c cc n s args Ts own) {x y : Int32} {off : Int} {tgt : Nat} (d : decode cc pc = .ok (.if_icmp .le off, 3)) (ht : (pc : Int) + off = (tgt : Int)) (kt : x ≤ y → tg_G p l e R s m args below meth c D w A n k z Q σ tgt L st) (kf : ¬ x ≤ y → tg_G p l e R s m args below meth c D w A n k z Q σ (pc + 3) L st) : tg_G p l e R s m args below meth c D w A n k z Q σ pc L (.int y :: .int x :: st) := fun H locs ls hP hS hl => lv_icmp_le S.1 S.2.1 d ht (fun h => kt h H locs ls hP hS hl) (fun h => kf h H locs ls hP hS hl)
theorem tg_if_le (S : CallFix p m c cc n s args Ts own) {x : Int32} {off : Int} {tgt : Nat} (d : decode cc pc = .ok (.ifCond .le off, 3)) (ht : (pc : Int) + off = (tgt : Int)) (kt : x ≤ 0 → tg_G p l e R s m args below meth c D w A n k z Q σ tgt L st) (kf : ¬ x ≤ 0 → tg_G p l e R s m args below meth c D w A n k z Q σ (pc + 3) L st) : tg_G p l e R s m args below meth c D w A n k z Q σ pc L (.int x :: st) := fun H locs ls hP hS hl => lv_if_le S.1 S.2.1 d ht (fun h => kt h H locs ls hP hS hl) (fun h => kf h H locs ls hP hS hl)
theorem tg_ifz (S : CallFix p m c cc n s args Ts own) {b : Bool} {off : Int} {tgt : Nat} (d : decode cc pc = .ok (.ifCond .eq off, 3)) (ht : (pc : Int) + off = (tgt : Int)) (kt : b = false → tg_G p l e R s m args below meth c D w A n k z Q σ tgt L st) (kf : b = true → tg_G p l e R s m args below meth c D w A n k z Q σ (pc + 3) L st) : tg_G p l e R s m args below meth c D w A n k z Q σ pc L (.int (tg_b b) :: st) := tg_if_eq S d ht (fun h => kt (tg_b0.mp h)) (fun h => kf (by cases b with | false => exact absurd rfl h | true => rfl))
theorem tg_ifnz (S : CallFix p m c cc n s args Ts own) {b : Bool} {off : Int} {tgt : Nat} (d : decode cc pc = .ok (.ifCond .ne off, 3)) (ht : (pc : Int) + off = (tgt : Int)) (kt : b = true → tg_G p l e R s m args below meth c D w A n k z Q σ tgt L st) (kf : b = false → tg_G p l e R s m args below meth c D w A n k z Q σ (pc + 3) L st) : tg_G p l e R s m args below meth c D w A n k z Q σ pc L (.int (tg_b b) :: st) := tg_if_ne S d ht (fun h => kt (by cases b with | false => exact absurd rfl h | true => rfl)) (fun h => kf (by cases b with | false => rfl | true => exact absurd h (by decide)))
theorem tg_iald {tys : List (ClassId × FieldType)} (S : CallFix p m c cc n s args Ts own) (hK : va_K D vwCl tys s) (q0 t0 : Nat) {a : Nat} {cA : ClassId} {nA : Nat} {f : Nat → Int32} (ha : (w σ)[q0]? = some (a, .inl (cA, nA, .inl f))) (ht : tys[t0]? = some (cA, .int)) {i v : Int32} (d : decode cc pc = .ok (.iaload, 1)) (hin : vp_in i nA) (hv : f i.toNatClampNeg = v) (kk : tg_G p l e R s m args below meth c D w A n k z Q σ (pc + 1) L (.int v :: st)) : tg_G p l e R s m args below meth c D w A n k z Q σ pc L (.int i :: .ref a :: st) := by
  subst hv
  exact fun H locs ls hP hS hl => va_iald S.1 S.2.1 hK hP q0 t0 ha ht hin d (kk H locs ls hP hS hl)
theorem tg_zald {tys : List (ClassId × FieldType)} (S : CallFix p m c cc n s args Ts own) (hK : va_K D vwCl tys s) (q0 t0 : Nat) {a : Nat} {cA : ClassId} {nA : Nat} {f : Nat → Int32} (ha : (w σ)[q0]? = some (a, .inl (cA, nA, .inl f))) (ht : tys[t0]? = some (cA, .boolean)) {i v : Int32} (d : decode cc pc = .ok (.baload, 1)) (hin : vp_in i nA) (hv : f i.toNatClampNeg = v) (kk : tg_G p l e R s m args below meth c D w A n k z Q σ (pc + 1) L (.int v :: st)) : tg_G p l e R s m args below meth c D w A n k z Q σ pc L (.int i :: .ref a :: st) := by
  subst hv
  exact fun H locs ls hP hS hl => va_zald S.1 S.2.1 hK hP q0 t0 ha ht hin d (kk H locs ls hP hS hl)
theorem tg_iast {tys : List (ClassId × FieldType)} {σ2 : tg_Mem} (S : CallFix p m c cc n s args Ts own) (hK : va_K D vwCl tys s) (hD : ∀ σ, va_D A (w σ)) (q0 t0 : Nat) {a : Nat} {cA : ClassId} {nA : Nat} {f : Nat → Int32} (ha : (w σ)[q0]? = some (a, .inl (cA, nA, .inl f))) (ht : tys[t0]? = some (cA, .int)) {i x : Int32} (d : decode cc pc = .ok (.iastore, 1)) (hin : vp_in i nA) (hw : (w σ).set q0 (a, .inl (cA, nA, .inl (upd f i.toNatClampNeg x))) = w σ2) (kk : tg_G p l e R s m args below meth c D w A n k z Q σ2 (pc + 1) L st) : tg_G p l e R s m args below meth c D w A n k z Q σ pc L (.int x :: .int i :: .ref a :: st) := fun H locs ls hP hS hl => va_iast S.1 S.2.1 hK hP (hD σ) hS q0 t0 ha ht hin d (fun H1 locs1 hP1 _ hS1 => kk H1 locs1 ls (hw ▸ hP1) hS1 hl)
theorem tg_nar (b : Bool) : vp_nar .boolean (tg_b b) = tg_b b := by cases b <;> rfl
theorem tg_zast {tys : List (ClassId × FieldType)} {σ2 : tg_Mem} (S : CallFix p m c cc n s args Ts own) (hK : va_K D vwCl tys s) (hD : ∀ σ, va_D A (w σ)) (q0 t0 : Nat) {a : Nat} {cA : ClassId} {nA : Nat} {f : Nat → Int32} (ha : (w σ)[q0]? = some (a, .inl (cA, nA, .inl f))) (ht : tys[t0]? = some (cA, .boolean)) {i : Int32} {b : Bool} (d : decode cc pc = .ok (.bastore, 1)) (hin : vp_in i nA) (hw : (w σ).set q0 (a, .inl (cA, nA, .inl (upd f i.toNatClampNeg (tg_b b)))) = w σ2) (kk : tg_G p l e R s m args below meth c D w A n k z Q σ2 (pc + 1) L st) : tg_G p l e R s m args below meth c D w A n k z Q σ pc L (.int (tg_b b) :: .int i :: .ref a :: st) := fun H locs ls hP hS hl => va_zast S.1 S.2.1 hK hP (hD σ) hS q0 t0 ha ht hin d (fun H1 locs1 hP1 _ hS1 => kk H1 locs1 ls (hw ▸ (tg_nar b ▸ hP1)) hS1 hl)
theorem tg_get {tys : List (ClassId × FieldType)} {C : String} {T : u_T} {N ci index : Nat} (S : CallFix p m c cc n s args Ts own) (hin : ∀ w ∈ u_ws C T N, w ∈ Ts) (hK : va_K D vwCl tys s) (q0 : Nat) {a : Nat} {fs : List Value} {v : Value} (he : (w σ)[q0]? = some (a, .inr (ci, fs))) (hc : vwCl[ci]? = some (C, T, N)) (j : Nat) (hj : j < N) (hl : Cond.fieldLink own index (T j).1 (T j).2.1 (T j).2.2.1 ∈ Ts) (d : decode cc pc = .ok (.getfield index, 3)) (hv : fs[j]? = some v) (kk : tg_G p l e R s m args below meth c D w A n k z Q σ (pc + 3) L (v :: st)) : tg_G p l e R s m args below meth c D w A n k z Q σ pc L (.ref a :: st) := fun H locs ls hP hS hls => va_get S.1 S.2.1 S.2.2.2.2 hin S.2.2.2.1 hK hP q0 he hc j hj (S.2.2.2.2 _ hl) (fun _ h => h) hv d (kk H locs ls hP hS hls)
theorem tg_put {tys : List (ClassId × FieldType)} {C : String} {T : u_T} {N ci index : Nat} {σ2 : tg_Mem} (S : CallFix p m c cc n s args Ts own) (hin : ∀ w ∈ u_ws C T N, w ∈ Ts) (ty0 : Nat → FieldType) (hty : ∀ k, k < N → parseFieldDescriptor (T k).2.2.1 = some (ty0 k)) (hnm : ∀ a, a < N → ∀ b, b < N → a ≠ b → (T a).2.1 ≠ (T b).2.1) (hK : va_K D vwCl tys s) (hD : ∀ σ, va_D A (w σ)) (q0 : Nat) {a : Nat} {fs : List Value} {x : Int32} (he : (w σ)[q0]? = some (a, .inr (ci, fs))) (hc : vwCl[ci]? = some (C, T, N)) (j : Nat) (hj : j < N) (hl : Cond.fieldLink own index (T j).1 (T j).2.1 (T j).2.2.1 ∈ Ts) (d : decode cc pc = .ok (.putfield index, 3)) (hfin : (T j).2.2.2 = false) (hd : parseFieldDescriptor (T j).2.2.1 = some .int) (hlen : j < fs.length) (hw : (w σ).set q0 (a, .inr (ci, fs.set j (.int x))) = w σ2) (kk : tg_G p l e R s m args below meth c D w A n k z Q σ2 (pc + 3) L st) : tg_G p l e R s m args below meth c D w A n k z Q σ pc L (.int x :: .ref a :: st) := fun H locs ls hP hS hls => va_put S.1 S.2.1 S.2.2.2.2 hin ty0 hty hnm S.2.2.2.1 hK hP (hD σ) hS q0 he hc j hj (S.2.2.2.2 _ hl) (fun _ h => h) hfin hd rfl rfl hlen d (fun H1 locs1 hP1 _ hS1 => kk H1 locs1 ls (hw ▸ hP1) hS1 hls)
theorem tg_after {a : Array Value} {r : Option Value} {rest : List Value} {σ2 : tg_Mem} (hr : ∀ (H : Heap) (locs : List Loc) (ls : Array Slot), va_P D vwCl (w σ) H → lv_has ls n L → va_Run p l e R s m args below meth c H locs k z 0 0 (F0 m pc ls st) rest (tg_PT w D A r σ2 a) A) (kk : tg_G p l e R s m args below meth c D w A n k z Q σ2 (pc + 3) L (r.toList ++ rest)) : tg_G p l e R s m args below meth c D w A n k z Q σ pc L st := by
  intro H locs ls hP hS hl T hT X
  obtain ⟨v, st₀, t, T', Lc, h0, X', hL, e1, e2, ⟨hv, hPt, hz, hk⟩, sg⟩ := hr H locs ls hP hl T hT X
  cases hv
  rw [h0] at hz hk
  obtain ⟨t2, a1, b1⟩ := kk T'.heap (locs ++ Lc) ls (by rw [e1]; exact hPt)
    ⟨Nat.le_trans hS.1 (by rw [e1]; exact hz), fun q h1 h2 => by rw [e1, hk q (Nat.lt_of_lt_of_le h1 hS.1) h2]; exact hS.2.1 q h1 h2, fun q hq => by
      rcases List.mem_append.mp hq with h | h
      · exact hS.2.2 q h
      · exact hL q h⟩ hl T' rfl X'
  exact ⟨t2, sg t2 a1, b1⟩
theorem tg_preV {tys : List (ClassId × FieldType)} {nl : List (String × Nat × MethodName × String)} {H : Heap} {a q0 ci : Nat} {q : vw_C} {fs : List Value} {As : List Value} (hK : va_K D vwCl tys s) (hN : tg_NU nl s) (hP : va_P D vwCl (w σ) H) (hc : vwCl[ci]? = some q) (he : (w σ)[q0]? = some (a, .inr (ci, fs))) : PreV s H q.1 a (tg_Pre w D tys nl (.ref a :: As) σ) As :=
  ⟨tg_blind, va_recv hK hP hc he, fun U hU hW => ⟨rfl, by rw [hU]; exact hP, va_K.moved hW.alike hK, hN.warm hW⟩⟩
theorem tg_preS {tys : List (ClassId × FieldType)} {nl : List (String × Nat × MethodName × String)} {H : Heap} {As : List Value} (hK : va_K D vwCl tys s) (hN : tg_NU nl s) (hP : va_P D vwCl (w σ) H) : PreS s H (tg_Pre w D tys nl As σ) As :=
  ⟨tg_blind, fun U hU hW => ⟨rfl, by rw [hU]; exact hP, va_K.moved hW.alike hK, hN.warm hW⟩⟩
variable {tys : List (ClassId × FieldType)} {nl : List (String × Nat × MethodName × String)} {y : MethodName} {bytes : ByteArray} {maxL index : Nat} {ret : Option FieldType} {ws ws' : List Cond} {fr : Nat}
theorem tg_callV {nA : Nat} {q : vw_C} {fs As rest : List Value} {a ci : Nat} {r : Option Value} {σ2 : tg_Mem} (S : CallFix p m c cc n s args Ts own) (hK : va_K D vwCl tys s) (hN : tg_NU nl s) (hM : tg_CT l y ws (tg_rm fr) w tys nl A D (.ref a :: As) σ r σ2) (q0 : Nat) (he : (w σ)[q0]? = some (a, .inr (ci, fs))) (hc : vwCl[ci]? = some q)
    (hT : GoodIn Ts (wsV own index q.1 y ws)) (hw : ws = Cond.code y bytes maxL ret :: ws') (hd : y.cls = q.1 ∧ y.cls ≠ "java/lang/invoke/MethodHandle" ∧ y.cls ≠ "java/lang/invoke/VarHandle" ∧ (parseMethodDescriptor y.desc).map (fun d => d.parameters.length) = some nA) (hR : fr + 1 ≤ R.frames ∧ 8 + (maxL + 11) + 28 * fr ≤ R.locals)
    (hnA : As.length = nA) (hst : st = As.reverse ++ .ref a :: rest) (hcat : (rest.map fun v => v.category).sum ≤ 8) (d : decode cc pc = .ok (.invokevirtual index, 3)) (hf : k ≤ R.cells ∧ z ≤ R.slots) (kk : tg_G p l e R s m args below meth c D w A n k z Q σ2 (pc + 3) L (r.toList ++ rest)) : tg_G p l e R s m args below meth c D w A n k z Q σ pc L st :=
  tg_after (fun H locs ls hP hl => va_runV (As := As) (rest := rest) S hM (cwV nA S.2.2.2.2 hT hw rfl rfl hd hR) (tg_preV hK hN hP hc he) rfl hnA hl.1 hst (lv_room hcat) d hf) kk
theorem tg_callN {nA : Nat} {host : String} {q : vw_C} {fs As rest : List Value} {a ci : Nat} {r : Option Value} {σ2 : tg_Mem} (S : CallFix p m c cc n s args Ts own) (hK : va_K D vwCl tys s) (hN : tg_NU nl s) (hM : tg_CT l y ws (tg_rm fr) w tys nl A D (.ref a :: As) σ r σ2) (q0 : Nat) (he : (w σ)[q0]? = some (a, .inr (ci, fs))) (hc : vwCl[ci]? = some q)
    (hT : GoodIn Ts ws) (hnw : (own, index, y, host) ∈ nl) (hini : Cond.initialized y.cls ∈ Ts) (hins : Cond.instanceMethod y ∈ Ts) (hsel : Cond.selects q.1 y y ∈ Ts) (hw : ws = Cond.code y bytes maxL ret :: ws') (hd : y.cls ≠ "java/lang/invoke/MethodHandle" ∧ y.cls ≠ "java/lang/invoke/VarHandle" ∧ (parseMethodDescriptor y.desc).map (fun d => d.parameters.length) = some nA) (hR : fr + 1 ≤ R.frames ∧ 8 + (maxL + 11) + 28 * fr ≤ R.locals)
    (hnA : As.length = nA) (hst : st = As.reverse ++ .ref a :: rest) (hcat : (rest.map fun v => v.category).sum ≤ 8) (d : decode cc pc = .ok (.invokevirtual index, 3)) (hf : k ≤ R.cells ∧ z ≤ R.slots) (kk : tg_G p l e R s m args below meth c D w A n k z Q σ2 (pc + 3) L (r.toList ++ rest)) : tg_G p l e R s m args below meth c D w A n k z Q σ pc L st :=
  tg_after (fun H locs ls hP hl => va_runVN (As := As) (rest := rest) S hM ⟨va_cnB nA S.2.2.2.2 hT hw rfl rfl (hN _ hnw) (S.2.2.2.2 _ hini) hd hR, S.2.2.2.2 _ hins, S.2.2.2.2 _ hsel⟩ (tg_preV hK hN hP hc he) rfl hnA hl.1 hst (lv_room hcat) d hf) kk
theorem tg_callSN {nA : Nat} {host : String} {As rest : List Value} {r : Option Value} {σ2 : tg_Mem} (S : CallFix p m c cc n s args Ts own) (hK : va_K D vwCl tys s) (hN : tg_NU nl s) (hM : tg_CT l y ws (tg_rm fr) w tys nl A D As σ r σ2)
    (hT : GoodIn Ts ws) (hnw : (own, index, y, host) ∈ nl) (hini : Cond.initialized y.cls ∈ Ts) (hsta : Cond.static y ∈ Ts) (hw : ws = Cond.code y bytes maxL ret :: ws') (hd : y.cls ≠ "java/lang/invoke/MethodHandle" ∧ y.cls ≠ "java/lang/invoke/VarHandle" ∧ (parseMethodDescriptor y.desc).map (fun d => d.parameters.length) = some nA) (hR : fr + 1 ≤ R.frames ∧ 8 + (maxL + 11) + 28 * fr ≤ R.locals)
    (hnA : As.length = nA) (hst : st = As.reverse ++ rest) (hcat : (rest.map fun v => v.category).sum ≤ 8) (d : decode cc pc = .ok (.invokestatic index, 3)) (hf : k ≤ R.cells ∧ z ≤ R.slots) (kk : tg_G p l e R s m args below meth c D w A n k z Q σ2 (pc + 3) L (r.toList ++ rest)) : tg_G p l e R s m args below meth c D w A n k z Q σ pc L st :=
  tg_after (fun H locs ls hP hl => va_runSN (As := As) (rest := rest) S hM ⟨va_cnB nA S.2.2.2.2 hT hw rfl rfl (hN _ hnw) (S.2.2.2.2 _ hini) hd hR, S.2.2.2.2 _ hsta, trivial⟩ (tg_preS hK hN hP) rfl hnA hl.1 hst (lv_room hcat) d hf) kk
theorem tg_callS {nA : Nat} {As rest : List Value} {r : Option Value} {σ2 : tg_Mem} (S : CallFix p m c cc n s args Ts own) (hK : va_K D vwCl tys s) (hN : tg_NU nl s) (hM : tg_CT l y ws (tg_rm fr) w tys nl A D As σ r σ2)
    (hT : GoodIn Ts (va_wsS own index y ws)) (hw : ws = Cond.code y bytes maxL ret :: ws') (hd : y.cls ≠ "java/lang/invoke/MethodHandle" ∧ y.cls ≠ "java/lang/invoke/VarHandle" ∧ (parseMethodDescriptor y.desc).map (fun d => d.parameters.length) = some nA) (hR : fr + 1 ≤ R.frames ∧ 8 + (maxL + 11) + 28 * fr ≤ R.locals)
    (hnA : As.length = nA) (hst : st = As.reverse ++ rest) (hcat : (rest.map fun v => v.category).sum ≤ 8) (d : decode cc pc = .ok (.invokestatic index, 3)) (hf : k ≤ R.cells ∧ z ≤ R.slots) (kk : tg_G p l e R s m args below meth c D w A n k z Q σ2 (pc + 3) L (r.toList ++ rest)) : tg_G p l e R s m args below meth c D w A n k z Q σ pc L st :=
  tg_after (fun H locs ls hP hl => va_runS (As := As) (rest := rest) S hM (va_cwS nA S.2.2.2.2 hT hw rfl rfl hd hR) (tg_preS hK hN hP) rfl hnA hl.1 hst (lv_room hcat) d hf) kk
/-- the ends -/
theorem tg_iret {v v' : Int32} {σ' : tg_Mem} (S : CallFix p m c cc n s args Ts own) (hr : meth.sig.returnType = some .int) (hlk : meth.locks = false) (d : decode cc pc = .ok (.ireturn, 1)) (hv : v = v') (hσ : σ = σ') : tg_G p l e R s m args below meth c D w A n k z (MQ below (tg_PT w D A (some (.int v')) σ') args s k z A) σ pc L [.int v] := by
  subst hv; subst hσ
  exact fun H locs ls hP hS hl => W.iret S.1 S.2.1 hr (fun t ht hW => ⟨rfl, by rw [ht]; exact hP, hS.F ht⟩) hS.2.2 d hlk
theorem tg_zret {b : Bool} {v' : Int32} {σ' : tg_Mem} (S : CallFix p m c cc n s args Ts own) (hr : meth.sig.returnType = some .boolean) (hlk : meth.locks = false) (d : decode cc pc = .ok (.ireturn, 1)) (hv : tg_b b = v') (hσ : σ = σ') : tg_G p l e R s m args below meth c D w A n k z (MQ below (tg_PT w D A (some (.int v')) σ') args s k z A) σ pc L [.int (tg_b b)] := by
  subst hv; subst hσ
  exact fun H locs ls hP hS hl => W.zret S.1 S.2.1 hr (by cases b <;> rfl) (fun t ht hW => ⟨rfl, by rw [ht]; exact hP, hS.F ht⟩) hS.2.2 d hlk
theorem tg_vret {σ' : tg_Mem} (S : CallFix p m c cc n s args Ts own) (hr : meth.sig.returnType = none) (hlk : meth.locks = false) (d : decode cc pc = .ok (.return_, 1)) (hσ : σ = σ') : tg_G p l e R s m args below meth c D w A n k z (MQ below (tg_PT w D A none σ') args s k z A) σ pc L [] := by
  subst hσ
  exact fun H locs ls hP hS hl => W.vret S.1 S.2.1 hr (fun t ht hW => ⟨rfl, by rw [ht]; exact hP, hS.F ht⟩) hS.2.2 d hlk
end TGR
/-- a method's contract out of the walk of its body -/
theorem tg_met {l : Launch} {y : MethodName} {ws ws' : List Cond} {cc : ByteArray} {maxL fr : Nat} {ret : Option FieldType} {w : tg_Mem → va_W} {tys : List (ClassId × FieldType)} {nl : List (String × Nat × MethodName × String)} {A : Nat → Prop} {D : va_G} {As : List Value} {σ σ' : tg_Mem} {r : Option Value} {own : String} (hy : plainName y.cls = true) (hown : y.cls = own) (hw : ws = Cond.code y cc maxL ret :: ws') (hlen : (lg_sl As).length ≤ maxL)
    (body : ∀ (p : Program) (e : Env) (s : State) (m : MethodId) (below : List Frame) (meth : Method) (c : Code), CallFix p m c cc maxL s As.toArray ws own → va_K D vwCl tys s → tg_NU nl s → meth.sig.returnType = ret → meth.locks = false →
      tg_G p l e (tg_rm fr) s m As.toArray below meth c D w A maxL 0 0 (MQ below (tg_PT w D A r σ') As.toArray s 0 0 A) σ 0 (lv_args 0 As) []) : tg_CT l y ws (tg_rm fr) w tys nl A D As σ r σ' := by
  refine Met.ofW (cc := cc) (maxL := maxL) (ret := ret) hy hw ?_
  intro p e s m args below meth c s₁ B hml hv
  obtain ⟨rfl, hP, hK, hN⟩ := hv
  rw [lg_entry_eq]
  exact body p e s m below meth c ⟨B.exec, B.bytes, hml, by rw [← hown]; exact findClass_of_methodNamed B.named, atoms_spec (ws := ws) B.pre⟩ hK hN B.returns B.notSynchronized s.heap [] _ hP va_S.rf (lv_entry As hlen)
/-- n steps of f from x, counted from 0 -/
def tg_it {X : Type} (f : Nat → X → X) (x : X) : Nat → X | 0 => x | n + 1 => f n (tg_it f x n)
theorem tg_up {X : Type} (P : Nat → X → Prop) (f : Nat → X → X) (N : Nat) (x : X) (hs : ∀ i x, i < N → P (i + 1) (f i x) → P i x) (he : P N (tg_it f x N)) : P 0 x := by
  have key : ∀ j, j ≤ N → P (N - j) (tg_it f x (N - j)) := by
    intro j
    induction j with
    | zero => intro _; exact he
    | succ j ih =>
      intro h
      have e1 : N - j = (N - (j + 1)) + 1 := by omega
      have h1 := ih (by omega)
      rw [e1] at h1
      exact hs _ _ (by omega) h1
  have h := key N (Nat.le_refl N)
  rw [Nat.sub_self] at h
  exact h
theorem tg_inv {X : Type} (I : Nat → X → Prop) (f : Nat → X → X) (N : Nat) (x : X) (h0 : I 0 x) (hs : ∀ i x, i < N → I i x → I (i + 1) (f i x)) : ∀ j, j ≤ N → I j (tg_it f x j) := by
  intro j
  induction j with
  | zero => intro _; exact h0
  | succ j ih => intro h; exact hs j _ (by omega) (ih (by omega))
/-- indices within -/
theorem tg_in {i : Nat} {N : Nat} (h : i < N) (hN : N < 2 ^ 31) : vp_in (nI i) N := vp_in_nI h hN
theorem tg_cl {i : Nat} (h : i < 2 ^ 31) : (nI i).toNatClampNeg = i := nI_clamp h
theorem tg_inx {x : Int32} (h0 : ¬ x < 0) (h : ¬ (30 : Int32) ≤ x) : vp_in x 30 := by
  rw [vp_in_iff]
  rw [Int32.lt_iff_toInt_lt] at h0
  rw [Int32.le_iff_toInt_le] at h
  exact ⟨by simpa using h0, by simpa using h⟩
end
section
/-! ===== 03: loops of the rows, the worlds, and what the class's methods answer (a text beside the class's own) ===== -/
section TGL
variable {p : Program} {l : Launch} {e : Env} {R : Room} {s : State} {m : MethodId} {args : Array Value} {below : List Frame} {meth : Method} {c : Code} {D : va_G} {w : tg_Mem → va_W} {A : Nat → Prop} {n k z : Nat} {Q : State → Prop} {cc : ByteArray} {Ts : List Cond} {own : String} {σ : tg_Mem} {pc : Nat} {L L' : List (Nat × Value)} {st : List Value}
theorem tg_loop {X : Type} (f : Nat → X → X) (N : Nat) (x0 : X) (sf : X → tg_Mem) (Lf : Nat → X → List (Nat × Value)) (hs : ∀ i x, i < N → tg_G p l e R s m args below meth c D w A n k z Q (sf (f i x)) pc (Lf (i + 1) (f i x)) [] → tg_G p l e R s m args below meth c D w A n k z Q (sf x) pc (Lf i x) []) (he : tg_G p l e R s m args below meth c D w A n k z Q (sf (tg_it f x0 N)) pc (Lf N (tg_it f x0 N)) []) : tg_G p l e R s m args below meth c D w A n k z Q (sf x0) pc (Lf 0 x0) [] :=
  tg_up (fun i x => tg_G p l e R s m args below meth c D w A n k z Q (sf x) pc (Lf i x) []) f N x0 hs he
/-- the same, with something that holds of every state on the way -/
theorem tg_loopI {X : Type} (I : Nat → X → Prop) (f : Nat → X → X) (N : Nat) (x0 : X) (sf : X → tg_Mem) (Lf : Nat → X → List (Nat × Value)) (h0 : I 0 x0) (hI : ∀ i x, i < N → I i x → I (i + 1) (f i x)) (hs : ∀ i x, i < N → I i x → tg_G p l e R s m args below meth c D w A n k z Q (sf (f i x)) pc (Lf (i + 1) (f i x)) [] → tg_G p l e R s m args below meth c D w A n k z Q (sf x) pc (Lf i x) []) (he : I N (tg_it f x0 N) → tg_G p l e R s m args below meth c D w A n k z Q (sf (tg_it f x0 N)) pc (Lf N (tg_it f x0 N)) []) : tg_G p l e R s m args below meth c D w A n k z Q (sf x0) pc (Lf 0 x0) [] := by
  have hin := tg_inv I f N x0 h0 hI
  have key : ∀ j, j ≤ N → tg_G p l e R s m args below meth c D w A n k z Q (sf (tg_it f x0 (N - j))) pc (Lf (N - j) (tg_it f x0 (N - j))) [] := by
    intro j
    induction j with
    | zero => intro _; exact he (hin N (Nat.le_refl N))
    | succ j ih =>
      intro h
      have e1 : N - j = (N - (j + 1)) + 1 := by omega
      have h1 := ih (by omega)
      rw [e1] at h1
      exact hs _ _ (by omega) (hin _ (by omega)) h1
  have h := key N (Nat.le_refl N)
  rw [Nat.sub_self] at h
  exact h
/-- a loop with a bound, left by its condition or by a return: F n i x is what comes of it with n steps left -/
theorem tg_fuel {X ρ : Type} (F : Nat → Nat → X → ρ) (N : Nat) (x0 : X) (sf : X → tg_Mem) (Lf : Nat → X → List (Nat × Value)) {v : ρ} (hv : F N 0 x0 = v) (hs : ∀ n1 i x, i + (n1 + 1) = N → F (n1 + 1) i x = v → (∀ x', F n1 (i + 1) x' = v → tg_G p l e R s m args below meth c D w A n k z Q (sf x') pc (Lf (i + 1) x') []) → tg_G p l e R s m args below meth c D w A n k z Q (sf x) pc (Lf i x) []) (h0 : ∀ x, F 0 N x = v → tg_G p l e R s m args below meth c D w A n k z Q (sf x) pc (Lf N x) []) : tg_G p l e R s m args below meth c D w A n k z Q (sf x0) pc (Lf 0 x0) [] := by
  have key : ∀ n1 i x, i + n1 = N → F n1 i x = v → tg_G p l e R s m args below meth c D w A n k z Q (sf x) pc (Lf i x) [] := by
    intro n1
    induction n1 with
    | zero =>
      intro i x h h2
      have hi : i = N := by omega
      subst hi
      exact h0 x h2
    | succ n1 ih =>
      intro i x h h2
      exact hs n1 i x h h2 (fun x' h' => ih (i + 1) x' (by omega) h')
  exact key N 0 x0 (by omega) hv
/-- a loop whose end is known beforehand: F says what comes of it, if n steps are enough -/
theorem tg_while {X ρ : Type} (F : Nat → X → Option ρ) (N : Nat) (x0 : X) (sf : X → tg_Mem) (Lf : X → List (Nat × Value)) {v : ρ} (hF0 : ∀ x, F 0 x = none) (hv : F N x0 = some v) (hs : ∀ n1 x, F (n1 + 1) x = some v → (∀ x', F n1 x' = some v → tg_G p l e R s m args below meth c D w A n k z Q (sf x') pc (Lf x') []) → tg_G p l e R s m args below meth c D w A n k z Q (sf x) pc (Lf x) []) : tg_G p l e R s m args below meth c D w A n k z Q (sf x0) pc (Lf x0) [] := by
  have key : ∀ n1 x, F n1 x = some v → tg_G p l e R s m args below meth c D w A n k z Q (sf x) pc (Lf x) [] := by
    intro n1
    induction n1 with
    | zero => intro x h; rw [hF0 x] at h; cases h
    | succ n1 ih => intro x h; exact hs n1 x h ih
  exact key N x0 hv
theorem tg_min (S : CallFix p m c cc n s args Ts own) {index : Nat} {x y : Int32} (hlink : Cond.methodLink own index Lib.Math.min.name ∈ Ts) (hstat : Cond.static Lib.Math.min.name ∈ Ts) (hini : Cond.initialized "java/lang/Math" ∈ Ts) (hcode : Cond.code Lib.Math.min.name Lib.Math.min.code 2 (some .int) ∈ Ts) (hfr : 1 ≤ R.frames) (hlo : (st.map fun v => v.category).sum + 13 ≤ R.locals) (hf : k ≤ R.cells ∧ z ≤ R.slots) (d : decode cc pc = .ok (.invokestatic index, 3)) (kk : tg_G p l e R s m args below meth c D w A n k z Q σ (pc + 3) L (.int (if y < x then y else x) :: st)) : tg_G p l e R s m args below meth c D w A n k z Q σ pc L (.int y :: .int x :: st) := fun H locs ls hP hS hl => va_mmin S.1 S.2.1 (S.2.2.1.trans hl.1.symm) S.2.2.2.1 (S.2.2.2.2 _ hlink) (S.2.2.2.2 _ hstat) (S.2.2.2.2 _ hini) (S.2.2.2.2 _ hcode) hfr hlo hf.1 hf.2 d (kk H locs ls hP hS hl)
theorem tg_max (S : CallFix p m c cc n s args Ts own) {index : Nat} {x y : Int32} (hlink : Cond.methodLink own index Lib.Math.max.name ∈ Ts) (hstat : Cond.static Lib.Math.max.name ∈ Ts) (hini : Cond.initialized "java/lang/Math" ∈ Ts) (hcode : Cond.code Lib.Math.max.name Lib.Math.max.code 2 (some .int) ∈ Ts) (hfr : 1 ≤ R.frames) (hlo : (st.map fun v => v.category).sum + 13 ≤ R.locals) (hf : k ≤ R.cells ∧ z ≤ R.slots) (d : decode cc pc = .ok (.invokestatic index, 3)) (kk : tg_G p l e R s m args below meth c D w A n k z Q σ (pc + 3) L (.int (if x < y then y else x) :: st)) : tg_G p l e R s m args below meth c D w A n k z Q σ pc L (.int y :: .int x :: st) := fun H locs ls hP hS hl => va_mmax S.1 S.2.1 (S.2.2.1.trans hl.1.symm) S.2.2.2.1 (S.2.2.2.2 _ hlink) (S.2.2.2.2 _ hstat) (S.2.2.2.2 _ hini) (S.2.2.2.2 _ hcode) hfr hlo hf.1 hf.2 d (kk H locs ls hP hS hl)
theorem tg_w {σ2 : tg_Mem} (hw : w σ = w σ2) (kk : tg_G p l e R s m args below meth c D w A n k z Q σ2 pc L st) : tg_G p l e R s m args below meth c D w A n k z Q σ pc L st := fun H locs ls hP hS hl => kk H locs ls (hw ▸ hP) hS hl
end TGL
theorem tg_inc (i : Nat) : nI i + Int32.ofInt 1 = nI (i + 1) := nI_1 i
theorem tg_nge {i : Nat} (h : i < 30) : ¬ (30 : Int32) ≤ nI i := by
  have h1 := nI_ge (a := i) (b := 30) h (by decide)
  exact h1
theorem tg_ge : (30 : Int32) ≤ nI 30 := by decide
abbrev tb_A : Type := Nat → Int32
def tg_upA (σ : tg_Mem) (k : Nat) (f : tb_A) : tg_Mem := fun a => if a = k then f else σ a
theorem tg_uu (f : tb_A) (k : Nat) (x y : Int32) : upd (upd f k x) k y = upd f k y := by
  funext j
  by_cases h : j = k <;> simp [upd, h]
/-! the worlds -/
def tw_A (N : Nat) (h : Nat → Nat) : Nat → Prop := fun q => ∃ i, i < N ∧ q = h i
def tw_dis (N : Nat) (h : Nat → Nat) : Prop := ∀ i j, i < N → j < N → h i = h j → i = j
theorem tw_D {N : Nat} {h : Nat → Nat} {ws : va_W} (hd : tw_dis N h) (hm : ws.map Prod.fst = (List.range N).map h) : va_D (tw_A N h) ws := by
  have key : ∀ (i : Nat) (q : Nat × va_E), ws[i]? = some q → i < N ∧ q.1 = h i := by
    intro i q hq
    have h1 : (ws.map Prod.fst)[i]? = some q.1 := by rw [List.getElem?_map, hq]; rfl
    rw [hm, List.getElem?_map] at h1
    cases h2 : (List.range N)[i]? with
    | none => rw [h2] at h1; cases h1
    | some j =>
      rw [h2] at h1
      obtain ⟨h3, h4⟩ := List.getElem?_eq_some_iff.mp h2
      rw [List.length_range] at h3
      rw [List.getElem_range] at h4
      subst h4
      exact ⟨h3, (Option.some.inj h1).symm⟩
  refine ⟨fun i j p q hi hj hpq => ?_, fun i q hi => ⟨i, (key i q hi).1, (key i q hi).2⟩⟩
  obtain ⟨a1, a2⟩ := key i p hi
  obtain ⟨b1, b2⟩ := key j q hj
  exact hd i j a1 b1 (by rw [← a2, ← b2]; exact hpq)
def tw_T (h : Nat → Nat) (cI cZ : ClassId) (σ : tg_Mem) : va_W := [(h 0, .inr (2, [.ref (h 1), .ref (h 2)])), (h 1, .inr (1, [.ref (h 3), .ref (h 4), .ref (h 5), .ref (h 6), .ref (h 7), .ref (h 8), .ref (h 9), .ref (h 10), .ref (h 11)])), (h 2, .inr (0, [.ref (h 1), .ref (h 12), .ref (h 13), .ref (h 14), .ref (h 15), .ref (h 16), .ref (h 17), .ref (h 18), .ref (h 19), .ref (h 20), .ref (h 21), .ref (h 22), .int (σ 20 0)])), (h 3, .inl (cZ, 30, .inl (σ 0))), (h 4, .inl (cI, 30, .inl (σ 1))), (h 5, .inl (cI, 30, .inl (σ 2))), (h 6, .inl (cI, 30, .inl (σ 3))), (h 7, .inl (cZ, 30, .inl (σ 4))), (h 8, .inl (cI, 30, .inl (σ 5))), (h 9, .inl (cI, 30, .inl (σ 6))), (h 10, .inl (cZ, 30, .inl (σ 7))), (h 11, .inl (cI, 30, .inl (σ 8))), (h 12, .inl (cZ, 30, .inl (σ 9))), (h 13, .inl (cI, 30, .inl (σ 10))), (h 14, .inl (cI, 30, .inl (σ 11))), (h 15, .inl (cZ, 30, .inl (σ 12))), (h 16, .inl (cI, 30, .inl (σ 13))), (h 17, .inl (cI, 30, .inl (σ 14))), (h 18, .inl (cI, 30, .inl (σ 15))), (h 19, .inl (cI, 30, .inl (σ 16))), (h 20, .inl (cI, 30, .inl (σ 17))), (h 21, .inl (cI, 30, .inl (σ 18))), (h 22, .inl (cI, 30, .inl (σ 19)))]
def tw_M (h : Nat → Nat) (cI cZ : ClassId) (σ : tg_Mem) : va_W := [(h 0, .inr (3, [.ref (h 1), .ref (h 2), .ref (h 3), .ref (h 4), .ref (h 5), .ref (h 6), .ref (h 7), .ref (h 8), .ref (h 9), .ref (h 10), .ref (h 11), .ref (h 12), .ref (h 13), .int (σ 14 0), .ref (h 14), .int (σ 15 0)])), (h 1, .inl (cZ, 30, .inl (σ 0))), (h 2, .inl (cI, 30, .inl (σ 1))), (h 3, .inl (cI, 30, .inl (σ 2))), (h 4, .inl (cI, 30, .inl (σ 3))), (h 5, .inl (cI, 30, .inl (σ 4))), (h 6, .inl (cI, 30, .inl (σ 5))), (h 7, .inl (cZ, 30, .inl (σ 6))), (h 8, .inl (cI, 30, .inl (σ 7))), (h 9, .inl (cZ, 30, .inl (σ 8))), (h 10, .inl (cI, 30, .inl (σ 9))), (h 11, .inl (cI, 30, .inl (σ 10))), (h 12, .inl (cZ, 30, .inl (σ 11))), (h 13, .inl (cI, 30, .inl (σ 12))), (h 14, .inl (cI, 60, .inl (σ 13)))]
theorem tw_TD {h : Nat → Nat} {cI cZ : ClassId} (hd : tw_dis 23 h) : ∀ σ, va_D (tw_A 23 h) (tw_T h cI cZ σ) := fun _ => tw_D hd rfl
theorem tw_MD {h : Nat → Nat} {cI cZ : ClassId} (hd : tw_dis 15 h) : ∀ σ, va_D (tw_A 15 h) (tw_M h cI cZ σ) := fun _ => tw_D hd rfl
abbrev tw_ty (cI cZ : ClassId) : List (ClassId × FieldType) := [(cI, .int), (cZ, .boolean)]
def tw_nl : List (String × Nat × MethodName × String) := [(RX2, 9, yX1_init, RX2), (RX2, 18, yX0_init, RX2), (RX2, 54, yX0_countRoots, RX2), (RX2, 36, yX1_holds, RX2), (RX2, 47, yX1_put, RX2), (RX1, 40, yX2_isId, RX2), (RX2, 51, yX0_grow, RX2), (RX0, 89, yX1_holds, RX2), (RX0, 94, yX1_parentToldBy, RX2), (RX0, 50, yX2_isId, RX2), (RX0, 101, yX1_grandparentToldBy, RX2), (RX0, 104, yX1_handOf, RX2), (RX0, 107, yX1_toldParentOf, RX2), (RX0, 123, yX1_isReply, RX2), (RX0, 129, yX1_isAnsweredBy, RX2), (RX0, 132, yX1_dayOf, RX2), (RX2, 61, yX1_drop, RX2), (RX2, 64, yX0_parentIn, RX2), (RX2, 68, yX1_setHand, RX2), (RX2, 76, yX0_isInTree, RX2), (RX2, 82, yX1_handOf, RX2), (RX2, 95, yX0_contains, RX2), (RX2, 88, yX0_idAt, RX2), (RX2, 98, yX0_knows, RX2), (RX2, 104, yX0_rootIdAt, RX2), (RX2, 120, yX1_writerBit, RX2), (RX2, 123, yX1_dayOf, RX2)]
/-! the class: what its methods answer -/
def fa_id (x : Int32) : Bool := !(decide (x < 0)) && !(decide ((30 : Int32) ≤ x))
theorem fa_id_in {x : Int32} (h : fa_id x = true) : vp_in x 30 := by
  simp only [fa_id, Bool.and_eq_true, Bool.not_eq_true', decide_eq_false_iff_not] at h
  exact tg_inx h.1 h.2
theorem fa_id_nI {i : Nat} (h : i < 30) : fa_id (nI i) = true := by
  simp only [fa_id, Bool.and_eq_true, Bool.not_eq_true', decide_eq_false_iff_not]
  exact ⟨nI_pos (by omega), tg_nge h⟩
def fa_holds (σ : tg_Mem) (x : Int32) : Bool := fa_id x && !(decide (σ 0 x.toNatClampNeg = 0))
theorem fa_holds_in {σ : tg_Mem} {x : Int32} (h : fa_holds σ x = true) : vp_in x 30 := by
  simp only [fa_holds, Bool.and_eq_true] at h
  exact fa_id_in h.1
def fa_handOf (σ : tg_Mem) (x : Int32) : Int32 := if fa_holds σ x = true then σ 8 x.toNatClampNeg else -1
def fa_isUnread (σ : tg_Mem) (x : Int32) : Bool := fa_holds σ x && !(decide (σ 7 x.toNatClampNeg = 0))
theorem fa_isUnread_in {σ : tg_Mem} {x : Int32} (h : fa_isUnread σ x = true) : vp_in x 30 := by
  simp only [fa_isUnread, Bool.and_eq_true] at h
  exact fa_holds_in h.1
def fa_writerBit (σ : tg_Mem) (x : Int32) : Int32 := if fa_holds σ x = true then 1 <<< (σ 6 x.toNatClampNeg &&& 31) else 0
def fa_dayOf (σ : tg_Mem) (x : Int32) : Int32 := if fa_holds σ x = true then σ 5 x.toNatClampNeg else 1000
def fa_pTold (σ : tg_Mem) (x : Int32) : Int32 := if fa_holds σ x = true then σ 2 x.toNatClampNeg else -1
def fa_gTold (σ : tg_Mem) (x : Int32) : Int32 := if fa_holds σ x = true then σ 1 x.toNatClampNeg else -1
def fa_fnd (σ : tg_Mem) (x : Int32) : Nat → Nat → Unit → Int32
  | 0, _, _ => -1
  | n + 1, i, u => if fa_pTold σ (nI i) = x then (if fa_gTold σ (nI i) = -1 then fa_fnd σ x n (i + 1) u else fa_gTold σ (nI i)) else fa_fnd σ x n (i + 1) u
def fa_guess (σ : tg_Mem) (x : Int32) : Int32 := fa_fnd σ x 30 0 ()
def fa_told (σ : tg_Mem) (x : Int32) : Int32 := if fa_holds σ x = false then fa_guess σ x else if fa_handOf σ x = -1 then fa_pTold σ x else if fa_handOf σ x = -2 then -1 else fa_handOf σ x
def fa_isReply (σ : tg_Mem) (x : Int32) : Bool := fa_holds σ x && !(decide (σ 4 x.toNatClampNeg = 0))
def fa_ans (σ : tg_Mem) (f a : Int32) : Bool := fa_holds σ f && (fa_holds σ a && (decide (σ 4 f.toNatClampNeg = 0) && (!(decide (σ 4 a.toNatClampNeg = 0)) && (decide (σ 3 f.toNatClampNeg = σ 3 a.toNatClampNeg) && (!(decide (σ 5 a.toNatClampNeg - σ 5 f.toNatClampNeg < 0)) && !(decide (14 < σ 5 a.toNatClampNeg - σ 5 f.toNatClampNeg)))))))
def fa_put (σ : tg_Mem) (x g q sub d w0 : Int32) : tg_Mem :=
  if fa_id x = true then
    (if sub < 10 then
      tg_set (tg_set (tg_set (tg_set (tg_set (tg_set (tg_set (tg_set (tg_set σ 0 x.toNatClampNeg 1) 1 x.toNatClampNeg g) 2 x.toNatClampNeg q) 4 x.toNatClampNeg 0) 3 x.toNatClampNeg sub) 5 x.toNatClampNeg d) 6 x.toNatClampNeg w0) 7 x.toNatClampNeg 1) 8 x.toNatClampNeg (-1)
    else
      tg_set (tg_set (tg_set (tg_set (tg_set (tg_set (tg_set (tg_set (tg_set σ 0 x.toNatClampNeg 1) 1 x.toNatClampNeg g) 2 x.toNatClampNeg q) 4 x.toNatClampNeg 1) 3 x.toNatClampNeg (sub - 10)) 5 x.toNatClampNeg d) 6 x.toNatClampNeg w0) 7 x.toNatClampNeg 1) 8 x.toNatClampNeg (-1))
  else σ
def fa_drop (σ : tg_Mem) (x : Int32) : tg_Mem := if fa_id x = true then tg_set σ 0 x.toNatClampNeg 0 else σ
def fa_setHand (σ : tg_Mem) (x v : Int32) : tg_Mem := if fa_holds σ x = true then tg_set σ 8 x.toNatClampNeg v else σ
def fa_mark (σ : tg_Mem) (x : Int32) : tg_Mem := if fa_isUnread σ x = true then tg_set σ 7 x.toNatClampNeg 0 else σ
def fa_knows (σ : tg_Mem) (x : Int32) : Bool := fa_id x && !(decide (σ 9 x.toNatClampNeg = 0))
def fa_cont (σ : tg_Mem) (x : Int32) : Bool := fa_id x && !(decide (σ 12 x.toNatClampNeg = 0))
theorem fa_cont_in {σ : tg_Mem} {x : Int32} (h : fa_cont σ x = true) : vp_in x 30 := by
  simp only [fa_cont, Bool.and_eq_true] at h
  exact fa_id_in h.1
def fa_par (σ : tg_Mem) (x : Int32) : Int32 := if fa_cont σ x = true then σ 11 x.toNatClampNeg else -1
def fa_rootAt (σ : tg_Mem) (x : Int32) : Int32 := if fa_id x = true then (if σ 20 0 ≤ x then -1 else σ 19 x.toNatClampNeg) else -1
def fa_nchS (σ : tg_Mem) (x : Int32) (i : Nat) (k : Int32) : Int32 := if σ 11 i = x then k + 1 else k
def fa_nch (σ : tg_Mem) (x : Int32) : Int32 := tg_it (fa_nchS σ x) 0 30
def fa_idAt (σ : tg_Mem) (x k : Int32) : Int32 := if fa_cont σ x = true then (if k < 0 then -1 else if k < σ 15 x.toNatClampNeg then (if fa_id (σ 17 x.toNatClampNeg + k) = true then σ 18 (σ 17 x.toNatClampNeg + k).toNatClampNeg else -1) else -1) else -1
def fa_stepF (σ : tg_Mem) : Nat → Nat → Int32 → Int32
  | 0, i, _ => nI i
  | n + 1, i, a => if fa_id a = true then fa_stepF σ n (i + 1) (fa_par σ a) else nI i
def fa_depth (σ : tg_Mem) (x : Int32) : Int32 := fa_stepF σ 30 0 (fa_par σ x)
def fa_inF (σ : tg_Mem) (top : Int32) : Nat → Nat → Int32 → Bool
  | 0, _, _ => false
  | n + 1, i, a => if fa_id a = true then (if a = top then true else fa_inF σ top n (i + 1) (fa_par σ a)) else false
def fa_inT (σ : tg_Mem) (x top : Int32) : Bool := fa_inF σ top 30 0 x
def fa_learn (σ : tg_Mem) (x : Int32) : tg_Mem := if fa_id x = true then tg_set σ 9 x.toNatClampNeg 1 else σ
def fa_fk1 (i : Nat) (σ : tg_Mem) : tg_Mem := tg_set σ 9 i (tg_b (fa_holds σ (nI i)))
def fa_fk2 (i : Nat) (σ : tg_Mem) : tg_Mem := fa_learn (fa_learn (fa_learn σ (fa_pTold σ (nI i))) (fa_gTold (fa_learn σ (fa_pTold σ (nI i))) (nI i))) (fa_handOf (fa_learn (fa_learn σ (fa_pTold σ (nI i))) (fa_gTold (fa_learn σ (fa_pTold σ (nI i))) (nI i))) (nI i))
def fa_findKnown (σ : tg_Mem) : tg_Mem := tg_it fa_fk2 (tg_it fa_fk1 σ 30) 30
def fa_leadF (σ : tg_Mem) (to : Int32) : Nat → Nat → Int32 → Bool
  | 0, _, _ => false
  | n + 1, i, a => if fa_id a = true then (if a = to then true else fa_leadF σ to n (i + 1) (σ 10 a.toNatClampNeg)) else false
def fa_lead (σ : tg_Mem) (x to : Int32) : Bool := fa_leadF σ to 30 0 x
def fa_lk1 (i : Nat) (σ : tg_Mem) : tg_Mem := tg_set σ 10 i (-1)
def fa_lk2 (i : Nat) (σ : tg_Mem) : tg_Mem := if σ 9 i = 0 then σ else tg_set σ 10 i (if fa_lead σ (fa_told σ (nI i)) (nI i) = true then -1 else fa_told σ (nI i))
def fa_linkKnown (σ : tg_Mem) : tg_Mem := tg_it fa_lk2 (tg_it fa_lk1 σ 30) 30
def fa_pblF (σ : tg_Mem) : Nat → Nat → Int32 → Int32
  | 0, _, _ => -1
  | n + 1, i, a => if fa_id a = true then (if fa_holds σ a = true then a else if σ 10 a.toNatClampNeg = -1 then a else fa_pblF σ n (i + 1) (σ 10 a.toNatClampNeg)) else -1
def fa_pbl (σ : tg_Mem) (x : Int32) : Int32 := fa_pblF σ 30 0 x
def fa_hb (i : Nat) (σ : tg_Mem) : tg_Mem := tg_set σ 11 i (if fa_holds σ (nI i) = true then fa_pbl σ (σ 10 i) else -1)
def fa_hangByLinks (σ : tg_Mem) : tg_Mem := tg_it fa_hb σ 30
def fa_fr (x : Int32) (i : Nat) (σ : tg_Mem) : tg_Mem := if σ 11 i = x then tg_set σ 11 i (-1) else σ
def fa_free (σ : tg_Mem) (x : Int32) : tg_Mem := tg_it (fa_fr x) σ 30
def fa_km (i : Nat) (σ : tg_Mem) : tg_Mem := if fa_holds σ (nI i) = true then tg_set σ 12 i 1 else if fa_nch σ (nI i) < 2 then fa_free (tg_set σ 12 i 0) (nI i) else tg_set σ 12 i 1
def fa_keepMissing (σ : tg_Mem) : tg_Mem := tg_it fa_km σ 30
def fa_bestS (σ : tg_Mem) (a : Int32) (i : Nat) (b : Int32) : Int32 := if σ 11 i = -1 then (if fa_ans σ (nI i) a = true then (if b = -1 then nI i else if fa_dayOf σ (nI i) ≤ fa_dayOf σ b then b else nI i) else b) else b
def fa_best (σ : tg_Mem) (a : Int32) : Int32 := tg_it (fa_bestS σ a) (-1) 30
def fa_hr (i : Nat) (σ : tg_Mem) : tg_Mem := if fa_isReply σ (nI i) = true then (if σ 11 i = -1 then (if fa_handOf σ (nI i) = -2 then σ else tg_set σ 11 i (fa_best σ (nI i))) else σ) else σ
def fa_hangReplies (σ : tg_Mem) : tg_Mem := tg_it fa_hr σ 30
def fa_upS (sent : Int32) (x : Nat) (σ : tg_Mem) : tg_Mem := tg_set (tg_set σ 15 x (σ 15 x + 1)) 13 x (if sent < σ 13 x then sent else σ 13 x)
def fa_upF (sent : Int32) : Nat → Nat → Int32 × tg_Mem → tg_Mem
  | 0, _, q => q.2
  | n + 1, i, q => if fa_id q.1 = true then fa_upF sent n (i + 1) (q.2 11 q.1.toNatClampNeg, fa_upS sent q.1.toNatClampNeg q.2) else q.2
def fa_upwards (σ : tg_Mem) (x : Int32) : tg_Mem := fa_upF (fa_dayOf σ x) 30 0 (x, σ)
def fa_mt1 (i : Nat) (σ : tg_Mem) : tg_Mem := tg_set (tg_set σ 15 i 0) 13 i 1000
def fa_mt2 (i : Nat) (σ : tg_Mem) : tg_Mem := if σ 12 i = 0 then σ else fa_upwards σ (nI i)
def fa_mt3 (i : Nat) (σ : tg_Mem) : tg_Mem := tg_set σ 14 i (if σ 11 i = -1 then σ 13 i else fa_dayOf σ (nI i))
def fa_measure (σ : tg_Mem) : tg_Mem := tg_it fa_mt3 (tg_it fa_mt2 (tg_it fa_mt1 σ 30) 30) 30
def fa_before (σ : tg_Mem) (f g : Int32) : Bool := fa_cont σ f && (fa_cont σ g && (decide (σ 11 f.toNatClampNeg = σ 11 g.toNatClampNeg) && (decide (σ 14 f.toNatClampNeg < σ 14 g.toNatClampNeg) || (decide (σ 14 f.toNatClampNeg = σ 14 g.toNatClampNeg) && !(decide (g ≤ f))))))
def fa_placeS (σ : tg_Mem) (x : Int32) (i : Nat) (k : Int32) : Int32 := if fa_before σ (nI i) x = true then k + 1 else k
def fa_place (σ : tg_Mem) (x : Int32) : Int32 := tg_it (fa_placeS σ x) 0 30
def fa_placeRoot (σ : tg_Mem) (x : Int32) : tg_Mem := if fa_id (fa_place σ x) = true then tg_set σ 19 (fa_place σ x).toNatClampNeg x else σ
def fa_pr (i : Nat) (σ : tg_Mem) : tg_Mem := if σ 12 i = 0 then σ else if σ 11 i = -1 then tg_set (fa_placeRoot σ (nI i)) 20 0 (fa_placeRoot σ (nI i) 20 0 + 1) else σ
def fa_placeRoots (σ : tg_Mem) : tg_Mem := tg_it fa_pr (tg_set σ 20 0 0) 30
def fa_offS (σ : tg_Mem) (x : Int32) (i : Nat) (k : Int32) : Int32 := if fa_before σ (nI i) x = true then k + σ 15 i else k
def fa_off (σ : tg_Mem) (x : Int32) : Int32 := tg_it (fa_offS σ x) (if fa_par σ x = -1 then 0 else 1) 30
def fa_startF (σ : tg_Mem) : Nat → Nat → Int32 × Int32 → Int32
  | 0, _, q => q.1
  | n + 1, i, q => if fa_id q.2 = true then fa_startF σ n (i + 1) (q.1 + σ 16 q.2.toNatClampNeg, σ 11 q.2.toNatClampNeg) else q.1
def fa_start (σ : tg_Mem) (x : Int32) : Int32 := fa_startF σ 30 0 (0, x)
def fa_pt1 (i : Nat) (σ : tg_Mem) : tg_Mem := tg_set σ 16 i (fa_off σ (nI i))
def fa_pt2 (i : Nat) (σ : tg_Mem) : tg_Mem := if σ 12 i = 0 then tg_set σ 17 i (fa_start σ (nI i)) else if fa_id (fa_start σ (nI i)) = true then tg_set (tg_set σ 17 i (fa_start σ (nI i))) 18 (fa_start σ (nI i)).toNatClampNeg (nI i) else tg_set σ 17 i (fa_start σ (nI i))
def fa_placeTrees (σ : tg_Mem) : tg_Mem := tg_it fa_pt2 (tg_it fa_pt1 σ 30) 30
def fa_grow (σ : tg_Mem) : tg_Mem := fa_placeTrees (fa_placeRoots (fa_measure (fa_hangReplies (fa_keepMissing (fa_hangByLinks (fa_linkKnown (fa_findKnown σ)))))))
end
section
/-! ===== the class: its methods by contract (printed by wip/whole/genA.py) ===== -/
set_option maxHeartbeats 4000000 in
set_option maxRecDepth 100000 in
theorem k_X2_isId {l : Launch} {D : va_G} {h : Nat → Nat} {cI cZ : ClassId} (hd : tw_dis 23 h) (σ : tg_Mem) (x : Int32) : tg_CT l yX2_isId wzX2_isId (tg_rm 0) (tw_T h cI cZ) (tw_ty cI cZ) tw_nl (tw_A 23 h) D [.int x] σ (some (.int (tg_b (fa_id x)))) σ := by
  refine tg_met (own := RX2) (cc := cX2_isId) (maxL := 1) (ret := (some .boolean)) (by decide +kernel) rfl rfl (Nat.le_of_ble_eq_true rfl) ?_
  intro p e s m below meth c S hK hN hr hlk
  refine tg_sub (L' := [(0, .int x)]) [0] rfl ?_
  refine tg_iload_n S 0 dX2_isId_0 rfl rfl ?_
  refine tg_if_lt (tgt := 14) S dX2_isId_1 (by decide) (fun c_1 => ?_) (fun c_1 => ?_)
  · skip
    refine tg_iconst (v := 0) S dX2_isId_14 (by decide) ?_
    exact tg_zret (b := false) S hr hlk dX2_isId_15 (congrArg tg_b (by simp [fa_id, c_1])) rfl
  · skip
    refine tg_iload_n S 0 dX2_isId_4 rfl rfl ?_
    refine tg_bipush (v := 30) S dX2_isId_5 (by decide) ?_
    refine tg_icmp_ge (tgt := 14) S dX2_isId_7 (by decide) (fun c_2 => ?_) (fun c_2 => ?_)
    · skip
      refine tg_iconst (v := 0) S dX2_isId_14 (by decide) ?_
      exact tg_zret (b := false) S hr hlk dX2_isId_15 (congrArg tg_b (by simp [fa_id, c_1, c_2])) rfl
    · skip
      refine tg_iconst (v := 1) S dX2_isId_10 (by decide) ?_
      refine tg_goto (tgt := 15) S dX2_isId_11 (by decide) ?_
      exact tg_zret (b := true) S hr hlk dX2_isId_15 (congrArg tg_b (by simp [fa_id, c_1, c_2])) rfl
set_option maxHeartbeats 4000000 in
set_option maxRecDepth 100000 in
theorem k_X1_holds {l : Launch} {D : va_G} {h : Nat → Nat} {cI cZ : ClassId} (hd : tw_dis 23 h) (σ : tg_Mem) (x : Int32) : tg_CT l yX1_holds wzX1_holds (tg_rm 0) (tw_T h cI cZ) (tw_ty cI cZ) tw_nl (tw_A 23 h) D [.ref (h 1), .int x] σ (some (.int (tg_b (fa_holds σ x)))) σ := by
  refine tg_met (own := RX1) (cc := cX1_holds) (maxL := 2) (ret := (some .boolean)) (by decide +kernel) rfl rfl (Nat.le_of_ble_eq_true rfl) ?_
  intro p e s m below meth c S hK hN hr hlk
  refine tg_sub (L' := [(0, .ref (h 1)), (1, .int x)]) [0, 1] rfl ?_
  refine tg_iload_n S 1 dX1_holds_0 rfl rfl ?_
  refine tg_if_lt (tgt := 23) S dX1_holds_1 (by decide) (fun c_1 => ?_) (fun c_1 => ?_)
  · skip
    refine tg_iconst (v := 0) S dX1_holds_23 (by decide) ?_
    exact tg_zret (b := false) S hr hlk dX1_holds_24 (congrArg tg_b (by simp [fa_holds, fa_id, c_1])) rfl
  · skip
    refine tg_iload_n S 1 dX1_holds_4 rfl rfl ?_
    refine tg_bipush (v := 30) S dX1_holds_5 (by decide) ?_
    refine tg_icmp_ge (tgt := 23) S dX1_holds_7 (by decide) (fun c_2 => ?_) (fun c_2 => ?_)
    · skip
      refine tg_iconst (v := 0) S dX1_holds_23 (by decide) ?_
      exact tg_zret (b := false) S hr hlk dX1_holds_24 (congrArg tg_b (by simp [fa_holds, fa_id, c_1, c_2])) rfl
    · skip
      refine tg_aload_n S 0 dX1_holds_10 rfl rfl ?_
      refine tg_get (v := .ref (h 3)) S tw_v1 hK 1 rfl rfl 0 (by decide) (tw_in fl_RX1_9 rfl) dX1_holds_11 rfl ?_
      refine tg_iload_n S 1 dX1_holds_14 rfl rfl ?_
      refine tg_zald (v := σ 0 x.toNatClampNeg) S hK 3 1 rfl rfl dX1_holds_15 (tg_inx c_1 c_2) rfl ?_
      refine tg_if_eq (tgt := 23) S dX1_holds_16 (by decide) (fun c_3 => ?_) (fun c_3 => ?_)
      · skip
        refine tg_iconst (v := 0) S dX1_holds_23 (by decide) ?_
        exact tg_zret (b := false) S hr hlk dX1_holds_24 (congrArg tg_b (by simp [fa_holds, fa_id, c_1, c_2, c_3])) rfl
      · skip
        refine tg_iconst (v := 1) S dX1_holds_19 (by decide) ?_
        refine tg_goto (tgt := 24) S dX1_holds_20 (by decide) ?_
        exact tg_zret (b := true) S hr hlk dX1_holds_24 (congrArg tg_b (by simp [fa_holds, fa_id, c_1, c_2, c_3])) rfl
set_option maxHeartbeats 4000000 in
set_option maxRecDepth 100000 in
theorem k_X1_put {l : Launch} {D : va_G} {h : Nat → Nat} {cI cZ : ClassId} (hd : tw_dis 23 h) (σ : tg_Mem) (x : Int32) (g : Int32) (q : Int32) (sub : Int32) (d : Int32) (w0 : Int32) : tg_CT l yX1_put wzX1_put (tg_rm 1) (tw_T h cI cZ) (tw_ty cI cZ) tw_nl (tw_A 23 h) D [.ref (h 1), .int x, .int g, .int q, .int sub, .int d, .int w0] σ none (fa_put σ x g q sub d w0) := by
  refine tg_met (own := RX1) (cc := cX1_put) (maxL := 7) (ret := none) (by decide +kernel) rfl rfl (Nat.le_of_ble_eq_true rfl) ?_
  intro p e s m below meth c S hK hN hr hlk
  refine tg_sub (L' := [(0, .ref (h 1)), (1, .int x), (2, .int g), (3, .int q), (4, .int sub), (5, .int d), (6, .int w0)]) [0, 1, 2, 3, 4, 5, 6] rfl ?_
  refine tg_iload_n S 1 dX1_put_0 rfl rfl ?_
  refine tg_callSN (nA := 1) (As := [.int x]) (rest := []) (host := RX2) S hK hN (k_X2_isId hd σ x) (tw_gW co_X2_isId rfl) (List.mem_of_getElem? (i := 5) rfl) (tw_in in_RX2 rfl) (tw_in st_X2_isId rfl) rfl (by decide +kernel) ⟨Nat.le_of_ble_eq_true rfl, Nat.le_of_ble_eq_true rfl⟩ rfl rfl (Nat.le_of_ble_eq_true rfl) dX1_put_1 ⟨Nat.le_of_ble_eq_true rfl, Nat.le_of_ble_eq_true rfl⟩ ?_
  refine tg_ifnz (tgt := 8) S dX1_put_4 (by decide) (fun c_1 => ?_) (fun c_1 => ?_)
  · skip
    refine tg_aload_n S 0 dX1_put_8 rfl rfl ?_
    refine tg_get (v := .ref (h 3)) S tw_v1 hK 1 rfl rfl 0 (by decide) (tw_in fl_RX1_9 rfl) dX1_put_9 rfl ?_
    refine tg_iload_n S 1 dX1_put_12 rfl rfl ?_
    refine tg_iconst (v := 1) S dX1_put_13 (by decide) ?_
    refine tg_zast (b := true) (σ2 := tg_set σ 0 x.toNatClampNeg 1) S hK (tw_TD hd) 3 1 rfl rfl dX1_put_14 (fa_id_in c_1) rfl ?_
    refine tg_aload_n S 0 dX1_put_15 rfl rfl ?_
    refine tg_get (v := .ref (h 4)) S tw_v1 hK 1 rfl rfl 1 (by decide) (tw_in fl_RX1_15 rfl) dX1_put_16 rfl ?_
    refine tg_iload_n S 1 dX1_put_19 rfl rfl ?_
    refine tg_iload_n S 2 dX1_put_20 rfl rfl ?_
    refine tg_iast (σ2 := tg_set (tg_set σ 0 x.toNatClampNeg 1) 1 x.toNatClampNeg g) S hK (tw_TD hd) 4 0 rfl rfl dX1_put_21 (fa_id_in c_1) rfl ?_
    refine tg_aload_n S 0 dX1_put_22 rfl rfl ?_
    refine tg_get (v := .ref (h 5)) S tw_v1 hK 1 rfl rfl 2 (by decide) (tw_in fl_RX1_19 rfl) dX1_put_23 rfl ?_
    refine tg_iload_n S 1 dX1_put_26 rfl rfl ?_
    refine tg_iload_n S 3 dX1_put_27 rfl rfl ?_
    refine tg_iast (σ2 := tg_set (tg_set (tg_set σ 0 x.toNatClampNeg 1) 1 x.toNatClampNeg g) 2 x.toNatClampNeg q) S hK (tw_TD hd) 5 0 rfl rfl dX1_put_28 (fa_id_in c_1) rfl ?_
    refine tg_aload_n S 0 dX1_put_29 rfl rfl ?_
    refine tg_get (v := .ref (h 7)) S tw_v1 hK 1 rfl rfl 4 (by decide) (tw_in fl_RX1_25 rfl) dX1_put_30 rfl ?_
    refine tg_iload_n S 1 dX1_put_33 rfl rfl ?_
    refine tg_iload S 4 dX1_put_34 rfl ?_
    refine tg_bipush (v := 10) S dX1_put_36 (by decide) ?_
    refine tg_icmp_lt (tgt := 45) S dX1_put_38 (by decide) (fun c_2 => ?_) (fun c_2 => ?_)
    · skip
      refine tg_iconst (v := 0) S dX1_put_45 (by decide) ?_
      refine tg_zast (b := false) (σ2 := tg_set (tg_set (tg_set (tg_set σ 0 x.toNatClampNeg 1) 1 x.toNatClampNeg g) 2 x.toNatClampNeg q) 4 x.toNatClampNeg 0) S hK (tw_TD hd) 7 1 rfl rfl dX1_put_46 (fa_id_in c_1) rfl ?_
      refine tg_aload_n S 0 dX1_put_47 rfl rfl ?_
      refine tg_get (v := .ref (h 6)) S tw_v1 hK 1 rfl rfl 3 (by decide) (tw_in fl_RX1_22 rfl) dX1_put_48 rfl ?_
      refine tg_iload_n S 1 dX1_put_51 rfl rfl ?_
      refine tg_aload_n S 0 dX1_put_52 rfl rfl ?_
      refine tg_get (v := .ref (h 7)) S tw_v1 hK 1 rfl rfl 4 (by decide) (tw_in fl_RX1_25 rfl) dX1_put_53 rfl ?_
      refine tg_iload_n S 1 dX1_put_56 rfl rfl ?_
      refine tg_zald (v := 0) S hK 7 1 rfl rfl dX1_put_57 (fa_id_in c_1) (by simp [tg_set, tg_upA, upd]) ?_
      refine tg_if_eq (tgt := 69) S dX1_put_58 (by decide) (fun _ => ?_) (fun c => absurd (by decide) c)
      refine tg_iload S 4 dX1_put_69 rfl ?_
      refine tg_iast (σ2 := tg_set (tg_set (tg_set (tg_set (tg_set σ 0 x.toNatClampNeg 1) 1 x.toNatClampNeg g) 2 x.toNatClampNeg q) 4 x.toNatClampNeg 0) 3 x.toNatClampNeg sub) S hK (tw_TD hd) 6 0 rfl rfl dX1_put_71 (fa_id_in c_1) rfl ?_
      refine tg_aload_n S 0 dX1_put_72 rfl rfl ?_
      refine tg_get (v := .ref (h 8)) S tw_v1 hK 1 rfl rfl 5 (by decide) (tw_in fl_RX1_28 rfl) dX1_put_73 rfl ?_
      refine tg_iload_n S 1 dX1_put_76 rfl rfl ?_
      refine tg_iload S 5 dX1_put_77 rfl ?_
      refine tg_iast (σ2 := tg_set (tg_set (tg_set (tg_set (tg_set (tg_set σ 0 x.toNatClampNeg 1) 1 x.toNatClampNeg g) 2 x.toNatClampNeg q) 4 x.toNatClampNeg 0) 3 x.toNatClampNeg sub) 5 x.toNatClampNeg d) S hK (tw_TD hd) 8 0 rfl rfl dX1_put_79 (fa_id_in c_1) rfl ?_
      refine tg_aload_n S 0 dX1_put_80 rfl rfl ?_
      refine tg_get (v := .ref (h 9)) S tw_v1 hK 1 rfl rfl 6 (by decide) (tw_in fl_RX1_31 rfl) dX1_put_81 rfl ?_
      refine tg_iload_n S 1 dX1_put_84 rfl rfl ?_
      refine tg_iload S 6 dX1_put_85 rfl ?_
      refine tg_iast (σ2 := tg_set (tg_set (tg_set (tg_set (tg_set (tg_set (tg_set σ 0 x.toNatClampNeg 1) 1 x.toNatClampNeg g) 2 x.toNatClampNeg q) 4 x.toNatClampNeg 0) 3 x.toNatClampNeg sub) 5 x.toNatClampNeg d) 6 x.toNatClampNeg w0) S hK (tw_TD hd) 9 0 rfl rfl dX1_put_87 (fa_id_in c_1) rfl ?_
      refine tg_aload_n S 0 dX1_put_88 rfl rfl ?_
      refine tg_get (v := .ref (h 10)) S tw_v1 hK 1 rfl rfl 7 (by decide) (tw_in fl_RX1_34 rfl) dX1_put_89 rfl ?_
      refine tg_iload_n S 1 dX1_put_92 rfl rfl ?_
      refine tg_iconst (v := 1) S dX1_put_93 (by decide) ?_
      refine tg_zast (b := true) (σ2 := tg_set (tg_set (tg_set (tg_set (tg_set (tg_set (tg_set (tg_set σ 0 x.toNatClampNeg 1) 1 x.toNatClampNeg g) 2 x.toNatClampNeg q) 4 x.toNatClampNeg 0) 3 x.toNatClampNeg sub) 5 x.toNatClampNeg d) 6 x.toNatClampNeg w0) 7 x.toNatClampNeg 1) S hK (tw_TD hd) 10 1 rfl rfl dX1_put_94 (fa_id_in c_1) rfl ?_
      refine tg_aload_n S 0 dX1_put_95 rfl rfl ?_
      refine tg_get (v := .ref (h 11)) S tw_v1 hK 1 rfl rfl 8 (by decide) (tw_in fl_RX1_37 rfl) dX1_put_96 rfl ?_
      refine tg_iload_n S 1 dX1_put_99 rfl rfl ?_
      refine tg_iconst (v := -1) S dX1_put_100 (by decide) ?_
      refine tg_iast (σ2 := tg_set (tg_set (tg_set (tg_set (tg_set (tg_set (tg_set (tg_set (tg_set σ 0 x.toNatClampNeg 1) 1 x.toNatClampNeg g) 2 x.toNatClampNeg q) 4 x.toNatClampNeg 0) 3 x.toNatClampNeg sub) 5 x.toNatClampNeg d) 6 x.toNatClampNeg w0) 7 x.toNatClampNeg 1) 8 x.toNatClampNeg (-1)) S hK (tw_TD hd) 11 0 rfl rfl dX1_put_101 (fa_id_in c_1) rfl ?_
      exact tg_vret S hr hlk dX1_put_102 (by simp [fa_put, c_1, c_2])
    · skip
      refine tg_iconst (v := 1) S dX1_put_41 (by decide) ?_
      refine tg_goto (tgt := 46) S dX1_put_42 (by decide) ?_
      refine tg_zast (b := true) (σ2 := tg_set (tg_set (tg_set (tg_set σ 0 x.toNatClampNeg 1) 1 x.toNatClampNeg g) 2 x.toNatClampNeg q) 4 x.toNatClampNeg 1) S hK (tw_TD hd) 7 1 rfl rfl dX1_put_46 (fa_id_in c_1) rfl ?_
      refine tg_aload_n S 0 dX1_put_47 rfl rfl ?_
      refine tg_get (v := .ref (h 6)) S tw_v1 hK 1 rfl rfl 3 (by decide) (tw_in fl_RX1_22 rfl) dX1_put_48 rfl ?_
      refine tg_iload_n S 1 dX1_put_51 rfl rfl ?_
      refine tg_aload_n S 0 dX1_put_52 rfl rfl ?_
      refine tg_get (v := .ref (h 7)) S tw_v1 hK 1 rfl rfl 4 (by decide) (tw_in fl_RX1_25 rfl) dX1_put_53 rfl ?_
      refine tg_iload_n S 1 dX1_put_56 rfl rfl ?_
      refine tg_zald (v := 1) S hK 7 1 rfl rfl dX1_put_57 (fa_id_in c_1) (by simp [tg_set, tg_upA, upd]) ?_
      refine tg_if_eq (tgt := 69) S dX1_put_58 (by decide) (fun c => absurd c (by decide)) (fun _ => ?_)
      refine tg_iload S 4 dX1_put_61 rfl ?_
      refine tg_bipush (v := 10) S dX1_put_63 (by decide) ?_
      refine tg_isub S dX1_put_65 ?_
      refine tg_goto (tgt := 71) S dX1_put_66 (by decide) ?_
      refine tg_iast (σ2 := tg_set (tg_set (tg_set (tg_set (tg_set σ 0 x.toNatClampNeg 1) 1 x.toNatClampNeg g) 2 x.toNatClampNeg q) 4 x.toNatClampNeg 1) 3 x.toNatClampNeg (sub - 10)) S hK (tw_TD hd) 6 0 rfl rfl dX1_put_71 (fa_id_in c_1) rfl ?_
      refine tg_aload_n S 0 dX1_put_72 rfl rfl ?_
      refine tg_get (v := .ref (h 8)) S tw_v1 hK 1 rfl rfl 5 (by decide) (tw_in fl_RX1_28 rfl) dX1_put_73 rfl ?_
      refine tg_iload_n S 1 dX1_put_76 rfl rfl ?_
      refine tg_iload S 5 dX1_put_77 rfl ?_
      refine tg_iast (σ2 := tg_set (tg_set (tg_set (tg_set (tg_set (tg_set σ 0 x.toNatClampNeg 1) 1 x.toNatClampNeg g) 2 x.toNatClampNeg q) 4 x.toNatClampNeg 1) 3 x.toNatClampNeg (sub - 10)) 5 x.toNatClampNeg d) S hK (tw_TD hd) 8 0 rfl rfl dX1_put_79 (fa_id_in c_1) rfl ?_
      refine tg_aload_n S 0 dX1_put_80 rfl rfl ?_
      refine tg_get (v := .ref (h 9)) S tw_v1 hK 1 rfl rfl 6 (by decide) (tw_in fl_RX1_31 rfl) dX1_put_81 rfl ?_
      refine tg_iload_n S 1 dX1_put_84 rfl rfl ?_
      refine tg_iload S 6 dX1_put_85 rfl ?_
      refine tg_iast (σ2 := tg_set (tg_set (tg_set (tg_set (tg_set (tg_set (tg_set σ 0 x.toNatClampNeg 1) 1 x.toNatClampNeg g) 2 x.toNatClampNeg q) 4 x.toNatClampNeg 1) 3 x.toNatClampNeg (sub - 10)) 5 x.toNatClampNeg d) 6 x.toNatClampNeg w0) S hK (tw_TD hd) 9 0 rfl rfl dX1_put_87 (fa_id_in c_1) rfl ?_
      refine tg_aload_n S 0 dX1_put_88 rfl rfl ?_
      refine tg_get (v := .ref (h 10)) S tw_v1 hK 1 rfl rfl 7 (by decide) (tw_in fl_RX1_34 rfl) dX1_put_89 rfl ?_
      refine tg_iload_n S 1 dX1_put_92 rfl rfl ?_
      refine tg_iconst (v := 1) S dX1_put_93 (by decide) ?_
      refine tg_zast (b := true) (σ2 := tg_set (tg_set (tg_set (tg_set (tg_set (tg_set (tg_set (tg_set σ 0 x.toNatClampNeg 1) 1 x.toNatClampNeg g) 2 x.toNatClampNeg q) 4 x.toNatClampNeg 1) 3 x.toNatClampNeg (sub - 10)) 5 x.toNatClampNeg d) 6 x.toNatClampNeg w0) 7 x.toNatClampNeg 1) S hK (tw_TD hd) 10 1 rfl rfl dX1_put_94 (fa_id_in c_1) rfl ?_
      refine tg_aload_n S 0 dX1_put_95 rfl rfl ?_
      refine tg_get (v := .ref (h 11)) S tw_v1 hK 1 rfl rfl 8 (by decide) (tw_in fl_RX1_37 rfl) dX1_put_96 rfl ?_
      refine tg_iload_n S 1 dX1_put_99 rfl rfl ?_
      refine tg_iconst (v := -1) S dX1_put_100 (by decide) ?_
      refine tg_iast (σ2 := tg_set (tg_set (tg_set (tg_set (tg_set (tg_set (tg_set (tg_set (tg_set σ 0 x.toNatClampNeg 1) 1 x.toNatClampNeg g) 2 x.toNatClampNeg q) 4 x.toNatClampNeg 1) 3 x.toNatClampNeg (sub - 10)) 5 x.toNatClampNeg d) 6 x.toNatClampNeg w0) 7 x.toNatClampNeg 1) 8 x.toNatClampNeg (-1)) S hK (tw_TD hd) 11 0 rfl rfl dX1_put_101 (fa_id_in c_1) rfl ?_
      exact tg_vret S hr hlk dX1_put_102 (by simp [fa_put, c_1, c_2])
  · skip
    exact tg_vret S hr hlk dX1_put_7 (by simp [fa_put, c_1])
set_option maxHeartbeats 4000000 in
set_option maxRecDepth 100000 in
theorem k_X1_drop {l : Launch} {D : va_G} {h : Nat → Nat} {cI cZ : ClassId} (hd : tw_dis 23 h) (σ : tg_Mem) (x : Int32) : tg_CT l yX1_drop wzX1_drop (tg_rm 1) (tw_T h cI cZ) (tw_ty cI cZ) tw_nl (tw_A 23 h) D [.ref (h 1), .int x] σ none (fa_drop σ x) := by
  refine tg_met (own := RX1) (cc := cX1_drop) (maxL := 2) (ret := none) (by decide +kernel) rfl rfl (Nat.le_of_ble_eq_true rfl) ?_
  intro p e s m below meth c S hK hN hr hlk
  refine tg_sub (L' := [(0, .ref (h 1)), (1, .int x)]) [0, 1] rfl ?_
  refine tg_iload_n S 1 dX1_drop_0 rfl rfl ?_
  refine tg_callSN (nA := 1) (As := [.int x]) (rest := []) (host := RX2) S hK hN (k_X2_isId hd σ x) (tw_gW co_X2_isId rfl) (List.mem_of_getElem? (i := 5) rfl) (tw_in in_RX2 rfl) (tw_in st_X2_isId rfl) rfl (by decide +kernel) ⟨Nat.le_of_ble_eq_true rfl, Nat.le_of_ble_eq_true rfl⟩ rfl rfl (Nat.le_of_ble_eq_true rfl) dX1_drop_1 ⟨Nat.le_of_ble_eq_true rfl, Nat.le_of_ble_eq_true rfl⟩ ?_
  refine tg_ifz (tgt := 14) S dX1_drop_4 (by decide) (fun c_1 => ?_) (fun c_1 => ?_)
  · skip
    exact tg_vret S hr hlk dX1_drop_14 (by simp [fa_drop, c_1])
  · skip
    refine tg_aload_n S 0 dX1_drop_7 rfl rfl ?_
    refine tg_get (v := .ref (h 3)) S tw_v1 hK 1 rfl rfl 0 (by decide) (tw_in fl_RX1_9 rfl) dX1_drop_8 rfl ?_
    refine tg_iload_n S 1 dX1_drop_11 rfl rfl ?_
    refine tg_iconst (v := 0) S dX1_drop_12 (by decide) ?_
    refine tg_zast (b := false) (σ2 := tg_set σ 0 x.toNatClampNeg 0) S hK (tw_TD hd) 3 1 rfl rfl dX1_drop_13 (fa_id_in c_1) rfl ?_
    exact tg_vret S hr hlk dX1_drop_14 (by simp [fa_drop, c_1])
set_option maxHeartbeats 4000000 in
set_option maxRecDepth 100000 in
theorem k_X1_setHand {l : Launch} {D : va_G} {h : Nat → Nat} {cI cZ : ClassId} (hd : tw_dis 23 h) (σ : tg_Mem) (x : Int32) (v : Int32) : tg_CT l yX1_setHand wzX1_setHand (tg_rm 1) (tw_T h cI cZ) (tw_ty cI cZ) tw_nl (tw_A 23 h) D [.ref (h 1), .int x, .int v] σ none (fa_setHand σ x v) := by
  refine tg_met (own := RX1) (cc := cX1_setHand) (maxL := 3) (ret := none) (by decide +kernel) rfl rfl (Nat.le_of_ble_eq_true rfl) ?_
  intro p e s m below meth c S hK hN hr hlk
  refine tg_sub (L' := [(0, .ref (h 1)), (1, .int x), (2, .int v)]) [0, 1, 2] rfl ?_
  refine tg_aload_n S 0 dX1_setHand_0 rfl rfl ?_
  refine tg_iload_n S 1 dX1_setHand_1 rfl rfl ?_
  refine tg_callV (nA := 1) (As := [.int x]) (rest := []) (q := (RX1, TX1, 9)) S hK hN (k_X1_holds hd σ x) 1 rfl rfl (tw_gV ml_RX1_44 im_X1_holds se_X1_holds in_RX1 co_X1_holds rfl) rfl (by decide +kernel) ⟨Nat.le_of_ble_eq_true rfl, Nat.le_of_ble_eq_true rfl⟩ rfl rfl (Nat.le_of_ble_eq_true rfl) dX1_setHand_2 ⟨Nat.le_of_ble_eq_true rfl, Nat.le_of_ble_eq_true rfl⟩ ?_
  refine tg_ifz (tgt := 15) S dX1_setHand_5 (by decide) (fun c_1 => ?_) (fun c_1 => ?_)
  · skip
    exact tg_vret S hr hlk dX1_setHand_15 (by simp [fa_setHand, c_1])
  · skip
    refine tg_aload_n S 0 dX1_setHand_8 rfl rfl ?_
    refine tg_get (v := .ref (h 11)) S tw_v1 hK 1 rfl rfl 8 (by decide) (tw_in fl_RX1_37 rfl) dX1_setHand_9 rfl ?_
    refine tg_iload_n S 1 dX1_setHand_12 rfl rfl ?_
    refine tg_iload_n S 2 dX1_setHand_13 rfl rfl ?_
    refine tg_iast (σ2 := tg_set σ 8 x.toNatClampNeg v) S hK (tw_TD hd) 11 0 rfl rfl dX1_setHand_14 (fa_holds_in c_1) rfl ?_
    exact tg_vret S hr hlk dX1_setHand_15 (by simp [fa_setHand, c_1])
set_option maxHeartbeats 4000000 in
set_option maxRecDepth 100000 in
theorem k_X1_handOf {l : Launch} {D : va_G} {h : Nat → Nat} {cI cZ : ClassId} (hd : tw_dis 23 h) (σ : tg_Mem) (x : Int32) : tg_CT l yX1_handOf wzX1_handOf (tg_rm 1) (tw_T h cI cZ) (tw_ty cI cZ) tw_nl (tw_A 23 h) D [.ref (h 1), .int x] σ (some (.int (fa_handOf σ x))) σ := by
  refine tg_met (own := RX1) (cc := cX1_handOf) (maxL := 2) (ret := (some .int)) (by decide +kernel) rfl rfl (Nat.le_of_ble_eq_true rfl) ?_
  intro p e s m below meth c S hK hN hr hlk
  refine tg_sub (L' := [(0, .ref (h 1)), (1, .int x)]) [0, 1] rfl ?_
  refine tg_aload_n S 0 dX1_handOf_0 rfl rfl ?_
  refine tg_iload_n S 1 dX1_handOf_1 rfl rfl ?_
  refine tg_callV (nA := 1) (As := [.int x]) (rest := []) (q := (RX1, TX1, 9)) S hK hN (k_X1_holds hd σ x) 1 rfl rfl (tw_gV ml_RX1_44 im_X1_holds se_X1_holds in_RX1 co_X1_holds rfl) rfl (by decide +kernel) ⟨Nat.le_of_ble_eq_true rfl, Nat.le_of_ble_eq_true rfl⟩ rfl rfl (Nat.le_of_ble_eq_true rfl) dX1_handOf_2 ⟨Nat.le_of_ble_eq_true rfl, Nat.le_of_ble_eq_true rfl⟩ ?_
  refine tg_ifz (tgt := 17) S dX1_handOf_5 (by decide) (fun c_1 => ?_) (fun c_1 => ?_)
  · skip
    refine tg_iconst (v := -1) S dX1_handOf_17 (by decide) ?_
    exact tg_iret S hr hlk dX1_handOf_18 (by simp [fa_handOf, c_1]) rfl
  · skip
    refine tg_aload_n S 0 dX1_handOf_8 rfl rfl ?_
    refine tg_get (v := .ref (h 11)) S tw_v1 hK 1 rfl rfl 8 (by decide) (tw_in fl_RX1_37 rfl) dX1_handOf_9 rfl ?_
    refine tg_iload_n S 1 dX1_handOf_12 rfl rfl ?_
    refine tg_iald (v := σ 8 x.toNatClampNeg) S hK 11 0 rfl rfl dX1_handOf_13 (fa_holds_in c_1) rfl ?_
    refine tg_goto (tgt := 18) S dX1_handOf_14 (by decide) ?_
    exact tg_iret S hr hlk dX1_handOf_18 (by simp [fa_handOf, c_1]) rfl
set_option maxHeartbeats 4000000 in
set_option maxRecDepth 100000 in
theorem k_X1_writerBit {l : Launch} {D : va_G} {h : Nat → Nat} {cI cZ : ClassId} (hd : tw_dis 23 h) (σ : tg_Mem) (x : Int32) : tg_CT l yX1_writerBit wzX1_writerBit (tg_rm 1) (tw_T h cI cZ) (tw_ty cI cZ) tw_nl (tw_A 23 h) D [.ref (h 1), .int x] σ (some (.int (fa_writerBit σ x))) σ := by
  refine tg_met (own := RX1) (cc := cX1_writerBit) (maxL := 2) (ret := (some .int)) (by decide +kernel) rfl rfl (Nat.le_of_ble_eq_true rfl) ?_
  intro p e s m below meth c S hK hN hr hlk
  refine tg_sub (L' := [(0, .ref (h 1)), (1, .int x)]) [0, 1] rfl ?_
  refine tg_aload_n S 0 dX1_writerBit_0 rfl rfl ?_
  refine tg_iload_n S 1 dX1_writerBit_1 rfl rfl ?_
  refine tg_callV (nA := 1) (As := [.int x]) (rest := []) (q := (RX1, TX1, 9)) S hK hN (k_X1_holds hd σ x) 1 rfl rfl (tw_gV ml_RX1_44 im_X1_holds se_X1_holds in_RX1 co_X1_holds rfl) rfl (by decide +kernel) ⟨Nat.le_of_ble_eq_true rfl, Nat.le_of_ble_eq_true rfl⟩ rfl rfl (Nat.le_of_ble_eq_true rfl) dX1_writerBit_2 ⟨Nat.le_of_ble_eq_true rfl, Nat.le_of_ble_eq_true rfl⟩ ?_
  refine tg_ifz (tgt := 19) S dX1_writerBit_5 (by decide) (fun c_1 => ?_) (fun c_1 => ?_)
  · skip
    refine tg_iconst (v := 0) S dX1_writerBit_19 (by decide) ?_
    exact tg_iret S hr hlk dX1_writerBit_20 (by simp [fa_writerBit, c_1]) rfl
  · skip
    refine tg_iconst (v := 1) S dX1_writerBit_8 (by decide) ?_
    refine tg_aload_n S 0 dX1_writerBit_9 rfl rfl ?_
    refine tg_get (v := .ref (h 9)) S tw_v1 hK 1 rfl rfl 6 (by decide) (tw_in fl_RX1_31 rfl) dX1_writerBit_10 rfl ?_
    refine tg_iload_n S 1 dX1_writerBit_13 rfl rfl ?_
    refine tg_iald (v := σ 6 x.toNatClampNeg) S hK 9 0 rfl rfl dX1_writerBit_14 (fa_holds_in c_1) rfl ?_
    refine tg_ishl S dX1_writerBit_15 ?_
    refine tg_goto (tgt := 20) S dX1_writerBit_16 (by decide) ?_
    exact tg_iret S hr hlk dX1_writerBit_20 (by simp [fa_writerBit, c_1]) rfl
set_option maxHeartbeats 4000000 in
set_option maxRecDepth 100000 in
theorem k_X1_dayOf {l : Launch} {D : va_G} {h : Nat → Nat} {cI cZ : ClassId} (hd : tw_dis 23 h) (σ : tg_Mem) (x : Int32) : tg_CT l yX1_dayOf wzX1_dayOf (tg_rm 1) (tw_T h cI cZ) (tw_ty cI cZ) tw_nl (tw_A 23 h) D [.ref (h 1), .int x] σ (some (.int (fa_dayOf σ x))) σ := by
  refine tg_met (own := RX1) (cc := cX1_dayOf) (maxL := 2) (ret := (some .int)) (by decide +kernel) rfl rfl (Nat.le_of_ble_eq_true rfl) ?_
  intro p e s m below meth c S hK hN hr hlk
  refine tg_sub (L' := [(0, .ref (h 1)), (1, .int x)]) [0, 1] rfl ?_
  refine tg_aload_n S 0 dX1_dayOf_0 rfl rfl ?_
  refine tg_iload_n S 1 dX1_dayOf_1 rfl rfl ?_
  refine tg_callV (nA := 1) (As := [.int x]) (rest := []) (q := (RX1, TX1, 9)) S hK hN (k_X1_holds hd σ x) 1 rfl rfl (tw_gV ml_RX1_44 im_X1_holds se_X1_holds in_RX1 co_X1_holds rfl) rfl (by decide +kernel) ⟨Nat.le_of_ble_eq_true rfl, Nat.le_of_ble_eq_true rfl⟩ rfl rfl (Nat.le_of_ble_eq_true rfl) dX1_dayOf_2 ⟨Nat.le_of_ble_eq_true rfl, Nat.le_of_ble_eq_true rfl⟩ ?_
  refine tg_ifz (tgt := 17) S dX1_dayOf_5 (by decide) (fun c_1 => ?_) (fun c_1 => ?_)
  · skip
    refine tg_sipush (v := 1000) S dX1_dayOf_17 (by decide) ?_
    exact tg_iret S hr hlk dX1_dayOf_20 (by simp [fa_dayOf, c_1]) rfl
  · skip
    refine tg_aload_n S 0 dX1_dayOf_8 rfl rfl ?_
    refine tg_get (v := .ref (h 8)) S tw_v1 hK 1 rfl rfl 5 (by decide) (tw_in fl_RX1_28 rfl) dX1_dayOf_9 rfl ?_
    refine tg_iload_n S 1 dX1_dayOf_12 rfl rfl ?_
    refine tg_iald (v := σ 5 x.toNatClampNeg) S hK 8 0 rfl rfl dX1_dayOf_13 (fa_holds_in c_1) rfl ?_
    refine tg_goto (tgt := 20) S dX1_dayOf_14 (by decide) ?_
    exact tg_iret S hr hlk dX1_dayOf_20 (by simp [fa_dayOf, c_1]) rfl
set_option maxHeartbeats 4000000 in
set_option maxRecDepth 100000 in
theorem k_X1_parentToldBy {l : Launch} {D : va_G} {h : Nat → Nat} {cI cZ : ClassId} (hd : tw_dis 23 h) (σ : tg_Mem) (x : Int32) : tg_CT l yX1_parentToldBy wzX1_parentToldBy (tg_rm 1) (tw_T h cI cZ) (tw_ty cI cZ) tw_nl (tw_A 23 h) D [.ref (h 1), .int x] σ (some (.int (fa_pTold σ x))) σ := by
  refine tg_met (own := RX1) (cc := cX1_parentToldBy) (maxL := 2) (ret := (some .int)) (by decide +kernel) rfl rfl (Nat.le_of_ble_eq_true rfl) ?_
  intro p e s m below meth c S hK hN hr hlk
  refine tg_sub (L' := [(0, .ref (h 1)), (1, .int x)]) [0, 1] rfl ?_
  refine tg_aload_n S 0 dX1_parentToldBy_0 rfl rfl ?_
  refine tg_iload_n S 1 dX1_parentToldBy_1 rfl rfl ?_
  refine tg_callV (nA := 1) (As := [.int x]) (rest := []) (q := (RX1, TX1, 9)) S hK hN (k_X1_holds hd σ x) 1 rfl rfl (tw_gV ml_RX1_44 im_X1_holds se_X1_holds in_RX1 co_X1_holds rfl) rfl (by decide +kernel) ⟨Nat.le_of_ble_eq_true rfl, Nat.le_of_ble_eq_true rfl⟩ rfl rfl (Nat.le_of_ble_eq_true rfl) dX1_parentToldBy_2 ⟨Nat.le_of_ble_eq_true rfl, Nat.le_of_ble_eq_true rfl⟩ ?_
  refine tg_ifz (tgt := 17) S dX1_parentToldBy_5 (by decide) (fun c_1 => ?_) (fun c_1 => ?_)
  · skip
    refine tg_iconst (v := -1) S dX1_parentToldBy_17 (by decide) ?_
    exact tg_iret S hr hlk dX1_parentToldBy_18 (by simp [fa_pTold, c_1]) rfl
  · skip
    refine tg_aload_n S 0 dX1_parentToldBy_8 rfl rfl ?_
    refine tg_get (v := .ref (h 5)) S tw_v1 hK 1 rfl rfl 2 (by decide) (tw_in fl_RX1_19 rfl) dX1_parentToldBy_9 rfl ?_
    refine tg_iload_n S 1 dX1_parentToldBy_12 rfl rfl ?_
    refine tg_iald (v := σ 2 x.toNatClampNeg) S hK 5 0 rfl rfl dX1_parentToldBy_13 (fa_holds_in c_1) rfl ?_
    refine tg_goto (tgt := 18) S dX1_parentToldBy_14 (by decide) ?_
    exact tg_iret S hr hlk dX1_parentToldBy_18 (by simp [fa_pTold, c_1]) rfl
set_option maxHeartbeats 4000000 in
set_option maxRecDepth 100000 in
theorem k_X1_grandparentToldBy {l : Launch} {D : va_G} {h : Nat → Nat} {cI cZ : ClassId} (hd : tw_dis 23 h) (σ : tg_Mem) (x : Int32) : tg_CT l yX1_grandparentToldBy wzX1_grandparentToldBy (tg_rm 1) (tw_T h cI cZ) (tw_ty cI cZ) tw_nl (tw_A 23 h) D [.ref (h 1), .int x] σ (some (.int (fa_gTold σ x))) σ := by
  refine tg_met (own := RX1) (cc := cX1_grandparentToldBy) (maxL := 2) (ret := (some .int)) (by decide +kernel) rfl rfl (Nat.le_of_ble_eq_true rfl) ?_
  intro p e s m below meth c S hK hN hr hlk
  refine tg_sub (L' := [(0, .ref (h 1)), (1, .int x)]) [0, 1] rfl ?_
  refine tg_aload_n S 0 dX1_grandparentToldBy_0 rfl rfl ?_
  refine tg_iload_n S 1 dX1_grandparentToldBy_1 rfl rfl ?_
  refine tg_callV (nA := 1) (As := [.int x]) (rest := []) (q := (RX1, TX1, 9)) S hK hN (k_X1_holds hd σ x) 1 rfl rfl (tw_gV ml_RX1_44 im_X1_holds se_X1_holds in_RX1 co_X1_holds rfl) rfl (by decide +kernel) ⟨Nat.le_of_ble_eq_true rfl, Nat.le_of_ble_eq_true rfl⟩ rfl rfl (Nat.le_of_ble_eq_true rfl) dX1_grandparentToldBy_2 ⟨Nat.le_of_ble_eq_true rfl, Nat.le_of_ble_eq_true rfl⟩ ?_
  refine tg_ifz (tgt := 17) S dX1_grandparentToldBy_5 (by decide) (fun c_1 => ?_) (fun c_1 => ?_)
  · skip
    refine tg_iconst (v := -1) S dX1_grandparentToldBy_17 (by decide) ?_
    exact tg_iret S hr hlk dX1_grandparentToldBy_18 (by simp [fa_gTold, c_1]) rfl
  · skip
    refine tg_aload_n S 0 dX1_grandparentToldBy_8 rfl rfl ?_
    refine tg_get (v := .ref (h 4)) S tw_v1 hK 1 rfl rfl 1 (by decide) (tw_in fl_RX1_15 rfl) dX1_grandparentToldBy_9 rfl ?_
    refine tg_iload_n S 1 dX1_grandparentToldBy_12 rfl rfl ?_
    refine tg_iald (v := σ 1 x.toNatClampNeg) S hK 4 0 rfl rfl dX1_grandparentToldBy_13 (fa_holds_in c_1) rfl ?_
    refine tg_goto (tgt := 18) S dX1_grandparentToldBy_14 (by decide) ?_
    exact tg_iret S hr hlk dX1_grandparentToldBy_18 (by simp [fa_gTold, c_1]) rfl
set_option maxHeartbeats 4000000 in
set_option maxRecDepth 100000 in
theorem k_X1_guessedParentOf {l : Launch} {D : va_G} {h : Nat → Nat} {cI cZ : ClassId} (hd : tw_dis 23 h) (σ : tg_Mem) (x : Int32) : tg_CT l yX1_guessedParentOf wzX1_guessedParentOf (tg_rm 2) (tw_T h cI cZ) (tw_ty cI cZ) tw_nl (tw_A 23 h) D [.ref (h 1), .int x] σ (some (.int (fa_guess σ x))) σ := by
  refine tg_met (own := RX1) (cc := cX1_guessedParentOf) (maxL := 3) (ret := (some .int)) (by decide +kernel) rfl rfl (Nat.le_of_ble_eq_true rfl) ?_
  intro p e s m below meth c S hK hN hr hlk
  obtain ⟨v0, hv0⟩ : ∃ v, fa_guess σ x = v := ⟨_, rfl⟩
  rw [hv0]
  refine tg_sub (L' := [(0, .ref (h 1)), (1, .int x)]) [0, 1] rfl ?_
  refine tg_iconst (v := nI 0) S dX1_guessedParentOf_0 (by decide) ?_
  refine tg_istore_n (L' := [(0, .ref (h 1)), (1, .int x), (2, .int (nI 0))]) [1, 2, 0] S dX1_guessedParentOf_1 rfl (by decide) rfl ?_
  refine tg_fuel (X := Unit) (fa_fnd σ x) 30 () (fun u => σ) (fun i u => [(0, .ref (h 1)), (1, .int x), (2, .int (nI i))]) hv0 ?_ ?_
  · skip
    intro n1 i u hn_i hF_i hk_i
    have hi_i : i < 30 := by omega
    refine tg_iload_n S 2 dX1_guessedParentOf_2 rfl rfl ?_
    refine tg_bipush (v := 30) S dX1_guessedParentOf_3 (by decide) ?_
    refine tg_icmp_ge (tgt := 38) S dX1_guessedParentOf_5 (by decide) (fun c => absurd c (tg_nge hi_i)) (fun _ => ?_)
    refine tg_aload_n S 0 dX1_guessedParentOf_8 rfl rfl ?_
    refine tg_iload_n S 2 dX1_guessedParentOf_9 rfl rfl ?_
    refine tg_callV (nA := 1) (As := [.int (nI i)]) (rest := []) (q := (RX1, TX1, 9)) S hK hN (k_X1_parentToldBy hd σ (nI i)) 1 rfl rfl (tw_gV ml_RX1_57 im_X1_parentToldBy se_X1_parentToldBy in_RX1 co_X1_parentToldBy rfl) rfl (by decide +kernel) ⟨Nat.le_of_ble_eq_true rfl, Nat.le_of_ble_eq_true rfl⟩ rfl rfl (Nat.le_of_ble_eq_true rfl) dX1_guessedParentOf_10 ⟨Nat.le_of_ble_eq_true rfl, Nat.le_of_ble_eq_true rfl⟩ ?_
    refine tg_iload_n S 1 dX1_guessedParentOf_13 rfl rfl ?_
    refine tg_icmp_ne (tgt := 32) S dX1_guessedParentOf_14 (by decide) (fun c_1 => ?_) (fun c_1 => ?_)
    · skip
      refine tg_iinc (v := nI (i + 1)) (L' := [(0, .ref (h 1)), (1, .int x), (2, .int (nI (i + 1)))]) [1, 2, 0] S 2 dX1_guessedParentOf_32 rfl (tg_inc _) (by decide) rfl ?_
      refine tg_goto (tgt := 2) S dX1_guessedParentOf_35 (by decide) ?_
      exact hk_i u (((by first | (simp [fa_fnd, c_1]; done) | (simp only [fa_fnd, if_neg c_1]; done)) : fa_fnd σ x n1 (i + 1) u = fa_fnd σ x (n1 + 1) i u).trans hF_i)
    · skip
      refine tg_aload_n S 0 dX1_guessedParentOf_17 rfl rfl ?_
      refine tg_iload_n S 2 dX1_guessedParentOf_18 rfl rfl ?_
      refine tg_callV (nA := 1) (As := [.int (nI i)]) (rest := []) (q := (RX1, TX1, 9)) S hK hN (k_X1_grandparentToldBy hd σ (nI i)) 1 rfl rfl (tw_gV ml_RX1_60 im_X1_grandparentToldBy se_X1_grandparentToldBy in_RX1 co_X1_grandparentToldBy rfl) rfl (by decide +kernel) ⟨Nat.le_of_ble_eq_true rfl, Nat.le_of_ble_eq_true rfl⟩ rfl rfl (Nat.le_of_ble_eq_true rfl) dX1_guessedParentOf_19 ⟨Nat.le_of_ble_eq_true rfl, Nat.le_of_ble_eq_true rfl⟩ ?_
      refine tg_iconst (v := -1) S dX1_guessedParentOf_22 (by decide) ?_
      refine tg_icmp_eq (tgt := 32) S dX1_guessedParentOf_23 (by decide) (fun c_2 => ?_) (fun c_2 => ?_)
      · skip
        refine tg_iinc (v := nI (i + 1)) (L' := [(0, .ref (h 1)), (1, .int x), (2, .int (nI (i + 1)))]) [1, 2, 0] S 2 dX1_guessedParentOf_32 rfl (tg_inc _) (by decide) rfl ?_
        refine tg_goto (tgt := 2) S dX1_guessedParentOf_35 (by decide) ?_
        exact hk_i u (((by first | (simp [fa_fnd, c_1, c_2]; done) | (simp only [fa_fnd, if_pos c_1, if_pos c_2]; done)) : fa_fnd σ x n1 (i + 1) u = fa_fnd σ x (n1 + 1) i u).trans hF_i)
      · skip
        refine tg_aload_n S 0 dX1_guessedParentOf_26 rfl rfl ?_
        refine tg_iload_n S 2 dX1_guessedParentOf_27 rfl rfl ?_
        refine tg_callV (nA := 1) (As := [.int (nI i)]) (rest := []) (q := (RX1, TX1, 9)) S hK hN (k_X1_grandparentToldBy hd σ (nI i)) 1 rfl rfl (tw_gV ml_RX1_60 im_X1_grandparentToldBy se_X1_grandparentToldBy in_RX1 co_X1_grandparentToldBy rfl) rfl (by decide +kernel) ⟨Nat.le_of_ble_eq_true rfl, Nat.le_of_ble_eq_true rfl⟩ rfl rfl (Nat.le_of_ble_eq_true rfl) dX1_guessedParentOf_28 ⟨Nat.le_of_ble_eq_true rfl, Nat.le_of_ble_eq_true rfl⟩ ?_
        exact tg_iret S hr hlk dX1_guessedParentOf_31 (((by first | (simp [fa_fnd, c_1, c_2]; done) | (simp only [fa_fnd, if_pos c_1, if_neg c_2]; done)) : fa_gTold σ (nI i) = fa_fnd σ x (n1 + 1) i u).trans hF_i) rfl
  · skip
    intro u hF_i
    refine tg_iload_n S 2 dX1_guessedParentOf_2 rfl rfl ?_
    refine tg_bipush (v := 30) S dX1_guessedParentOf_3 (by decide) ?_
    refine tg_icmp_ge (tgt := 38) S dX1_guessedParentOf_5 (by decide) (fun _ => ?_) (fun c => absurd tg_ge c)
    refine tg_iconst (v := -1) S dX1_guessedParentOf_38 (by decide) ?_
    exact tg_iret S hr hlk dX1_guessedParentOf_39 (((by first | (simp [fa_fnd]; done)) : -1 = fa_fnd σ x 0 30 u).trans hF_i) rfl
set_option maxHeartbeats 4000000 in
set_option maxRecDepth 100000 in
theorem k_X1_toldParentOf {l : Launch} {D : va_G} {h : Nat → Nat} {cI cZ : ClassId} (hd : tw_dis 23 h) (σ : tg_Mem) (x : Int32) : tg_CT l yX1_toldParentOf wzX1_toldParentOf (tg_rm 3) (tw_T h cI cZ) (tw_ty cI cZ) tw_nl (tw_A 23 h) D [.ref (h 1), .int x] σ (some (.int (fa_told σ x))) σ := by
  refine tg_met (own := RX1) (cc := cX1_toldParentOf) (maxL := 3) (ret := (some .int)) (by decide +kernel) rfl rfl (Nat.le_of_ble_eq_true rfl) ?_
  intro p e s m below meth c S hK hN hr hlk
  refine tg_sub (L' := [(0, .ref (h 1)), (1, .int x)]) [0, 1] rfl ?_
  refine tg_aload_n S 0 dX1_toldParentOf_0 rfl rfl ?_
  refine tg_iload_n S 1 dX1_toldParentOf_1 rfl rfl ?_
  refine tg_callV (nA := 1) (As := [.int x]) (rest := []) (q := (RX1, TX1, 9)) S hK hN (k_X1_holds hd σ x) 1 rfl rfl (tw_gV ml_RX1_44 im_X1_holds se_X1_holds in_RX1 co_X1_holds rfl) rfl (by decide +kernel) ⟨Nat.le_of_ble_eq_true rfl, Nat.le_of_ble_eq_true rfl⟩ rfl rfl (Nat.le_of_ble_eq_true rfl) dX1_toldParentOf_2 ⟨Nat.le_of_ble_eq_true rfl, Nat.le_of_ble_eq_true rfl⟩ ?_
  refine tg_ifnz (tgt := 14) S dX1_toldParentOf_5 (by decide) (fun c_1 => ?_) (fun c_1 => ?_)
  · skip
    refine tg_aload_n S 0 dX1_toldParentOf_14 rfl rfl ?_
    refine tg_iload_n S 1 dX1_toldParentOf_15 rfl rfl ?_
    refine tg_callV (nA := 1) (As := [.int x]) (rest := []) (q := (RX1, TX1, 9)) S hK hN (k_X1_handOf hd σ x) 1 rfl rfl (tw_gV ml_RX1_54 im_X1_handOf se_X1_handOf in_RX1 co_X1_handOf rfl) rfl (by decide +kernel) ⟨Nat.le_of_ble_eq_true rfl, Nat.le_of_ble_eq_true rfl⟩ rfl rfl (Nat.le_of_ble_eq_true rfl) dX1_toldParentOf_16 ⟨Nat.le_of_ble_eq_true rfl, Nat.le_of_ble_eq_true rfl⟩ ?_
    refine tg_istore_n (L' := [(0, .ref (h 1)), (1, .int x), (2, .int (fa_handOf σ x))]) [1, 2, 0] S dX1_toldParentOf_19 rfl (by decide) rfl ?_
    refine tg_iload_n S 2 dX1_toldParentOf_20 rfl rfl ?_
    refine tg_iconst (v := -1) S dX1_toldParentOf_21 (by decide) ?_
    refine tg_icmp_ne (tgt := 31) S dX1_toldParentOf_22 (by decide) (fun c_2 => ?_) (fun c_2 => ?_)
    · skip
      refine tg_iload_n S 2 dX1_toldParentOf_31 rfl rfl ?_
      refine tg_bipush (v := -2) S dX1_toldParentOf_32 (by decide) ?_
      refine tg_icmp_ne (tgt := 41) S dX1_toldParentOf_34 (by decide) (fun c_3 => ?_) (fun c_3 => ?_)
      · skip
        refine tg_iload_n S 2 dX1_toldParentOf_41 rfl rfl ?_
        exact tg_iret S hr hlk dX1_toldParentOf_42 (by simp [fa_told, c_1, c_2, c_3]) rfl
      · skip
        refine tg_iconst (v := -1) S dX1_toldParentOf_37 (by decide) ?_
        refine tg_goto (tgt := 42) S dX1_toldParentOf_38 (by decide) ?_
        exact tg_iret S hr hlk dX1_toldParentOf_42 (by simp [fa_told, c_1, c_2, c_3]) rfl
    · skip
      refine tg_aload_n S 0 dX1_toldParentOf_25 rfl rfl ?_
      refine tg_iload_n S 1 dX1_toldParentOf_26 rfl rfl ?_
      refine tg_callV (nA := 1) (As := [.int x]) (rest := []) (q := (RX1, TX1, 9)) S hK hN (k_X1_parentToldBy hd σ x) 1 rfl rfl (tw_gV ml_RX1_57 im_X1_parentToldBy se_X1_parentToldBy in_RX1 co_X1_parentToldBy rfl) rfl (by decide +kernel) ⟨Nat.le_of_ble_eq_true rfl, Nat.le_of_ble_eq_true rfl⟩ rfl rfl (Nat.le_of_ble_eq_true rfl) dX1_toldParentOf_27 ⟨Nat.le_of_ble_eq_true rfl, Nat.le_of_ble_eq_true rfl⟩ ?_
      exact tg_iret S hr hlk dX1_toldParentOf_30 (by simp [fa_told, c_1, c_2]) rfl
  · skip
    refine tg_aload_n S 0 dX1_toldParentOf_8 rfl rfl ?_
    refine tg_iload_n S 1 dX1_toldParentOf_9 rfl rfl ?_
    refine tg_callV (nA := 1) (As := [.int x]) (rest := []) (q := (RX1, TX1, 9)) S hK hN (k_X1_guessedParentOf hd σ x) 1 rfl rfl (tw_gV ml_RX1_50 im_X1_guessedParentOf se_X1_guessedParentOf in_RX1 co_X1_guessedParentOf rfl) rfl (by decide +kernel) ⟨Nat.le_of_ble_eq_true rfl, Nat.le_of_ble_eq_true rfl⟩ rfl rfl (Nat.le_of_ble_eq_true rfl) dX1_toldParentOf_10 ⟨Nat.le_of_ble_eq_true rfl, Nat.le_of_ble_eq_true rfl⟩ ?_
    exact tg_iret S hr hlk dX1_toldParentOf_13 (by simp [fa_told, c_1]) rfl
set_option maxHeartbeats 4000000 in
set_option maxRecDepth 100000 in
theorem k_X1_isReply {l : Launch} {D : va_G} {h : Nat → Nat} {cI cZ : ClassId} (hd : tw_dis 23 h) (σ : tg_Mem) (x : Int32) : tg_CT l yX1_isReply wzX1_isReply (tg_rm 1) (tw_T h cI cZ) (tw_ty cI cZ) tw_nl (tw_A 23 h) D [.ref (h 1), .int x] σ (some (.int (tg_b (fa_isReply σ x)))) σ := by
  refine tg_met (own := RX1) (cc := cX1_isReply) (maxL := 2) (ret := (some .boolean)) (by decide +kernel) rfl rfl (Nat.le_of_ble_eq_true rfl) ?_
  intro p e s m below meth c S hK hN hr hlk
  refine tg_sub (L' := [(0, .ref (h 1)), (1, .int x)]) [0, 1] rfl ?_
  refine tg_aload_n S 0 dX1_isReply_0 rfl rfl ?_
  refine tg_iload_n S 1 dX1_isReply_1 rfl rfl ?_
  refine tg_callV (nA := 1) (As := [.int x]) (rest := []) (q := (RX1, TX1, 9)) S hK hN (k_X1_holds hd σ x) 1 rfl rfl (tw_gV ml_RX1_44 im_X1_holds se_X1_holds in_RX1 co_X1_holds rfl) rfl (by decide +kernel) ⟨Nat.le_of_ble_eq_true rfl, Nat.le_of_ble_eq_true rfl⟩ rfl rfl (Nat.le_of_ble_eq_true rfl) dX1_isReply_2 ⟨Nat.le_of_ble_eq_true rfl, Nat.le_of_ble_eq_true rfl⟩ ?_
  refine tg_ifz (tgt := 21) S dX1_isReply_5 (by decide) (fun c_1 => ?_) (fun c_1 => ?_)
  · skip
    refine tg_iconst (v := 0) S dX1_isReply_21 (by decide) ?_
    exact tg_zret (b := false) S hr hlk dX1_isReply_22 (congrArg tg_b (by simp [fa_isReply, c_1])) rfl
  · skip
    refine tg_aload_n S 0 dX1_isReply_8 rfl rfl ?_
    refine tg_get (v := .ref (h 7)) S tw_v1 hK 1 rfl rfl 4 (by decide) (tw_in fl_RX1_25 rfl) dX1_isReply_9 rfl ?_
    refine tg_iload_n S 1 dX1_isReply_12 rfl rfl ?_
    refine tg_zald (v := σ 4 x.toNatClampNeg) S hK 7 1 rfl rfl dX1_isReply_13 (fa_holds_in c_1) rfl ?_
    refine tg_if_eq (tgt := 21) S dX1_isReply_14 (by decide) (fun c_2 => ?_) (fun c_2 => ?_)
    · skip
      refine tg_iconst (v := 0) S dX1_isReply_21 (by decide) ?_
      exact tg_zret (b := false) S hr hlk dX1_isReply_22 (congrArg tg_b (by simp [fa_isReply, c_1, c_2])) rfl
    · skip
      refine tg_iconst (v := 1) S dX1_isReply_17 (by decide) ?_
      refine tg_goto (tgt := 22) S dX1_isReply_18 (by decide) ?_
      exact tg_zret (b := true) S hr hlk dX1_isReply_22 (congrArg tg_b (by simp [fa_isReply, c_1, c_2])) rfl
set_option maxHeartbeats 4000000 in
set_option maxRecDepth 100000 in
theorem k_X1_isAnsweredBy {l : Launch} {D : va_G} {h : Nat → Nat} {cI cZ : ClassId} (hd : tw_dis 23 h) (σ : tg_Mem) (x : Int32) (y : Int32) : tg_CT l yX1_isAnsweredBy wzX1_isAnsweredBy (tg_rm 1) (tw_T h cI cZ) (tw_ty cI cZ) tw_nl (tw_A 23 h) D [.ref (h 1), .int x, .int y] σ (some (.int (tg_b (fa_ans σ x y)))) σ := by
  refine tg_met (own := RX1) (cc := cX1_isAnsweredBy) (maxL := 4) (ret := (some .boolean)) (by decide +kernel) rfl rfl (Nat.le_of_ble_eq_true rfl) ?_
  intro p e s m below meth c S hK hN hr hlk
  refine tg_sub (L' := [(0, .ref (h 1)), (1, .int x), (2, .int y)]) [0, 1, 2] rfl ?_
  refine tg_aload_n S 0 dX1_isAnsweredBy_0 rfl rfl ?_
  refine tg_iload_n S 1 dX1_isAnsweredBy_1 rfl rfl ?_
  refine tg_callV (nA := 1) (As := [.int x]) (rest := []) (q := (RX1, TX1, 9)) S hK hN (k_X1_holds hd σ x) 1 rfl rfl (tw_gV ml_RX1_44 im_X1_holds se_X1_holds in_RX1 co_X1_holds rfl) rfl (by decide +kernel) ⟨Nat.le_of_ble_eq_true rfl, Nat.le_of_ble_eq_true rfl⟩ rfl rfl (Nat.le_of_ble_eq_true rfl) dX1_isAnsweredBy_2 ⟨Nat.le_of_ble_eq_true rfl, Nat.le_of_ble_eq_true rfl⟩ ?_
  refine tg_ifz (tgt := 34) S dX1_isAnsweredBy_5 (by decide) (fun c_1 => ?_) (fun c_1 => ?_)
  · skip
    refine tg_iconst (v := 0) S dX1_isAnsweredBy_34 (by decide) ?_
    exact tg_zret (b := false) S hr hlk dX1_isAnsweredBy_35 (congrArg tg_b (by simp [fa_ans, c_1])) rfl
  · skip
    refine tg_aload_n S 0 dX1_isAnsweredBy_8 rfl rfl ?_
    refine tg_iload_n S 2 dX1_isAnsweredBy_9 rfl rfl ?_
    refine tg_callV (nA := 1) (As := [.int y]) (rest := []) (q := (RX1, TX1, 9)) S hK hN (k_X1_holds hd σ y) 1 rfl rfl (tw_gV ml_RX1_44 im_X1_holds se_X1_holds in_RX1 co_X1_holds rfl) rfl (by decide +kernel) ⟨Nat.le_of_ble_eq_true rfl, Nat.le_of_ble_eq_true rfl⟩ rfl rfl (Nat.le_of_ble_eq_true rfl) dX1_isAnsweredBy_10 ⟨Nat.le_of_ble_eq_true rfl, Nat.le_of_ble_eq_true rfl⟩ ?_
    refine tg_ifz (tgt := 34) S dX1_isAnsweredBy_13 (by decide) (fun c_2 => ?_) (fun c_2 => ?_)
    · skip
      refine tg_iconst (v := 0) S dX1_isAnsweredBy_34 (by decide) ?_
      exact tg_zret (b := false) S hr hlk dX1_isAnsweredBy_35 (congrArg tg_b (by simp [fa_ans, c_1, c_2])) rfl
    · skip
      refine tg_aload_n S 0 dX1_isAnsweredBy_16 rfl rfl ?_
      refine tg_get (v := .ref (h 7)) S tw_v1 hK 1 rfl rfl 4 (by decide) (tw_in fl_RX1_25 rfl) dX1_isAnsweredBy_17 rfl ?_
      refine tg_iload_n S 1 dX1_isAnsweredBy_20 rfl rfl ?_
      refine tg_zald (v := σ 4 x.toNatClampNeg) S hK 7 1 rfl rfl dX1_isAnsweredBy_21 (fa_holds_in c_1) rfl ?_
      refine tg_if_ne (tgt := 34) S dX1_isAnsweredBy_22 (by decide) (fun c_3 => ?_) (fun c_3 => ?_)
      · skip
        refine tg_iconst (v := 0) S dX1_isAnsweredBy_34 (by decide) ?_
        exact tg_zret (b := false) S hr hlk dX1_isAnsweredBy_35 (congrArg tg_b (by simp [fa_ans, c_1, c_2, c_3])) rfl
      · skip
        refine tg_aload_n S 0 dX1_isAnsweredBy_25 rfl rfl ?_
        refine tg_get (v := .ref (h 7)) S tw_v1 hK 1 rfl rfl 4 (by decide) (tw_in fl_RX1_25 rfl) dX1_isAnsweredBy_26 rfl ?_
        refine tg_iload_n S 2 dX1_isAnsweredBy_29 rfl rfl ?_
        refine tg_zald (v := σ 4 y.toNatClampNeg) S hK 7 1 rfl rfl dX1_isAnsweredBy_30 (fa_holds_in c_2) rfl ?_
        refine tg_if_ne (tgt := 36) S dX1_isAnsweredBy_31 (by decide) (fun c_4 => ?_) (fun c_4 => ?_)
        · skip
          refine tg_aload_n S 0 dX1_isAnsweredBy_36 rfl rfl ?_
          refine tg_get (v := .ref (h 8)) S tw_v1 hK 1 rfl rfl 5 (by decide) (tw_in fl_RX1_28 rfl) dX1_isAnsweredBy_37 rfl ?_
          refine tg_iload_n S 2 dX1_isAnsweredBy_40 rfl rfl ?_
          refine tg_iald (v := σ 5 y.toNatClampNeg) S hK 8 0 rfl rfl dX1_isAnsweredBy_41 (fa_holds_in c_2) rfl ?_
          refine tg_aload_n S 0 dX1_isAnsweredBy_42 rfl rfl ?_
          refine tg_get (v := .ref (h 8)) S tw_v1 hK 1 rfl rfl 5 (by decide) (tw_in fl_RX1_28 rfl) dX1_isAnsweredBy_43 rfl ?_
          refine tg_iload_n S 1 dX1_isAnsweredBy_46 rfl rfl ?_
          refine tg_iald (v := σ 5 x.toNatClampNeg) S hK 8 0 rfl rfl dX1_isAnsweredBy_47 (fa_holds_in c_1) rfl ?_
          refine tg_isub S dX1_isAnsweredBy_48 ?_
          refine tg_istore_n (L' := [(0, .ref (h 1)), (1, .int x), (2, .int y), (3, .int ((σ 5 y.toNatClampNeg) - (σ 5 x.toNatClampNeg)))]) [1, 2, 3, 0] S dX1_isAnsweredBy_49 rfl (by decide) rfl ?_
          refine tg_aload_n S 0 dX1_isAnsweredBy_50 rfl rfl ?_
          refine tg_get (v := .ref (h 6)) S tw_v1 hK 1 rfl rfl 3 (by decide) (tw_in fl_RX1_22 rfl) dX1_isAnsweredBy_51 rfl ?_
          refine tg_iload_n S 1 dX1_isAnsweredBy_54 rfl rfl ?_
          refine tg_iald (v := σ 3 x.toNatClampNeg) S hK 6 0 rfl rfl dX1_isAnsweredBy_55 (fa_holds_in c_1) rfl ?_
          refine tg_aload_n S 0 dX1_isAnsweredBy_56 rfl rfl ?_
          refine tg_get (v := .ref (h 6)) S tw_v1 hK 1 rfl rfl 3 (by decide) (tw_in fl_RX1_22 rfl) dX1_isAnsweredBy_57 rfl ?_
          refine tg_iload_n S 2 dX1_isAnsweredBy_60 rfl rfl ?_
          refine tg_iald (v := σ 3 y.toNatClampNeg) S hK 6 0 rfl rfl dX1_isAnsweredBy_61 (fa_holds_in c_2) rfl ?_
          refine tg_icmp_ne (tgt := 79) S dX1_isAnsweredBy_62 (by decide) (fun c_5 => ?_) (fun c_5 => ?_)
          · skip
            refine tg_iconst (v := 0) S dX1_isAnsweredBy_79 (by decide) ?_
            exact tg_zret (b := false) S hr hlk dX1_isAnsweredBy_80 (congrArg tg_b (by simp [fa_ans, c_1, c_2, c_3, c_4, c_5])) rfl
          · skip
            refine tg_iload_n S 3 dX1_isAnsweredBy_65 rfl rfl ?_
            refine tg_if_lt (tgt := 79) S dX1_isAnsweredBy_66 (by decide) (fun c_6 => ?_) (fun c_6 => ?_)
            · skip
              refine tg_iconst (v := 0) S dX1_isAnsweredBy_79 (by decide) ?_
              exact tg_zret (b := false) S hr hlk dX1_isAnsweredBy_80 (congrArg tg_b (by simp [fa_ans, c_1, c_2, c_3, c_4, c_5, c_6])) rfl
            · skip
              refine tg_iload_n S 3 dX1_isAnsweredBy_69 rfl rfl ?_
              refine tg_bipush (v := 14) S dX1_isAnsweredBy_70 (by decide) ?_
              refine tg_icmp_gt (tgt := 79) S dX1_isAnsweredBy_72 (by decide) (fun c_7 => ?_) (fun c_7 => ?_)
              · skip
                refine tg_iconst (v := 0) S dX1_isAnsweredBy_79 (by decide) ?_
                exact tg_zret (b := false) S hr hlk dX1_isAnsweredBy_80 (congrArg tg_b (by simp [fa_ans, c_1, c_2, c_3, c_4, c_5, c_6, c_7])) rfl
              · skip
                refine tg_iconst (v := 1) S dX1_isAnsweredBy_75 (by decide) ?_
                refine tg_goto (tgt := 80) S dX1_isAnsweredBy_76 (by decide) ?_
                exact tg_zret (b := true) S hr hlk dX1_isAnsweredBy_80 (congrArg tg_b (by simp [fa_ans, c_1, c_2, c_3, c_4, c_5, c_6, c_7])) rfl
        · skip
          refine tg_iconst (v := 0) S dX1_isAnsweredBy_34 (by decide) ?_
          exact tg_zret (b := false) S hr hlk dX1_isAnsweredBy_35 (congrArg tg_b (by simp [fa_ans, c_1, c_2, c_3, c_4])) rfl
set_option maxHeartbeats 4000000 in
set_option maxRecDepth 100000 in
theorem k_X0_knows {l : Launch} {D : va_G} {h : Nat → Nat} {cI cZ : ClassId} (hd : tw_dis 23 h) (σ : tg_Mem) (x : Int32) : tg_CT l yX0_knows wzX0_knows (tg_rm 1) (tw_T h cI cZ) (tw_ty cI cZ) tw_nl (tw_A 23 h) D [.ref (h 2), .int x] σ (some (.int (tg_b (fa_knows σ x)))) σ := by
  refine tg_met (own := RX0) (cc := cX0_knows) (maxL := 2) (ret := (some .boolean)) (by decide +kernel) rfl rfl (Nat.le_of_ble_eq_true rfl) ?_
  intro p e s m below meth c S hK hN hr hlk
  refine tg_sub (L' := [(0, .ref (h 2)), (1, .int x)]) [0, 1] rfl ?_
  refine tg_iload_n S 1 dX0_knows_0 rfl rfl ?_
  refine tg_callSN (nA := 1) (As := [.int x]) (rest := []) (host := RX2) S hK hN (k_X2_isId hd σ x) (tw_gW co_X2_isId rfl) (List.mem_of_getElem? (i := 9) rfl) (tw_in in_RX2 rfl) (tw_in st_X2_isId rfl) rfl (by decide +kernel) ⟨Nat.le_of_ble_eq_true rfl, Nat.le_of_ble_eq_true rfl⟩ rfl rfl (Nat.le_of_ble_eq_true rfl) dX0_knows_1 ⟨Nat.le_of_ble_eq_true rfl, Nat.le_of_ble_eq_true rfl⟩ ?_
  refine tg_ifz (tgt := 20) S dX0_knows_4 (by decide) (fun c_1 => ?_) (fun c_1 => ?_)
  · skip
    refine tg_iconst (v := 0) S dX0_knows_20 (by decide) ?_
    exact tg_zret (b := false) S hr hlk dX0_knows_21 (congrArg tg_b (by simp [fa_knows, c_1])) rfl
  · skip
    refine tg_aload_n S 0 dX0_knows_7 rfl rfl ?_
    refine tg_get (v := .ref (h 12)) S tw_v0 hK 2 rfl rfl 1 (by decide) (tw_in fl_RX0_9 rfl) dX0_knows_8 rfl ?_
    refine tg_iload_n S 1 dX0_knows_11 rfl rfl ?_
    refine tg_zald (v := σ 9 x.toNatClampNeg) S hK 12 1 rfl rfl dX0_knows_12 (fa_id_in c_1) rfl ?_
    refine tg_if_eq (tgt := 20) S dX0_knows_13 (by decide) (fun c_2 => ?_) (fun c_2 => ?_)
    · skip
      refine tg_iconst (v := 0) S dX0_knows_20 (by decide) ?_
      exact tg_zret (b := false) S hr hlk dX0_knows_21 (congrArg tg_b (by simp [fa_knows, c_1, c_2])) rfl
    · skip
      refine tg_iconst (v := 1) S dX0_knows_16 (by decide) ?_
      refine tg_goto (tgt := 21) S dX0_knows_17 (by decide) ?_
      exact tg_zret (b := true) S hr hlk dX0_knows_21 (congrArg tg_b (by simp [fa_knows, c_1, c_2])) rfl
set_option maxHeartbeats 4000000 in
set_option maxRecDepth 100000 in
theorem k_X0_contains {l : Launch} {D : va_G} {h : Nat → Nat} {cI cZ : ClassId} (hd : tw_dis 23 h) (σ : tg_Mem) (x : Int32) : tg_CT l yX0_contains wzX0_contains (tg_rm 1) (tw_T h cI cZ) (tw_ty cI cZ) tw_nl (tw_A 23 h) D [.ref (h 2), .int x] σ (some (.int (tg_b (fa_cont σ x)))) σ := by
  refine tg_met (own := RX0) (cc := cX0_contains) (maxL := 2) (ret := (some .boolean)) (by decide +kernel) rfl rfl (Nat.le_of_ble_eq_true rfl) ?_
  intro p e s m below meth c S hK hN hr hlk
  refine tg_sub (L' := [(0, .ref (h 2)), (1, .int x)]) [0, 1] rfl ?_
  refine tg_iload_n S 1 dX0_contains_0 rfl rfl ?_
  refine tg_callSN (nA := 1) (As := [.int x]) (rest := []) (host := RX2) S hK hN (k_X2_isId hd σ x) (tw_gW co_X2_isId rfl) (List.mem_of_getElem? (i := 9) rfl) (tw_in in_RX2 rfl) (tw_in st_X2_isId rfl) rfl (by decide +kernel) ⟨Nat.le_of_ble_eq_true rfl, Nat.le_of_ble_eq_true rfl⟩ rfl rfl (Nat.le_of_ble_eq_true rfl) dX0_contains_1 ⟨Nat.le_of_ble_eq_true rfl, Nat.le_of_ble_eq_true rfl⟩ ?_
  refine tg_ifz (tgt := 20) S dX0_contains_4 (by decide) (fun c_1 => ?_) (fun c_1 => ?_)
  · skip
    refine tg_iconst (v := 0) S dX0_contains_20 (by decide) ?_
    exact tg_zret (b := false) S hr hlk dX0_contains_21 (congrArg tg_b (by simp [fa_cont, c_1])) rfl
  · skip
    refine tg_aload_n S 0 dX0_contains_7 rfl rfl ?_
    refine tg_get (v := .ref (h 15)) S tw_v0 hK 2 rfl rfl 4 (by decide) (tw_in fl_RX0_22 rfl) dX0_contains_8 rfl ?_
    refine tg_iload_n S 1 dX0_contains_11 rfl rfl ?_
    refine tg_zald (v := σ 12 x.toNatClampNeg) S hK 15 1 rfl rfl dX0_contains_12 (fa_id_in c_1) rfl ?_
    refine tg_if_eq (tgt := 20) S dX0_contains_13 (by decide) (fun c_2 => ?_) (fun c_2 => ?_)
    · skip
      refine tg_iconst (v := 0) S dX0_contains_20 (by decide) ?_
      exact tg_zret (b := false) S hr hlk dX0_contains_21 (congrArg tg_b (by simp [fa_cont, c_1, c_2])) rfl
    · skip
      refine tg_iconst (v := 1) S dX0_contains_16 (by decide) ?_
      refine tg_goto (tgt := 21) S dX0_contains_17 (by decide) ?_
      exact tg_zret (b := true) S hr hlk dX0_contains_21 (congrArg tg_b (by simp [fa_cont, c_1, c_2])) rfl
set_option maxHeartbeats 4000000 in
set_option maxRecDepth 100000 in
theorem k_X0_parentIn {l : Launch} {D : va_G} {h : Nat → Nat} {cI cZ : ClassId} (hd : tw_dis 23 h) (σ : tg_Mem) (x : Int32) : tg_CT l yX0_parentIn wzX0_parentIn (tg_rm 2) (tw_T h cI cZ) (tw_ty cI cZ) tw_nl (tw_A 23 h) D [.ref (h 2), .int x] σ (some (.int (fa_par σ x))) σ := by
  refine tg_met (own := RX0) (cc := cX0_parentIn) (maxL := 2) (ret := (some .int)) (by decide +kernel) rfl rfl (Nat.le_of_ble_eq_true rfl) ?_
  intro p e s m below meth c S hK hN hr hlk
  refine tg_sub (L' := [(0, .ref (h 2)), (1, .int x)]) [0, 1] rfl ?_
  refine tg_aload_n S 0 dX0_parentIn_0 rfl rfl ?_
  refine tg_iload_n S 1 dX0_parentIn_1 rfl rfl ?_
  refine tg_callV (nA := 1) (As := [.int x]) (rest := []) (q := (RX0, TX0, 13)) S hK hN (k_X0_contains hd σ x) 2 rfl rfl (tw_gV ml_RX0_54 im_X0_contains se_X0_contains in_RX0 co_X0_contains rfl) rfl (by decide +kernel) ⟨Nat.le_of_ble_eq_true rfl, Nat.le_of_ble_eq_true rfl⟩ rfl rfl (Nat.le_of_ble_eq_true rfl) dX0_parentIn_2 ⟨Nat.le_of_ble_eq_true rfl, Nat.le_of_ble_eq_true rfl⟩ ?_
  refine tg_ifz (tgt := 17) S dX0_parentIn_5 (by decide) (fun c_1 => ?_) (fun c_1 => ?_)
  · skip
    refine tg_iconst (v := -1) S dX0_parentIn_17 (by decide) ?_
    exact tg_iret S hr hlk dX0_parentIn_18 (by simp [fa_par, c_1]) rfl
  · skip
    refine tg_aload_n S 0 dX0_parentIn_8 rfl rfl ?_
    refine tg_get (v := .ref (h 14)) S tw_v0 hK 2 rfl rfl 3 (by decide) (tw_in fl_RX0_19 rfl) dX0_parentIn_9 rfl ?_
    refine tg_iload_n S 1 dX0_parentIn_12 rfl rfl ?_
    refine tg_iald (v := σ 11 x.toNatClampNeg) S hK 14 0 rfl rfl dX0_parentIn_13 (fa_cont_in c_1) rfl ?_
    refine tg_goto (tgt := 18) S dX0_parentIn_14 (by decide) ?_
    exact tg_iret S hr hlk dX0_parentIn_18 (by simp [fa_par, c_1]) rfl
set_option maxHeartbeats 4000000 in
set_option maxRecDepth 100000 in
theorem k_X0_countRoots {l : Launch} {D : va_G} {h : Nat → Nat} {cI cZ : ClassId} (hd : tw_dis 23 h) (σ : tg_Mem)  : tg_CT l yX0_countRoots wzX0_countRoots (tg_rm 0) (tw_T h cI cZ) (tw_ty cI cZ) tw_nl (tw_A 23 h) D [.ref (h 2)] σ (some (.int (σ 20 0))) σ := by
  refine tg_met (own := RX0) (cc := cX0_countRoots) (maxL := 1) (ret := (some .int)) (by decide +kernel) rfl rfl (Nat.le_of_ble_eq_true rfl) ?_
  intro p e s m below meth c S hK hN hr hlk
  refine tg_sub (L' := [(0, .ref (h 2))]) [0] rfl ?_
  refine tg_aload_n S 0 dX0_countRoots_0 rfl rfl ?_
  refine tg_get (v := .int (σ 20 0)) S tw_v0 hK 2 rfl rfl 12 (by decide) (tw_in fl_RX0_57 rfl) dX0_countRoots_1 rfl ?_
  exact tg_iret S hr hlk dX0_countRoots_4 rfl rfl
set_option maxHeartbeats 4000000 in
set_option maxRecDepth 100000 in
theorem k_X0_rootIdAt {l : Launch} {D : va_G} {h : Nat → Nat} {cI cZ : ClassId} (hd : tw_dis 23 h) (σ : tg_Mem) (x : Int32) : tg_CT l yX0_rootIdAt wzX0_rootIdAt (tg_rm 1) (tw_T h cI cZ) (tw_ty cI cZ) tw_nl (tw_A 23 h) D [.ref (h 2), .int x] σ (some (.int (fa_rootAt σ x))) σ := by
  refine tg_met (own := RX0) (cc := cX0_rootIdAt) (maxL := 2) (ret := (some .int)) (by decide +kernel) rfl rfl (Nat.le_of_ble_eq_true rfl) ?_
  intro p e s m below meth c S hK hN hr hlk
  refine tg_sub (L' := [(0, .ref (h 2)), (1, .int x)]) [0, 1] rfl ?_
  refine tg_iload_n S 1 dX0_rootIdAt_0 rfl rfl ?_
  refine tg_callSN (nA := 1) (As := [.int x]) (rest := []) (host := RX2) S hK hN (k_X2_isId hd σ x) (tw_gW co_X2_isId rfl) (List.mem_of_getElem? (i := 9) rfl) (tw_in in_RX2 rfl) (tw_in st_X2_isId rfl) rfl (by decide +kernel) ⟨Nat.le_of_ble_eq_true rfl, Nat.le_of_ble_eq_true rfl⟩ rfl rfl (Nat.le_of_ble_eq_true rfl) dX0_rootIdAt_1 ⟨Nat.le_of_ble_eq_true rfl, Nat.le_of_ble_eq_true rfl⟩ ?_
  refine tg_ifz (tgt := 24) S dX0_rootIdAt_4 (by decide) (fun c_1 => ?_) (fun c_1 => ?_)
  · skip
    refine tg_iconst (v := -1) S dX0_rootIdAt_24 (by decide) ?_
    exact tg_iret S hr hlk dX0_rootIdAt_25 (by simp [fa_rootAt, c_1]) rfl
  · skip
    refine tg_iload_n S 1 dX0_rootIdAt_7 rfl rfl ?_
    refine tg_aload_n S 0 dX0_rootIdAt_8 rfl rfl ?_
    refine tg_get (v := .int (σ 20 0)) S tw_v0 hK 2 rfl rfl 12 (by decide) (tw_in fl_RX0_57 rfl) dX0_rootIdAt_9 rfl ?_
    refine tg_icmp_ge (tgt := 24) S dX0_rootIdAt_12 (by decide) (fun c_2 => ?_) (fun c_2 => ?_)
    · skip
      refine tg_iconst (v := -1) S dX0_rootIdAt_24 (by decide) ?_
      exact tg_iret S hr hlk dX0_rootIdAt_25 (by simp [fa_rootAt, c_1, c_2]) rfl
    · skip
      refine tg_aload_n S 0 dX0_rootIdAt_15 rfl rfl ?_
      refine tg_get (v := .ref (h 22)) S tw_v0 hK 2 rfl rfl 11 (by decide) (tw_in fl_RX0_43 rfl) dX0_rootIdAt_16 rfl ?_
      refine tg_iload_n S 1 dX0_rootIdAt_19 rfl rfl ?_
      refine tg_iald (v := σ 19 x.toNatClampNeg) S hK 22 0 rfl rfl dX0_rootIdAt_20 (fa_id_in c_1) rfl ?_
      refine tg_goto (tgt := 25) S dX0_rootIdAt_21 (by decide) ?_
      exact tg_iret S hr hlk dX0_rootIdAt_25 (by simp [fa_rootAt, c_1, c_2]) rfl
set_option maxHeartbeats 4000000 in
set_option maxRecDepth 100000 in
theorem k_X0_countChildren {l : Launch} {D : va_G} {h : Nat → Nat} {cI cZ : ClassId} (hd : tw_dis 23 h) (σ : tg_Mem) (x : Int32) : tg_CT l yX0_countChildren wzX0_countChildren (tg_rm 0) (tw_T h cI cZ) (tw_ty cI cZ) tw_nl (tw_A 23 h) D [.ref (h 2), .int x] σ (some (.int (fa_nch σ x))) σ := by
  refine tg_met (own := RX0) (cc := cX0_countChildren) (maxL := 4) (ret := (some .int)) (by decide +kernel) rfl rfl (Nat.le_of_ble_eq_true rfl) ?_
  intro p e s m below meth c S hK hN hr hlk
  refine tg_sub (L' := [(0, .ref (h 2)), (1, .int x)]) [0, 1] rfl ?_
  refine tg_iconst (v := 0) S dX0_countChildren_0 (by decide) ?_
  refine tg_istore_n (L' := [(0, .ref (h 2)), (1, .int x), (2, .int 0)]) [1, 2, 0] S dX0_countChildren_1 rfl (by decide) rfl ?_
  refine tg_iconst (v := nI 0) S dX0_countChildren_2 (by decide) ?_
  refine tg_istore_n (L' := [(0, .ref (h 2)), (1, .int x), (2, .int 0), (3, .int (nI 0))]) [1, 2, 3, 0] S dX0_countChildren_3 rfl (by decide) rfl ?_
  refine tg_loop (X := Int32) (fa_nchS σ x) 30 0 (fun b => σ) (fun i b => [(0, .ref (h 2)), (1, .int x), (2, .int b), (3, .int (nI i))]) ?_ ?_
  · skip
    intro i b hi_i hk_i
    refine tg_iload_n S 3 dX0_countChildren_4 rfl rfl ?_
    refine tg_bipush (v := 30) S dX0_countChildren_5 (by decide) ?_
    refine tg_icmp_ge (tgt := 29) S dX0_countChildren_7 (by decide) (fun c => absurd c (tg_nge hi_i)) (fun _ => ?_)
    refine tg_aload_n S 0 dX0_countChildren_10 rfl rfl ?_
    refine tg_get (v := .ref (h 14)) S tw_v0 hK 2 rfl rfl 3 (by decide) (tw_in fl_RX0_19 rfl) dX0_countChildren_11 rfl ?_
    refine tg_iload_n S 3 dX0_countChildren_14 rfl rfl ?_
    refine tg_iald (v := σ 11 i) S hK 14 0 rfl rfl dX0_countChildren_15 (tg_in hi_i (by decide)) (congrArg ((σ 11)) (tg_cl (Nat.lt_trans hi_i (by decide)))) ?_
    refine tg_iload_n S 1 dX0_countChildren_16 rfl rfl ?_
    refine tg_icmp_ne (tgt := 23) S dX0_countChildren_17 (by decide) (fun c_1 => ?_) (fun c_1 => ?_)
    · skip
      refine tg_iinc (v := nI (i + 1)) (L' := [(0, .ref (h 2)), (1, .int x), (2, .int b), (3, .int (nI (i + 1)))]) [1, 2, 3, 0] S 3 dX0_countChildren_23 rfl (tg_inc _) (by decide) rfl ?_
      refine tg_goto (tgt := 4) S dX0_countChildren_26 (by decide) ?_
      have e_1 : fa_nchS σ x i b = b := (by first | (simp [fa_nchS, c_1]; done) | (simp only [fa_nchS, if_neg c_1]; done))
      rw [e_1] at hk_i
      exact hk_i
    · skip
      refine tg_iinc (v := b + 1) (L' := [(0, .ref (h 2)), (1, .int x), (2, .int (b + 1)), (3, .int (nI i))]) [1, 2, 0, 3] S 2 dX0_countChildren_20 rfl rfl (by decide) rfl ?_
      refine tg_iinc (v := nI (i + 1)) (L' := [(0, .ref (h 2)), (1, .int x), (2, .int (b + 1)), (3, .int (nI (i + 1)))]) [1, 2, 3, 0] S 3 dX0_countChildren_23 rfl (tg_inc _) (by decide) rfl ?_
      refine tg_goto (tgt := 4) S dX0_countChildren_26 (by decide) ?_
      have e_2 : fa_nchS σ x i b = b + 1 := (by first | (simp [fa_nchS, c_1]; done) | (simp only [fa_nchS, if_pos c_1]; done))
      rw [e_2] at hk_i
      exact hk_i
  · skip
    refine tg_iload_n S 3 dX0_countChildren_4 rfl rfl ?_
    refine tg_bipush (v := 30) S dX0_countChildren_5 (by decide) ?_
    refine tg_icmp_ge (tgt := 29) S dX0_countChildren_7 (by decide) (fun _ => ?_) (fun c => absurd tg_ge c)
    refine tg_iload_n S 2 dX0_countChildren_29 rfl rfl ?_
    exact tg_iret S hr hlk dX0_countChildren_30 (by simp [fa_nch]) rfl
set_option maxHeartbeats 4000000 in
set_option maxRecDepth 100000 in
theorem k_X0_idAt {l : Launch} {D : va_G} {h : Nat → Nat} {cI cZ : ClassId} (hd : tw_dis 23 h) (σ : tg_Mem) (x : Int32) (y : Int32) : tg_CT l yX0_idAt wzX0_idAt (tg_rm 2) (tw_T h cI cZ) (tw_ty cI cZ) tw_nl (tw_A 23 h) D [.ref (h 2), .int x, .int y] σ (some (.int (fa_idAt σ x y))) σ := by
  refine tg_met (own := RX0) (cc := cX0_idAt) (maxL := 4) (ret := (some .int)) (by decide +kernel) rfl rfl (Nat.le_of_ble_eq_true rfl) ?_
  intro p e s m below meth c S hK hN hr hlk
  refine tg_sub (L' := [(0, .ref (h 2)), (1, .int x), (2, .int y)]) [0, 1, 2] rfl ?_
  refine tg_aload_n S 0 dX0_idAt_0 rfl rfl ?_
  refine tg_iload_n S 1 dX0_idAt_1 rfl rfl ?_
  refine tg_callV (nA := 1) (As := [.int x]) (rest := []) (q := (RX0, TX0, 13)) S hK hN (k_X0_contains hd σ x) 2 rfl rfl (tw_gV ml_RX0_54 im_X0_contains se_X0_contains in_RX0 co_X0_contains rfl) rfl (by decide +kernel) ⟨Nat.le_of_ble_eq_true rfl, Nat.le_of_ble_eq_true rfl⟩ rfl rfl (Nat.le_of_ble_eq_true rfl) dX0_idAt_2 ⟨Nat.le_of_ble_eq_true rfl, Nat.le_of_ble_eq_true rfl⟩ ?_
  refine tg_ifz (tgt := 22) S dX0_idAt_5 (by decide) (fun c_1 => ?_) (fun c_1 => ?_)
  · skip
    refine tg_iconst (v := -1) S dX0_idAt_22 (by decide) ?_
    exact tg_iret S hr hlk dX0_idAt_23 (by simp [fa_idAt, c_1]) rfl
  · skip
    refine tg_iload_n S 2 dX0_idAt_8 rfl rfl ?_
    refine tg_if_lt (tgt := 22) S dX0_idAt_9 (by decide) (fun c_2 => ?_) (fun c_2 => ?_)
    · skip
      refine tg_iconst (v := -1) S dX0_idAt_22 (by decide) ?_
      exact tg_iret S hr hlk dX0_idAt_23 (by simp [fa_idAt, c_1, c_2]) rfl
    · skip
      refine tg_iload_n S 2 dX0_idAt_12 rfl rfl ?_
      refine tg_aload_n S 0 dX0_idAt_13 rfl rfl ?_
      refine tg_get (v := .ref (h 18)) S tw_v0 hK 2 rfl rfl 7 (by decide) (tw_in fl_RX0_31 rfl) dX0_idAt_14 rfl ?_
      refine tg_iload_n S 1 dX0_idAt_17 rfl rfl ?_
      refine tg_iald (v := σ 15 x.toNatClampNeg) S hK 18 0 rfl rfl dX0_idAt_18 (fa_cont_in c_1) rfl ?_
      refine tg_icmp_lt (tgt := 24) S dX0_idAt_19 (by decide) (fun c_3 => ?_) (fun c_3 => ?_)
      · skip
        refine tg_aload_n S 0 dX0_idAt_24 rfl rfl ?_
        refine tg_get (v := .ref (h 20)) S tw_v0 hK 2 rfl rfl 9 (by decide) (tw_in fl_RX0_37 rfl) dX0_idAt_25 rfl ?_
        refine tg_iload_n S 1 dX0_idAt_28 rfl rfl ?_
        refine tg_iald (v := σ 17 x.toNatClampNeg) S hK 20 0 rfl rfl dX0_idAt_29 (fa_cont_in c_1) rfl ?_
        refine tg_iload_n S 2 dX0_idAt_30 rfl rfl ?_
        refine tg_iadd S dX0_idAt_31 ?_
        refine tg_istore_n (L' := [(0, .ref (h 2)), (1, .int x), (2, .int y), (3, .int ((σ 17 x.toNatClampNeg) + y))]) [1, 2, 3, 0] S dX0_idAt_32 rfl (by decide) rfl ?_
        refine tg_iload_n S 3 dX0_idAt_33 rfl rfl ?_
        refine tg_callSN (nA := 1) (As := [.int ((σ 17 x.toNatClampNeg) + y)]) (rest := []) (host := RX2) S hK hN (k_X2_isId hd σ ((σ 17 x.toNatClampNeg) + y)) (tw_gW co_X2_isId rfl) (List.mem_of_getElem? (i := 9) rfl) (tw_in in_RX2 rfl) (tw_in st_X2_isId rfl) rfl (by decide +kernel) ⟨Nat.le_of_ble_eq_true rfl, Nat.le_of_ble_eq_true rfl⟩ rfl rfl (Nat.le_of_ble_eq_true rfl) dX0_idAt_34 ⟨Nat.le_of_ble_eq_true rfl, Nat.le_of_ble_eq_true rfl⟩ ?_
        refine tg_ifz (tgt := 49) S dX0_idAt_37 (by decide) (fun c_4 => ?_) (fun c_4 => ?_)
        · skip
          refine tg_iconst (v := -1) S dX0_idAt_49 (by decide) ?_
          exact tg_iret S hr hlk dX0_idAt_50 (by simp [fa_idAt, c_1, c_2, c_3, c_4]) rfl
        · skip
          refine tg_aload_n S 0 dX0_idAt_40 rfl rfl ?_
          refine tg_get (v := .ref (h 21)) S tw_v0 hK 2 rfl rfl 10 (by decide) (tw_in fl_RX0_40 rfl) dX0_idAt_41 rfl ?_
          refine tg_iload_n S 3 dX0_idAt_44 rfl rfl ?_
          refine tg_iald (v := σ 18 ((σ 17 x.toNatClampNeg) + y).toNatClampNeg) S hK 21 0 rfl rfl dX0_idAt_45 (fa_id_in c_4) rfl ?_
          refine tg_goto (tgt := 50) S dX0_idAt_46 (by decide) ?_
          exact tg_iret S hr hlk dX0_idAt_50 (by simp [fa_idAt, c_1, c_2, c_3, c_4]) rfl
      · skip
        refine tg_iconst (v := -1) S dX0_idAt_22 (by decide) ?_
        exact tg_iret S hr hlk dX0_idAt_23 (by simp [fa_idAt, c_1, c_2, c_3]) rfl
set_option maxHeartbeats 4000000 in
set_option maxRecDepth 100000 in
theorem k_X0_isInTree {l : Launch} {D : va_G} {h : Nat → Nat} {cI cZ : ClassId} (hd : tw_dis 23 h) (σ : tg_Mem) (x : Int32) (y : Int32) : tg_CT l yX0_isInTree wzX0_isInTree (tg_rm 3) (tw_T h cI cZ) (tw_ty cI cZ) tw_nl (tw_A 23 h) D [.ref (h 2), .int x, .int y] σ (some (.int (tg_b (fa_inT σ x y)))) σ := by
  refine tg_met (own := RX0) (cc := cX0_isInTree) (maxL := 5) (ret := (some .boolean)) (by decide +kernel) rfl rfl (Nat.le_of_ble_eq_true rfl) ?_
  intro p e s m below meth c S hK hN hr hlk
  obtain ⟨v0, hv0⟩ : ∃ v, fa_inT σ x y = v := ⟨_, rfl⟩
  rw [hv0]
  refine tg_sub (L' := [(0, .ref (h 2)), (1, .int x), (2, .int y)]) [0, 1, 2] rfl ?_
  refine tg_iload_n S 1 dX0_isInTree_0 rfl rfl ?_
  refine tg_istore_n (L' := [(0, .ref (h 2)), (1, .int x), (2, .int y), (3, .int x)]) [1, 2, 3, 0] S dX0_isInTree_1 rfl (by decide) rfl ?_
  refine tg_iconst (v := nI 0) S dX0_isInTree_2 (by decide) ?_
  refine tg_istore (L' := [(0, .ref (h 2)), (1, .int x), (2, .int y), (3, .int x), (4, .int (nI 0))]) [1, 2, 3, 4, 0] S dX0_isInTree_3 (by decide) rfl ?_
  refine tg_fuel (X := Int32) (fa_inF σ y) 30 x (fun a => σ) (fun i a => [(0, .ref (h 2)), (1, .int x), (2, .int y), (3, .int a), (4, .int (nI i))]) hv0 ?_ ?_
  · skip
    intro n1 i a hn_i hF_i hk_i
    have hi_i : i < 30 := by omega
    refine tg_iload_n S 3 dX0_isInTree_5 rfl rfl ?_
    refine tg_callSN (nA := 1) (As := [.int a]) (rest := []) (host := RX2) S hK hN (k_X2_isId hd σ a) (tw_gW co_X2_isId rfl) (List.mem_of_getElem? (i := 9) rfl) (tw_in in_RX2 rfl) (tw_in st_X2_isId rfl) rfl (by decide +kernel) ⟨Nat.le_of_ble_eq_true rfl, Nat.le_of_ble_eq_true rfl⟩ rfl rfl (Nat.le_of_ble_eq_true rfl) dX0_isInTree_6 ⟨Nat.le_of_ble_eq_true rfl, Nat.le_of_ble_eq_true rfl⟩ ?_
    refine tg_ifz (tgt := 38) S dX0_isInTree_9 (by decide) (fun c_1 => ?_) (fun c_1 => ?_)
    · skip
      refine tg_iconst (v := 0) S dX0_isInTree_38 (by decide) ?_
      exact tg_zret (b := false) S hr hlk dX0_isInTree_39 (congrArg tg_b (((by first | (simp [fa_inF, c_1]; done) | (simp only [fa_inF, if_neg (ne_true_of_eq_false c_1)]; done)) : false = fa_inF σ y (n1 + 1) i a).trans hF_i)) rfl
    · skip
      refine tg_iload S 4 dX0_isInTree_12 rfl ?_
      refine tg_bipush (v := 30) S dX0_isInTree_14 (by decide) ?_
      refine tg_icmp_ge (tgt := 38) S dX0_isInTree_16 (by decide) (fun c => absurd c (tg_nge hi_i)) (fun _ => ?_)
      refine tg_iload_n S 3 dX0_isInTree_19 rfl rfl ?_
      refine tg_iload_n S 2 dX0_isInTree_20 rfl rfl ?_
      refine tg_icmp_ne (tgt := 26) S dX0_isInTree_21 (by decide) (fun c_2 => ?_) (fun c_2 => ?_)
      · skip
        refine tg_aload_n S 0 dX0_isInTree_26 rfl rfl ?_
        refine tg_iload_n S 3 dX0_isInTree_27 rfl rfl ?_
        refine tg_callV (nA := 1) (As := [.int a]) (rest := []) (q := (RX0, TX0, 13)) S hK hN (k_X0_parentIn hd σ a) 2 rfl rfl (tw_gV ml_RX0_61 im_X0_parentIn se_X0_parentIn in_RX0 co_X0_parentIn rfl) rfl (by decide +kernel) ⟨Nat.le_of_ble_eq_true rfl, Nat.le_of_ble_eq_true rfl⟩ rfl rfl (Nat.le_of_ble_eq_true rfl) dX0_isInTree_28 ⟨Nat.le_of_ble_eq_true rfl, Nat.le_of_ble_eq_true rfl⟩ ?_
        refine tg_istore_n (L' := [(0, .ref (h 2)), (1, .int x), (2, .int y), (3, .int (fa_par σ a)), (4, .int (nI i))]) [1, 2, 3, 0, 4] S dX0_isInTree_31 rfl (by decide) rfl ?_
        refine tg_iinc (v := nI (i + 1)) (L' := [(0, .ref (h 2)), (1, .int x), (2, .int y), (3, .int (fa_par σ a)), (4, .int (nI (i + 1)))]) [1, 2, 3, 4, 0] S 4 dX0_isInTree_32 rfl (tg_inc _) (by decide) rfl ?_
        refine tg_goto (tgt := 5) S dX0_isInTree_35 (by decide) ?_
        exact hk_i (fa_par σ a) (((by first | (simp [fa_inF, c_1, c_2]; done) | (simp only [fa_inF, if_pos c_1, if_neg c_2]; done)) : fa_inF σ y n1 (i + 1) (fa_par σ a) = fa_inF σ y (n1 + 1) i a).trans hF_i)
      · skip
        refine tg_iconst (v := 1) S dX0_isInTree_24 (by decide) ?_
        exact tg_zret (b := true) S hr hlk dX0_isInTree_25 (congrArg tg_b (((by first | (simp [fa_inF, c_1, c_2]; done) | (simp only [fa_inF, if_pos c_1, if_pos c_2]; done)) : true = fa_inF σ y (n1 + 1) i a).trans hF_i)) rfl
  · skip
    intro a hF_i
    refine tg_iload_n S 3 dX0_isInTree_5 rfl rfl ?_
    refine tg_callSN (nA := 1) (As := [.int a]) (rest := []) (host := RX2) S hK hN (k_X2_isId hd σ a) (tw_gW co_X2_isId rfl) (List.mem_of_getElem? (i := 9) rfl) (tw_in in_RX2 rfl) (tw_in st_X2_isId rfl) rfl (by decide +kernel) ⟨Nat.le_of_ble_eq_true rfl, Nat.le_of_ble_eq_true rfl⟩ rfl rfl (Nat.le_of_ble_eq_true rfl) dX0_isInTree_6 ⟨Nat.le_of_ble_eq_true rfl, Nat.le_of_ble_eq_true rfl⟩ ?_
    refine tg_ifz (tgt := 38) S dX0_isInTree_9 (by decide) (fun c_3 => ?_) (fun c_3 => ?_)
    · skip
      refine tg_iconst (v := 0) S dX0_isInTree_38 (by decide) ?_
      exact tg_zret (b := false) S hr hlk dX0_isInTree_39 (congrArg tg_b (((by first | (simp [fa_inF, c_3]; done) | (simp only [fa_inF, if_neg (ne_true_of_eq_false c_3)]; done)) : false = fa_inF σ y 0 30 a).trans hF_i)) rfl
    · skip
      refine tg_iload S 4 dX0_isInTree_12 rfl ?_
      refine tg_bipush (v := 30) S dX0_isInTree_14 (by decide) ?_
      refine tg_icmp_ge (tgt := 38) S dX0_isInTree_16 (by decide) (fun _ => ?_) (fun c => absurd tg_ge c)
      refine tg_iconst (v := 0) S dX0_isInTree_38 (by decide) ?_
      exact tg_zret (b := false) S hr hlk dX0_isInTree_39 (congrArg tg_b (((by first | (simp [fa_inF, c_3]; done) | (simp only [fa_inF, if_pos c_3]; done)) : false = fa_inF σ y 0 30 a).trans hF_i)) rfl
set_option maxHeartbeats 4000000 in
set_option maxRecDepth 100000 in
theorem k_X0_learn {l : Launch} {D : va_G} {h : Nat → Nat} {cI cZ : ClassId} (hd : tw_dis 23 h) (σ : tg_Mem) (x : Int32) : tg_CT l yX0_learn wzX0_learn (tg_rm 1) (tw_T h cI cZ) (tw_ty cI cZ) tw_nl (tw_A 23 h) D [.ref (h 2), .int x] σ none (fa_learn σ x) := by
  refine tg_met (own := RX0) (cc := cX0_learn) (maxL := 2) (ret := none) (by decide +kernel) rfl rfl (Nat.le_of_ble_eq_true rfl) ?_
  intro p e s m below meth c S hK hN hr hlk
  refine tg_sub (L' := [(0, .ref (h 2)), (1, .int x)]) [0, 1] rfl ?_
  refine tg_iload_n S 1 dX0_learn_0 rfl rfl ?_
  refine tg_callSN (nA := 1) (As := [.int x]) (rest := []) (host := RX2) S hK hN (k_X2_isId hd σ x) (tw_gW co_X2_isId rfl) (List.mem_of_getElem? (i := 9) rfl) (tw_in in_RX2 rfl) (tw_in st_X2_isId rfl) rfl (by decide +kernel) ⟨Nat.le_of_ble_eq_true rfl, Nat.le_of_ble_eq_true rfl⟩ rfl rfl (Nat.le_of_ble_eq_true rfl) dX0_learn_1 ⟨Nat.le_of_ble_eq_true rfl, Nat.le_of_ble_eq_true rfl⟩ ?_
  refine tg_ifz (tgt := 14) S dX0_learn_4 (by decide) (fun c_1 => ?_) (fun c_1 => ?_)
  · skip
    exact tg_vret S hr hlk dX0_learn_14 (by simp [fa_learn, c_1])
  · skip
    refine tg_aload_n S 0 dX0_learn_7 rfl rfl ?_
    refine tg_get (v := .ref (h 12)) S tw_v0 hK 2 rfl rfl 1 (by decide) (tw_in fl_RX0_9 rfl) dX0_learn_8 rfl ?_
    refine tg_iload_n S 1 dX0_learn_11 rfl rfl ?_
    refine tg_iconst (v := 1) S dX0_learn_12 (by decide) ?_
    refine tg_zast (b := true) (σ2 := tg_set σ 9 x.toNatClampNeg 1) S hK (tw_TD hd) 12 1 rfl rfl dX0_learn_13 (fa_id_in c_1) rfl ?_
    exact tg_vret S hr hlk dX0_learn_14 (by simp [fa_learn, c_1])
set_option maxHeartbeats 4000000 in
set_option maxRecDepth 100000 in
theorem k_X0_findKnown {l : Launch} {D : va_G} {h : Nat → Nat} {cI cZ : ClassId} (hd : tw_dis 23 h) (σ : tg_Mem)  : tg_CT l yX0_findKnown wzX0_findKnown (tg_rm 2) (tw_T h cI cZ) (tw_ty cI cZ) tw_nl (tw_A 23 h) D [.ref (h 2)] σ none (fa_findKnown σ) := by
  refine tg_met (own := RX0) (cc := cX0_findKnown) (maxL := 2) (ret := none) (by decide +kernel) rfl rfl (Nat.le_of_ble_eq_true rfl) ?_
  intro p e s m below meth c S hK hN hr hlk
  refine tg_sub (L' := [(0, .ref (h 2))]) [0] rfl ?_
  refine tg_iconst (v := nI 0) S dX0_findKnown_0 (by decide) ?_
  refine tg_istore_n (L' := [(0, .ref (h 2)), (1, .int (nI 0))]) [1, 0] S dX0_findKnown_1 rfl (by decide) rfl ?_
  refine tg_loop (X := tg_Mem) fa_fk1 30 σ (fun τ => τ) (fun i τ => [(0, .ref (h 2)), (1, .int (nI i))]) ?_ ?_
  · skip
    intro i τ hi_i hk_i
    refine tg_iload_n S 1 dX0_findKnown_2 rfl rfl ?_
    refine tg_bipush (v := 30) S dX0_findKnown_3 (by decide) ?_
    refine tg_icmp_ge (tgt := 28) S dX0_findKnown_5 (by decide) (fun c => absurd c (tg_nge hi_i)) (fun _ => ?_)
    refine tg_aload_n S 0 dX0_findKnown_8 rfl rfl ?_
    refine tg_get (v := .ref (h 12)) S tw_v0 hK 2 rfl rfl 1 (by decide) (tw_in fl_RX0_9 rfl) dX0_findKnown_9 rfl ?_
    refine tg_iload_n S 1 dX0_findKnown_12 rfl rfl ?_
    refine tg_aload_n S 0 dX0_findKnown_13 rfl rfl ?_
    refine tg_get (v := .ref (h 1)) S tw_v0 hK 2 rfl rfl 0 (by decide) (tw_in fl_RX0_46 rfl) dX0_findKnown_14 rfl ?_
    refine tg_iload_n S 1 dX0_findKnown_17 rfl rfl ?_
    refine tg_callN (nA := 1) (As := [.int (nI i)]) (rest := [.int (nI i), .ref (h 12)]) (host := RX2) (q := (RX1, TX1, 9)) S hK hN (k_X1_holds hd τ (nI i)) 1 rfl rfl (tw_gW co_X1_holds rfl) (List.mem_of_getElem? (i := 7) rfl) (tw_in in_RX1 rfl) (tw_in im_X1_holds rfl) (tw_in se_X1_holds rfl) rfl (by decide +kernel) ⟨Nat.le_of_ble_eq_true rfl, Nat.le_of_ble_eq_true rfl⟩ rfl rfl (Nat.le_of_ble_eq_true rfl) dX0_findKnown_18 ⟨Nat.le_of_ble_eq_true rfl, Nat.le_of_ble_eq_true rfl⟩ ?_
    refine tg_zast (b := fa_holds τ (nI i)) (σ2 := tg_set τ 9 i (tg_b (fa_holds τ (nI i)))) S hK (tw_TD hd) 12 1 rfl rfl dX0_findKnown_21 (tg_in hi_i (by decide)) (by rw [tg_cl (Nat.lt_trans hi_i (by decide))]; rfl) ?_
    refine tg_iinc (v := nI (i + 1)) (L' := [(0, .ref (h 2)), (1, .int (nI (i + 1)))]) [1, 0] S 1 dX0_findKnown_22 rfl (tg_inc _) (by decide) rfl ?_
    refine tg_goto (tgt := 2) S dX0_findKnown_25 (by decide) ?_
    have e_1 : fa_fk1 i τ = tg_set τ 9 i (tg_b (fa_holds τ (nI i))) := (by first | (simp [fa_fk1]; done))
    rw [e_1] at hk_i
    exact hk_i
  · skip
    refine tg_iload_n S 1 dX0_findKnown_2 rfl rfl ?_
    refine tg_bipush (v := 30) S dX0_findKnown_3 (by decide) ?_
    refine tg_icmp_ge (tgt := 28) S dX0_findKnown_5 (by decide) (fun _ => ?_) (fun c => absurd tg_ge c)
    refine tg_iconst (v := nI 0) S dX0_findKnown_28 (by decide) ?_
    refine tg_istore_n (L' := [(0, .ref (h 2)), (1, .int (nI 0))]) [1, 0] S dX0_findKnown_29 rfl (by decide) rfl ?_
    refine tg_loop (X := tg_Mem) fa_fk2 30 (tg_it fa_fk1 σ 30) (fun τ => τ) (fun i τ => [(0, .ref (h 2)), (1, .int (nI i))]) ?_ ?_
    · skip
      intro i τ hi_i hk_i
      refine tg_iload_n S 1 dX0_findKnown_30 rfl rfl ?_
      refine tg_bipush (v := 30) S dX0_findKnown_31 (by decide) ?_
      refine tg_icmp_ge (tgt := 78) S dX0_findKnown_33 (by decide) (fun c => absurd c (tg_nge hi_i)) (fun _ => ?_)
      refine tg_aload_n S 0 dX0_findKnown_36 rfl rfl ?_
      refine tg_aload_n S 0 dX0_findKnown_37 rfl rfl ?_
      refine tg_get (v := .ref (h 1)) S tw_v0 hK 2 rfl rfl 0 (by decide) (tw_in fl_RX0_46 rfl) dX0_findKnown_38 rfl ?_
      refine tg_iload_n S 1 dX0_findKnown_41 rfl rfl ?_
      refine tg_callN (nA := 1) (As := [.int (nI i)]) (rest := [.ref (h 2)]) (host := RX2) (q := (RX1, TX1, 9)) S hK hN (k_X1_parentToldBy hd τ (nI i)) 1 rfl rfl (tw_gW co_X1_parentToldBy rfl) (List.mem_of_getElem? (i := 8) rfl) (tw_in in_RX1 rfl) (tw_in im_X1_parentToldBy rfl) (tw_in se_X1_parentToldBy rfl) rfl (by decide +kernel) ⟨Nat.le_of_ble_eq_true rfl, Nat.le_of_ble_eq_true rfl⟩ rfl rfl (Nat.le_of_ble_eq_true rfl) dX0_findKnown_42 ⟨Nat.le_of_ble_eq_true rfl, Nat.le_of_ble_eq_true rfl⟩ ?_
      refine tg_callV (nA := 1) (As := [.int (fa_pTold τ (nI i))]) (rest := []) (q := (RX0, TX0, 13)) S hK hN (k_X0_learn hd τ (fa_pTold τ (nI i))) 2 rfl rfl (tw_gV ml_RX0_97 im_X0_learn se_X0_learn in_RX0 co_X0_learn rfl) rfl (by decide +kernel) ⟨Nat.le_of_ble_eq_true rfl, Nat.le_of_ble_eq_true rfl⟩ rfl rfl (Nat.le_of_ble_eq_true rfl) dX0_findKnown_45 ⟨Nat.le_of_ble_eq_true rfl, Nat.le_of_ble_eq_true rfl⟩ ?_
      refine tg_aload_n S 0 dX0_findKnown_48 rfl rfl ?_
      refine tg_aload_n S 0 dX0_findKnown_49 rfl rfl ?_
      refine tg_get (v := .ref (h 1)) S tw_v0 hK 2 rfl rfl 0 (by decide) (tw_in fl_RX0_46 rfl) dX0_findKnown_50 rfl ?_
      refine tg_iload_n S 1 dX0_findKnown_53 rfl rfl ?_
      refine tg_callN (nA := 1) (As := [.int (nI i)]) (rest := [.ref (h 2)]) (host := RX2) (q := (RX1, TX1, 9)) S hK hN (k_X1_grandparentToldBy hd (fa_learn τ (fa_pTold τ (nI i))) (nI i)) 1 rfl rfl (tw_gW co_X1_grandparentToldBy rfl) (List.mem_of_getElem? (i := 10) rfl) (tw_in in_RX1 rfl) (tw_in im_X1_grandparentToldBy rfl) (tw_in se_X1_grandparentToldBy rfl) rfl (by decide +kernel) ⟨Nat.le_of_ble_eq_true rfl, Nat.le_of_ble_eq_true rfl⟩ rfl rfl (Nat.le_of_ble_eq_true rfl) dX0_findKnown_54 ⟨Nat.le_of_ble_eq_true rfl, Nat.le_of_ble_eq_true rfl⟩ ?_
      refine tg_callV (nA := 1) (As := [.int (fa_gTold (fa_learn τ (fa_pTold τ (nI i))) (nI i))]) (rest := []) (q := (RX0, TX0, 13)) S hK hN (k_X0_learn hd (fa_learn τ (fa_pTold τ (nI i))) (fa_gTold (fa_learn τ (fa_pTold τ (nI i))) (nI i))) 2 rfl rfl (tw_gV ml_RX0_97 im_X0_learn se_X0_learn in_RX0 co_X0_learn rfl) rfl (by decide +kernel) ⟨Nat.le_of_ble_eq_true rfl, Nat.le_of_ble_eq_true rfl⟩ rfl rfl (Nat.le_of_ble_eq_true rfl) dX0_findKnown_57 ⟨Nat.le_of_ble_eq_true rfl, Nat.le_of_ble_eq_true rfl⟩ ?_
      refine tg_aload_n S 0 dX0_findKnown_60 rfl rfl ?_
      refine tg_aload_n S 0 dX0_findKnown_61 rfl rfl ?_
      refine tg_get (v := .ref (h 1)) S tw_v0 hK 2 rfl rfl 0 (by decide) (tw_in fl_RX0_46 rfl) dX0_findKnown_62 rfl ?_
      refine tg_iload_n S 1 dX0_findKnown_65 rfl rfl ?_
      refine tg_callN (nA := 1) (As := [.int (nI i)]) (rest := [.ref (h 2)]) (host := RX2) (q := (RX1, TX1, 9)) S hK hN (k_X1_handOf hd (fa_learn (fa_learn τ (fa_pTold τ (nI i))) (fa_gTold (fa_learn τ (fa_pTold τ (nI i))) (nI i))) (nI i)) 1 rfl rfl (tw_gW co_X1_handOf rfl) (List.mem_of_getElem? (i := 11) rfl) (tw_in in_RX1 rfl) (tw_in im_X1_handOf rfl) (tw_in se_X1_handOf rfl) rfl (by decide +kernel) ⟨Nat.le_of_ble_eq_true rfl, Nat.le_of_ble_eq_true rfl⟩ rfl rfl (Nat.le_of_ble_eq_true rfl) dX0_findKnown_66 ⟨Nat.le_of_ble_eq_true rfl, Nat.le_of_ble_eq_true rfl⟩ ?_
      refine tg_callV (nA := 1) (As := [.int (fa_handOf (fa_learn (fa_learn τ (fa_pTold τ (nI i))) (fa_gTold (fa_learn τ (fa_pTold τ (nI i))) (nI i))) (nI i))]) (rest := []) (q := (RX0, TX0, 13)) S hK hN (k_X0_learn hd (fa_learn (fa_learn τ (fa_pTold τ (nI i))) (fa_gTold (fa_learn τ (fa_pTold τ (nI i))) (nI i))) (fa_handOf (fa_learn (fa_learn τ (fa_pTold τ (nI i))) (fa_gTold (fa_learn τ (fa_pTold τ (nI i))) (nI i))) (nI i))) 2 rfl rfl (tw_gV ml_RX0_97 im_X0_learn se_X0_learn in_RX0 co_X0_learn rfl) rfl (by decide +kernel) ⟨Nat.le_of_ble_eq_true rfl, Nat.le_of_ble_eq_true rfl⟩ rfl rfl (Nat.le_of_ble_eq_true rfl) dX0_findKnown_69 ⟨Nat.le_of_ble_eq_true rfl, Nat.le_of_ble_eq_true rfl⟩ ?_
      refine tg_iinc (v := nI (i + 1)) (L' := [(0, .ref (h 2)), (1, .int (nI (i + 1)))]) [1, 0] S 1 dX0_findKnown_72 rfl (tg_inc _) (by decide) rfl ?_
      refine tg_goto (tgt := 30) S dX0_findKnown_75 (by decide) ?_
      have e_2 : fa_fk2 i τ = fa_learn (fa_learn (fa_learn τ (fa_pTold τ (nI i))) (fa_gTold (fa_learn τ (fa_pTold τ (nI i))) (nI i))) (fa_handOf (fa_learn (fa_learn τ (fa_pTold τ (nI i))) (fa_gTold (fa_learn τ (fa_pTold τ (nI i))) (nI i))) (nI i)) := (by first | (simp [fa_fk2]; done))
      rw [e_2] at hk_i
      exact hk_i
    · skip
      refine tg_iload_n S 1 dX0_findKnown_30 rfl rfl ?_
      refine tg_bipush (v := 30) S dX0_findKnown_31 (by decide) ?_
      refine tg_icmp_ge (tgt := 78) S dX0_findKnown_33 (by decide) (fun _ => ?_) (fun c => absurd tg_ge c)
      exact tg_vret S hr hlk dX0_findKnown_78 (by simp [fa_findKnown])
set_option maxHeartbeats 4000000 in
set_option maxRecDepth 100000 in
theorem k_X0_linksLead {l : Launch} {D : va_G} {h : Nat → Nat} {cI cZ : ClassId} (hd : tw_dis 23 h) (σ : tg_Mem) (x : Int32) (y : Int32) : tg_CT l yX0_linksLead wzX0_linksLead (tg_rm 1) (tw_T h cI cZ) (tw_ty cI cZ) tw_nl (tw_A 23 h) D [.ref (h 2), .int x, .int y] σ (some (.int (tg_b (fa_lead σ x y)))) σ := by
  refine tg_met (own := RX0) (cc := cX0_linksLead) (maxL := 5) (ret := (some .boolean)) (by decide +kernel) rfl rfl (Nat.le_of_ble_eq_true rfl) ?_
  intro p e s m below meth c S hK hN hr hlk
  obtain ⟨v0, hv0⟩ : ∃ v, fa_lead σ x y = v := ⟨_, rfl⟩
  rw [hv0]
  refine tg_sub (L' := [(0, .ref (h 2)), (1, .int x), (2, .int y)]) [0, 1, 2] rfl ?_
  refine tg_iload_n S 1 dX0_linksLead_0 rfl rfl ?_
  refine tg_istore_n (L' := [(0, .ref (h 2)), (1, .int x), (2, .int y), (3, .int x)]) [1, 2, 3, 0] S dX0_linksLead_1 rfl (by decide) rfl ?_
  refine tg_iconst (v := nI 0) S dX0_linksLead_2 (by decide) ?_
  refine tg_istore (L' := [(0, .ref (h 2)), (1, .int x), (2, .int y), (3, .int x), (4, .int (nI 0))]) [1, 2, 3, 4, 0] S dX0_linksLead_3 (by decide) rfl ?_
  refine tg_fuel (X := Int32) (fa_leadF σ y) 30 x (fun a => σ) (fun i a => [(0, .ref (h 2)), (1, .int x), (2, .int y), (3, .int a), (4, .int (nI i))]) hv0 ?_ ?_
  · skip
    intro n1 i a hn_i hF_i hk_i
    have hi_i : i < 30 := by omega
    refine tg_iload_n S 3 dX0_linksLead_5 rfl rfl ?_
    refine tg_callSN (nA := 1) (As := [.int a]) (rest := []) (host := RX2) S hK hN (k_X2_isId hd σ a) (tw_gW co_X2_isId rfl) (List.mem_of_getElem? (i := 9) rfl) (tw_in in_RX2 rfl) (tw_in st_X2_isId rfl) rfl (by decide +kernel) ⟨Nat.le_of_ble_eq_true rfl, Nat.le_of_ble_eq_true rfl⟩ rfl rfl (Nat.le_of_ble_eq_true rfl) dX0_linksLead_6 ⟨Nat.le_of_ble_eq_true rfl, Nat.le_of_ble_eq_true rfl⟩ ?_
    refine tg_ifz (tgt := 39) S dX0_linksLead_9 (by decide) (fun c_1 => ?_) (fun c_1 => ?_)
    · skip
      refine tg_iconst (v := 0) S dX0_linksLead_39 (by decide) ?_
      exact tg_zret (b := false) S hr hlk dX0_linksLead_40 (congrArg tg_b (((by first | (simp [fa_leadF, c_1]; done) | (simp only [fa_leadF, if_neg (ne_true_of_eq_false c_1)]; done)) : false = fa_leadF σ y (n1 + 1) i a).trans hF_i)) rfl
    · skip
      refine tg_iload S 4 dX0_linksLead_12 rfl ?_
      refine tg_bipush (v := 30) S dX0_linksLead_14 (by decide) ?_
      refine tg_icmp_ge (tgt := 39) S dX0_linksLead_16 (by decide) (fun c => absurd c (tg_nge hi_i)) (fun _ => ?_)
      refine tg_iload_n S 3 dX0_linksLead_19 rfl rfl ?_
      refine tg_iload_n S 2 dX0_linksLead_20 rfl rfl ?_
      refine tg_icmp_ne (tgt := 26) S dX0_linksLead_21 (by decide) (fun c_2 => ?_) (fun c_2 => ?_)
      · skip
        refine tg_aload_n S 0 dX0_linksLead_26 rfl rfl ?_
        refine tg_get (v := .ref (h 13)) S tw_v0 hK 2 rfl rfl 2 (by decide) (tw_in fl_RX0_15 rfl) dX0_linksLead_27 rfl ?_
        refine tg_iload_n S 3 dX0_linksLead_30 rfl rfl ?_
        refine tg_iald (v := σ 10 a.toNatClampNeg) S hK 13 0 rfl rfl dX0_linksLead_31 (fa_id_in c_1) rfl ?_
        refine tg_istore_n (L' := [(0, .ref (h 2)), (1, .int x), (2, .int y), (3, .int (σ 10 a.toNatClampNeg)), (4, .int (nI i))]) [1, 2, 3, 0, 4] S dX0_linksLead_32 rfl (by decide) rfl ?_
        refine tg_iinc (v := nI (i + 1)) (L' := [(0, .ref (h 2)), (1, .int x), (2, .int y), (3, .int (σ 10 a.toNatClampNeg)), (4, .int (nI (i + 1)))]) [1, 2, 3, 4, 0] S 4 dX0_linksLead_33 rfl (tg_inc _) (by decide) rfl ?_
        refine tg_goto (tgt := 5) S dX0_linksLead_36 (by decide) ?_
        exact hk_i (σ 10 a.toNatClampNeg) (((by first | (simp [fa_leadF, c_1, c_2]; done) | (simp only [fa_leadF, if_pos c_1, if_neg c_2]; done)) : fa_leadF σ y n1 (i + 1) (σ 10 a.toNatClampNeg) = fa_leadF σ y (n1 + 1) i a).trans hF_i)
      · skip
        refine tg_iconst (v := 1) S dX0_linksLead_24 (by decide) ?_
        exact tg_zret (b := true) S hr hlk dX0_linksLead_25 (congrArg tg_b (((by first | (simp [fa_leadF, c_1, c_2]; done) | (simp only [fa_leadF, if_pos c_1, if_pos c_2]; done)) : true = fa_leadF σ y (n1 + 1) i a).trans hF_i)) rfl
  · skip
    intro a hF_i
    refine tg_iload_n S 3 dX0_linksLead_5 rfl rfl ?_
    refine tg_callSN (nA := 1) (As := [.int a]) (rest := []) (host := RX2) S hK hN (k_X2_isId hd σ a) (tw_gW co_X2_isId rfl) (List.mem_of_getElem? (i := 9) rfl) (tw_in in_RX2 rfl) (tw_in st_X2_isId rfl) rfl (by decide +kernel) ⟨Nat.le_of_ble_eq_true rfl, Nat.le_of_ble_eq_true rfl⟩ rfl rfl (Nat.le_of_ble_eq_true rfl) dX0_linksLead_6 ⟨Nat.le_of_ble_eq_true rfl, Nat.le_of_ble_eq_true rfl⟩ ?_
    refine tg_ifz (tgt := 39) S dX0_linksLead_9 (by decide) (fun c_3 => ?_) (fun c_3 => ?_)
    · skip
      refine tg_iconst (v := 0) S dX0_linksLead_39 (by decide) ?_
      exact tg_zret (b := false) S hr hlk dX0_linksLead_40 (congrArg tg_b (((by first | (simp [fa_leadF, c_3]; done) | (simp only [fa_leadF, if_neg (ne_true_of_eq_false c_3)]; done)) : false = fa_leadF σ y 0 30 a).trans hF_i)) rfl
    · skip
      refine tg_iload S 4 dX0_linksLead_12 rfl ?_
      refine tg_bipush (v := 30) S dX0_linksLead_14 (by decide) ?_
      refine tg_icmp_ge (tgt := 39) S dX0_linksLead_16 (by decide) (fun _ => ?_) (fun c => absurd tg_ge c)
      refine tg_iconst (v := 0) S dX0_linksLead_39 (by decide) ?_
      exact tg_zret (b := false) S hr hlk dX0_linksLead_40 (congrArg tg_b (((by first | (simp [fa_leadF, c_3]; done) | (simp only [fa_leadF, if_pos c_3]; done)) : false = fa_leadF σ y 0 30 a).trans hF_i)) rfl
set_option maxHeartbeats 4000000 in
set_option maxRecDepth 100000 in
theorem k_X0_linkKnown {l : Launch} {D : va_G} {h : Nat → Nat} {cI cZ : ClassId} (hd : tw_dis 23 h) (σ : tg_Mem)  : tg_CT l yX0_linkKnown wzX0_linkKnown (tg_rm 4) (tw_T h cI cZ) (tw_ty cI cZ) tw_nl (tw_A 23 h) D [.ref (h 2)] σ none (fa_linkKnown σ) := by
  refine tg_met (own := RX0) (cc := cX0_linkKnown) (maxL := 3) (ret := none) (by decide +kernel) rfl rfl (Nat.le_of_ble_eq_true rfl) ?_
  intro p e s m below meth c S hK hN hr hlk
  refine tg_sub (L' := [(0, .ref (h 2))]) [0] rfl ?_
  refine tg_iconst (v := nI 0) S dX0_linkKnown_0 (by decide) ?_
  refine tg_istore_n (L' := [(0, .ref (h 2)), (1, .int (nI 0))]) [1, 0] S dX0_linkKnown_1 rfl (by decide) rfl ?_
  refine tg_loop (X := tg_Mem) fa_lk1 30 σ (fun τ => τ) (fun i τ => [(0, .ref (h 2)), (1, .int (nI i))]) ?_ ?_
  · skip
    intro i τ hi_i hk_i
    refine tg_iload_n S 1 dX0_linkKnown_2 rfl rfl ?_
    refine tg_bipush (v := 30) S dX0_linkKnown_3 (by decide) ?_
    refine tg_icmp_ge (tgt := 21) S dX0_linkKnown_5 (by decide) (fun c => absurd c (tg_nge hi_i)) (fun _ => ?_)
    refine tg_aload_n S 0 dX0_linkKnown_8 rfl rfl ?_
    refine tg_get (v := .ref (h 13)) S tw_v0 hK 2 rfl rfl 2 (by decide) (tw_in fl_RX0_15 rfl) dX0_linkKnown_9 rfl ?_
    refine tg_iload_n S 1 dX0_linkKnown_12 rfl rfl ?_
    refine tg_iconst (v := -1) S dX0_linkKnown_13 (by decide) ?_
    refine tg_iast (σ2 := tg_set τ 10 i (-1)) S hK (tw_TD hd) 13 0 rfl rfl dX0_linkKnown_14 (tg_in hi_i (by decide)) (by rw [tg_cl (Nat.lt_trans hi_i (by decide))]; rfl) ?_
    refine tg_iinc (v := nI (i + 1)) (L' := [(0, .ref (h 2)), (1, .int (nI (i + 1)))]) [1, 0] S 1 dX0_linkKnown_15 rfl (tg_inc _) (by decide) rfl ?_
    refine tg_goto (tgt := 2) S dX0_linkKnown_18 (by decide) ?_
    have e_1 : fa_lk1 i τ = tg_set τ 10 i (-1) := (by first | (simp [fa_lk1]; done))
    rw [e_1] at hk_i
    exact hk_i
  · skip
    refine tg_iload_n S 1 dX0_linkKnown_2 rfl rfl ?_
    refine tg_bipush (v := 30) S dX0_linkKnown_3 (by decide) ?_
    refine tg_icmp_ge (tgt := 21) S dX0_linkKnown_5 (by decide) (fun _ => ?_) (fun c => absurd tg_ge c)
    refine tg_iconst (v := nI 0) S dX0_linkKnown_21 (by decide) ?_
    refine tg_istore_n (L' := [(0, .ref (h 2)), (1, .int (nI 0))]) [1, 0] S dX0_linkKnown_22 rfl (by decide) rfl ?_
    refine tg_loop (X := tg_Mem) fa_lk2 30 (tg_it fa_lk1 σ 30) (fun τ => τ) (fun i τ => [(0, .ref (h 2)), (1, .int (nI i))]) ?_ ?_
    · skip
      intro i τ hi_i hk_i
      refine tg_iload_n S 1 dX0_linkKnown_23 rfl rfl ?_
      refine tg_bipush (v := 30) S dX0_linkKnown_24 (by decide) ?_
      refine tg_icmp_ge (tgt := 73) S dX0_linkKnown_26 (by decide) (fun c => absurd c (tg_nge hi_i)) (fun _ => ?_)
      refine tg_aload_n S 0 dX0_linkKnown_29 rfl rfl ?_
      refine tg_get (v := .ref (h 12)) S tw_v0 hK 2 rfl rfl 1 (by decide) (tw_in fl_RX0_9 rfl) dX0_linkKnown_30 rfl ?_
      refine tg_iload_n S 1 dX0_linkKnown_33 rfl rfl ?_
      refine tg_zald (v := τ 9 i) S hK 12 1 rfl rfl dX0_linkKnown_34 (tg_in hi_i (by decide)) (congrArg ((τ 9)) (tg_cl (Nat.lt_trans hi_i (by decide)))) ?_
      refine tg_if_eq (tgt := 67) S dX0_linkKnown_35 (by decide) (fun c_1 => ?_) (fun c_1 => ?_)
      · skip
        refine tg_iinc (v := nI (i + 1)) (L' := [(0, .ref (h 2)), (1, .int (nI (i + 1)))]) [1, 0] S 1 dX0_linkKnown_67 rfl (tg_inc _) (by decide) rfl ?_
        refine tg_goto (tgt := 23) S dX0_linkKnown_70 (by decide) ?_
        have e_2 : fa_lk2 i τ = τ := (by first | (simp [fa_lk2, c_1]; done) | (simp only [fa_lk2, if_pos c_1]; done))
        rw [e_2] at hk_i
        exact hk_i
      · skip
        refine tg_aload_n S 0 dX0_linkKnown_38 rfl rfl ?_
        refine tg_get (v := .ref (h 1)) S tw_v0 hK 2 rfl rfl 0 (by decide) (tw_in fl_RX0_46 rfl) dX0_linkKnown_39 rfl ?_
        refine tg_iload_n S 1 dX0_linkKnown_42 rfl rfl ?_
        refine tg_callN (nA := 1) (As := [.int (nI i)]) (rest := []) (host := RX2) (q := (RX1, TX1, 9)) S hK hN (k_X1_toldParentOf hd τ (nI i)) 1 rfl rfl (tw_gW co_X1_toldParentOf rfl) (List.mem_of_getElem? (i := 12) rfl) (tw_in in_RX1 rfl) (tw_in im_X1_toldParentOf rfl) (tw_in se_X1_toldParentOf rfl) rfl (by decide +kernel) ⟨Nat.le_of_ble_eq_true rfl, Nat.le_of_ble_eq_true rfl⟩ rfl rfl (Nat.le_of_ble_eq_true rfl) dX0_linkKnown_43 ⟨Nat.le_of_ble_eq_true rfl, Nat.le_of_ble_eq_true rfl⟩ ?_
        refine tg_istore_n (L' := [(0, .ref (h 2)), (1, .int (nI i)), (2, .int (fa_told τ (nI i)))]) [1, 2, 0] S dX0_linkKnown_46 rfl (by decide) rfl ?_
        refine tg_aload_n S 0 dX0_linkKnown_47 rfl rfl ?_
        refine tg_get (v := .ref (h 13)) S tw_v0 hK 2 rfl rfl 2 (by decide) (tw_in fl_RX0_15 rfl) dX0_linkKnown_48 rfl ?_
        refine tg_iload_n S 1 dX0_linkKnown_51 rfl rfl ?_
        refine tg_aload_n S 0 dX0_linkKnown_52 rfl rfl ?_
        refine tg_iload_n S 2 dX0_linkKnown_53 rfl rfl ?_
        refine tg_iload_n S 1 dX0_linkKnown_54 rfl rfl ?_
        refine tg_callV (nA := 2) (As := [.int (fa_told τ (nI i)), .int (nI i)]) (rest := [.int (nI i), .ref (h 13)]) (q := (RX0, TX0, 13)) S hK hN (k_X0_linksLead hd τ (fa_told τ (nI i)) (nI i)) 2 rfl rfl (tw_gV ml_RX0_110 im_X0_linksLead se_X0_linksLead in_RX0 co_X0_linksLead rfl) rfl (by decide +kernel) ⟨Nat.le_of_ble_eq_true rfl, Nat.le_of_ble_eq_true rfl⟩ rfl rfl (Nat.le_of_ble_eq_true rfl) dX0_linkKnown_55 ⟨Nat.le_of_ble_eq_true rfl, Nat.le_of_ble_eq_true rfl⟩ ?_
        refine tg_ifz (tgt := 65) S dX0_linkKnown_58 (by decide) (fun c_2 => ?_) (fun c_2 => ?_)
        · skip
          refine tg_iload_n S 2 dX0_linkKnown_65 rfl rfl ?_
          refine tg_iast (σ2 := tg_set τ 10 i (fa_told τ (nI i))) S hK (tw_TD hd) 13 0 rfl rfl dX0_linkKnown_66 (tg_in hi_i (by decide)) (by rw [tg_cl (Nat.lt_trans hi_i (by decide))]; rfl) ?_
          refine tg_iinc (v := nI (i + 1)) (L' := [(0, .ref (h 2)), (1, .int (nI (i + 1))), (2, .int (fa_told τ (nI i)))]) [1, 0, 2] S 1 dX0_linkKnown_67 rfl (tg_inc _) (by decide) rfl ?_
          refine tg_goto (tgt := 23) S dX0_linkKnown_70 (by decide) ?_
          refine tg_sub (L' := [(0, .ref (h 2)), (1, .int (nI (i + 1)))]) [0, 1] rfl ?_
          have e_3 : fa_lk2 i τ = tg_set τ 10 i (fa_told τ (nI i)) := (by first | (simp [fa_lk2, c_1, c_2]; done) | (simp only [fa_lk2, if_neg c_1, if_neg (ne_true_of_eq_false c_2)]; done))
          rw [e_3] at hk_i
          exact hk_i
        · skip
          refine tg_iconst (v := -1) S dX0_linkKnown_61 (by decide) ?_
          refine tg_goto (tgt := 66) S dX0_linkKnown_62 (by decide) ?_
          refine tg_iast (σ2 := tg_set τ 10 i (-1)) S hK (tw_TD hd) 13 0 rfl rfl dX0_linkKnown_66 (tg_in hi_i (by decide)) (by rw [tg_cl (Nat.lt_trans hi_i (by decide))]; rfl) ?_
          refine tg_iinc (v := nI (i + 1)) (L' := [(0, .ref (h 2)), (1, .int (nI (i + 1))), (2, .int (fa_told τ (nI i)))]) [1, 0, 2] S 1 dX0_linkKnown_67 rfl (tg_inc _) (by decide) rfl ?_
          refine tg_goto (tgt := 23) S dX0_linkKnown_70 (by decide) ?_
          refine tg_sub (L' := [(0, .ref (h 2)), (1, .int (nI (i + 1)))]) [0, 1] rfl ?_
          have e_4 : fa_lk2 i τ = tg_set τ 10 i (-1) := (by first | (simp [fa_lk2, c_1, c_2]; done) | (simp only [fa_lk2, if_neg c_1, if_pos c_2]; done))
          rw [e_4] at hk_i
          exact hk_i
    · skip
      refine tg_iload_n S 1 dX0_linkKnown_23 rfl rfl ?_
      refine tg_bipush (v := 30) S dX0_linkKnown_24 (by decide) ?_
      refine tg_icmp_ge (tgt := 73) S dX0_linkKnown_26 (by decide) (fun _ => ?_) (fun c => absurd tg_ge c)
      exact tg_vret S hr hlk dX0_linkKnown_73 (by simp [fa_linkKnown])
set_option maxHeartbeats 4000000 in
set_option maxRecDepth 100000 in
theorem k_X0_parentByLinks {l : Launch} {D : va_G} {h : Nat → Nat} {cI cZ : ClassId} (hd : tw_dis 23 h) (σ : tg_Mem) (x : Int32) : tg_CT l yX0_parentByLinks wzX0_parentByLinks (tg_rm 1) (tw_T h cI cZ) (tw_ty cI cZ) tw_nl (tw_A 23 h) D [.ref (h 2), .int x] σ (some (.int (fa_pbl σ x))) σ := by
  refine tg_met (own := RX0) (cc := cX0_parentByLinks) (maxL := 4) (ret := (some .int)) (by decide +kernel) rfl rfl (Nat.le_of_ble_eq_true rfl) ?_
  intro p e s m below meth c S hK hN hr hlk
  obtain ⟨v0, hv0⟩ : ∃ v, fa_pbl σ x = v := ⟨_, rfl⟩
  rw [hv0]
  refine tg_sub (L' := [(0, .ref (h 2)), (1, .int x)]) [0, 1] rfl ?_
  refine tg_iload_n S 1 dX0_parentByLinks_0 rfl rfl ?_
  refine tg_istore_n (L' := [(0, .ref (h 2)), (1, .int x), (2, .int x)]) [1, 2, 0] S dX0_parentByLinks_1 rfl (by decide) rfl ?_
  refine tg_iconst (v := nI 0) S dX0_parentByLinks_2 (by decide) ?_
  refine tg_istore_n (L' := [(0, .ref (h 2)), (1, .int x), (2, .int x), (3, .int (nI 0))]) [1, 2, 3, 0] S dX0_parentByLinks_3 rfl (by decide) rfl ?_
  refine tg_fuel (X := Int32) (fa_pblF σ) 30 x (fun a => σ) (fun i a => [(0, .ref (h 2)), (1, .int x), (2, .int a), (3, .int (nI i))]) hv0 ?_ ?_
  · skip
    intro n1 i a hn_i hF_i hk_i
    have hi_i : i < 30 := by omega
    refine tg_iload_n S 2 dX0_parentByLinks_4 rfl rfl ?_
    refine tg_callSN (nA := 1) (As := [.int a]) (rest := []) (host := RX2) S hK hN (k_X2_isId hd σ a) (tw_gW co_X2_isId rfl) (List.mem_of_getElem? (i := 9) rfl) (tw_in in_RX2 rfl) (tw_in st_X2_isId rfl) rfl (by decide +kernel) ⟨Nat.le_of_ble_eq_true rfl, Nat.le_of_ble_eq_true rfl⟩ rfl rfl (Nat.le_of_ble_eq_true rfl) dX0_parentByLinks_5 ⟨Nat.le_of_ble_eq_true rfl, Nat.le_of_ble_eq_true rfl⟩ ?_
    refine tg_ifz (tgt := 53) S dX0_parentByLinks_8 (by decide) (fun c_1 => ?_) (fun c_1 => ?_)
    · skip
      refine tg_iconst (v := -1) S dX0_parentByLinks_53 (by decide) ?_
      exact tg_iret S hr hlk dX0_parentByLinks_54 (((by first | (simp [fa_pblF, c_1]; done) | (simp only [fa_pblF, if_neg (ne_true_of_eq_false c_1)]; done)) : -1 = fa_pblF σ (n1 + 1) i a).trans hF_i) rfl
    · skip
      refine tg_iload_n S 3 dX0_parentByLinks_11 rfl rfl ?_
      refine tg_bipush (v := 30) S dX0_parentByLinks_12 (by decide) ?_
      refine tg_icmp_ge (tgt := 53) S dX0_parentByLinks_14 (by decide) (fun c => absurd c (tg_nge hi_i)) (fun _ => ?_)
      refine tg_aload_n S 0 dX0_parentByLinks_17 rfl rfl ?_
      refine tg_get (v := .ref (h 1)) S tw_v0 hK 2 rfl rfl 0 (by decide) (tw_in fl_RX0_46 rfl) dX0_parentByLinks_18 rfl ?_
      refine tg_iload_n S 2 dX0_parentByLinks_21 rfl rfl ?_
      refine tg_callN (nA := 1) (As := [.int a]) (rest := []) (host := RX2) (q := (RX1, TX1, 9)) S hK hN (k_X1_holds hd σ a) 1 rfl rfl (tw_gW co_X1_holds rfl) (List.mem_of_getElem? (i := 7) rfl) (tw_in in_RX1 rfl) (tw_in im_X1_holds rfl) (tw_in se_X1_holds rfl) rfl (by decide +kernel) ⟨Nat.le_of_ble_eq_true rfl, Nat.le_of_ble_eq_true rfl⟩ rfl rfl (Nat.le_of_ble_eq_true rfl) dX0_parentByLinks_22 ⟨Nat.le_of_ble_eq_true rfl, Nat.le_of_ble_eq_true rfl⟩ ?_
      refine tg_ifnz (tgt := 38) S dX0_parentByLinks_25 (by decide) (fun c_2 => ?_) (fun c_2 => ?_)
      · skip
        refine tg_iload_n S 2 dX0_parentByLinks_38 rfl rfl ?_
        exact tg_iret S hr hlk dX0_parentByLinks_39 (((by first | (simp [fa_pblF, c_1, c_2]; done) | (simp only [fa_pblF, if_pos c_1, if_pos c_2]; done)) : a = fa_pblF σ (n1 + 1) i a).trans hF_i) rfl
      · skip
        refine tg_aload_n S 0 dX0_parentByLinks_28 rfl rfl ?_
        refine tg_get (v := .ref (h 13)) S tw_v0 hK 2 rfl rfl 2 (by decide) (tw_in fl_RX0_15 rfl) dX0_parentByLinks_29 rfl ?_
        refine tg_iload_n S 2 dX0_parentByLinks_32 rfl rfl ?_
        refine tg_iald (v := σ 10 a.toNatClampNeg) S hK 13 0 rfl rfl dX0_parentByLinks_33 (fa_id_in c_1) rfl ?_
        refine tg_iconst (v := -1) S dX0_parentByLinks_34 (by decide) ?_
        refine tg_icmp_ne (tgt := 40) S dX0_parentByLinks_35 (by decide) (fun c_3 => ?_) (fun c_3 => ?_)
        · skip
          refine tg_aload_n S 0 dX0_parentByLinks_40 rfl rfl ?_
          refine tg_get (v := .ref (h 13)) S tw_v0 hK 2 rfl rfl 2 (by decide) (tw_in fl_RX0_15 rfl) dX0_parentByLinks_41 rfl ?_
          refine tg_iload_n S 2 dX0_parentByLinks_44 rfl rfl ?_
          refine tg_iald (v := σ 10 a.toNatClampNeg) S hK 13 0 rfl rfl dX0_parentByLinks_45 (fa_id_in c_1) rfl ?_
          refine tg_istore_n (L' := [(0, .ref (h 2)), (1, .int x), (2, .int (σ 10 a.toNatClampNeg)), (3, .int (nI i))]) [1, 2, 0, 3] S dX0_parentByLinks_46 rfl (by decide) rfl ?_
          refine tg_iinc (v := nI (i + 1)) (L' := [(0, .ref (h 2)), (1, .int x), (2, .int (σ 10 a.toNatClampNeg)), (3, .int (nI (i + 1)))]) [1, 2, 3, 0] S 3 dX0_parentByLinks_47 rfl (tg_inc _) (by decide) rfl ?_
          refine tg_goto (tgt := 4) S dX0_parentByLinks_50 (by decide) ?_
          exact hk_i (σ 10 a.toNatClampNeg) (((by first | (simp [fa_pblF, c_1, c_2, c_3]; done) | (simp only [fa_pblF, if_pos c_1, if_neg (ne_true_of_eq_false c_2), if_neg c_3]; done)) : fa_pblF σ n1 (i + 1) (σ 10 a.toNatClampNeg) = fa_pblF σ (n1 + 1) i a).trans hF_i)
        · skip
          refine tg_iload_n S 2 dX0_parentByLinks_38 rfl rfl ?_
          exact tg_iret S hr hlk dX0_parentByLinks_39 (((by first | (simp [fa_pblF, c_1, c_2, c_3]; done) | (simp only [fa_pblF, if_pos c_1, if_neg (ne_true_of_eq_false c_2), if_pos c_3]; done)) : a = fa_pblF σ (n1 + 1) i a).trans hF_i) rfl
  · skip
    intro a hF_i
    refine tg_iload_n S 2 dX0_parentByLinks_4 rfl rfl ?_
    refine tg_callSN (nA := 1) (As := [.int a]) (rest := []) (host := RX2) S hK hN (k_X2_isId hd σ a) (tw_gW co_X2_isId rfl) (List.mem_of_getElem? (i := 9) rfl) (tw_in in_RX2 rfl) (tw_in st_X2_isId rfl) rfl (by decide +kernel) ⟨Nat.le_of_ble_eq_true rfl, Nat.le_of_ble_eq_true rfl⟩ rfl rfl (Nat.le_of_ble_eq_true rfl) dX0_parentByLinks_5 ⟨Nat.le_of_ble_eq_true rfl, Nat.le_of_ble_eq_true rfl⟩ ?_
    refine tg_ifz (tgt := 53) S dX0_parentByLinks_8 (by decide) (fun c_4 => ?_) (fun c_4 => ?_)
    · skip
      refine tg_iconst (v := -1) S dX0_parentByLinks_53 (by decide) ?_
      exact tg_iret S hr hlk dX0_parentByLinks_54 (((by first | (simp [fa_pblF, c_4]; done) | (simp only [fa_pblF, if_neg (ne_true_of_eq_false c_4)]; done)) : -1 = fa_pblF σ 0 30 a).trans hF_i) rfl
    · skip
      refine tg_iload_n S 3 dX0_parentByLinks_11 rfl rfl ?_
      refine tg_bipush (v := 30) S dX0_parentByLinks_12 (by decide) ?_
      refine tg_icmp_ge (tgt := 53) S dX0_parentByLinks_14 (by decide) (fun _ => ?_) (fun c => absurd tg_ge c)
      refine tg_iconst (v := -1) S dX0_parentByLinks_53 (by decide) ?_
      exact tg_iret S hr hlk dX0_parentByLinks_54 (((by first | (simp [fa_pblF, c_4]; done) | (simp only [fa_pblF, if_pos c_4]; done)) : -1 = fa_pblF σ 0 30 a).trans hF_i) rfl
set_option maxHeartbeats 4000000 in
set_option maxRecDepth 100000 in
theorem k_X0_hangByLinks {l : Launch} {D : va_G} {h : Nat → Nat} {cI cZ : ClassId} (hd : tw_dis 23 h) (σ : tg_Mem)  : tg_CT l yX0_hangByLinks wzX0_hangByLinks (tg_rm 2) (tw_T h cI cZ) (tw_ty cI cZ) tw_nl (tw_A 23 h) D [.ref (h 2)] σ none (fa_hangByLinks σ) := by
  refine tg_met (own := RX0) (cc := cX0_hangByLinks) (maxL := 2) (ret := none) (by decide +kernel) rfl rfl (Nat.le_of_ble_eq_true rfl) ?_
  intro p e s m below meth c S hK hN hr hlk
  refine tg_sub (L' := [(0, .ref (h 2))]) [0] rfl ?_
  refine tg_iconst (v := nI 0) S dX0_hangByLinks_0 (by decide) ?_
  refine tg_istore_n (L' := [(0, .ref (h 2)), (1, .int (nI 0))]) [1, 0] S dX0_hangByLinks_1 rfl (by decide) rfl ?_
  refine tg_loop (X := tg_Mem) fa_hb 30 σ (fun τ => τ) (fun i τ => [(0, .ref (h 2)), (1, .int (nI i))]) ?_ ?_
  · skip
    intro i τ hi_i hk_i
    refine tg_iload_n S 1 dX0_hangByLinks_2 rfl rfl ?_
    refine tg_bipush (v := 30) S dX0_hangByLinks_3 (by decide) ?_
    refine tg_icmp_ge (tgt := 45) S dX0_hangByLinks_5 (by decide) (fun c => absurd c (tg_nge hi_i)) (fun _ => ?_)
    refine tg_aload_n S 0 dX0_hangByLinks_8 rfl rfl ?_
    refine tg_get (v := .ref (h 14)) S tw_v0 hK 2 rfl rfl 3 (by decide) (tw_in fl_RX0_19 rfl) dX0_hangByLinks_9 rfl ?_
    refine tg_iload_n S 1 dX0_hangByLinks_12 rfl rfl ?_
    refine tg_aload_n S 0 dX0_hangByLinks_13 rfl rfl ?_
    refine tg_get (v := .ref (h 1)) S tw_v0 hK 2 rfl rfl 0 (by decide) (tw_in fl_RX0_46 rfl) dX0_hangByLinks_14 rfl ?_
    refine tg_iload_n S 1 dX0_hangByLinks_17 rfl rfl ?_
    refine tg_callN (nA := 1) (As := [.int (nI i)]) (rest := [.int (nI i), .ref (h 14)]) (host := RX2) (q := (RX1, TX1, 9)) S hK hN (k_X1_holds hd τ (nI i)) 1 rfl rfl (tw_gW co_X1_holds rfl) (List.mem_of_getElem? (i := 7) rfl) (tw_in in_RX1 rfl) (tw_in im_X1_holds rfl) (tw_in se_X1_holds rfl) rfl (by decide +kernel) ⟨Nat.le_of_ble_eq_true rfl, Nat.le_of_ble_eq_true rfl⟩ rfl rfl (Nat.le_of_ble_eq_true rfl) dX0_hangByLinks_18 ⟨Nat.le_of_ble_eq_true rfl, Nat.le_of_ble_eq_true rfl⟩ ?_
    refine tg_ifz (tgt := 37) S dX0_hangByLinks_21 (by decide) (fun c_1 => ?_) (fun c_1 => ?_)
    · skip
      refine tg_iconst (v := -1) S dX0_hangByLinks_37 (by decide) ?_
      refine tg_iast (σ2 := tg_set τ 11 i (-1)) S hK (tw_TD hd) 14 0 rfl rfl dX0_hangByLinks_38 (tg_in hi_i (by decide)) (by rw [tg_cl (Nat.lt_trans hi_i (by decide))]; rfl) ?_
      refine tg_iinc (v := nI (i + 1)) (L' := [(0, .ref (h 2)), (1, .int (nI (i + 1)))]) [1, 0] S 1 dX0_hangByLinks_39 rfl (tg_inc _) (by decide) rfl ?_
      refine tg_goto (tgt := 2) S dX0_hangByLinks_42 (by decide) ?_
      have e_1 : fa_hb i τ = tg_set τ 11 i (-1) := (by first | (simp [fa_hb, c_1]; done) | (simp only [fa_hb, if_neg (ne_true_of_eq_false c_1)]; done))
      rw [e_1] at hk_i
      exact hk_i
    · skip
      refine tg_aload_n S 0 dX0_hangByLinks_24 rfl rfl ?_
      refine tg_aload_n S 0 dX0_hangByLinks_25 rfl rfl ?_
      refine tg_get (v := .ref (h 13)) S tw_v0 hK 2 rfl rfl 2 (by decide) (tw_in fl_RX0_15 rfl) dX0_hangByLinks_26 rfl ?_
      refine tg_iload_n S 1 dX0_hangByLinks_29 rfl rfl ?_
      refine tg_iald (v := τ 10 i) S hK 13 0 rfl rfl dX0_hangByLinks_30 (tg_in hi_i (by decide)) (congrArg ((τ 10)) (tg_cl (Nat.lt_trans hi_i (by decide)))) ?_
      refine tg_callV (nA := 1) (As := [.int (τ 10 i)]) (rest := [.int (nI i), .ref (h 14)]) (q := (RX0, TX0, 13)) S hK hN (k_X0_parentByLinks hd τ (τ 10 i)) 2 rfl rfl (tw_gV ml_RX0_114 im_X0_parentByLinks se_X0_parentByLinks in_RX0 co_X0_parentByLinks rfl) rfl (by decide +kernel) ⟨Nat.le_of_ble_eq_true rfl, Nat.le_of_ble_eq_true rfl⟩ rfl rfl (Nat.le_of_ble_eq_true rfl) dX0_hangByLinks_31 ⟨Nat.le_of_ble_eq_true rfl, Nat.le_of_ble_eq_true rfl⟩ ?_
      refine tg_goto (tgt := 38) S dX0_hangByLinks_34 (by decide) ?_
      refine tg_iast (σ2 := tg_set τ 11 i (fa_pbl τ (τ 10 i))) S hK (tw_TD hd) 14 0 rfl rfl dX0_hangByLinks_38 (tg_in hi_i (by decide)) (by rw [tg_cl (Nat.lt_trans hi_i (by decide))]; rfl) ?_
      refine tg_iinc (v := nI (i + 1)) (L' := [(0, .ref (h 2)), (1, .int (nI (i + 1)))]) [1, 0] S 1 dX0_hangByLinks_39 rfl (tg_inc _) (by decide) rfl ?_
      refine tg_goto (tgt := 2) S dX0_hangByLinks_42 (by decide) ?_
      have e_2 : fa_hb i τ = tg_set τ 11 i (fa_pbl τ (τ 10 i)) := (by first | (simp [fa_hb, c_1]; done) | (simp only [fa_hb, if_pos c_1]; done))
      rw [e_2] at hk_i
      exact hk_i
  · skip
    refine tg_iload_n S 1 dX0_hangByLinks_2 rfl rfl ?_
    refine tg_bipush (v := 30) S dX0_hangByLinks_3 (by decide) ?_
    refine tg_icmp_ge (tgt := 45) S dX0_hangByLinks_5 (by decide) (fun _ => ?_) (fun c => absurd tg_ge c)
    exact tg_vret S hr hlk dX0_hangByLinks_45 (by simp [fa_hangByLinks])
set_option maxHeartbeats 4000000 in
set_option maxRecDepth 100000 in
theorem k_X0_freeChildren {l : Launch} {D : va_G} {h : Nat → Nat} {cI cZ : ClassId} (hd : tw_dis 23 h) (σ : tg_Mem) (x : Int32) : tg_CT l yX0_freeChildren wzX0_freeChildren (tg_rm 0) (tw_T h cI cZ) (tw_ty cI cZ) tw_nl (tw_A 23 h) D [.ref (h 2), .int x] σ none (fa_free σ x) := by
  refine tg_met (own := RX0) (cc := cX0_freeChildren) (maxL := 3) (ret := none) (by decide +kernel) rfl rfl (Nat.le_of_ble_eq_true rfl) ?_
  intro p e s m below meth c S hK hN hr hlk
  refine tg_sub (L' := [(0, .ref (h 2)), (1, .int x)]) [0, 1] rfl ?_
  refine tg_iconst (v := nI 0) S dX0_freeChildren_0 (by decide) ?_
  refine tg_istore_n (L' := [(0, .ref (h 2)), (1, .int x), (2, .int (nI 0))]) [1, 2, 0] S dX0_freeChildren_1 rfl (by decide) rfl ?_
  refine tg_loop (X := tg_Mem) (fa_fr x) 30 σ (fun τ => τ) (fun i τ => [(0, .ref (h 2)), (1, .int x), (2, .int (nI i))]) ?_ ?_
  · skip
    intro i τ hi_i hk_i
    refine tg_iload_n S 2 dX0_freeChildren_2 rfl rfl ?_
    refine tg_bipush (v := 30) S dX0_freeChildren_3 (by decide) ?_
    refine tg_icmp_ge (tgt := 31) S dX0_freeChildren_5 (by decide) (fun c => absurd c (tg_nge hi_i)) (fun _ => ?_)
    refine tg_aload_n S 0 dX0_freeChildren_8 rfl rfl ?_
    refine tg_get (v := .ref (h 14)) S tw_v0 hK 2 rfl rfl 3 (by decide) (tw_in fl_RX0_19 rfl) dX0_freeChildren_9 rfl ?_
    refine tg_iload_n S 2 dX0_freeChildren_12 rfl rfl ?_
    refine tg_iald (v := τ 11 i) S hK 14 0 rfl rfl dX0_freeChildren_13 (tg_in hi_i (by decide)) (congrArg ((τ 11)) (tg_cl (Nat.lt_trans hi_i (by decide)))) ?_
    refine tg_iload_n S 1 dX0_freeChildren_14 rfl rfl ?_
    refine tg_icmp_ne (tgt := 25) S dX0_freeChildren_15 (by decide) (fun c_1 => ?_) (fun c_1 => ?_)
    · skip
      refine tg_iinc (v := nI (i + 1)) (L' := [(0, .ref (h 2)), (1, .int x), (2, .int (nI (i + 1)))]) [1, 2, 0] S 2 dX0_freeChildren_25 rfl (tg_inc _) (by decide) rfl ?_
      refine tg_goto (tgt := 2) S dX0_freeChildren_28 (by decide) ?_
      have e_1 : fa_fr x i τ = τ := (by first | (simp [fa_fr, c_1]; done) | (simp only [fa_fr, if_neg c_1]; done))
      rw [e_1] at hk_i
      exact hk_i
    · skip
      refine tg_aload_n S 0 dX0_freeChildren_18 rfl rfl ?_
      refine tg_get (v := .ref (h 14)) S tw_v0 hK 2 rfl rfl 3 (by decide) (tw_in fl_RX0_19 rfl) dX0_freeChildren_19 rfl ?_
      refine tg_iload_n S 2 dX0_freeChildren_22 rfl rfl ?_
      refine tg_iconst (v := -1) S dX0_freeChildren_23 (by decide) ?_
      refine tg_iast (σ2 := tg_set τ 11 i (-1)) S hK (tw_TD hd) 14 0 rfl rfl dX0_freeChildren_24 (tg_in hi_i (by decide)) (by rw [tg_cl (Nat.lt_trans hi_i (by decide))]; rfl) ?_
      refine tg_iinc (v := nI (i + 1)) (L' := [(0, .ref (h 2)), (1, .int x), (2, .int (nI (i + 1)))]) [1, 2, 0] S 2 dX0_freeChildren_25 rfl (tg_inc _) (by decide) rfl ?_
      refine tg_goto (tgt := 2) S dX0_freeChildren_28 (by decide) ?_
      have e_2 : fa_fr x i τ = tg_set τ 11 i (-1) := (by first | (simp [fa_fr, c_1]; done) | (simp only [fa_fr, if_pos c_1]; done))
      rw [e_2] at hk_i
      exact hk_i
  · skip
    refine tg_iload_n S 2 dX0_freeChildren_2 rfl rfl ?_
    refine tg_bipush (v := 30) S dX0_freeChildren_3 (by decide) ?_
    refine tg_icmp_ge (tgt := 31) S dX0_freeChildren_5 (by decide) (fun _ => ?_) (fun c => absurd tg_ge c)
    exact tg_vret S hr hlk dX0_freeChildren_31 (by simp [fa_free])
set_option maxHeartbeats 4000000 in
set_option maxRecDepth 100000 in
theorem k_X0_keepMissing {l : Launch} {D : va_G} {h : Nat → Nat} {cI cZ : ClassId} (hd : tw_dis 23 h) (σ : tg_Mem)  : tg_CT l yX0_keepMissing wzX0_keepMissing (tg_rm 1) (tw_T h cI cZ) (tw_ty cI cZ) tw_nl (tw_A 23 h) D [.ref (h 2)] σ none (fa_keepMissing σ) := by
  refine tg_met (own := RX0) (cc := cX0_keepMissing) (maxL := 2) (ret := none) (by decide +kernel) rfl rfl (Nat.le_of_ble_eq_true rfl) ?_
  intro p e s m below meth c S hK hN hr hlk
  refine tg_sub (L' := [(0, .ref (h 2))]) [0] rfl ?_
  refine tg_iconst (v := nI 0) S dX0_keepMissing_0 (by decide) ?_
  refine tg_istore_n (L' := [(0, .ref (h 2)), (1, .int (nI 0))]) [1, 0] S dX0_keepMissing_1 rfl (by decide) rfl ?_
  refine tg_loop (X := tg_Mem) fa_km 30 σ (fun τ => τ) (fun i τ => [(0, .ref (h 2)), (1, .int (nI i))]) ?_ ?_
  · skip
    intro i τ hi_i hk_i
    refine tg_iload_n S 1 dX0_keepMissing_2 rfl rfl ?_
    refine tg_bipush (v := 30) S dX0_keepMissing_3 (by decide) ?_
    refine tg_icmp_ge (tgt := 59) S dX0_keepMissing_5 (by decide) (fun c => absurd c (tg_nge hi_i)) (fun _ => ?_)
    refine tg_aload_n S 0 dX0_keepMissing_8 rfl rfl ?_
    refine tg_get (v := .ref (h 15)) S tw_v0 hK 2 rfl rfl 4 (by decide) (tw_in fl_RX0_22 rfl) dX0_keepMissing_9 rfl ?_
    refine tg_iload_n S 1 dX0_keepMissing_12 rfl rfl ?_
    refine tg_aload_n S 0 dX0_keepMissing_13 rfl rfl ?_
    refine tg_get (v := .ref (h 1)) S tw_v0 hK 2 rfl rfl 0 (by decide) (tw_in fl_RX0_46 rfl) dX0_keepMissing_14 rfl ?_
    refine tg_iload_n S 1 dX0_keepMissing_17 rfl rfl ?_
    refine tg_callN (nA := 1) (As := [.int (nI i)]) (rest := [.int (nI i), .ref (h 15)]) (host := RX2) (q := (RX1, TX1, 9)) S hK hN (k_X1_holds hd τ (nI i)) 1 rfl rfl (tw_gW co_X1_holds rfl) (List.mem_of_getElem? (i := 7) rfl) (tw_in in_RX1 rfl) (tw_in im_X1_holds rfl) (tw_in se_X1_holds rfl) rfl (by decide +kernel) ⟨Nat.le_of_ble_eq_true rfl, Nat.le_of_ble_eq_true rfl⟩ rfl rfl (Nat.le_of_ble_eq_true rfl) dX0_keepMissing_18 ⟨Nat.le_of_ble_eq_true rfl, Nat.le_of_ble_eq_true rfl⟩ ?_
    refine tg_ifnz (tgt := 33) S dX0_keepMissing_21 (by decide) (fun c_1 => ?_) (fun c_1 => ?_)
    · skip
      refine tg_iconst (v := 1) S dX0_keepMissing_33 (by decide) ?_
      refine tg_goto (tgt := 38) S dX0_keepMissing_34 (by decide) ?_
      refine tg_zast (b := true) (σ2 := tg_set τ 12 i 1) S hK (tw_TD hd) 15 1 rfl rfl dX0_keepMissing_38 (tg_in hi_i (by decide)) (by rw [tg_cl (Nat.lt_trans hi_i (by decide))]; rfl) ?_
      refine tg_aload_n S 0 dX0_keepMissing_39 rfl rfl ?_
      refine tg_get (v := .ref (h 15)) S tw_v0 hK 2 rfl rfl 4 (by decide) (tw_in fl_RX0_22 rfl) dX0_keepMissing_40 rfl ?_
      refine tg_iload_n S 1 dX0_keepMissing_43 rfl rfl ?_
      refine tg_zald (v := 1) S hK 15 1 rfl rfl dX0_keepMissing_44 (tg_in hi_i (by decide)) (by simp [tg_set, tg_upA, upd, (tg_cl (Nat.lt_trans hi_i (by decide)))]) ?_
      refine tg_if_ne (tgt := 53) S dX0_keepMissing_45 (by decide) (fun _ => ?_) (fun c => absurd c (by decide))
      refine tg_iinc (v := nI (i + 1)) (L' := [(0, .ref (h 2)), (1, .int (nI (i + 1)))]) [1, 0] S 1 dX0_keepMissing_53 rfl (tg_inc _) (by decide) rfl ?_
      refine tg_goto (tgt := 2) S dX0_keepMissing_56 (by decide) ?_
      have e_1 : fa_km i τ = tg_set τ 12 i 1 := (by first | (simp [fa_km, c_1]; done) | (simp only [fa_km, if_pos c_1]; done))
      rw [e_1] at hk_i
      exact hk_i
    · skip
      refine tg_aload_n S 0 dX0_keepMissing_24 rfl rfl ?_
      refine tg_iload_n S 1 dX0_keepMissing_25 rfl rfl ?_
      refine tg_callV (nA := 1) (As := [.int (nI i)]) (rest := [.int (nI i), .ref (h 15)]) (q := (RX0, TX0, 13)) S hK hN (k_X0_countChildren hd τ (nI i)) 2 rfl rfl (tw_gV ml_RX0_117 im_X0_countChildren se_X0_countChildren in_RX0 co_X0_countChildren rfl) rfl (by decide +kernel) ⟨Nat.le_of_ble_eq_true rfl, Nat.le_of_ble_eq_true rfl⟩ rfl rfl (Nat.le_of_ble_eq_true rfl) dX0_keepMissing_26 ⟨Nat.le_of_ble_eq_true rfl, Nat.le_of_ble_eq_true rfl⟩ ?_
      refine tg_iconst (v := 2) S dX0_keepMissing_29 (by decide) ?_
      refine tg_icmp_lt (tgt := 37) S dX0_keepMissing_30 (by decide) (fun c_3 => ?_) (fun c_3 => ?_)
      · skip
        refine tg_iconst (v := 0) S dX0_keepMissing_37 (by decide) ?_
        refine tg_zast (b := false) (σ2 := tg_set τ 12 i 0) S hK (tw_TD hd) 15 1 rfl rfl dX0_keepMissing_38 (tg_in hi_i (by decide)) (by rw [tg_cl (Nat.lt_trans hi_i (by decide))]; rfl) ?_
        refine tg_aload_n S 0 dX0_keepMissing_39 rfl rfl ?_
        refine tg_get (v := .ref (h 15)) S tw_v0 hK 2 rfl rfl 4 (by decide) (tw_in fl_RX0_22 rfl) dX0_keepMissing_40 rfl ?_
        refine tg_iload_n S 1 dX0_keepMissing_43 rfl rfl ?_
        refine tg_zald (v := 0) S hK 15 1 rfl rfl dX0_keepMissing_44 (tg_in hi_i (by decide)) (by simp [tg_set, tg_upA, upd, (tg_cl (Nat.lt_trans hi_i (by decide)))]) ?_
        refine tg_if_ne (tgt := 53) S dX0_keepMissing_45 (by decide) (fun c => absurd (by decide) c) (fun _ => ?_)
        refine tg_aload_n S 0 dX0_keepMissing_48 rfl rfl ?_
        refine tg_iload_n S 1 dX0_keepMissing_49 rfl rfl ?_
        refine tg_callV (nA := 1) (As := [.int (nI i)]) (rest := []) (q := (RX0, TX0, 13)) S hK hN (k_X0_freeChildren hd (tg_set τ 12 i 0) (nI i)) 2 rfl rfl (tw_gV ml_RX0_120 im_X0_freeChildren se_X0_freeChildren in_RX0 co_X0_freeChildren rfl) rfl (by decide +kernel) ⟨Nat.le_of_ble_eq_true rfl, Nat.le_of_ble_eq_true rfl⟩ rfl rfl (Nat.le_of_ble_eq_true rfl) dX0_keepMissing_50 ⟨Nat.le_of_ble_eq_true rfl, Nat.le_of_ble_eq_true rfl⟩ ?_
        refine tg_iinc (v := nI (i + 1)) (L' := [(0, .ref (h 2)), (1, .int (nI (i + 1)))]) [1, 0] S 1 dX0_keepMissing_53 rfl (tg_inc _) (by decide) rfl ?_
        refine tg_goto (tgt := 2) S dX0_keepMissing_56 (by decide) ?_
        have e_2 : fa_km i τ = fa_free (tg_set τ 12 i 0) (nI i) := (by first | (simp [fa_km, c_1, c_3]; done) | (simp only [fa_km, if_neg (ne_true_of_eq_false c_1), if_pos c_3]; done))
        rw [e_2] at hk_i
        exact hk_i
      · skip
        refine tg_iconst (v := 1) S dX0_keepMissing_33 (by decide) ?_
        refine tg_goto (tgt := 38) S dX0_keepMissing_34 (by decide) ?_
        refine tg_zast (b := true) (σ2 := tg_set τ 12 i 1) S hK (tw_TD hd) 15 1 rfl rfl dX0_keepMissing_38 (tg_in hi_i (by decide)) (by rw [tg_cl (Nat.lt_trans hi_i (by decide))]; rfl) ?_
        refine tg_aload_n S 0 dX0_keepMissing_39 rfl rfl ?_
        refine tg_get (v := .ref (h 15)) S tw_v0 hK 2 rfl rfl 4 (by decide) (tw_in fl_RX0_22 rfl) dX0_keepMissing_40 rfl ?_
        refine tg_iload_n S 1 dX0_keepMissing_43 rfl rfl ?_
        refine tg_zald (v := 1) S hK 15 1 rfl rfl dX0_keepMissing_44 (tg_in hi_i (by decide)) (by simp [tg_set, tg_upA, upd, (tg_cl (Nat.lt_trans hi_i (by decide)))]) ?_
        refine tg_if_ne (tgt := 53) S dX0_keepMissing_45 (by decide) (fun _ => ?_) (fun c => absurd c (by decide))
        refine tg_iinc (v := nI (i + 1)) (L' := [(0, .ref (h 2)), (1, .int (nI (i + 1)))]) [1, 0] S 1 dX0_keepMissing_53 rfl (tg_inc _) (by decide) rfl ?_
        refine tg_goto (tgt := 2) S dX0_keepMissing_56 (by decide) ?_
        have e_3 : fa_km i τ = tg_set τ 12 i 1 := (by first | (simp [fa_km, c_1, c_3]; done) | (simp only [fa_km, if_neg (ne_true_of_eq_false c_1), if_neg c_3]; done))
        rw [e_3] at hk_i
        exact hk_i
  · skip
    refine tg_iload_n S 1 dX0_keepMissing_2 rfl rfl ?_
    refine tg_bipush (v := 30) S dX0_keepMissing_3 (by decide) ?_
    refine tg_icmp_ge (tgt := 59) S dX0_keepMissing_5 (by decide) (fun _ => ?_) (fun c => absurd tg_ge c)
    exact tg_vret S hr hlk dX0_keepMissing_59 (by simp [fa_keepMissing])
set_option maxHeartbeats 4000000 in
set_option maxRecDepth 100000 in
theorem k_X0_letterAnsweredBy {l : Launch} {D : va_G} {h : Nat → Nat} {cI cZ : ClassId} (hd : tw_dis 23 h) (σ : tg_Mem) (x : Int32) : tg_CT l yX0_letterAnsweredBy wzX0_letterAnsweredBy (tg_rm 2) (tw_T h cI cZ) (tw_ty cI cZ) tw_nl (tw_A 23 h) D [.ref (h 2), .int x] σ (some (.int (fa_best σ x))) σ := by
  refine tg_met (own := RX0) (cc := cX0_letterAnsweredBy) (maxL := 5) (ret := (some .int)) (by decide +kernel) rfl rfl (Nat.le_of_ble_eq_true rfl) ?_
  intro p e s m below meth c S hK hN hr hlk
  refine tg_sub (L' := [(0, .ref (h 2)), (1, .int x)]) [0, 1] rfl ?_
  refine tg_iconst (v := -1) S dX0_letterAnsweredBy_0 (by decide) ?_
  refine tg_istore_n (L' := [(0, .ref (h 2)), (1, .int x), (2, .int (-1))]) [1, 2, 0] S dX0_letterAnsweredBy_1 rfl (by decide) rfl ?_
  refine tg_iconst (v := nI 0) S dX0_letterAnsweredBy_2 (by decide) ?_
  refine tg_istore_n (L' := [(0, .ref (h 2)), (1, .int x), (2, .int (-1)), (3, .int (nI 0))]) [1, 2, 3, 0] S dX0_letterAnsweredBy_3 rfl (by decide) rfl ?_
  refine tg_loop (X := Int32) (fa_bestS σ x) 30 (-1) (fun b => σ) (fun i b => [(0, .ref (h 2)), (1, .int x), (2, .int b), (3, .int (nI i))]) ?_ ?_
  · skip
    intro i b hi_i hk_i
    refine tg_iload_n S 3 dX0_letterAnsweredBy_4 rfl rfl ?_
    refine tg_bipush (v := 30) S dX0_letterAnsweredBy_5 (by decide) ?_
    refine tg_icmp_ge (tgt := 76) S dX0_letterAnsweredBy_7 (by decide) (fun c => absurd c (tg_nge hi_i)) (fun _ => ?_)
    refine tg_aload_n S 0 dX0_letterAnsweredBy_10 rfl rfl ?_
    refine tg_get (v := .ref (h 14)) S tw_v0 hK 2 rfl rfl 3 (by decide) (tw_in fl_RX0_19 rfl) dX0_letterAnsweredBy_11 rfl ?_
    refine tg_iload_n S 3 dX0_letterAnsweredBy_14 rfl rfl ?_
    refine tg_iald (v := σ 11 i) S hK 14 0 rfl rfl dX0_letterAnsweredBy_15 (tg_in hi_i (by decide)) (congrArg ((σ 11)) (tg_cl (Nat.lt_trans hi_i (by decide)))) ?_
    refine tg_iconst (v := -1) S dX0_letterAnsweredBy_16 (by decide) ?_
    refine tg_icmp_ne (tgt := 36) S dX0_letterAnsweredBy_17 (by decide) (fun c_1 => ?_) (fun c_1 => ?_)
    · skip
      refine tg_iconst (v := 0) S dX0_letterAnsweredBy_36 (by decide) ?_
      refine tg_istore (L' := [(0, .ref (h 2)), (1, .int x), (2, .int b), (3, .int (nI i)), (4, .int 0)]) [1, 2, 3, 4, 0] S dX0_letterAnsweredBy_37 (by decide) rfl ?_
      refine tg_iload S 4 dX0_letterAnsweredBy_39 rfl ?_
      refine tg_if_eq (tgt := 70) S dX0_letterAnsweredBy_41 (by decide) (fun _ => ?_) (fun c => absurd (by decide) c)
      refine tg_iinc (v := nI (i + 1)) (L' := [(0, .ref (h 2)), (1, .int x), (2, .int b), (3, .int (nI (i + 1))), (4, .int 0)]) [1, 2, 3, 0, 4] S 3 dX0_letterAnsweredBy_70 rfl (tg_inc _) (by decide) rfl ?_
      refine tg_goto (tgt := 4) S dX0_letterAnsweredBy_73 (by decide) ?_
      refine tg_sub (L' := [(0, .ref (h 2)), (1, .int x), (2, .int b), (3, .int (nI (i + 1)))]) [0, 1, 2, 3] rfl ?_
      have e_1 : fa_bestS σ x i b = b := (by first | (simp [fa_bestS, c_1]; done) | (simp only [fa_bestS, if_neg c_1]; done))
      rw [e_1] at hk_i
      exact hk_i
    · skip
      refine tg_aload_n S 0 dX0_letterAnsweredBy_20 rfl rfl ?_
      refine tg_get (v := .ref (h 1)) S tw_v0 hK 2 rfl rfl 0 (by decide) (tw_in fl_RX0_46 rfl) dX0_letterAnsweredBy_21 rfl ?_
      refine tg_iload_n S 3 dX0_letterAnsweredBy_24 rfl rfl ?_
      refine tg_iload_n S 1 dX0_letterAnsweredBy_25 rfl rfl ?_
      refine tg_callN (nA := 2) (As := [.int (nI i), .int x]) (rest := []) (host := RX2) (q := (RX1, TX1, 9)) S hK hN (k_X1_isAnsweredBy hd σ (nI i) x) 1 rfl rfl (tw_gW co_X1_isAnsweredBy rfl) (List.mem_of_getElem? (i := 14) rfl) (tw_in in_RX1 rfl) (tw_in im_X1_isAnsweredBy rfl) (tw_in se_X1_isAnsweredBy rfl) rfl (by decide +kernel) ⟨Nat.le_of_ble_eq_true rfl, Nat.le_of_ble_eq_true rfl⟩ rfl rfl (Nat.le_of_ble_eq_true rfl) dX0_letterAnsweredBy_26 ⟨Nat.le_of_ble_eq_true rfl, Nat.le_of_ble_eq_true rfl⟩ ?_
      refine tg_ifz (tgt := 36) S dX0_letterAnsweredBy_29 (by decide) (fun c_3 => ?_) (fun c_3 => ?_)
      · skip
        refine tg_iconst (v := 0) S dX0_letterAnsweredBy_36 (by decide) ?_
        refine tg_istore (L' := [(0, .ref (h 2)), (1, .int x), (2, .int b), (3, .int (nI i)), (4, .int 0)]) [1, 2, 3, 4, 0] S dX0_letterAnsweredBy_37 (by decide) rfl ?_
        refine tg_iload S 4 dX0_letterAnsweredBy_39 rfl ?_
        refine tg_if_eq (tgt := 70) S dX0_letterAnsweredBy_41 (by decide) (fun _ => ?_) (fun c => absurd (by decide) c)
        refine tg_iinc (v := nI (i + 1)) (L' := [(0, .ref (h 2)), (1, .int x), (2, .int b), (3, .int (nI (i + 1))), (4, .int 0)]) [1, 2, 3, 0, 4] S 3 dX0_letterAnsweredBy_70 rfl (tg_inc _) (by decide) rfl ?_
        refine tg_goto (tgt := 4) S dX0_letterAnsweredBy_73 (by decide) ?_
        refine tg_sub (L' := [(0, .ref (h 2)), (1, .int x), (2, .int b), (3, .int (nI (i + 1)))]) [0, 1, 2, 3] rfl ?_
        have e_2 : fa_bestS σ x i b = b := (by first | (simp [fa_bestS, c_1, c_3]; done) | (simp only [fa_bestS, if_pos c_1, if_neg (ne_true_of_eq_false c_3)]; done))
        rw [e_2] at hk_i
        exact hk_i
      · skip
        refine tg_iconst (v := 1) S dX0_letterAnsweredBy_32 (by decide) ?_
        refine tg_goto (tgt := 37) S dX0_letterAnsweredBy_33 (by decide) ?_
        refine tg_istore (L' := [(0, .ref (h 2)), (1, .int x), (2, .int b), (3, .int (nI i)), (4, .int 1)]) [1, 2, 3, 4, 0] S dX0_letterAnsweredBy_37 (by decide) rfl ?_
        refine tg_iload S 4 dX0_letterAnsweredBy_39 rfl ?_
        refine tg_if_eq (tgt := 70) S dX0_letterAnsweredBy_41 (by decide) (fun c => absurd c (by decide)) (fun _ => ?_)
        refine tg_iload_n S 2 dX0_letterAnsweredBy_44 rfl rfl ?_
        refine tg_iconst (v := -1) S dX0_letterAnsweredBy_45 (by decide) ?_
        refine tg_icmp_eq (tgt := 68) S dX0_letterAnsweredBy_46 (by decide) (fun c_6 => ?_) (fun c_6 => ?_)
        · skip
          refine tg_iload_n S 3 dX0_letterAnsweredBy_68 rfl rfl ?_
          refine tg_istore_n (L' := [(0, .ref (h 2)), (1, .int x), (2, .int (nI i)), (3, .int (nI i)), (4, .int 1)]) [1, 2, 0, 3, 4] S dX0_letterAnsweredBy_69 rfl (by decide) rfl ?_
          refine tg_iinc (v := nI (i + 1)) (L' := [(0, .ref (h 2)), (1, .int x), (2, .int (nI i)), (3, .int (nI (i + 1))), (4, .int 1)]) [1, 2, 3, 0, 4] S 3 dX0_letterAnsweredBy_70 rfl (tg_inc _) (by decide) rfl ?_
          refine tg_goto (tgt := 4) S dX0_letterAnsweredBy_73 (by decide) ?_
          refine tg_sub (L' := [(0, .ref (h 2)), (1, .int x), (2, .int (nI i)), (3, .int (nI (i + 1)))]) [0, 1, 2, 3] rfl ?_
          have e_3 : fa_bestS σ x i b = nI i := (by first | (simp [fa_bestS, c_1, c_3, c_6]; done) | (simp only [fa_bestS, if_pos c_1, if_pos c_3, if_pos c_6]; done))
          rw [e_3] at hk_i
          exact hk_i
        · skip
          refine tg_aload_n S 0 dX0_letterAnsweredBy_49 rfl rfl ?_
          refine tg_get (v := .ref (h 1)) S tw_v0 hK 2 rfl rfl 0 (by decide) (tw_in fl_RX0_46 rfl) dX0_letterAnsweredBy_50 rfl ?_
          refine tg_iload_n S 3 dX0_letterAnsweredBy_53 rfl rfl ?_
          refine tg_callN (nA := 1) (As := [.int (nI i)]) (rest := []) (host := RX2) (q := (RX1, TX1, 9)) S hK hN (k_X1_dayOf hd σ (nI i)) 1 rfl rfl (tw_gW co_X1_dayOf rfl) (List.mem_of_getElem? (i := 15) rfl) (tw_in in_RX1 rfl) (tw_in im_X1_dayOf rfl) (tw_in se_X1_dayOf rfl) rfl (by decide +kernel) ⟨Nat.le_of_ble_eq_true rfl, Nat.le_of_ble_eq_true rfl⟩ rfl rfl (Nat.le_of_ble_eq_true rfl) dX0_letterAnsweredBy_54 ⟨Nat.le_of_ble_eq_true rfl, Nat.le_of_ble_eq_true rfl⟩ ?_
          refine tg_aload_n S 0 dX0_letterAnsweredBy_57 rfl rfl ?_
          refine tg_get (v := .ref (h 1)) S tw_v0 hK 2 rfl rfl 0 (by decide) (tw_in fl_RX0_46 rfl) dX0_letterAnsweredBy_58 rfl ?_
          refine tg_iload_n S 2 dX0_letterAnsweredBy_61 rfl rfl ?_
          refine tg_callN (nA := 1) (As := [.int b]) (rest := [.int (fa_dayOf σ (nI i))]) (host := RX2) (q := (RX1, TX1, 9)) S hK hN (k_X1_dayOf hd σ b) 1 rfl rfl (tw_gW co_X1_dayOf rfl) (List.mem_of_getElem? (i := 15) rfl) (tw_in in_RX1 rfl) (tw_in im_X1_dayOf rfl) (tw_in se_X1_dayOf rfl) rfl (by decide +kernel) ⟨Nat.le_of_ble_eq_true rfl, Nat.le_of_ble_eq_true rfl⟩ rfl rfl (Nat.le_of_ble_eq_true rfl) dX0_letterAnsweredBy_62 ⟨Nat.le_of_ble_eq_true rfl, Nat.le_of_ble_eq_true rfl⟩ ?_
          refine tg_icmp_le (tgt := 70) S dX0_letterAnsweredBy_65 (by decide) (fun c_7 => ?_) (fun c_7 => ?_)
          · skip
            refine tg_iinc (v := nI (i + 1)) (L' := [(0, .ref (h 2)), (1, .int x), (2, .int b), (3, .int (nI (i + 1))), (4, .int 1)]) [1, 2, 3, 0, 4] S 3 dX0_letterAnsweredBy_70 rfl (tg_inc _) (by decide) rfl ?_
            refine tg_goto (tgt := 4) S dX0_letterAnsweredBy_73 (by decide) ?_
            refine tg_sub (L' := [(0, .ref (h 2)), (1, .int x), (2, .int b), (3, .int (nI (i + 1)))]) [0, 1, 2, 3] rfl ?_
            have e_4 : fa_bestS σ x i b = b := (by first | (simp [fa_bestS, c_1, c_3, c_6, c_7]; done) | (simp only [fa_bestS, if_pos c_1, if_pos c_3, if_neg c_6, if_pos c_7]; done))
            rw [e_4] at hk_i
            exact hk_i
          · skip
            refine tg_iload_n S 3 dX0_letterAnsweredBy_68 rfl rfl ?_
            refine tg_istore_n (L' := [(0, .ref (h 2)), (1, .int x), (2, .int (nI i)), (3, .int (nI i)), (4, .int 1)]) [1, 2, 0, 3, 4] S dX0_letterAnsweredBy_69 rfl (by decide) rfl ?_
            refine tg_iinc (v := nI (i + 1)) (L' := [(0, .ref (h 2)), (1, .int x), (2, .int (nI i)), (3, .int (nI (i + 1))), (4, .int 1)]) [1, 2, 3, 0, 4] S 3 dX0_letterAnsweredBy_70 rfl (tg_inc _) (by decide) rfl ?_
            refine tg_goto (tgt := 4) S dX0_letterAnsweredBy_73 (by decide) ?_
            refine tg_sub (L' := [(0, .ref (h 2)), (1, .int x), (2, .int (nI i)), (3, .int (nI (i + 1)))]) [0, 1, 2, 3] rfl ?_
            have e_5 : fa_bestS σ x i b = nI i := (by first | (simp [fa_bestS, c_1, c_3, c_6, c_7]; done) | (simp only [fa_bestS, if_pos c_1, if_pos c_3, if_neg c_6, if_neg c_7]; done))
            rw [e_5] at hk_i
            exact hk_i
  · skip
    refine tg_iload_n S 3 dX0_letterAnsweredBy_4 rfl rfl ?_
    refine tg_bipush (v := 30) S dX0_letterAnsweredBy_5 (by decide) ?_
    refine tg_icmp_ge (tgt := 76) S dX0_letterAnsweredBy_7 (by decide) (fun _ => ?_) (fun c => absurd tg_ge c)
    refine tg_iload_n S 2 dX0_letterAnsweredBy_76 rfl rfl ?_
    exact tg_iret S hr hlk dX0_letterAnsweredBy_77 (by simp [fa_best]) rfl
set_option maxHeartbeats 4000000 in
set_option maxRecDepth 100000 in
theorem k_X0_hangReplies {l : Launch} {D : va_G} {h : Nat → Nat} {cI cZ : ClassId} (hd : tw_dis 23 h) (σ : tg_Mem)  : tg_CT l yX0_hangReplies wzX0_hangReplies (tg_rm 3) (tw_T h cI cZ) (tw_ty cI cZ) tw_nl (tw_A 23 h) D [.ref (h 2)] σ none (fa_hangReplies σ) := by
  refine tg_met (own := RX0) (cc := cX0_hangReplies) (maxL := 2) (ret := none) (by decide +kernel) rfl rfl (Nat.le_of_ble_eq_true rfl) ?_
  intro p e s m below meth c S hK hN hr hlk
  refine tg_sub (L' := [(0, .ref (h 2))]) [0] rfl ?_
  refine tg_iconst (v := nI 0) S dX0_hangReplies_0 (by decide) ?_
  refine tg_istore_n (L' := [(0, .ref (h 2)), (1, .int (nI 0))]) [1, 0] S dX0_hangReplies_1 rfl (by decide) rfl ?_
  refine tg_loop (X := tg_Mem) fa_hr 30 σ (fun τ => τ) (fun i τ => [(0, .ref (h 2)), (1, .int (nI i))]) ?_ ?_
  · skip
    intro i τ hi_i hk_i
    refine tg_iload_n S 1 dX0_hangReplies_2 rfl rfl ?_
    refine tg_bipush (v := 30) S dX0_hangReplies_3 (by decide) ?_
    refine tg_icmp_ge (tgt := 59) S dX0_hangReplies_5 (by decide) (fun c => absurd c (tg_nge hi_i)) (fun _ => ?_)
    refine tg_aload_n S 0 dX0_hangReplies_8 rfl rfl ?_
    refine tg_get (v := .ref (h 1)) S tw_v0 hK 2 rfl rfl 0 (by decide) (tw_in fl_RX0_46 rfl) dX0_hangReplies_9 rfl ?_
    refine tg_iload_n S 1 dX0_hangReplies_12 rfl rfl ?_
    refine tg_callN (nA := 1) (As := [.int (nI i)]) (rest := []) (host := RX2) (q := (RX1, TX1, 9)) S hK hN (k_X1_isReply hd τ (nI i)) 1 rfl rfl (tw_gW co_X1_isReply rfl) (List.mem_of_getElem? (i := 13) rfl) (tw_in in_RX1 rfl) (tw_in im_X1_isReply rfl) (tw_in se_X1_isReply rfl) rfl (by decide +kernel) ⟨Nat.le_of_ble_eq_true rfl, Nat.le_of_ble_eq_true rfl⟩ rfl rfl (Nat.le_of_ble_eq_true rfl) dX0_hangReplies_13 ⟨Nat.le_of_ble_eq_true rfl, Nat.le_of_ble_eq_true rfl⟩ ?_
    refine tg_ifz (tgt := 53) S dX0_hangReplies_16 (by decide) (fun c_1 => ?_) (fun c_1 => ?_)
    · skip
      refine tg_iinc (v := nI (i + 1)) (L' := [(0, .ref (h 2)), (1, .int (nI (i + 1)))]) [1, 0] S 1 dX0_hangReplies_53 rfl (tg_inc _) (by decide) rfl ?_
      refine tg_goto (tgt := 2) S dX0_hangReplies_56 (by decide) ?_
      have e_1 : fa_hr i τ = τ := (by first | (simp [fa_hr, c_1]; done) | (simp only [fa_hr, if_neg (ne_true_of_eq_false c_1)]; done))
      rw [e_1] at hk_i
      exact hk_i
    · skip
      refine tg_aload_n S 0 dX0_hangReplies_19 rfl rfl ?_
      refine tg_get (v := .ref (h 14)) S tw_v0 hK 2 rfl rfl 3 (by decide) (tw_in fl_RX0_19 rfl) dX0_hangReplies_20 rfl ?_
      refine tg_iload_n S 1 dX0_hangReplies_23 rfl rfl ?_
      refine tg_iald (v := τ 11 i) S hK 14 0 rfl rfl dX0_hangReplies_24 (tg_in hi_i (by decide)) (congrArg ((τ 11)) (tg_cl (Nat.lt_trans hi_i (by decide)))) ?_
      refine tg_iconst (v := -1) S dX0_hangReplies_25 (by decide) ?_
      refine tg_icmp_ne (tgt := 53) S dX0_hangReplies_26 (by decide) (fun c_2 => ?_) (fun c_2 => ?_)
      · skip
        refine tg_iinc (v := nI (i + 1)) (L' := [(0, .ref (h 2)), (1, .int (nI (i + 1)))]) [1, 0] S 1 dX0_hangReplies_53 rfl (tg_inc _) (by decide) rfl ?_
        refine tg_goto (tgt := 2) S dX0_hangReplies_56 (by decide) ?_
        have e_2 : fa_hr i τ = τ := (by first | (simp [fa_hr, c_1, c_2]; done) | (simp only [fa_hr, if_pos c_1, if_neg c_2]; done))
        rw [e_2] at hk_i
        exact hk_i
      · skip
        refine tg_aload_n S 0 dX0_hangReplies_29 rfl rfl ?_
        refine tg_get (v := .ref (h 1)) S tw_v0 hK 2 rfl rfl 0 (by decide) (tw_in fl_RX0_46 rfl) dX0_hangReplies_30 rfl ?_
        refine tg_iload_n S 1 dX0_hangReplies_33 rfl rfl ?_
        refine tg_callN (nA := 1) (As := [.int (nI i)]) (rest := []) (host := RX2) (q := (RX1, TX1, 9)) S hK hN (k_X1_handOf hd τ (nI i)) 1 rfl rfl (tw_gW co_X1_handOf rfl) (List.mem_of_getElem? (i := 11) rfl) (tw_in in_RX1 rfl) (tw_in im_X1_handOf rfl) (tw_in se_X1_handOf rfl) rfl (by decide +kernel) ⟨Nat.le_of_ble_eq_true rfl, Nat.le_of_ble_eq_true rfl⟩ rfl rfl (Nat.le_of_ble_eq_true rfl) dX0_hangReplies_34 ⟨Nat.le_of_ble_eq_true rfl, Nat.le_of_ble_eq_true rfl⟩ ?_
        refine tg_bipush (v := -2) S dX0_hangReplies_37 (by decide) ?_
        refine tg_icmp_eq (tgt := 53) S dX0_hangReplies_39 (by decide) (fun c_3 => ?_) (fun c_3 => ?_)
        · skip
          refine tg_iinc (v := nI (i + 1)) (L' := [(0, .ref (h 2)), (1, .int (nI (i + 1)))]) [1, 0] S 1 dX0_hangReplies_53 rfl (tg_inc _) (by decide) rfl ?_
          refine tg_goto (tgt := 2) S dX0_hangReplies_56 (by decide) ?_
          have e_3 : fa_hr i τ = τ := (by first | (simp [fa_hr, c_1, c_2, c_3]; done) | (simp only [fa_hr, if_pos c_1, if_pos c_2, if_pos c_3]; done))
          rw [e_3] at hk_i
          exact hk_i
        · skip
          refine tg_aload_n S 0 dX0_hangReplies_42 rfl rfl ?_
          refine tg_get (v := .ref (h 14)) S tw_v0 hK 2 rfl rfl 3 (by decide) (tw_in fl_RX0_19 rfl) dX0_hangReplies_43 rfl ?_
          refine tg_iload_n S 1 dX0_hangReplies_46 rfl rfl ?_
          refine tg_aload_n S 0 dX0_hangReplies_47 rfl rfl ?_
          refine tg_iload_n S 1 dX0_hangReplies_48 rfl rfl ?_
          refine tg_callV (nA := 1) (As := [.int (nI i)]) (rest := [.int (nI i), .ref (h 14)]) (q := (RX0, TX0, 13)) S hK hN (k_X0_letterAnsweredBy hd τ (nI i)) 2 rfl rfl (tw_gV ml_RX0_126 im_X0_letterAnsweredBy se_X0_letterAnsweredBy in_RX0 co_X0_letterAnsweredBy rfl) rfl (by decide +kernel) ⟨Nat.le_of_ble_eq_true rfl, Nat.le_of_ble_eq_true rfl⟩ rfl rfl (Nat.le_of_ble_eq_true rfl) dX0_hangReplies_49 ⟨Nat.le_of_ble_eq_true rfl, Nat.le_of_ble_eq_true rfl⟩ ?_
          refine tg_iast (σ2 := tg_set τ 11 i (fa_best τ (nI i))) S hK (tw_TD hd) 14 0 rfl rfl dX0_hangReplies_52 (tg_in hi_i (by decide)) (by rw [tg_cl (Nat.lt_trans hi_i (by decide))]; rfl) ?_
          refine tg_iinc (v := nI (i + 1)) (L' := [(0, .ref (h 2)), (1, .int (nI (i + 1)))]) [1, 0] S 1 dX0_hangReplies_53 rfl (tg_inc _) (by decide) rfl ?_
          refine tg_goto (tgt := 2) S dX0_hangReplies_56 (by decide) ?_
          have e_4 : fa_hr i τ = tg_set τ 11 i (fa_best τ (nI i)) := (by first | (simp [fa_hr, c_1, c_2, c_3]; done) | (simp only [fa_hr, if_pos c_1, if_pos c_2, if_neg c_3]; done))
          rw [e_4] at hk_i
          exact hk_i
  · skip
    refine tg_iload_n S 1 dX0_hangReplies_2 rfl rfl ?_
    refine tg_bipush (v := 30) S dX0_hangReplies_3 (by decide) ?_
    refine tg_icmp_ge (tgt := 59) S dX0_hangReplies_5 (by decide) (fun _ => ?_) (fun c => absurd tg_ge c)
    exact tg_vret S hr hlk dX0_hangReplies_59 (by simp [fa_hangReplies])
set_option maxHeartbeats 4000000 in
set_option maxRecDepth 100000 in
theorem k_X0_countUpwards {l : Launch} {D : va_G} {h : Nat → Nat} {cI cZ : ClassId} (hd : tw_dis 23 h) (σ : tg_Mem) (x : Int32) : tg_CT l yX0_countUpwards wzX0_countUpwards (tg_rm 2) (tw_T h cI cZ) (tw_ty cI cZ) tw_nl (tw_A 23 h) D [.ref (h 2), .int x] σ none (fa_upwards σ x) := by
  refine tg_met (own := RX0) (cc := cX0_countUpwards) (maxL := 5) (ret := none) (by decide +kernel) rfl rfl (Nat.le_of_ble_eq_true rfl) ?_
  intro p e s m below meth c S hK hN hr hlk
  obtain ⟨v0, hv0⟩ : ∃ v, fa_upwards σ x = v := ⟨_, rfl⟩
  rw [hv0]
  refine tg_sub (L' := [(0, .ref (h 2)), (1, .int x)]) [0, 1] rfl ?_
  refine tg_aload_n S 0 dX0_countUpwards_0 rfl rfl ?_
  refine tg_get (v := .ref (h 1)) S tw_v0 hK 2 rfl rfl 0 (by decide) (tw_in fl_RX0_46 rfl) dX0_countUpwards_1 rfl ?_
  refine tg_iload_n S 1 dX0_countUpwards_4 rfl rfl ?_
  refine tg_callN (nA := 1) (As := [.int x]) (rest := []) (host := RX2) (q := (RX1, TX1, 9)) S hK hN (k_X1_dayOf hd σ x) 1 rfl rfl (tw_gW co_X1_dayOf rfl) (List.mem_of_getElem? (i := 15) rfl) (tw_in in_RX1 rfl) (tw_in im_X1_dayOf rfl) (tw_in se_X1_dayOf rfl) rfl (by decide +kernel) ⟨Nat.le_of_ble_eq_true rfl, Nat.le_of_ble_eq_true rfl⟩ rfl rfl (Nat.le_of_ble_eq_true rfl) dX0_countUpwards_5 ⟨Nat.le_of_ble_eq_true rfl, Nat.le_of_ble_eq_true rfl⟩ ?_
  refine tg_istore_n (L' := [(0, .ref (h 2)), (1, .int x), (2, .int (fa_dayOf σ x))]) [1, 2, 0] S dX0_countUpwards_8 rfl (by decide) rfl ?_
  refine tg_iload_n S 1 dX0_countUpwards_9 rfl rfl ?_
  refine tg_istore_n (L' := [(0, .ref (h 2)), (1, .int x), (2, .int (fa_dayOf σ x)), (3, .int x)]) [1, 2, 3, 0] S dX0_countUpwards_10 rfl (by decide) rfl ?_
  refine tg_iconst (v := nI 0) S dX0_countUpwards_11 (by decide) ?_
  refine tg_istore (L' := [(0, .ref (h 2)), (1, .int x), (2, .int (fa_dayOf σ x)), (3, .int x), (4, .int (nI 0))]) [1, 2, 3, 4, 0] S dX0_countUpwards_12 (by decide) rfl ?_
  refine tg_fuel (X := Int32 × tg_Mem) (fa_upF (fa_dayOf σ x)) 30 (x, σ) (fun q => q.2) (fun i q => [(0, .ref (h 2)), (1, .int x), (2, .int (fa_dayOf σ x)), (3, .int q.1), (4, .int (nI i))]) hv0 ?_ ?_
  · skip
    intro n1 i q hn_i hF_i hk_i
    have hi_i : i < 30 := by omega
    refine tg_iload_n S 3 dX0_countUpwards_14 rfl rfl ?_
    refine tg_callSN (nA := 1) (As := [.int q.1]) (rest := []) (host := RX2) S hK hN (k_X2_isId hd q.2 q.1) (tw_gW co_X2_isId rfl) (List.mem_of_getElem? (i := 9) rfl) (tw_in in_RX2 rfl) (tw_in st_X2_isId rfl) rfl (by decide +kernel) ⟨Nat.le_of_ble_eq_true rfl, Nat.le_of_ble_eq_true rfl⟩ rfl rfl (Nat.le_of_ble_eq_true rfl) dX0_countUpwards_15 ⟨Nat.le_of_ble_eq_true rfl, Nat.le_of_ble_eq_true rfl⟩ ?_
    refine tg_ifz (tgt := 67) S dX0_countUpwards_18 (by decide) (fun c_1 => ?_) (fun c_1 => ?_)
    · skip
      exact tg_vret S hr hlk dX0_countUpwards_67 (((by first | (simp [fa_upF, fa_upS, c_1]; done) | (simp only [fa_upF, fa_upS, if_neg (ne_true_of_eq_false c_1)]; done)) : q.2 = fa_upF (fa_dayOf σ x) (n1 + 1) i q).trans hF_i)
    · skip
      refine tg_iload S 4 dX0_countUpwards_21 rfl ?_
      refine tg_bipush (v := 30) S dX0_countUpwards_23 (by decide) ?_
      refine tg_icmp_ge (tgt := 67) S dX0_countUpwards_25 (by decide) (fun c => absurd c (tg_nge hi_i)) (fun _ => ?_)
      refine tg_aload_n S 0 dX0_countUpwards_28 rfl rfl ?_
      refine tg_get (v := .ref (h 18)) S tw_v0 hK 2 rfl rfl 7 (by decide) (tw_in fl_RX0_31 rfl) dX0_countUpwards_29 rfl ?_
      refine tg_iload_n S 3 dX0_countUpwards_32 rfl rfl ?_
      refine tg_dup2 S dX0_countUpwards_33 rfl rfl ?_
      refine tg_iald (v := q.2 15 q.1.toNatClampNeg) S hK 18 0 rfl rfl dX0_countUpwards_34 (fa_id_in c_1) rfl ?_
      refine tg_iconst (v := 1) S dX0_countUpwards_35 (by decide) ?_
      refine tg_iadd S dX0_countUpwards_36 ?_
      refine tg_iast (σ2 := tg_set q.2 15 q.1.toNatClampNeg ((q.2 15 q.1.toNatClampNeg) + 1)) S hK (tw_TD hd) 18 0 rfl rfl dX0_countUpwards_37 (fa_id_in c_1) rfl ?_
      refine tg_aload_n S 0 dX0_countUpwards_38 rfl rfl ?_
      refine tg_get (v := .ref (h 16)) S tw_v0 hK 2 rfl rfl 5 (by decide) (tw_in fl_RX0_25 rfl) dX0_countUpwards_39 rfl ?_
      refine tg_iload_n S 3 dX0_countUpwards_42 rfl rfl ?_
      refine tg_aload_n S 0 dX0_countUpwards_43 rfl rfl ?_
      refine tg_get (v := .ref (h 16)) S tw_v0 hK 2 rfl rfl 5 (by decide) (tw_in fl_RX0_25 rfl) dX0_countUpwards_44 rfl ?_
      refine tg_iload_n S 3 dX0_countUpwards_47 rfl rfl ?_
      refine tg_iald (v := q.2 13 q.1.toNatClampNeg) S hK 16 0 rfl rfl dX0_countUpwards_48 (fa_id_in c_1) (by simp [tg_set, tg_upA, upd]) ?_
      refine tg_iload_n S 2 dX0_countUpwards_49 rfl rfl ?_
      refine tg_min S (tw_in ml_RX0_138 rfl) (tw_in st_Math_min rfl) (tw_in in_Math rfl) (tw_in co_Math_min rfl) (Nat.le_of_ble_eq_true rfl) (Nat.le_of_ble_eq_true rfl) ⟨Nat.le_of_ble_eq_true rfl, Nat.le_of_ble_eq_true rfl⟩ dX0_countUpwards_50 ?_
      refine tg_iast (σ2 := tg_set (tg_set q.2 15 q.1.toNatClampNeg ((q.2 15 q.1.toNatClampNeg) + 1)) 13 q.1.toNatClampNeg (if fa_dayOf σ x < q.2 13 q.1.toNatClampNeg then fa_dayOf σ x else q.2 13 q.1.toNatClampNeg)) S hK (tw_TD hd) 16 0 rfl rfl dX0_countUpwards_53 (fa_id_in c_1) rfl ?_
      refine tg_aload_n S 0 dX0_countUpwards_54 rfl rfl ?_
      refine tg_get (v := .ref (h 14)) S tw_v0 hK 2 rfl rfl 3 (by decide) (tw_in fl_RX0_19 rfl) dX0_countUpwards_55 rfl ?_
      refine tg_iload_n S 3 dX0_countUpwards_58 rfl rfl ?_
      refine tg_iald (v := q.2 11 q.1.toNatClampNeg) S hK 14 0 rfl rfl dX0_countUpwards_59 (fa_id_in c_1) (by simp [tg_set, tg_upA, upd]) ?_
      refine tg_istore_n (L' := [(0, .ref (h 2)), (1, .int x), (2, .int (fa_dayOf σ x)), (3, .int (q.2 11 q.1.toNatClampNeg)), (4, .int (nI i))]) [1, 2, 3, 0, 4] S dX0_countUpwards_60 rfl (by decide) rfl ?_
      refine tg_iinc (v := nI (i + 1)) (L' := [(0, .ref (h 2)), (1, .int x), (2, .int (fa_dayOf σ x)), (3, .int (q.2 11 q.1.toNatClampNeg)), (4, .int (nI (i + 1)))]) [1, 2, 3, 4, 0] S 4 dX0_countUpwards_61 rfl (tg_inc _) (by decide) rfl ?_
      refine tg_goto (tgt := 14) S dX0_countUpwards_64 (by decide) ?_
      exact hk_i (q.2 11 q.1.toNatClampNeg, tg_set (tg_set q.2 15 q.1.toNatClampNeg ((q.2 15 q.1.toNatClampNeg) + 1)) 13 q.1.toNatClampNeg (if fa_dayOf σ x < q.2 13 q.1.toNatClampNeg then fa_dayOf σ x else q.2 13 q.1.toNatClampNeg)) (((by first | (simp [fa_upF, fa_upS, c_1]; done) | (simp only [fa_upF, fa_upS, if_pos c_1]; done)) : fa_upF (fa_dayOf σ x) n1 (i + 1) (q.2 11 q.1.toNatClampNeg, tg_set (tg_set q.2 15 q.1.toNatClampNeg ((q.2 15 q.1.toNatClampNeg) + 1)) 13 q.1.toNatClampNeg (if fa_dayOf σ x < q.2 13 q.1.toNatClampNeg then fa_dayOf σ x else q.2 13 q.1.toNatClampNeg)) = fa_upF (fa_dayOf σ x) (n1 + 1) i q).trans hF_i)
  · skip
    intro q hF_i
    refine tg_iload_n S 3 dX0_countUpwards_14 rfl rfl ?_
    refine tg_callSN (nA := 1) (As := [.int q.1]) (rest := []) (host := RX2) S hK hN (k_X2_isId hd q.2 q.1) (tw_gW co_X2_isId rfl) (List.mem_of_getElem? (i := 9) rfl) (tw_in in_RX2 rfl) (tw_in st_X2_isId rfl) rfl (by decide +kernel) ⟨Nat.le_of_ble_eq_true rfl, Nat.le_of_ble_eq_true rfl⟩ rfl rfl (Nat.le_of_ble_eq_true rfl) dX0_countUpwards_15 ⟨Nat.le_of_ble_eq_true rfl, Nat.le_of_ble_eq_true rfl⟩ ?_
    refine tg_ifz (tgt := 67) S dX0_countUpwards_18 (by decide) (fun c_2 => ?_) (fun c_2 => ?_)
    · skip
      exact tg_vret S hr hlk dX0_countUpwards_67 (((by first | (simp [fa_upF, fa_upS, c_2]; done) | (simp only [fa_upF, fa_upS, if_neg (ne_true_of_eq_false c_2)]; done)) : q.2 = fa_upF (fa_dayOf σ x) 0 30 q).trans hF_i)
    · skip
      refine tg_iload S 4 dX0_countUpwards_21 rfl ?_
      refine tg_bipush (v := 30) S dX0_countUpwards_23 (by decide) ?_
      refine tg_icmp_ge (tgt := 67) S dX0_countUpwards_25 (by decide) (fun _ => ?_) (fun c => absurd tg_ge c)
      exact tg_vret S hr hlk dX0_countUpwards_67 (((by first | (simp [fa_upF, fa_upS, c_2]; done) | (simp only [fa_upF, fa_upS, if_pos c_2]; done)) : q.2 = fa_upF (fa_dayOf σ x) 0 30 q).trans hF_i)
set_option maxHeartbeats 4000000 in
set_option maxRecDepth 100000 in
theorem k_X0_measureTrees {l : Launch} {D : va_G} {h : Nat → Nat} {cI cZ : ClassId} (hd : tw_dis 23 h) (σ : tg_Mem)  : tg_CT l yX0_measureTrees wzX0_measureTrees (tg_rm 3) (tw_T h cI cZ) (tw_ty cI cZ) tw_nl (tw_A 23 h) D [.ref (h 2)] σ none (fa_measure σ) := by
  refine tg_met (own := RX0) (cc := cX0_measureTrees) (maxL := 2) (ret := none) (by decide +kernel) rfl rfl (Nat.le_of_ble_eq_true rfl) ?_
  intro p e s m below meth c S hK hN hr hlk
  refine tg_sub (L' := [(0, .ref (h 2))]) [0] rfl ?_
  refine tg_iconst (v := nI 0) S dX0_measureTrees_0 (by decide) ?_
  refine tg_istore_n (L' := [(0, .ref (h 2)), (1, .int (nI 0))]) [1, 0] S dX0_measureTrees_1 rfl (by decide) rfl ?_
  refine tg_loop (X := tg_Mem) fa_mt1 30 σ (fun τ => τ) (fun i τ => [(0, .ref (h 2)), (1, .int (nI i))]) ?_ ?_
  · skip
    intro i τ hi_i hk_i
    refine tg_iload_n S 1 dX0_measureTrees_2 rfl rfl ?_
    refine tg_bipush (v := 30) S dX0_measureTrees_3 (by decide) ?_
    refine tg_icmp_ge (tgt := 30) S dX0_measureTrees_5 (by decide) (fun c => absurd c (tg_nge hi_i)) (fun _ => ?_)
    refine tg_aload_n S 0 dX0_measureTrees_8 rfl rfl ?_
    refine tg_get (v := .ref (h 18)) S tw_v0 hK 2 rfl rfl 7 (by decide) (tw_in fl_RX0_31 rfl) dX0_measureTrees_9 rfl ?_
    refine tg_iload_n S 1 dX0_measureTrees_12 rfl rfl ?_
    refine tg_iconst (v := 0) S dX0_measureTrees_13 (by decide) ?_
    refine tg_iast (σ2 := tg_set τ 15 i 0) S hK (tw_TD hd) 18 0 rfl rfl dX0_measureTrees_14 (tg_in hi_i (by decide)) (by rw [tg_cl (Nat.lt_trans hi_i (by decide))]; rfl) ?_
    refine tg_aload_n S 0 dX0_measureTrees_15 rfl rfl ?_
    refine tg_get (v := .ref (h 16)) S tw_v0 hK 2 rfl rfl 5 (by decide) (tw_in fl_RX0_25 rfl) dX0_measureTrees_16 rfl ?_
    refine tg_iload_n S 1 dX0_measureTrees_19 rfl rfl ?_
    refine tg_sipush (v := 1000) S dX0_measureTrees_20 (by decide) ?_
    refine tg_iast (σ2 := tg_set (tg_set τ 15 i 0) 13 i 1000) S hK (tw_TD hd) 16 0 rfl rfl dX0_measureTrees_23 (tg_in hi_i (by decide)) (by rw [tg_cl (Nat.lt_trans hi_i (by decide))]; rfl) ?_
    refine tg_iinc (v := nI (i + 1)) (L' := [(0, .ref (h 2)), (1, .int (nI (i + 1)))]) [1, 0] S 1 dX0_measureTrees_24 rfl (tg_inc _) (by decide) rfl ?_
    refine tg_goto (tgt := 2) S dX0_measureTrees_27 (by decide) ?_
    have e_1 : fa_mt1 i τ = tg_set (tg_set τ 15 i 0) 13 i 1000 := (by first | (simp [fa_mt1]; done))
    rw [e_1] at hk_i
    exact hk_i
  · skip
    refine tg_iload_n S 1 dX0_measureTrees_2 rfl rfl ?_
    refine tg_bipush (v := 30) S dX0_measureTrees_3 (by decide) ?_
    refine tg_icmp_ge (tgt := 30) S dX0_measureTrees_5 (by decide) (fun _ => ?_) (fun c => absurd tg_ge c)
    refine tg_iconst (v := nI 0) S dX0_measureTrees_30 (by decide) ?_
    refine tg_istore_n (L' := [(0, .ref (h 2)), (1, .int (nI 0))]) [1, 0] S dX0_measureTrees_31 rfl (by decide) rfl ?_
    refine tg_loop (X := tg_Mem) fa_mt2 30 (tg_it fa_mt1 σ 30) (fun τ => τ) (fun i τ => [(0, .ref (h 2)), (1, .int (nI i))]) ?_ ?_
    · skip
      intro i τ hi_i hk_i
      refine tg_iload_n S 1 dX0_measureTrees_32 rfl rfl ?_
      refine tg_bipush (v := 30) S dX0_measureTrees_33 (by decide) ?_
      refine tg_icmp_ge (tgt := 58) S dX0_measureTrees_35 (by decide) (fun c => absurd c (tg_nge hi_i)) (fun _ => ?_)
      refine tg_aload_n S 0 dX0_measureTrees_38 rfl rfl ?_
      refine tg_get (v := .ref (h 15)) S tw_v0 hK 2 rfl rfl 4 (by decide) (tw_in fl_RX0_22 rfl) dX0_measureTrees_39 rfl ?_
      refine tg_iload_n S 1 dX0_measureTrees_42 rfl rfl ?_
      refine tg_zald (v := τ 12 i) S hK 15 1 rfl rfl dX0_measureTrees_43 (tg_in hi_i (by decide)) (congrArg ((τ 12)) (tg_cl (Nat.lt_trans hi_i (by decide)))) ?_
      refine tg_if_eq (tgt := 52) S dX0_measureTrees_44 (by decide) (fun c_1 => ?_) (fun c_1 => ?_)
      · skip
        refine tg_iinc (v := nI (i + 1)) (L' := [(0, .ref (h 2)), (1, .int (nI (i + 1)))]) [1, 0] S 1 dX0_measureTrees_52 rfl (tg_inc _) (by decide) rfl ?_
        refine tg_goto (tgt := 32) S dX0_measureTrees_55 (by decide) ?_
        have e_2 : fa_mt2 i τ = τ := (by first | (simp [fa_mt2, c_1]; done) | (simp only [fa_mt2, if_pos c_1]; done))
        rw [e_2] at hk_i
        exact hk_i
      · skip
        refine tg_aload_n S 0 dX0_measureTrees_47 rfl rfl ?_
        refine tg_iload_n S 1 dX0_measureTrees_48 rfl rfl ?_
        refine tg_callV (nA := 1) (As := [.int (nI i)]) (rest := []) (q := (RX0, TX0, 13)) S hK hN (k_X0_countUpwards hd τ (nI i)) 2 rfl rfl (tw_gV ml_RX0_135 im_X0_countUpwards se_X0_countUpwards in_RX0 co_X0_countUpwards rfl) rfl (by decide +kernel) ⟨Nat.le_of_ble_eq_true rfl, Nat.le_of_ble_eq_true rfl⟩ rfl rfl (Nat.le_of_ble_eq_true rfl) dX0_measureTrees_49 ⟨Nat.le_of_ble_eq_true rfl, Nat.le_of_ble_eq_true rfl⟩ ?_
        refine tg_iinc (v := nI (i + 1)) (L' := [(0, .ref (h 2)), (1, .int (nI (i + 1)))]) [1, 0] S 1 dX0_measureTrees_52 rfl (tg_inc _) (by decide) rfl ?_
        refine tg_goto (tgt := 32) S dX0_measureTrees_55 (by decide) ?_
        have e_3 : fa_mt2 i τ = fa_upwards τ (nI i) := (by first | (simp [fa_mt2, c_1]; done) | (simp only [fa_mt2, if_neg c_1]; done))
        rw [e_3] at hk_i
        exact hk_i
    · skip
      refine tg_iload_n S 1 dX0_measureTrees_32 rfl rfl ?_
      refine tg_bipush (v := 30) S dX0_measureTrees_33 (by decide) ?_
      refine tg_icmp_ge (tgt := 58) S dX0_measureTrees_35 (by decide) (fun _ => ?_) (fun c => absurd tg_ge c)
      refine tg_iconst (v := nI 0) S dX0_measureTrees_58 (by decide) ?_
      refine tg_istore_n (L' := [(0, .ref (h 2)), (1, .int (nI 0))]) [1, 0] S dX0_measureTrees_59 rfl (by decide) rfl ?_
      refine tg_loop (X := tg_Mem) fa_mt3 30 (tg_it fa_mt2 (tg_it fa_mt1 σ 30) 30) (fun τ => τ) (fun i τ => [(0, .ref (h 2)), (1, .int (nI i))]) ?_ ?_
      · skip
        intro i τ hi_i hk_i
        refine tg_iload_n S 1 dX0_measureTrees_60 rfl rfl ?_
        refine tg_bipush (v := 30) S dX0_measureTrees_61 (by decide) ?_
        refine tg_icmp_ge (tgt := 105) S dX0_measureTrees_63 (by decide) (fun c => absurd c (tg_nge hi_i)) (fun _ => ?_)
        refine tg_aload_n S 0 dX0_measureTrees_66 rfl rfl ?_
        refine tg_get (v := .ref (h 17)) S tw_v0 hK 2 rfl rfl 6 (by decide) (tw_in fl_RX0_28 rfl) dX0_measureTrees_67 rfl ?_
        refine tg_iload_n S 1 dX0_measureTrees_70 rfl rfl ?_
        refine tg_aload_n S 0 dX0_measureTrees_71 rfl rfl ?_
        refine tg_get (v := .ref (h 14)) S tw_v0 hK 2 rfl rfl 3 (by decide) (tw_in fl_RX0_19 rfl) dX0_measureTrees_72 rfl ?_
        refine tg_iload_n S 1 dX0_measureTrees_75 rfl rfl ?_
        refine tg_iald (v := τ 11 i) S hK 14 0 rfl rfl dX0_measureTrees_76 (tg_in hi_i (by decide)) (congrArg ((τ 11)) (tg_cl (Nat.lt_trans hi_i (by decide)))) ?_
        refine tg_iconst (v := -1) S dX0_measureTrees_77 (by decide) ?_
        refine tg_icmp_ne (tgt := 90) S dX0_measureTrees_78 (by decide) (fun c_2 => ?_) (fun c_2 => ?_)
        · skip
          refine tg_aload_n S 0 dX0_measureTrees_90 rfl rfl ?_
          refine tg_get (v := .ref (h 1)) S tw_v0 hK 2 rfl rfl 0 (by decide) (tw_in fl_RX0_46 rfl) dX0_measureTrees_91 rfl ?_
          refine tg_iload_n S 1 dX0_measureTrees_94 rfl rfl ?_
          refine tg_callN (nA := 1) (As := [.int (nI i)]) (rest := [.int (nI i), .ref (h 17)]) (host := RX2) (q := (RX1, TX1, 9)) S hK hN (k_X1_dayOf hd τ (nI i)) 1 rfl rfl (tw_gW co_X1_dayOf rfl) (List.mem_of_getElem? (i := 15) rfl) (tw_in in_RX1 rfl) (tw_in im_X1_dayOf rfl) (tw_in se_X1_dayOf rfl) rfl (by decide +kernel) ⟨Nat.le_of_ble_eq_true rfl, Nat.le_of_ble_eq_true rfl⟩ rfl rfl (Nat.le_of_ble_eq_true rfl) dX0_measureTrees_95 ⟨Nat.le_of_ble_eq_true rfl, Nat.le_of_ble_eq_true rfl⟩ ?_
          refine tg_iast (σ2 := tg_set τ 14 i (fa_dayOf τ (nI i))) S hK (tw_TD hd) 17 0 rfl rfl dX0_measureTrees_98 (tg_in hi_i (by decide)) (by rw [tg_cl (Nat.lt_trans hi_i (by decide))]; rfl) ?_
          refine tg_iinc (v := nI (i + 1)) (L' := [(0, .ref (h 2)), (1, .int (nI (i + 1)))]) [1, 0] S 1 dX0_measureTrees_99 rfl (tg_inc _) (by decide) rfl ?_
          refine tg_goto (tgt := 60) S dX0_measureTrees_102 (by decide) ?_
          have e_4 : fa_mt3 i τ = tg_set τ 14 i (fa_dayOf τ (nI i)) := (by first | (simp [fa_mt3, c_2]; done) | (simp only [fa_mt3, if_neg c_2]; done))
          rw [e_4] at hk_i
          exact hk_i
        · skip
          refine tg_aload_n S 0 dX0_measureTrees_81 rfl rfl ?_
          refine tg_get (v := .ref (h 16)) S tw_v0 hK 2 rfl rfl 5 (by decide) (tw_in fl_RX0_25 rfl) dX0_measureTrees_82 rfl ?_
          refine tg_iload_n S 1 dX0_measureTrees_85 rfl rfl ?_
          refine tg_iald (v := τ 13 i) S hK 16 0 rfl rfl dX0_measureTrees_86 (tg_in hi_i (by decide)) (congrArg ((τ 13)) (tg_cl (Nat.lt_trans hi_i (by decide)))) ?_
          refine tg_goto (tgt := 98) S dX0_measureTrees_87 (by decide) ?_
          refine tg_iast (σ2 := tg_set τ 14 i (τ 13 i)) S hK (tw_TD hd) 17 0 rfl rfl dX0_measureTrees_98 (tg_in hi_i (by decide)) (by rw [tg_cl (Nat.lt_trans hi_i (by decide))]; rfl) ?_
          refine tg_iinc (v := nI (i + 1)) (L' := [(0, .ref (h 2)), (1, .int (nI (i + 1)))]) [1, 0] S 1 dX0_measureTrees_99 rfl (tg_inc _) (by decide) rfl ?_
          refine tg_goto (tgt := 60) S dX0_measureTrees_102 (by decide) ?_
          have e_5 : fa_mt3 i τ = tg_set τ 14 i (τ 13 i) := (by first | (simp [fa_mt3, c_2]; done) | (simp only [fa_mt3, if_pos c_2]; done))
          rw [e_5] at hk_i
          exact hk_i
      · skip
        refine tg_iload_n S 1 dX0_measureTrees_60 rfl rfl ?_
        refine tg_bipush (v := 30) S dX0_measureTrees_61 (by decide) ?_
        refine tg_icmp_ge (tgt := 105) S dX0_measureTrees_63 (by decide) (fun _ => ?_) (fun c => absurd tg_ge c)
        exact tg_vret S hr hlk dX0_measureTrees_105 (by simp [fa_measure])
set_option maxHeartbeats 4000000 in
set_option maxRecDepth 100000 in
theorem k_X0_comesBefore {l : Launch} {D : va_G} {h : Nat → Nat} {cI cZ : ClassId} (hd : tw_dis 23 h) (σ : tg_Mem) (x : Int32) (y : Int32) : tg_CT l yX0_comesBefore wzX0_comesBefore (tg_rm 2) (tw_T h cI cZ) (tw_ty cI cZ) tw_nl (tw_A 23 h) D [.ref (h 2), .int x, .int y] σ (some (.int (tg_b (fa_before σ x y)))) σ := by
  refine tg_met (own := RX0) (cc := cX0_comesBefore) (maxL := 3) (ret := (some .boolean)) (by decide +kernel) rfl rfl (Nat.le_of_ble_eq_true rfl) ?_
  intro p e s m below meth c S hK hN hr hlk
  refine tg_sub (L' := [(0, .ref (h 2)), (1, .int x), (2, .int y)]) [0, 1, 2] rfl ?_
  refine tg_aload_n S 0 dX0_comesBefore_0 rfl rfl ?_
  refine tg_iload_n S 1 dX0_comesBefore_1 rfl rfl ?_
  refine tg_callV (nA := 1) (As := [.int x]) (rest := []) (q := (RX0, TX0, 13)) S hK hN (k_X0_contains hd σ x) 2 rfl rfl (tw_gV ml_RX0_54 im_X0_contains se_X0_contains in_RX0 co_X0_contains rfl) rfl (by decide +kernel) ⟨Nat.le_of_ble_eq_true rfl, Nat.le_of_ble_eq_true rfl⟩ rfl rfl (Nat.le_of_ble_eq_true rfl) dX0_comesBefore_2 ⟨Nat.le_of_ble_eq_true rfl, Nat.le_of_ble_eq_true rfl⟩ ?_
  refine tg_ifz (tgt := 31) S dX0_comesBefore_5 (by decide) (fun c_1 => ?_) (fun c_1 => ?_)
  · skip
    refine tg_iconst (v := 0) S dX0_comesBefore_31 (by decide) ?_
    exact tg_zret (b := false) S hr hlk dX0_comesBefore_32 (congrArg tg_b (by simp [fa_before, c_1])) rfl
  · skip
    refine tg_aload_n S 0 dX0_comesBefore_8 rfl rfl ?_
    refine tg_iload_n S 2 dX0_comesBefore_9 rfl rfl ?_
    refine tg_callV (nA := 1) (As := [.int y]) (rest := []) (q := (RX0, TX0, 13)) S hK hN (k_X0_contains hd σ y) 2 rfl rfl (tw_gV ml_RX0_54 im_X0_contains se_X0_contains in_RX0 co_X0_contains rfl) rfl (by decide +kernel) ⟨Nat.le_of_ble_eq_true rfl, Nat.le_of_ble_eq_true rfl⟩ rfl rfl (Nat.le_of_ble_eq_true rfl) dX0_comesBefore_10 ⟨Nat.le_of_ble_eq_true rfl, Nat.le_of_ble_eq_true rfl⟩ ?_
    refine tg_ifz (tgt := 31) S dX0_comesBefore_13 (by decide) (fun c_2 => ?_) (fun c_2 => ?_)
    · skip
      refine tg_iconst (v := 0) S dX0_comesBefore_31 (by decide) ?_
      exact tg_zret (b := false) S hr hlk dX0_comesBefore_32 (congrArg tg_b (by simp [fa_before, c_1, c_2])) rfl
    · skip
      refine tg_aload_n S 0 dX0_comesBefore_16 rfl rfl ?_
      refine tg_get (v := .ref (h 14)) S tw_v0 hK 2 rfl rfl 3 (by decide) (tw_in fl_RX0_19 rfl) dX0_comesBefore_17 rfl ?_
      refine tg_iload_n S 1 dX0_comesBefore_20 rfl rfl ?_
      refine tg_iald (v := σ 11 x.toNatClampNeg) S hK 14 0 rfl rfl dX0_comesBefore_21 (fa_cont_in c_1) rfl ?_
      refine tg_aload_n S 0 dX0_comesBefore_22 rfl rfl ?_
      refine tg_get (v := .ref (h 14)) S tw_v0 hK 2 rfl rfl 3 (by decide) (tw_in fl_RX0_19 rfl) dX0_comesBefore_23 rfl ?_
      refine tg_iload_n S 2 dX0_comesBefore_26 rfl rfl ?_
      refine tg_iald (v := σ 11 y.toNatClampNeg) S hK 14 0 rfl rfl dX0_comesBefore_27 (fa_cont_in c_2) rfl ?_
      refine tg_icmp_eq (tgt := 33) S dX0_comesBefore_28 (by decide) (fun c_3 => ?_) (fun c_3 => ?_)
      · skip
        refine tg_aload_n S 0 dX0_comesBefore_33 rfl rfl ?_
        refine tg_get (v := .ref (h 17)) S tw_v0 hK 2 rfl rfl 6 (by decide) (tw_in fl_RX0_28 rfl) dX0_comesBefore_34 rfl ?_
        refine tg_iload_n S 1 dX0_comesBefore_37 rfl rfl ?_
        refine tg_iald (v := σ 14 x.toNatClampNeg) S hK 17 0 rfl rfl dX0_comesBefore_38 (fa_cont_in c_1) rfl ?_
        refine tg_aload_n S 0 dX0_comesBefore_39 rfl rfl ?_
        refine tg_get (v := .ref (h 17)) S tw_v0 hK 2 rfl rfl 6 (by decide) (tw_in fl_RX0_28 rfl) dX0_comesBefore_40 rfl ?_
        refine tg_iload_n S 2 dX0_comesBefore_43 rfl rfl ?_
        refine tg_iald (v := σ 14 y.toNatClampNeg) S hK 17 0 rfl rfl dX0_comesBefore_44 (fa_cont_in c_2) rfl ?_
        refine tg_icmp_lt (tgt := 68) S dX0_comesBefore_45 (by decide) (fun c_4 => ?_) (fun c_4 => ?_)
        · skip
          refine tg_iconst (v := 1) S dX0_comesBefore_68 (by decide) ?_
          refine tg_goto (tgt := 73) S dX0_comesBefore_69 (by decide) ?_
          exact tg_zret (b := true) S hr hlk dX0_comesBefore_73 (congrArg tg_b (by simp [fa_before, c_1, c_2, c_3, c_4])) rfl
        · skip
          refine tg_aload_n S 0 dX0_comesBefore_48 rfl rfl ?_
          refine tg_get (v := .ref (h 17)) S tw_v0 hK 2 rfl rfl 6 (by decide) (tw_in fl_RX0_28 rfl) dX0_comesBefore_49 rfl ?_
          refine tg_iload_n S 1 dX0_comesBefore_52 rfl rfl ?_
          refine tg_iald (v := σ 14 x.toNatClampNeg) S hK 17 0 rfl rfl dX0_comesBefore_53 (fa_cont_in c_1) rfl ?_
          refine tg_aload_n S 0 dX0_comesBefore_54 rfl rfl ?_
          refine tg_get (v := .ref (h 17)) S tw_v0 hK 2 rfl rfl 6 (by decide) (tw_in fl_RX0_28 rfl) dX0_comesBefore_55 rfl ?_
          refine tg_iload_n S 2 dX0_comesBefore_58 rfl rfl ?_
          refine tg_iald (v := σ 14 y.toNatClampNeg) S hK 17 0 rfl rfl dX0_comesBefore_59 (fa_cont_in c_2) rfl ?_
          refine tg_icmp_ne (tgt := 72) S dX0_comesBefore_60 (by decide) (fun c_5 => ?_) (fun c_5 => ?_)
          · skip
            refine tg_iconst (v := 0) S dX0_comesBefore_72 (by decide) ?_
            exact tg_zret (b := false) S hr hlk dX0_comesBefore_73 (congrArg tg_b (by simp [fa_before, c_1, c_2, c_3, c_4, c_5])) rfl
          · skip
            refine tg_iload_n S 1 dX0_comesBefore_63 rfl rfl ?_
            refine tg_iload_n S 2 dX0_comesBefore_64 rfl rfl ?_
            refine tg_icmp_ge (tgt := 72) S dX0_comesBefore_65 (by decide) (fun c_6 => ?_) (fun c_6 => ?_)
            · skip
              refine tg_iconst (v := 0) S dX0_comesBefore_72 (by decide) ?_
              exact tg_zret (b := false) S hr hlk dX0_comesBefore_73 (congrArg tg_b (by simp [fa_before, c_1, c_2, c_3, c_4, c_5, c_6])) rfl
            · skip
              refine tg_iconst (v := 1) S dX0_comesBefore_68 (by decide) ?_
              refine tg_goto (tgt := 73) S dX0_comesBefore_69 (by decide) ?_
              exact tg_zret (b := true) S hr hlk dX0_comesBefore_73 (congrArg tg_b (by simp [fa_before, c_1, c_2, c_3, c_4, c_5, c_6])) rfl
      · skip
        refine tg_iconst (v := 0) S dX0_comesBefore_31 (by decide) ?_
        exact tg_zret (b := false) S hr hlk dX0_comesBefore_32 (congrArg tg_b (by simp [fa_before, c_1, c_2, c_3])) rfl
set_option maxHeartbeats 4000000 in
set_option maxRecDepth 100000 in
theorem k_X0_placeRoot {l : Launch} {D : va_G} {h : Nat → Nat} {cI cZ : ClassId} (hd : tw_dis 23 h) (σ : tg_Mem) (x : Int32) : tg_CT l yX0_placeRoot wzX0_placeRoot (tg_rm 3) (tw_T h cI cZ) (tw_ty cI cZ) tw_nl (tw_A 23 h) D [.ref (h 2), .int x] σ none (fa_placeRoot σ x) := by
  refine tg_met (own := RX0) (cc := cX0_placeRoot) (maxL := 4) (ret := none) (by decide +kernel) rfl rfl (Nat.le_of_ble_eq_true rfl) ?_
  intro p e s m below meth c S hK hN hr hlk
  refine tg_sub (L' := [(0, .ref (h 2)), (1, .int x)]) [0, 1] rfl ?_
  refine tg_iconst (v := 0) S dX0_placeRoot_0 (by decide) ?_
  refine tg_istore_n (L' := [(0, .ref (h 2)), (1, .int x), (2, .int 0)]) [1, 2, 0] S dX0_placeRoot_1 rfl (by decide) rfl ?_
  refine tg_iconst (v := nI 0) S dX0_placeRoot_2 (by decide) ?_
  refine tg_istore_n (L' := [(0, .ref (h 2)), (1, .int x), (2, .int 0), (3, .int (nI 0))]) [1, 2, 3, 0] S dX0_placeRoot_3 rfl (by decide) rfl ?_
  refine tg_loop (X := Int32) (fa_placeS σ x) 30 0 (fun b => σ) (fun i b => [(0, .ref (h 2)), (1, .int x), (2, .int b), (3, .int (nI i))]) ?_ ?_
  · skip
    intro i b hi_i hk_i
    refine tg_iload_n S 3 dX0_placeRoot_4 rfl rfl ?_
    refine tg_bipush (v := 30) S dX0_placeRoot_5 (by decide) ?_
    refine tg_icmp_ge (tgt := 28) S dX0_placeRoot_7 (by decide) (fun c => absurd c (tg_nge hi_i)) (fun _ => ?_)
    refine tg_aload_n S 0 dX0_placeRoot_10 rfl rfl ?_
    refine tg_iload_n S 3 dX0_placeRoot_11 rfl rfl ?_
    refine tg_iload_n S 1 dX0_placeRoot_12 rfl rfl ?_
    refine tg_callV (nA := 2) (As := [.int (nI i), .int x]) (rest := []) (q := (RX0, TX0, 13)) S hK hN (k_X0_comesBefore hd σ (nI i) x) 2 rfl rfl (tw_gV ml_RX0_147 im_X0_comesBefore se_X0_comesBefore in_RX0 co_X0_comesBefore rfl) rfl (by decide +kernel) ⟨Nat.le_of_ble_eq_true rfl, Nat.le_of_ble_eq_true rfl⟩ rfl rfl (Nat.le_of_ble_eq_true rfl) dX0_placeRoot_13 ⟨Nat.le_of_ble_eq_true rfl, Nat.le_of_ble_eq_true rfl⟩ ?_
    refine tg_ifz (tgt := 22) S dX0_placeRoot_16 (by decide) (fun c_1 => ?_) (fun c_1 => ?_)
    · skip
      refine tg_iinc (v := nI (i + 1)) (L' := [(0, .ref (h 2)), (1, .int x), (2, .int b), (3, .int (nI (i + 1)))]) [1, 2, 3, 0] S 3 dX0_placeRoot_22 rfl (tg_inc _) (by decide) rfl ?_
      refine tg_goto (tgt := 4) S dX0_placeRoot_25 (by decide) ?_
      have e_1 : fa_placeS σ x i b = b := (by first | (simp [fa_placeS, c_1]; done) | (simp only [fa_placeS, if_neg (ne_true_of_eq_false c_1)]; done))
      rw [e_1] at hk_i
      exact hk_i
    · skip
      refine tg_iinc (v := b + 1) (L' := [(0, .ref (h 2)), (1, .int x), (2, .int (b + 1)), (3, .int (nI i))]) [1, 2, 0, 3] S 2 dX0_placeRoot_19 rfl rfl (by decide) rfl ?_
      refine tg_iinc (v := nI (i + 1)) (L' := [(0, .ref (h 2)), (1, .int x), (2, .int (b + 1)), (3, .int (nI (i + 1)))]) [1, 2, 3, 0] S 3 dX0_placeRoot_22 rfl (tg_inc _) (by decide) rfl ?_
      refine tg_goto (tgt := 4) S dX0_placeRoot_25 (by decide) ?_
      have e_2 : fa_placeS σ x i b = b + 1 := (by first | (simp [fa_placeS, c_1]; done) | (simp only [fa_placeS, if_pos c_1]; done))
      rw [e_2] at hk_i
      exact hk_i
  · skip
    refine tg_iload_n S 3 dX0_placeRoot_4 rfl rfl ?_
    refine tg_bipush (v := 30) S dX0_placeRoot_5 (by decide) ?_
    refine tg_icmp_ge (tgt := 28) S dX0_placeRoot_7 (by decide) (fun _ => ?_) (fun c => absurd tg_ge c)
    refine tg_iload_n S 2 dX0_placeRoot_28 rfl rfl ?_
    refine tg_callSN (nA := 1) (As := [.int (tg_it (fa_placeS σ x) 0 30)]) (rest := []) (host := RX2) S hK hN (k_X2_isId hd σ (tg_it (fa_placeS σ x) 0 30)) (tw_gW co_X2_isId rfl) (List.mem_of_getElem? (i := 9) rfl) (tw_in in_RX2 rfl) (tw_in st_X2_isId rfl) rfl (by decide +kernel) ⟨Nat.le_of_ble_eq_true rfl, Nat.le_of_ble_eq_true rfl⟩ rfl rfl (Nat.le_of_ble_eq_true rfl) dX0_placeRoot_29 ⟨Nat.le_of_ble_eq_true rfl, Nat.le_of_ble_eq_true rfl⟩ ?_
    refine tg_ifz (tgt := 42) S dX0_placeRoot_32 (by decide) (fun c_2 => ?_) (fun c_2 => ?_)
    · skip
      exact tg_vret S hr hlk dX0_placeRoot_42 (by simp [fa_placeRoot, fa_place, c_2])
    · skip
      refine tg_aload_n S 0 dX0_placeRoot_35 rfl rfl ?_
      refine tg_get (v := .ref (h 22)) S tw_v0 hK 2 rfl rfl 11 (by decide) (tw_in fl_RX0_43 rfl) dX0_placeRoot_36 rfl ?_
      refine tg_iload_n S 2 dX0_placeRoot_39 rfl rfl ?_
      refine tg_iload_n S 1 dX0_placeRoot_40 rfl rfl ?_
      refine tg_iast (σ2 := tg_set σ 19 (tg_it (fa_placeS σ x) 0 30).toNatClampNeg x) S hK (tw_TD hd) 22 0 rfl rfl dX0_placeRoot_41 (fa_id_in c_2) rfl ?_
      exact tg_vret S hr hlk dX0_placeRoot_42 (by simp [fa_placeRoot, fa_place, c_2])
set_option maxHeartbeats 4000000 in
set_option maxRecDepth 100000 in
theorem k_X0_placeRoots {l : Launch} {D : va_G} {h : Nat → Nat} {cI cZ : ClassId} (hd : tw_dis 23 h) (σ : tg_Mem)  : tg_CT l yX0_placeRoots wzX0_placeRoots (tg_rm 4) (tw_T h cI cZ) (tw_ty cI cZ) tw_nl (tw_A 23 h) D [.ref (h 2)] σ none (fa_placeRoots σ) := by
  refine tg_met (own := RX0) (cc := cX0_placeRoots) (maxL := 2) (ret := none) (by decide +kernel) rfl rfl (Nat.le_of_ble_eq_true rfl) ?_
  intro p e s m below meth c S hK hN hr hlk
  refine tg_sub (L' := [(0, .ref (h 2))]) [0] rfl ?_
  refine tg_aload_n S 0 dX0_placeRoots_0 rfl rfl ?_
  refine tg_iconst (v := 0) S dX0_placeRoots_1 (by decide) ?_
  refine tg_put (σ2 := tg_set σ 20 0 0) S tw_v0 tyX0 tyX0_ok nmX0 hK (tw_TD hd) 2 rfl rfl 12 (by decide) (tw_in fl_RX0_57 rfl) dX0_placeRoots_2 rfl (by decide +kernel) (Nat.le_of_ble_eq_true rfl) rfl ?_
  refine tg_iconst (v := nI 0) S dX0_placeRoots_5 (by decide) ?_
  refine tg_istore_n (L' := [(0, .ref (h 2)), (1, .int (nI 0))]) [1, 0] S dX0_placeRoots_6 rfl (by decide) rfl ?_
  refine tg_loop (X := tg_Mem) fa_pr 30 (tg_set σ 20 0 0) (fun τ => τ) (fun i τ => [(0, .ref (h 2)), (1, .int (nI i))]) ?_ ?_
  · skip
    intro i τ hi_i hk_i
    refine tg_iload_n S 1 dX0_placeRoots_7 rfl rfl ?_
    refine tg_bipush (v := 30) S dX0_placeRoots_8 (by decide) ?_
    refine tg_icmp_ge (tgt := 53) S dX0_placeRoots_10 (by decide) (fun c => absurd c (tg_nge hi_i)) (fun _ => ?_)
    refine tg_aload_n S 0 dX0_placeRoots_13 rfl rfl ?_
    refine tg_get (v := .ref (h 15)) S tw_v0 hK 2 rfl rfl 4 (by decide) (tw_in fl_RX0_22 rfl) dX0_placeRoots_14 rfl ?_
    refine tg_iload_n S 1 dX0_placeRoots_17 rfl rfl ?_
    refine tg_zald (v := τ 12 i) S hK 15 1 rfl rfl dX0_placeRoots_18 (tg_in hi_i (by decide)) (congrArg ((τ 12)) (tg_cl (Nat.lt_trans hi_i (by decide)))) ?_
    refine tg_if_eq (tgt := 47) S dX0_placeRoots_19 (by decide) (fun c_1 => ?_) (fun c_1 => ?_)
    · skip
      refine tg_iinc (v := nI (i + 1)) (L' := [(0, .ref (h 2)), (1, .int (nI (i + 1)))]) [1, 0] S 1 dX0_placeRoots_47 rfl (tg_inc _) (by decide) rfl ?_
      refine tg_goto (tgt := 7) S dX0_placeRoots_50 (by decide) ?_
      have e_1 : fa_pr i τ = τ := (by first | (simp [fa_pr, c_1]; done) | (simp only [fa_pr, if_pos c_1]; done))
      rw [e_1] at hk_i
      exact hk_i
    · skip
      refine tg_aload_n S 0 dX0_placeRoots_22 rfl rfl ?_
      refine tg_get (v := .ref (h 14)) S tw_v0 hK 2 rfl rfl 3 (by decide) (tw_in fl_RX0_19 rfl) dX0_placeRoots_23 rfl ?_
      refine tg_iload_n S 1 dX0_placeRoots_26 rfl rfl ?_
      refine tg_iald (v := τ 11 i) S hK 14 0 rfl rfl dX0_placeRoots_27 (tg_in hi_i (by decide)) (congrArg ((τ 11)) (tg_cl (Nat.lt_trans hi_i (by decide)))) ?_
      refine tg_iconst (v := -1) S dX0_placeRoots_28 (by decide) ?_
      refine tg_icmp_ne (tgt := 47) S dX0_placeRoots_29 (by decide) (fun c_2 => ?_) (fun c_2 => ?_)
      · skip
        refine tg_iinc (v := nI (i + 1)) (L' := [(0, .ref (h 2)), (1, .int (nI (i + 1)))]) [1, 0] S 1 dX0_placeRoots_47 rfl (tg_inc _) (by decide) rfl ?_
        refine tg_goto (tgt := 7) S dX0_placeRoots_50 (by decide) ?_
        have e_2 : fa_pr i τ = τ := (by first | (simp [fa_pr, c_1, c_2]; done) | (simp only [fa_pr, if_neg c_1, if_neg c_2]; done))
        rw [e_2] at hk_i
        exact hk_i
      · skip
        refine tg_aload_n S 0 dX0_placeRoots_32 rfl rfl ?_
        refine tg_iload_n S 1 dX0_placeRoots_33 rfl rfl ?_
        refine tg_callV (nA := 1) (As := [.int (nI i)]) (rest := []) (q := (RX0, TX0, 13)) S hK hN (k_X0_placeRoot hd τ (nI i)) 2 rfl rfl (tw_gV ml_RX0_144 im_X0_placeRoot se_X0_placeRoot in_RX0 co_X0_placeRoot rfl) rfl (by decide +kernel) ⟨Nat.le_of_ble_eq_true rfl, Nat.le_of_ble_eq_true rfl⟩ rfl rfl (Nat.le_of_ble_eq_true rfl) dX0_placeRoots_34 ⟨Nat.le_of_ble_eq_true rfl, Nat.le_of_ble_eq_true rfl⟩ ?_
        refine tg_aload_n S 0 dX0_placeRoots_37 rfl rfl ?_
        refine tg_dup S dX0_placeRoots_38 rfl ?_
        refine tg_get (v := .int ((fa_placeRoot τ (nI i)) 20 0)) S tw_v0 hK 2 rfl rfl 12 (by decide) (tw_in fl_RX0_57 rfl) dX0_placeRoots_39 rfl ?_
        refine tg_iconst (v := 1) S dX0_placeRoots_42 (by decide) ?_
        refine tg_iadd S dX0_placeRoots_43 ?_
        refine tg_put (σ2 := tg_set (fa_placeRoot τ (nI i)) 20 0 (((fa_placeRoot τ (nI i)) 20 0) + 1)) S tw_v0 tyX0 tyX0_ok nmX0 hK (tw_TD hd) 2 rfl rfl 12 (by decide) (tw_in fl_RX0_57 rfl) dX0_placeRoots_44 rfl (by decide +kernel) (Nat.le_of_ble_eq_true rfl) rfl ?_
        refine tg_iinc (v := nI (i + 1)) (L' := [(0, .ref (h 2)), (1, .int (nI (i + 1)))]) [1, 0] S 1 dX0_placeRoots_47 rfl (tg_inc _) (by decide) rfl ?_
        refine tg_goto (tgt := 7) S dX0_placeRoots_50 (by decide) ?_
        have e_3 : fa_pr i τ = tg_set (fa_placeRoot τ (nI i)) 20 0 (((fa_placeRoot τ (nI i)) 20 0) + 1) := (by first | (simp [fa_pr, c_1, c_2]; done) | (simp only [fa_pr, if_neg c_1, if_pos c_2]; done))
        rw [e_3] at hk_i
        exact hk_i
  · skip
    refine tg_iload_n S 1 dX0_placeRoots_7 rfl rfl ?_
    refine tg_bipush (v := 30) S dX0_placeRoots_8 (by decide) ?_
    refine tg_icmp_ge (tgt := 53) S dX0_placeRoots_10 (by decide) (fun _ => ?_) (fun c => absurd tg_ge c)
    exact tg_vret S hr hlk dX0_placeRoots_53 (by simp [fa_placeRoots])
set_option maxHeartbeats 4000000 in
set_option maxRecDepth 100000 in
theorem k_X0_offsetBehindParent {l : Launch} {D : va_G} {h : Nat → Nat} {cI cZ : ClassId} (hd : tw_dis 23 h) (σ : tg_Mem) (x : Int32) : tg_CT l yX0_offsetBehindParent wzX0_offsetBehindParent (tg_rm 3) (tw_T h cI cZ) (tw_ty cI cZ) tw_nl (tw_A 23 h) D [.ref (h 2), .int x] σ (some (.int (fa_off σ x))) σ := by
  refine tg_met (own := RX0) (cc := cX0_offsetBehindParent) (maxL := 4) (ret := (some .int)) (by decide +kernel) rfl rfl (Nat.le_of_ble_eq_true rfl) ?_
  intro p e s m below meth c S hK hN hr hlk
  refine tg_sub (L' := [(0, .ref (h 2)), (1, .int x)]) [0, 1] rfl ?_
  refine tg_aload_n S 0 dX0_offsetBehindParent_0 rfl rfl ?_
  refine tg_iload_n S 1 dX0_offsetBehindParent_1 rfl rfl ?_
  refine tg_callV (nA := 1) (As := [.int x]) (rest := []) (q := (RX0, TX0, 13)) S hK hN (k_X0_parentIn hd σ x) 2 rfl rfl (tw_gV ml_RX0_61 im_X0_parentIn se_X0_parentIn in_RX0 co_X0_parentIn rfl) rfl (by decide +kernel) ⟨Nat.le_of_ble_eq_true rfl, Nat.le_of_ble_eq_true rfl⟩ rfl rfl (Nat.le_of_ble_eq_true rfl) dX0_offsetBehindParent_2 ⟨Nat.le_of_ble_eq_true rfl, Nat.le_of_ble_eq_true rfl⟩ ?_
  refine tg_iconst (v := -1) S dX0_offsetBehindParent_5 (by decide) ?_
  refine tg_icmp_ne (tgt := 13) S dX0_offsetBehindParent_6 (by decide) (fun c_1 => ?_) (fun c_1 => ?_)
  · skip
    refine tg_iconst (v := 1) S dX0_offsetBehindParent_13 (by decide) ?_
    refine tg_istore_n (L' := [(0, .ref (h 2)), (1, .int x), (2, .int 1)]) [1, 2, 0] S dX0_offsetBehindParent_14 rfl (by decide) rfl ?_
    refine tg_iconst (v := nI 0) S dX0_offsetBehindParent_15 (by decide) ?_
    refine tg_istore_n (L' := [(0, .ref (h 2)), (1, .int x), (2, .int 1), (3, .int (nI 0))]) [1, 2, 3, 0] S dX0_offsetBehindParent_16 rfl (by decide) rfl ?_
    refine tg_loop (X := Int32) (fa_offS σ x) 30 1 (fun b => σ) (fun i b => [(0, .ref (h 2)), (1, .int x), (2, .int b), (3, .int (nI i))]) ?_ ?_
    · skip
      intro i b hi_i hk_i
      refine tg_iload_n S 3 dX0_offsetBehindParent_17 rfl rfl ?_
      refine tg_bipush (v := 30) S dX0_offsetBehindParent_18 (by decide) ?_
      refine tg_icmp_ge (tgt := 47) S dX0_offsetBehindParent_20 (by decide) (fun c => absurd c (tg_nge hi_i)) (fun _ => ?_)
      refine tg_aload_n S 0 dX0_offsetBehindParent_23 rfl rfl ?_
      refine tg_iload_n S 3 dX0_offsetBehindParent_24 rfl rfl ?_
      refine tg_iload_n S 1 dX0_offsetBehindParent_25 rfl rfl ?_
      refine tg_callV (nA := 2) (As := [.int (nI i), .int x]) (rest := []) (q := (RX0, TX0, 13)) S hK hN (k_X0_comesBefore hd σ (nI i) x) 2 rfl rfl (tw_gV ml_RX0_147 im_X0_comesBefore se_X0_comesBefore in_RX0 co_X0_comesBefore rfl) rfl (by decide +kernel) ⟨Nat.le_of_ble_eq_true rfl, Nat.le_of_ble_eq_true rfl⟩ rfl rfl (Nat.le_of_ble_eq_true rfl) dX0_offsetBehindParent_26 ⟨Nat.le_of_ble_eq_true rfl, Nat.le_of_ble_eq_true rfl⟩ ?_
      refine tg_ifz (tgt := 41) S dX0_offsetBehindParent_29 (by decide) (fun c_2 => ?_) (fun c_2 => ?_)
      · skip
        refine tg_iinc (v := nI (i + 1)) (L' := [(0, .ref (h 2)), (1, .int x), (2, .int b), (3, .int (nI (i + 1)))]) [1, 2, 3, 0] S 3 dX0_offsetBehindParent_41 rfl (tg_inc _) (by decide) rfl ?_
        refine tg_goto (tgt := 17) S dX0_offsetBehindParent_44 (by decide) ?_
        have e_1 : fa_offS σ x i b = b := (by first | (simp [fa_offS, c_1, c_2]; done) | (simp only [fa_offS, if_neg c_1, if_neg (ne_true_of_eq_false c_2)]; done))
        rw [e_1] at hk_i
        exact hk_i
      · skip
        refine tg_iload_n S 2 dX0_offsetBehindParent_32 rfl rfl ?_
        refine tg_aload_n S 0 dX0_offsetBehindParent_33 rfl rfl ?_
        refine tg_get (v := .ref (h 18)) S tw_v0 hK 2 rfl rfl 7 (by decide) (tw_in fl_RX0_31 rfl) dX0_offsetBehindParent_34 rfl ?_
        refine tg_iload_n S 3 dX0_offsetBehindParent_37 rfl rfl ?_
        refine tg_iald (v := σ 15 i) S hK 18 0 rfl rfl dX0_offsetBehindParent_38 (tg_in hi_i (by decide)) (congrArg ((σ 15)) (tg_cl (Nat.lt_trans hi_i (by decide)))) ?_
        refine tg_iadd S dX0_offsetBehindParent_39 ?_
        refine tg_istore_n (L' := [(0, .ref (h 2)), (1, .int x), (2, .int (b + (σ 15 i))), (3, .int (nI i))]) [1, 2, 0, 3] S dX0_offsetBehindParent_40 rfl (by decide) rfl ?_
        refine tg_iinc (v := nI (i + 1)) (L' := [(0, .ref (h 2)), (1, .int x), (2, .int (b + (σ 15 i))), (3, .int (nI (i + 1)))]) [1, 2, 3, 0] S 3 dX0_offsetBehindParent_41 rfl (tg_inc _) (by decide) rfl ?_
        refine tg_goto (tgt := 17) S dX0_offsetBehindParent_44 (by decide) ?_
        have e_2 : fa_offS σ x i b = b + (σ 15 i) := (by first | (simp [fa_offS, c_1, c_2]; done) | (simp only [fa_offS, if_neg c_1, if_pos c_2]; done))
        rw [e_2] at hk_i
        exact hk_i
    · skip
      refine tg_iload_n S 3 dX0_offsetBehindParent_17 rfl rfl ?_
      refine tg_bipush (v := 30) S dX0_offsetBehindParent_18 (by decide) ?_
      refine tg_icmp_ge (tgt := 47) S dX0_offsetBehindParent_20 (by decide) (fun _ => ?_) (fun c => absurd tg_ge c)
      refine tg_iload_n S 2 dX0_offsetBehindParent_47 rfl rfl ?_
      exact tg_iret S hr hlk dX0_offsetBehindParent_48 (by simp [fa_off, c_1]) rfl
  · skip
    refine tg_iconst (v := 0) S dX0_offsetBehindParent_9 (by decide) ?_
    refine tg_goto (tgt := 14) S dX0_offsetBehindParent_10 (by decide) ?_
    refine tg_istore_n (L' := [(0, .ref (h 2)), (1, .int x), (2, .int 0)]) [1, 2, 0] S dX0_offsetBehindParent_14 rfl (by decide) rfl ?_
    refine tg_iconst (v := nI 0) S dX0_offsetBehindParent_15 (by decide) ?_
    refine tg_istore_n (L' := [(0, .ref (h 2)), (1, .int x), (2, .int 0), (3, .int (nI 0))]) [1, 2, 3, 0] S dX0_offsetBehindParent_16 rfl (by decide) rfl ?_
    refine tg_loop (X := Int32) (fa_offS σ x) 30 0 (fun b => σ) (fun i b => [(0, .ref (h 2)), (1, .int x), (2, .int b), (3, .int (nI i))]) ?_ ?_
    · skip
      intro i b hi_i hk_i
      refine tg_iload_n S 3 dX0_offsetBehindParent_17 rfl rfl ?_
      refine tg_bipush (v := 30) S dX0_offsetBehindParent_18 (by decide) ?_
      refine tg_icmp_ge (tgt := 47) S dX0_offsetBehindParent_20 (by decide) (fun c => absurd c (tg_nge hi_i)) (fun _ => ?_)
      refine tg_aload_n S 0 dX0_offsetBehindParent_23 rfl rfl ?_
      refine tg_iload_n S 3 dX0_offsetBehindParent_24 rfl rfl ?_
      refine tg_iload_n S 1 dX0_offsetBehindParent_25 rfl rfl ?_
      refine tg_callV (nA := 2) (As := [.int (nI i), .int x]) (rest := []) (q := (RX0, TX0, 13)) S hK hN (k_X0_comesBefore hd σ (nI i) x) 2 rfl rfl (tw_gV ml_RX0_147 im_X0_comesBefore se_X0_comesBefore in_RX0 co_X0_comesBefore rfl) rfl (by decide +kernel) ⟨Nat.le_of_ble_eq_true rfl, Nat.le_of_ble_eq_true rfl⟩ rfl rfl (Nat.le_of_ble_eq_true rfl) dX0_offsetBehindParent_26 ⟨Nat.le_of_ble_eq_true rfl, Nat.le_of_ble_eq_true rfl⟩ ?_
      refine tg_ifz (tgt := 41) S dX0_offsetBehindParent_29 (by decide) (fun c_3 => ?_) (fun c_3 => ?_)
      · skip
        refine tg_iinc (v := nI (i + 1)) (L' := [(0, .ref (h 2)), (1, .int x), (2, .int b), (3, .int (nI (i + 1)))]) [1, 2, 3, 0] S 3 dX0_offsetBehindParent_41 rfl (tg_inc _) (by decide) rfl ?_
        refine tg_goto (tgt := 17) S dX0_offsetBehindParent_44 (by decide) ?_
        have e_3 : fa_offS σ x i b = b := (by first | (simp [fa_offS, c_1, c_3]; done) | (simp only [fa_offS, if_pos c_1, if_neg (ne_true_of_eq_false c_3)]; done))
        rw [e_3] at hk_i
        exact hk_i
      · skip
        refine tg_iload_n S 2 dX0_offsetBehindParent_32 rfl rfl ?_
        refine tg_aload_n S 0 dX0_offsetBehindParent_33 rfl rfl ?_
        refine tg_get (v := .ref (h 18)) S tw_v0 hK 2 rfl rfl 7 (by decide) (tw_in fl_RX0_31 rfl) dX0_offsetBehindParent_34 rfl ?_
        refine tg_iload_n S 3 dX0_offsetBehindParent_37 rfl rfl ?_
        refine tg_iald (v := σ 15 i) S hK 18 0 rfl rfl dX0_offsetBehindParent_38 (tg_in hi_i (by decide)) (congrArg ((σ 15)) (tg_cl (Nat.lt_trans hi_i (by decide)))) ?_
        refine tg_iadd S dX0_offsetBehindParent_39 ?_
        refine tg_istore_n (L' := [(0, .ref (h 2)), (1, .int x), (2, .int (b + (σ 15 i))), (3, .int (nI i))]) [1, 2, 0, 3] S dX0_offsetBehindParent_40 rfl (by decide) rfl ?_
        refine tg_iinc (v := nI (i + 1)) (L' := [(0, .ref (h 2)), (1, .int x), (2, .int (b + (σ 15 i))), (3, .int (nI (i + 1)))]) [1, 2, 3, 0] S 3 dX0_offsetBehindParent_41 rfl (tg_inc _) (by decide) rfl ?_
        refine tg_goto (tgt := 17) S dX0_offsetBehindParent_44 (by decide) ?_
        have e_4 : fa_offS σ x i b = b + (σ 15 i) := (by first | (simp [fa_offS, c_1, c_3]; done) | (simp only [fa_offS, if_pos c_1, if_pos c_3]; done))
        rw [e_4] at hk_i
        exact hk_i
    · skip
      refine tg_iload_n S 3 dX0_offsetBehindParent_17 rfl rfl ?_
      refine tg_bipush (v := 30) S dX0_offsetBehindParent_18 (by decide) ?_
      refine tg_icmp_ge (tgt := 47) S dX0_offsetBehindParent_20 (by decide) (fun _ => ?_) (fun c => absurd tg_ge c)
      refine tg_iload_n S 2 dX0_offsetBehindParent_47 rfl rfl ?_
      exact tg_iret S hr hlk dX0_offsetBehindParent_48 (by simp [fa_off, c_1]) rfl
set_option maxHeartbeats 4000000 in
set_option maxRecDepth 100000 in
theorem k_X0_startInOrder {l : Launch} {D : va_G} {h : Nat → Nat} {cI cZ : ClassId} (hd : tw_dis 23 h) (σ : tg_Mem) (x : Int32) : tg_CT l yX0_startInOrder wzX0_startInOrder (tg_rm 1) (tw_T h cI cZ) (tw_ty cI cZ) tw_nl (tw_A 23 h) D [.ref (h 2), .int x] σ (some (.int (fa_start σ x))) σ := by
  refine tg_met (own := RX0) (cc := cX0_startInOrder) (maxL := 5) (ret := (some .int)) (by decide +kernel) rfl rfl (Nat.le_of_ble_eq_true rfl) ?_
  intro p e s m below meth c S hK hN hr hlk
  obtain ⟨v0, hv0⟩ : ∃ v, fa_start σ x = v := ⟨_, rfl⟩
  rw [hv0]
  refine tg_sub (L' := [(0, .ref (h 2)), (1, .int x)]) [0, 1] rfl ?_
  refine tg_iconst (v := 0) S dX0_startInOrder_0 (by decide) ?_
  refine tg_istore_n (L' := [(0, .ref (h 2)), (1, .int x), (2, .int 0)]) [1, 2, 0] S dX0_startInOrder_1 rfl (by decide) rfl ?_
  refine tg_iload_n S 1 dX0_startInOrder_2 rfl rfl ?_
  refine tg_istore_n (L' := [(0, .ref (h 2)), (1, .int x), (2, .int 0), (3, .int x)]) [1, 2, 3, 0] S dX0_startInOrder_3 rfl (by decide) rfl ?_
  refine tg_iconst (v := nI 0) S dX0_startInOrder_4 (by decide) ?_
  refine tg_istore (L' := [(0, .ref (h 2)), (1, .int x), (2, .int 0), (3, .int x), (4, .int (nI 0))]) [1, 2, 3, 4, 0] S dX0_startInOrder_5 (by decide) rfl ?_
  refine tg_fuel (X := Int32 × Int32) (fa_startF σ) 30 (0, x) (fun q => σ) (fun i q => [(0, .ref (h 2)), (1, .int x), (2, .int q.1), (3, .int q.2), (4, .int (nI i))]) hv0 ?_ ?_
  · skip
    intro n1 i q hn_i hF_i hk_i
    have hi_i : i < 30 := by omega
    refine tg_iload_n S 3 dX0_startInOrder_7 rfl rfl ?_
    refine tg_callSN (nA := 1) (As := [.int q.2]) (rest := []) (host := RX2) S hK hN (k_X2_isId hd σ q.2) (tw_gW co_X2_isId rfl) (List.mem_of_getElem? (i := 9) rfl) (tw_in in_RX2 rfl) (tw_in st_X2_isId rfl) rfl (by decide +kernel) ⟨Nat.le_of_ble_eq_true rfl, Nat.le_of_ble_eq_true rfl⟩ rfl rfl (Nat.le_of_ble_eq_true rfl) dX0_startInOrder_8 ⟨Nat.le_of_ble_eq_true rfl, Nat.le_of_ble_eq_true rfl⟩ ?_
    refine tg_ifz (tgt := 43) S dX0_startInOrder_11 (by decide) (fun c_1 => ?_) (fun c_1 => ?_)
    · skip
      refine tg_iload_n S 2 dX0_startInOrder_43 rfl rfl ?_
      exact tg_iret S hr hlk dX0_startInOrder_44 (((by first | (simp [fa_startF, c_1]; done) | (simp only [fa_startF, if_neg (ne_true_of_eq_false c_1)]; done)) : q.1 = fa_startF σ (n1 + 1) i q).trans hF_i) rfl
    · skip
      refine tg_iload S 4 dX0_startInOrder_14 rfl ?_
      refine tg_bipush (v := 30) S dX0_startInOrder_16 (by decide) ?_
      refine tg_icmp_ge (tgt := 43) S dX0_startInOrder_18 (by decide) (fun c => absurd c (tg_nge hi_i)) (fun _ => ?_)
      refine tg_iload_n S 2 dX0_startInOrder_21 rfl rfl ?_
      refine tg_aload_n S 0 dX0_startInOrder_22 rfl rfl ?_
      refine tg_get (v := .ref (h 19)) S tw_v0 hK 2 rfl rfl 8 (by decide) (tw_in fl_RX0_34 rfl) dX0_startInOrder_23 rfl ?_
      refine tg_iload_n S 3 dX0_startInOrder_26 rfl rfl ?_
      refine tg_iald (v := σ 16 q.2.toNatClampNeg) S hK 19 0 rfl rfl dX0_startInOrder_27 (fa_id_in c_1) rfl ?_
      refine tg_iadd S dX0_startInOrder_28 ?_
      refine tg_istore_n (L' := [(0, .ref (h 2)), (1, .int x), (2, .int (q.1 + (σ 16 q.2.toNatClampNeg))), (3, .int q.2), (4, .int (nI i))]) [1, 2, 0, 3, 4] S dX0_startInOrder_29 rfl (by decide) rfl ?_
      refine tg_aload_n S 0 dX0_startInOrder_30 rfl rfl ?_
      refine tg_get (v := .ref (h 14)) S tw_v0 hK 2 rfl rfl 3 (by decide) (tw_in fl_RX0_19 rfl) dX0_startInOrder_31 rfl ?_
      refine tg_iload_n S 3 dX0_startInOrder_34 rfl rfl ?_
      refine tg_iald (v := σ 11 q.2.toNatClampNeg) S hK 14 0 rfl rfl dX0_startInOrder_35 (fa_id_in c_1) rfl ?_
      refine tg_istore_n (L' := [(0, .ref (h 2)), (1, .int x), (2, .int (q.1 + (σ 16 q.2.toNatClampNeg))), (3, .int (σ 11 q.2.toNatClampNeg)), (4, .int (nI i))]) [1, 2, 3, 0, 4] S dX0_startInOrder_36 rfl (by decide) rfl ?_
      refine tg_iinc (v := nI (i + 1)) (L' := [(0, .ref (h 2)), (1, .int x), (2, .int (q.1 + (σ 16 q.2.toNatClampNeg))), (3, .int (σ 11 q.2.toNatClampNeg)), (4, .int (nI (i + 1)))]) [1, 2, 3, 4, 0] S 4 dX0_startInOrder_37 rfl (tg_inc _) (by decide) rfl ?_
      refine tg_goto (tgt := 7) S dX0_startInOrder_40 (by decide) ?_
      exact hk_i (q.1 + (σ 16 q.2.toNatClampNeg), σ 11 q.2.toNatClampNeg) (((by first | (simp [fa_startF, c_1]; done) | (simp only [fa_startF, if_pos c_1]; done)) : fa_startF σ n1 (i + 1) (q.1 + (σ 16 q.2.toNatClampNeg), σ 11 q.2.toNatClampNeg) = fa_startF σ (n1 + 1) i q).trans hF_i)
  · skip
    intro q hF_i
    refine tg_iload_n S 3 dX0_startInOrder_7 rfl rfl ?_
    refine tg_callSN (nA := 1) (As := [.int q.2]) (rest := []) (host := RX2) S hK hN (k_X2_isId hd σ q.2) (tw_gW co_X2_isId rfl) (List.mem_of_getElem? (i := 9) rfl) (tw_in in_RX2 rfl) (tw_in st_X2_isId rfl) rfl (by decide +kernel) ⟨Nat.le_of_ble_eq_true rfl, Nat.le_of_ble_eq_true rfl⟩ rfl rfl (Nat.le_of_ble_eq_true rfl) dX0_startInOrder_8 ⟨Nat.le_of_ble_eq_true rfl, Nat.le_of_ble_eq_true rfl⟩ ?_
    refine tg_ifz (tgt := 43) S dX0_startInOrder_11 (by decide) (fun c_2 => ?_) (fun c_2 => ?_)
    · skip
      refine tg_iload_n S 2 dX0_startInOrder_43 rfl rfl ?_
      exact tg_iret S hr hlk dX0_startInOrder_44 (((by first | (simp [fa_startF, c_2]; done) | (simp only [fa_startF, if_neg (ne_true_of_eq_false c_2)]; done)) : q.1 = fa_startF σ 0 30 q).trans hF_i) rfl
    · skip
      refine tg_iload S 4 dX0_startInOrder_14 rfl ?_
      refine tg_bipush (v := 30) S dX0_startInOrder_16 (by decide) ?_
      refine tg_icmp_ge (tgt := 43) S dX0_startInOrder_18 (by decide) (fun _ => ?_) (fun c => absurd tg_ge c)
      refine tg_iload_n S 2 dX0_startInOrder_43 rfl rfl ?_
      exact tg_iret S hr hlk dX0_startInOrder_44 (((by first | (simp [fa_startF, c_2]; done) | (simp only [fa_startF, if_pos c_2]; done)) : q.1 = fa_startF σ 0 30 q).trans hF_i) rfl
set_option maxHeartbeats 4000000 in
set_option maxRecDepth 100000 in
theorem k_X0_placeTrees {l : Launch} {D : va_G} {h : Nat → Nat} {cI cZ : ClassId} (hd : tw_dis 23 h) (σ : tg_Mem)  : tg_CT l yX0_placeTrees wzX0_placeTrees (tg_rm 4) (tw_T h cI cZ) (tw_ty cI cZ) tw_nl (tw_A 23 h) D [.ref (h 2)] σ none (fa_placeTrees σ) := by
  refine tg_met (own := RX0) (cc := cX0_placeTrees) (maxL := 2) (ret := none) (by decide +kernel) rfl rfl (Nat.le_of_ble_eq_true rfl) ?_
  intro p e s m below meth c S hK hN hr hlk
  refine tg_sub (L' := [(0, .ref (h 2))]) [0] rfl ?_
  refine tg_iconst (v := nI 0) S dX0_placeTrees_0 (by decide) ?_
  refine tg_istore_n (L' := [(0, .ref (h 2)), (1, .int (nI 0))]) [1, 0] S dX0_placeTrees_1 rfl (by decide) rfl ?_
  refine tg_loop (X := tg_Mem) fa_pt1 30 σ (fun τ => τ) (fun i τ => [(0, .ref (h 2)), (1, .int (nI i))]) ?_ ?_
  · skip
    intro i τ hi_i hk_i
    refine tg_iload_n S 1 dX0_placeTrees_2 rfl rfl ?_
    refine tg_bipush (v := 30) S dX0_placeTrees_3 (by decide) ?_
    refine tg_icmp_ge (tgt := 25) S dX0_placeTrees_5 (by decide) (fun c => absurd c (tg_nge hi_i)) (fun _ => ?_)
    refine tg_aload_n S 0 dX0_placeTrees_8 rfl rfl ?_
    refine tg_get (v := .ref (h 19)) S tw_v0 hK 2 rfl rfl 8 (by decide) (tw_in fl_RX0_34 rfl) dX0_placeTrees_9 rfl ?_
    refine tg_iload_n S 1 dX0_placeTrees_12 rfl rfl ?_
    refine tg_aload_n S 0 dX0_placeTrees_13 rfl rfl ?_
    refine tg_iload_n S 1 dX0_placeTrees_14 rfl rfl ?_
    refine tg_callV (nA := 1) (As := [.int (nI i)]) (rest := [.int (nI i), .ref (h 19)]) (q := (RX0, TX0, 13)) S hK hN (k_X0_offsetBehindParent hd τ (nI i)) 2 rfl rfl (tw_gV ml_RX0_150 im_X0_offsetBehindParent se_X0_offsetBehindParent in_RX0 co_X0_offsetBehindParent rfl) rfl (by decide +kernel) ⟨Nat.le_of_ble_eq_true rfl, Nat.le_of_ble_eq_true rfl⟩ rfl rfl (Nat.le_of_ble_eq_true rfl) dX0_placeTrees_15 ⟨Nat.le_of_ble_eq_true rfl, Nat.le_of_ble_eq_true rfl⟩ ?_
    refine tg_iast (σ2 := tg_set τ 16 i (fa_off τ (nI i))) S hK (tw_TD hd) 19 0 rfl rfl dX0_placeTrees_18 (tg_in hi_i (by decide)) (by rw [tg_cl (Nat.lt_trans hi_i (by decide))]; rfl) ?_
    refine tg_iinc (v := nI (i + 1)) (L' := [(0, .ref (h 2)), (1, .int (nI (i + 1)))]) [1, 0] S 1 dX0_placeTrees_19 rfl (tg_inc _) (by decide) rfl ?_
    refine tg_goto (tgt := 2) S dX0_placeTrees_22 (by decide) ?_
    have e_1 : fa_pt1 i τ = tg_set τ 16 i (fa_off τ (nI i)) := (by first | (simp [fa_pt1]; done))
    rw [e_1] at hk_i
    exact hk_i
  · skip
    refine tg_iload_n S 1 dX0_placeTrees_2 rfl rfl ?_
    refine tg_bipush (v := 30) S dX0_placeTrees_3 (by decide) ?_
    refine tg_icmp_ge (tgt := 25) S dX0_placeTrees_5 (by decide) (fun _ => ?_) (fun c => absurd tg_ge c)
    refine tg_iconst (v := nI 0) S dX0_placeTrees_25 (by decide) ?_
    refine tg_istore_n (L' := [(0, .ref (h 2)), (1, .int (nI 0))]) [1, 0] S dX0_placeTrees_26 rfl (by decide) rfl ?_
    refine tg_loop (X := tg_Mem) fa_pt2 30 (tg_it fa_pt1 σ 30) (fun τ => τ) (fun i τ => [(0, .ref (h 2)), (1, .int (nI i))]) ?_ ?_
    · skip
      intro i τ hi_i hk_i
      refine tg_iload_n S 1 dX0_placeTrees_27 rfl rfl ?_
      refine tg_bipush (v := 30) S dX0_placeTrees_28 (by decide) ?_
      refine tg_icmp_ge (tgt := 83) S dX0_placeTrees_30 (by decide) (fun c => absurd c (tg_nge hi_i)) (fun _ => ?_)
      refine tg_aload_n S 0 dX0_placeTrees_33 rfl rfl ?_
      refine tg_get (v := .ref (h 20)) S tw_v0 hK 2 rfl rfl 9 (by decide) (tw_in fl_RX0_37 rfl) dX0_placeTrees_34 rfl ?_
      refine tg_iload_n S 1 dX0_placeTrees_37 rfl rfl ?_
      refine tg_aload_n S 0 dX0_placeTrees_38 rfl rfl ?_
      refine tg_iload_n S 1 dX0_placeTrees_39 rfl rfl ?_
      refine tg_callV (nA := 1) (As := [.int (nI i)]) (rest := [.int (nI i), .ref (h 20)]) (q := (RX0, TX0, 13)) S hK hN (k_X0_startInOrder hd τ (nI i)) 2 rfl rfl (tw_gV ml_RX0_153 im_X0_startInOrder se_X0_startInOrder in_RX0 co_X0_startInOrder rfl) rfl (by decide +kernel) ⟨Nat.le_of_ble_eq_true rfl, Nat.le_of_ble_eq_true rfl⟩ rfl rfl (Nat.le_of_ble_eq_true rfl) dX0_placeTrees_40 ⟨Nat.le_of_ble_eq_true rfl, Nat.le_of_ble_eq_true rfl⟩ ?_
      refine tg_iast (σ2 := tg_set τ 17 i (fa_start τ (nI i))) S hK (tw_TD hd) 20 0 rfl rfl dX0_placeTrees_43 (tg_in hi_i (by decide)) (by rw [tg_cl (Nat.lt_trans hi_i (by decide))]; rfl) ?_
      refine tg_aload_n S 0 dX0_placeTrees_44 rfl rfl ?_
      refine tg_get (v := .ref (h 15)) S tw_v0 hK 2 rfl rfl 4 (by decide) (tw_in fl_RX0_22 rfl) dX0_placeTrees_45 rfl ?_
      refine tg_iload_n S 1 dX0_placeTrees_48 rfl rfl ?_
      refine tg_zald (v := τ 12 i) S hK 15 1 rfl rfl dX0_placeTrees_49 (tg_in hi_i (by decide)) (by simp [tg_set, tg_upA, upd, (tg_cl (Nat.lt_trans hi_i (by decide)))]) ?_
      refine tg_if_eq (tgt := 77) S dX0_placeTrees_50 (by decide) (fun c_1 => ?_) (fun c_1 => ?_)
      · skip
        refine tg_iinc (v := nI (i + 1)) (L' := [(0, .ref (h 2)), (1, .int (nI (i + 1)))]) [1, 0] S 1 dX0_placeTrees_77 rfl (tg_inc _) (by decide) rfl ?_
        refine tg_goto (tgt := 27) S dX0_placeTrees_80 (by decide) ?_
        have e_2 : fa_pt2 i τ = tg_set τ 17 i (fa_start τ (nI i)) := (by first | (simp [fa_pt2, c_1]; done) | (simp only [fa_pt2, if_pos c_1]; done))
        rw [e_2] at hk_i
        exact hk_i
      · skip
        refine tg_aload_n S 0 dX0_placeTrees_53 rfl rfl ?_
        refine tg_get (v := .ref (h 20)) S tw_v0 hK 2 rfl rfl 9 (by decide) (tw_in fl_RX0_37 rfl) dX0_placeTrees_54 rfl ?_
        refine tg_iload_n S 1 dX0_placeTrees_57 rfl rfl ?_
        refine tg_iald (v := fa_start τ (nI i)) S hK 20 0 rfl rfl dX0_placeTrees_58 (tg_in hi_i (by decide)) (by simp [tg_set, tg_upA, upd, (tg_cl (Nat.lt_trans hi_i (by decide)))]) ?_
        refine tg_callSN (nA := 1) (As := [.int (fa_start τ (nI i))]) (rest := []) (host := RX2) S hK hN (k_X2_isId hd (tg_set τ 17 i (fa_start τ (nI i))) (fa_start τ (nI i))) (tw_gW co_X2_isId rfl) (List.mem_of_getElem? (i := 9) rfl) (tw_in in_RX2 rfl) (tw_in st_X2_isId rfl) rfl (by decide +kernel) ⟨Nat.le_of_ble_eq_true rfl, Nat.le_of_ble_eq_true rfl⟩ rfl rfl (Nat.le_of_ble_eq_true rfl) dX0_placeTrees_59 ⟨Nat.le_of_ble_eq_true rfl, Nat.le_of_ble_eq_true rfl⟩ ?_
        refine tg_ifz (tgt := 77) S dX0_placeTrees_62 (by decide) (fun c_2 => ?_) (fun c_2 => ?_)
        · skip
          refine tg_iinc (v := nI (i + 1)) (L' := [(0, .ref (h 2)), (1, .int (nI (i + 1)))]) [1, 0] S 1 dX0_placeTrees_77 rfl (tg_inc _) (by decide) rfl ?_
          refine tg_goto (tgt := 27) S dX0_placeTrees_80 (by decide) ?_
          have e_3 : fa_pt2 i τ = tg_set τ 17 i (fa_start τ (nI i)) := (by first | (simp [fa_pt2, c_1, c_2]; done) | (simp only [fa_pt2, if_neg c_1, if_neg (ne_true_of_eq_false c_2)]; done))
          rw [e_3] at hk_i
          exact hk_i
        · skip
          refine tg_aload_n S 0 dX0_placeTrees_65 rfl rfl ?_
          refine tg_get (v := .ref (h 21)) S tw_v0 hK 2 rfl rfl 10 (by decide) (tw_in fl_RX0_40 rfl) dX0_placeTrees_66 rfl ?_
          refine tg_aload_n S 0 dX0_placeTrees_69 rfl rfl ?_
          refine tg_get (v := .ref (h 20)) S tw_v0 hK 2 rfl rfl 9 (by decide) (tw_in fl_RX0_37 rfl) dX0_placeTrees_70 rfl ?_
          refine tg_iload_n S 1 dX0_placeTrees_73 rfl rfl ?_
          refine tg_iald (v := fa_start τ (nI i)) S hK 20 0 rfl rfl dX0_placeTrees_74 (tg_in hi_i (by decide)) (by simp [tg_set, tg_upA, upd, (tg_cl (Nat.lt_trans hi_i (by decide)))]) ?_
          refine tg_iload_n S 1 dX0_placeTrees_75 rfl rfl ?_
          refine tg_iast (σ2 := tg_set (tg_set τ 17 i (fa_start τ (nI i))) 18 (fa_start τ (nI i)).toNatClampNeg (nI i)) S hK (tw_TD hd) 21 0 rfl rfl dX0_placeTrees_76 (fa_id_in c_2) rfl ?_
          refine tg_iinc (v := nI (i + 1)) (L' := [(0, .ref (h 2)), (1, .int (nI (i + 1)))]) [1, 0] S 1 dX0_placeTrees_77 rfl (tg_inc _) (by decide) rfl ?_
          refine tg_goto (tgt := 27) S dX0_placeTrees_80 (by decide) ?_
          have e_4 : fa_pt2 i τ = tg_set (tg_set τ 17 i (fa_start τ (nI i))) 18 (fa_start τ (nI i)).toNatClampNeg (nI i) := (by first | (simp [fa_pt2, c_1, c_2]; done) | (simp only [fa_pt2, if_neg c_1, if_pos c_2]; done))
          rw [e_4] at hk_i
          exact hk_i
    · skip
      refine tg_iload_n S 1 dX0_placeTrees_27 rfl rfl ?_
      refine tg_bipush (v := 30) S dX0_placeTrees_28 (by decide) ?_
      refine tg_icmp_ge (tgt := 83) S dX0_placeTrees_30 (by decide) (fun _ => ?_) (fun c => absurd tg_ge c)
      exact tg_vret S hr hlk dX0_placeTrees_83 (by simp [fa_placeTrees])
set_option maxHeartbeats 4000000 in
set_option maxRecDepth 100000 in
theorem k_X0_grow {l : Launch} {D : va_G} {h : Nat → Nat} {cI cZ : ClassId} (hd : tw_dis 23 h) (σ : tg_Mem)  : tg_CT l yX0_grow wzX0_grow (tg_rm 5) (tw_T h cI cZ) (tw_ty cI cZ) tw_nl (tw_A 23 h) D [.ref (h 2)] σ none (fa_grow σ) := by
  refine tg_met (own := RX0) (cc := cX0_grow) (maxL := 1) (ret := none) (by decide +kernel) rfl rfl (Nat.le_of_ble_eq_true rfl) ?_
  intro p e s m below meth c S hK hN hr hlk
  refine tg_sub (L' := [(0, .ref (h 2))]) [0] rfl ?_
  refine tg_aload_n S 0 dX0_grow_0 rfl rfl ?_
  refine tg_callV (nA := 0) (As := []) (rest := []) (q := (RX0, TX0, 13)) S hK hN (k_X0_findKnown hd σ ) 2 rfl rfl (tw_gV ml_RX0_65 im_X0_findKnown se_X0_findKnown in_RX0 co_X0_findKnown rfl) rfl (by decide +kernel) ⟨Nat.le_of_ble_eq_true rfl, Nat.le_of_ble_eq_true rfl⟩ rfl rfl (Nat.le_of_ble_eq_true rfl) dX0_grow_1 ⟨Nat.le_of_ble_eq_true rfl, Nat.le_of_ble_eq_true rfl⟩ ?_
  refine tg_aload_n S 0 dX0_grow_4 rfl rfl ?_
  refine tg_callV (nA := 0) (As := []) (rest := []) (q := (RX0, TX0, 13)) S hK hN (k_X0_linkKnown hd (fa_findKnown σ) ) 2 rfl rfl (tw_gV ml_RX0_68 im_X0_linkKnown se_X0_linkKnown in_RX0 co_X0_linkKnown rfl) rfl (by decide +kernel) ⟨Nat.le_of_ble_eq_true rfl, Nat.le_of_ble_eq_true rfl⟩ rfl rfl (Nat.le_of_ble_eq_true rfl) dX0_grow_5 ⟨Nat.le_of_ble_eq_true rfl, Nat.le_of_ble_eq_true rfl⟩ ?_
  refine tg_aload_n S 0 dX0_grow_8 rfl rfl ?_
  refine tg_callV (nA := 0) (As := []) (rest := []) (q := (RX0, TX0, 13)) S hK hN (k_X0_hangByLinks hd (fa_linkKnown (fa_findKnown σ)) ) 2 rfl rfl (tw_gV ml_RX0_71 im_X0_hangByLinks se_X0_hangByLinks in_RX0 co_X0_hangByLinks rfl) rfl (by decide +kernel) ⟨Nat.le_of_ble_eq_true rfl, Nat.le_of_ble_eq_true rfl⟩ rfl rfl (Nat.le_of_ble_eq_true rfl) dX0_grow_9 ⟨Nat.le_of_ble_eq_true rfl, Nat.le_of_ble_eq_true rfl⟩ ?_
  refine tg_aload_n S 0 dX0_grow_12 rfl rfl ?_
  refine tg_callV (nA := 0) (As := []) (rest := []) (q := (RX0, TX0, 13)) S hK hN (k_X0_keepMissing hd (fa_hangByLinks (fa_linkKnown (fa_findKnown σ))) ) 2 rfl rfl (tw_gV ml_RX0_74 im_X0_keepMissing se_X0_keepMissing in_RX0 co_X0_keepMissing rfl) rfl (by decide +kernel) ⟨Nat.le_of_ble_eq_true rfl, Nat.le_of_ble_eq_true rfl⟩ rfl rfl (Nat.le_of_ble_eq_true rfl) dX0_grow_13 ⟨Nat.le_of_ble_eq_true rfl, Nat.le_of_ble_eq_true rfl⟩ ?_
  refine tg_aload_n S 0 dX0_grow_16 rfl rfl ?_
  refine tg_callV (nA := 0) (As := []) (rest := []) (q := (RX0, TX0, 13)) S hK hN (k_X0_hangReplies hd (fa_keepMissing (fa_hangByLinks (fa_linkKnown (fa_findKnown σ)))) ) 2 rfl rfl (tw_gV ml_RX0_77 im_X0_hangReplies se_X0_hangReplies in_RX0 co_X0_hangReplies rfl) rfl (by decide +kernel) ⟨Nat.le_of_ble_eq_true rfl, Nat.le_of_ble_eq_true rfl⟩ rfl rfl (Nat.le_of_ble_eq_true rfl) dX0_grow_17 ⟨Nat.le_of_ble_eq_true rfl, Nat.le_of_ble_eq_true rfl⟩ ?_
  refine tg_aload_n S 0 dX0_grow_20 rfl rfl ?_
  refine tg_callV (nA := 0) (As := []) (rest := []) (q := (RX0, TX0, 13)) S hK hN (k_X0_measureTrees hd (fa_hangReplies (fa_keepMissing (fa_hangByLinks (fa_linkKnown (fa_findKnown σ))))) ) 2 rfl rfl (tw_gV ml_RX0_80 im_X0_measureTrees se_X0_measureTrees in_RX0 co_X0_measureTrees rfl) rfl (by decide +kernel) ⟨Nat.le_of_ble_eq_true rfl, Nat.le_of_ble_eq_true rfl⟩ rfl rfl (Nat.le_of_ble_eq_true rfl) dX0_grow_21 ⟨Nat.le_of_ble_eq_true rfl, Nat.le_of_ble_eq_true rfl⟩ ?_
  refine tg_aload_n S 0 dX0_grow_24 rfl rfl ?_
  refine tg_callV (nA := 0) (As := []) (rest := []) (q := (RX0, TX0, 13)) S hK hN (k_X0_placeRoots hd (fa_measure (fa_hangReplies (fa_keepMissing (fa_hangByLinks (fa_linkKnown (fa_findKnown σ)))))) ) 2 rfl rfl (tw_gV ml_RX0_83 im_X0_placeRoots se_X0_placeRoots in_RX0 co_X0_placeRoots rfl) rfl (by decide +kernel) ⟨Nat.le_of_ble_eq_true rfl, Nat.le_of_ble_eq_true rfl⟩ rfl rfl (Nat.le_of_ble_eq_true rfl) dX0_grow_25 ⟨Nat.le_of_ble_eq_true rfl, Nat.le_of_ble_eq_true rfl⟩ ?_
  refine tg_aload_n S 0 dX0_grow_28 rfl rfl ?_
  refine tg_callV (nA := 0) (As := []) (rest := []) (q := (RX0, TX0, 13)) S hK hN (k_X0_placeTrees hd (fa_placeRoots (fa_measure (fa_hangReplies (fa_keepMissing (fa_hangByLinks (fa_linkKnown (fa_findKnown σ))))))) ) 2 rfl rfl (tw_gV ml_RX0_86 im_X0_placeTrees se_X0_placeTrees in_RX0 co_X0_placeTrees rfl) rfl (by decide +kernel) ⟨Nat.le_of_ble_eq_true rfl, Nat.le_of_ble_eq_true rfl⟩ rfl rfl (Nat.le_of_ble_eq_true rfl) dX0_grow_29 ⟨Nat.le_of_ble_eq_true rfl, Nat.le_of_ble_eq_true rfl⟩ ?_
  exact tg_vret S hr hlk dX0_grow_32 (by simp [fa_grow])
end
section
/-! ===== 05: the reference: what its methods answer (a text beside its own) ===== -/
def fb_in (x lo hi : Int32) : Bool := !(decide (x < lo)) && !(decide (hi < x))
def fb_k1 (i : Nat) (κ : tb_A) : tb_A := upd κ i 0
def fb_kT (tl : tb_A) (i : Nat) (κ : tb_A) : tb_A := if tl i = -1 then κ else upd κ (tl i).toNatClampNeg 1
def fb_kH (hd : tb_A) (i : Nat) (κ : tb_A) : tb_A := if hd i < 0 then κ else upd κ (hd i).toNatClampNeg 1
def fb_k2 (th tl by' hd : tb_A) (i : Nat) (κ : tb_A) : tb_A := if th i = 0 then κ else fb_kH hd i (fb_kT by' i (fb_kT tl i (upd κ i 1)))
def fb_known (th tl by' hd κ : tb_A) : tb_A := tg_it (fb_k2 th tl by' hd) (tg_it fb_k1 κ 30) 30
def fb_fnd (th tl by' : tb_A) (x : Int32) : Nat → Nat → Unit → Int32
  | 0, _, _ => -1
  | n + 1, i, u => if th i = 0 then fb_fnd th tl by' x n (i + 1) u else if tl i = x then (if by' i = -1 then fb_fnd th tl by' x n (i + 1) u else by' i) else fb_fnd th tl by' x n (i + 1) u
def fb_guess (th tl by' : tb_A) (x : Int32) : Int32 := fb_fnd th tl by' x 30 0 ()
def fb_told (th tl by' hd : tb_A) (x : Int32) : Int32 := if th x.toNatClampNeg = 0 then fb_guess th tl by' x else if hd x.toNatClampNeg = -2 then -1 else if hd x.toNatClampNeg = -1 then tl x.toNatClampNeg else hd x.toNatClampNeg
def fb_belF (lk : tb_A) (y : Int32) : Nat → Int32 → Option Bool
  | 0, _ => none
  | n + 1, a => if a = -1 then some (decide (a = y)) else if a = y then some true else if fa_id a = true then fb_belF lk y n (lk a.toNatClampNeg) else none
def fb_bel (lk : tb_A) (a y : Int32) : Bool := (fb_belF lk y 31 a).getD false
def fb_toldK (th tl by' hd κ : tb_A) (i : Nat) : Int32 := if κ i = 0 then -1 else fb_told th tl by' hd (nI i)
def fb_l1 (i : Nat) (lk : tb_A) : tb_A := upd lk i (-1)
def fb_l2 (th tl by' hd κ : tb_A) (i : Nat) (lk : tb_A) : tb_A := upd lk i (if fb_toldK th tl by' hd κ i = -1 then -1 else if fb_bel lk (fb_toldK th tl by' hd κ i) (nI i) = true then -1 else fb_toldK th tl by' hd κ i)
def fb_link (th tl by' hd κ lk : tb_A) : tb_A := tg_it (fb_l2 th tl by' hd κ) (tg_it fb_l1 lk 30) 30
def fb_abvF (th lk : tb_A) : Nat → Int32 → Option Int32
  | 0, _ => none
  | n + 1, a => if a = -1 then some (-1) else if fa_id a = true then (if th a.toNatClampNeg = 0 then (if lk a.toNatClampNeg = -1 then some a else fb_abvF th lk n (lk a.toNatClampNeg)) else some a) else none
def fb_abv (th lk : tb_A) (a : Int32) : Int32 := (fb_abvF th lk 31 a).getD (-1)
def fb_a0 (th lk : tb_A) (k : Nat) (α : tb_A) : tb_A := upd α k (fb_abv th lk (if th k = 0 then -1 else lk k))
def fb_cnt (α : tb_A) (x : Int32) (i : Nat) (q : Int32 × Int32) : Int32 × Int32 := (q.1 + (if α i = x then 1 else 0), if α i = x then nI i else q.2)
def fb_bN (α : tb_A) (x : Int32) : Int32 × Int32 := tg_it (fb_cnt α x) (0, -1) 30
def fb_b (th : tb_A) (i : Nat) (q : tb_A × tb_A) : tb_A × tb_A :=
  (if th i = 0 then (if (fb_bN q.1 (nI i)).1 = 1 then upd q.1 (fb_bN q.1 (nI i)).2.toNatClampNeg (-1) else q.1) else q.1,
   upd q.2 i (tg_b (!(decide (th i = 0)) || !(decide ((fb_bN q.1 (nI i)).1 ≤ 1)))))
def fb_alone (th α : tb_A) (x : Int32) : Bool := !(decide (th x.toNatClampNeg = 0)) && decide (α x.toNatClampNeg = -1)
def fb_can (th α sb dy : tb_A) (k j : Nat) : Bool := fb_alone th α (nI j) && (decide (sb j = sb k - 10) && (!(decide (dy k < dy j)) && !(decide (14 < dy k - dy j))))
def fb_c2 (th α sb dy : tb_A) (k j : Nat) (b : Int32) : Int32 := if fb_can th α sb dy k j = true then (if b = -1 then nI j else if dy j ≤ dy b.toNatClampNeg then b else nI j) else b
def fb_c (th α sb dy hd : tb_A) (k : Nat) (ω : tb_A) : tb_A := upd ω k (if fb_alone th α (nI k) = true then (if sb k < 10 then -1 else if hd k = -2 then -1 else tg_it (fb_c2 th α sb dy k) (-1) 30) else -1)
def fb_d (ω : tb_A) (i : Nat) (α : tb_A) : tb_A := upd α i (if ω i = -1 then α i else ω i)
/-! the forest made anew: known, linked, above, grows, order -/
def fb_K (μ : tg_Mem) : tb_A := fb_known (μ 0) (μ 1) (μ 2) (μ 7) (μ 8)
def fb_L (μ : tg_Mem) : tb_A := fb_link (μ 0) (μ 1) (μ 2) (μ 7) (fb_K μ) (μ 9)
def fb_A0 (μ : tg_Mem) : tb_A := tg_it (fb_a0 (μ 0) (fb_L μ)) (μ 10) 30
def fb_AG (μ : tg_Mem) : tb_A × tb_A := tg_it (fb_b (μ 0)) (fb_A0 μ, μ 11) 30
def fb_O (μ : tg_Mem) : tb_A := tg_it (fb_c (μ 0) (fb_AG μ).1 (μ 3) (μ 4) (μ 7)) (μ 12) 30
def fb_A2 (μ : tg_Mem) : tb_A := tg_it (fb_d (fb_O μ)) (fb_AG μ).1 30
def fb_forest (μ : tg_Mem) : tg_Mem := tg_upA (tg_upA (tg_upA (tg_upA (tg_upA μ 8 (fb_K μ)) 9 (fb_L μ)) 10 (fb_A2 μ)) 11 (fb_AG μ).2) 12 (fb_O μ)
/-! trees -/
def fb_ahead (dy : tb_A) (x y : Int32) : Bool := decide (dy x.toNatClampNeg < dy y.toNatClampNeg) || (decide (dy x.toNatClampNeg = dy y.toNatClampNeg) && !(decide (y ≤ x)))
def fb_bs (α dy : tb_A) (its later : Int32) (k : Nat) (b : Int32) : Int32 := if α k = its then (if later = -1 ∨ fb_ahead dy (nI k) later = true then (if b = -1 then nI k else if fb_ahead dy b (nI k) = true then nI k else b) else b) else b
def fb_sel (α dy : tb_A) (its later : Int32) : Int32 := tg_it (fb_bs α dy its later) (-1) 30
def fb_tnF (α dy : tb_A) (its : Int32) : Nat → Nat → Int32 × tb_A × Int32 → Option (Int32 × tb_A)
  | 0, _, q => some (q.1, q.2.1)
  | n + 1, i, q => if q.2.2 = -1 ∨ fa_id q.2.2 = true then (if fb_sel α dy its q.2.2 = -1 then some (q.1, q.2.1) else if fb_in (q.1 + 1) 0 59 = true then fb_tnF α dy its n (i + 1) (q.1 + 1, upd q.2.1 (q.1 + 1).toNatClampNeg (fb_sel α dy its q.2.2), fb_sel α dy its q.2.2) else none) else none
/-- top, many, order, stack -/
def fb_trF (α dy : tb_A) : Nat → Int32 × Int32 × tb_A × tb_A → Option (Int32 × tb_A × tb_A)
  | 0, _ => none
  | n + 1, q => if q.1 < 0 then some (q.2.1, q.2.2.1, q.2.2.2) else if fb_in q.1 0 59 = true ∧ fa_id q.2.1 = true then
      (match fb_tnF α dy (q.2.2.2 q.1.toNatClampNeg) 30 0 (q.1 + (-1), q.2.2.2, -1) with
       | none => none
       | some r => fb_trF α dy n (r.1, q.2.1 + 1, upd q.2.2.1 q.2.1.toNatClampNeg (q.2.2.2 q.1.toNatClampNeg), r.2))
    else none
def fb_tr (μ : tg_Mem) (x : Int32) : Option (Int32 × tb_A × tb_A) := fb_trF (μ 10) (μ 4) 31 (0, 0, μ 12, upd (μ 13) 0 x)
def fb_trees (μ : tg_Mem) (x : Int32) : tg_Mem := match fb_tr μ x with
  | none => μ
  | some r => tg_upA (tg_upA (tg_upA μ 12 r.2.1) 13 r.2.2) 14 (fun _ => r.1)
def fb_rnS (γ α : tb_A) (i : Nat) (k : Int32) : Int32 := k + (if γ i = 0 then 0 else if α i = -1 then 1 else 0)
def fb_rn (γ α : tb_A) : Int32 := tg_it (fb_rnS γ α) 0 30
/-- what the reference's walk through the forest asks of the letters: valid ids, and ends -/
def fb_hyp (th tl by' hd κ0 lk0 : tb_A) : Prop :=
  (∀ i, i < 30 → tl i = -1 ∨ vp_in (tl i) 30) ∧ (∀ i, i < 30 → by' i = -1 ∨ vp_in (by' i) 30) ∧ (∀ i, i < 30 → hd i < 0 ∨ vp_in (hd i) 30) ∧
  (∀ i, i < 30 → fb_toldK th tl by' hd (fb_known th tl by' hd κ0) i ≠ -1 → fb_belF (tg_it (fb_l2 th tl by' hd (fb_known th tl by' hd κ0)) (tg_it fb_l1 lk0 30) i) (nI i) 31 (fb_toldK th tl by' hd (fb_known th tl by' hd κ0) i) = some (fb_bel (tg_it (fb_l2 th tl by' hd (fb_known th tl by' hd κ0)) (tg_it fb_l1 lk0 30) i) (fb_toldK th tl by' hd (fb_known th tl by' hd κ0) i) (nI i))) ∧
  (∀ i, i < 30 → fb_abvF th (fb_link th tl by' hd (fb_known th tl by' hd κ0) lk0) 31 (if th i = 0 then -1 else fb_link th tl by' hd (fb_known th tl by' hd κ0) lk0 i) = some (fb_abv th (fb_link th tl by' hd (fb_known th tl by' hd κ0) lk0) (if th i = 0 then -1 else fb_link th tl by' hd (fb_known th tl by' hd κ0) lk0 i)))
theorem fb_cnt_in {α : tb_A} {x : Int32} {j : Nat} {q : Int32 × Int32} (hj : j < 30) (h : q.1 = 0 ∨ vp_in q.2 30) : (fb_cnt α x j q).1 = 0 ∨ vp_in (fb_cnt α x j q).2 30 := by
  unfold fb_cnt
  by_cases hc : α j = x
  · simp only [hc, if_true]
    exact Or.inr (tg_in hj (by decide))
  · simp only [if_neg hc]
    rcases h with h | h
    · exact Or.inl (by rw [h]; rfl)
    · exact Or.inr h
theorem fb_c2_in {th α sb dy : tb_A} {k j : Nat} {b : Int32} (hj : j < 30) (h : b = -1 ∨ vp_in b 30) : fb_c2 th α sb dy k j b = -1 ∨ vp_in (fb_c2 th α sb dy k j b) 30 := by
  unfold fb_c2
  have hn : vp_in (nI j) 30 := tg_in hj (by decide)
  by_cases h1 : fb_can th α sb dy k j = true
  · rw [if_pos h1]
    by_cases h2 : b = -1
    · rw [if_pos h2]; exact Or.inr hn
    · rw [if_neg h2]
      by_cases h3 : dy j ≤ dy b.toNatClampNeg
      · rw [if_pos h3]; exact h
      · rw [if_neg h3]; exact Or.inr hn
  · rw [if_neg h1]; exact h
theorem fb_in60 {x : Int32} (h : fb_in x 0 59 = true) : vp_in x 60 := by
  simp only [fb_in, Bool.and_eq_true, Bool.not_eq_true', decide_eq_false_iff_not, Int32.lt_iff_toInt_lt] at h
  rw [vp_in_iff]
  have h1 : (59 : Int32).toInt = 59 := by decide
  have h2 : (0 : Int32).toInt = 0 := by decide
  omega
theorem fb_bs_in {α dy : tb_A} {its later : Int32} {k : Nat} {b : Int32} (hk : k < 30) (h : b = -1 ∨ vp_in b 30) : fb_bs α dy its later k b = -1 ∨ vp_in (fb_bs α dy its later k b) 30 := by
  have hn : vp_in (nI k) 30 := tg_in hk (by decide)
  unfold fb_bs
  split
  · split
    · split
      · exact Or.inr hn
      · split
        · exact Or.inr hn
        · exact h
    · exact h
  · exact h
theorem tw_Ms0 {h : Nat → Nat} {cI cZ : ClassId} {σ : tg_Mem} (f : tb_A) : (tw_M h cI cZ σ).set 1 (h 1, .inl (cZ, 30, .inl f)) = tw_M h cI cZ (tg_upA σ 0 f) := rfl
theorem tw_Ms1 {h : Nat → Nat} {cI cZ : ClassId} {σ : tg_Mem} (f : tb_A) : (tw_M h cI cZ σ).set 2 (h 2, .inl (cI, 30, .inl f)) = tw_M h cI cZ (tg_upA σ 1 f) := rfl
theorem tw_Ms2 {h : Nat → Nat} {cI cZ : ClassId} {σ : tg_Mem} (f : tb_A) : (tw_M h cI cZ σ).set 3 (h 3, .inl (cI, 30, .inl f)) = tw_M h cI cZ (tg_upA σ 2 f) := rfl
theorem tw_Ms3 {h : Nat → Nat} {cI cZ : ClassId} {σ : tg_Mem} (f : tb_A) : (tw_M h cI cZ σ).set 4 (h 4, .inl (cI, 30, .inl f)) = tw_M h cI cZ (tg_upA σ 3 f) := rfl
theorem tw_Ms4 {h : Nat → Nat} {cI cZ : ClassId} {σ : tg_Mem} (f : tb_A) : (tw_M h cI cZ σ).set 5 (h 5, .inl (cI, 30, .inl f)) = tw_M h cI cZ (tg_upA σ 4 f) := rfl
theorem tw_Ms5 {h : Nat → Nat} {cI cZ : ClassId} {σ : tg_Mem} (f : tb_A) : (tw_M h cI cZ σ).set 6 (h 6, .inl (cI, 30, .inl f)) = tw_M h cI cZ (tg_upA σ 5 f) := rfl
theorem tw_Ms6 {h : Nat → Nat} {cI cZ : ClassId} {σ : tg_Mem} (f : tb_A) : (tw_M h cI cZ σ).set 7 (h 7, .inl (cZ, 30, .inl f)) = tw_M h cI cZ (tg_upA σ 6 f) := rfl
theorem tw_Ms7 {h : Nat → Nat} {cI cZ : ClassId} {σ : tg_Mem} (f : tb_A) : (tw_M h cI cZ σ).set 8 (h 8, .inl (cI, 30, .inl f)) = tw_M h cI cZ (tg_upA σ 7 f) := rfl
theorem tw_Ms8 {h : Nat → Nat} {cI cZ : ClassId} {σ : tg_Mem} (f : tb_A) : (tw_M h cI cZ σ).set 9 (h 9, .inl (cZ, 30, .inl f)) = tw_M h cI cZ (tg_upA σ 8 f) := rfl
theorem tw_Ms9 {h : Nat → Nat} {cI cZ : ClassId} {σ : tg_Mem} (f : tb_A) : (tw_M h cI cZ σ).set 10 (h 10, .inl (cI, 30, .inl f)) = tw_M h cI cZ (tg_upA σ 9 f) := rfl
theorem tw_Ms10 {h : Nat → Nat} {cI cZ : ClassId} {σ : tg_Mem} (f : tb_A) : (tw_M h cI cZ σ).set 11 (h 11, .inl (cI, 30, .inl f)) = tw_M h cI cZ (tg_upA σ 10 f) := rfl
theorem tw_Ms11 {h : Nat → Nat} {cI cZ : ClassId} {σ : tg_Mem} (f : tb_A) : (tw_M h cI cZ σ).set 12 (h 12, .inl (cZ, 30, .inl f)) = tw_M h cI cZ (tg_upA σ 11 f) := rfl
theorem tw_Ms12 {h : Nat → Nat} {cI cZ : ClassId} {σ : tg_Mem} (f : tb_A) : (tw_M h cI cZ σ).set 13 (h 13, .inl (cI, 30, .inl f)) = tw_M h cI cZ (tg_upA σ 12 f) := rfl
theorem tw_Ms13 {h : Nat → Nat} {cI cZ : ClassId} {σ : tg_Mem} (f : tb_A) : (tw_M h cI cZ σ).set 14 (h 14, .inl (cI, 60, .inl f)) = tw_M h cI cZ (tg_upA σ 13 f) := rfl
theorem fb_in30 {x : Int32} (h : fb_in x 0 29 = true) : vp_in x 30 := by
  simp only [fb_in, Bool.and_eq_true, Bool.not_eq_true', decide_eq_false_iff_not, Int32.lt_iff_toInt_lt] at h
  rw [vp_in_iff]
  have h1 : (29 : Int32).toInt = 29 := by decide
  have h2 : (0 : Int32).toInt = 0 := by decide
  omega
theorem fb_fo0 (μ : tg_Mem) : fb_forest μ 0 = μ 0 := rfl
theorem fb_fo1 (μ : tg_Mem) : fb_forest μ 1 = μ 1 := rfl
theorem fb_fo2 (μ : tg_Mem) : fb_forest μ 2 = μ 2 := rfl
theorem fb_fo3 (μ : tg_Mem) : fb_forest μ 3 = μ 3 := rfl
theorem fb_fo4 (μ : tg_Mem) : fb_forest μ 4 = μ 4 := rfl
theorem fb_fo5 (μ : tg_Mem) : fb_forest μ 5 = μ 5 := rfl
theorem fb_fo6 (μ : tg_Mem) : fb_forest μ 6 = μ 6 := rfl
theorem fb_fo7 (μ : tg_Mem) : fb_forest μ 7 = μ 7 := rfl
theorem fb_fo13 (μ : tg_Mem) : fb_forest μ 13 = μ 13 := rfl
theorem fb_fo14 (μ : tg_Mem) : fb_forest μ 14 = μ 14 := rfl
theorem fb_fo15 (μ : tg_Mem) : fb_forest μ 15 = μ 15 := rfl
theorem tg_upA_s (σ : tg_Mem) (k : Nat) (f : tb_A) : tg_upA σ k f k = f := by simp [tg_upA]
theorem tg_upA_n {σ : tg_Mem} {k a : Nat} {f : tb_A} (h : a ≠ k) : tg_upA σ k f a = σ a := by simp [tg_upA, h]
def fb_thr2 (b b2 : Bool) : Int32 := if b = true then (if b2 = true then 0 else 2) else 1
def fb_isL (th : tb_A) (x : Int32) : Bool := fb_in x 0 29 && !(decide (th x.toNatClampNeg = 0))
theorem fb_isL_in {th : tb_A} {x : Int32} (h : fb_isL th x = true) : vp_in x 30 := by
  simp only [fb_isL, Bool.and_eq_true] at h
  exact fb_in30 h.1
def fb_thrL (th : tb_A) (x : Int32) : Int32 := if fb_in x 0 29 = true then (if th x.toNatClampNeg = 0 then 2 else 0) else 1
def fb_thS (σ : tg_Mem) (x : Int32) : tg_Mem := tg_upA σ 15 (fun _ => fb_thrL (σ 0) x)
def fb_del (σ : tg_Mem) (x : Int32) : tg_Mem := tg_upA (tg_upA (tg_upA σ 0 (upd (σ 0) x.toNatClampNeg 0)) 7 (upd (σ 7) x.toNatClampNeg (-1))) 15 (fun _ => fb_thrL (σ 0) x)
def fb_spl (σ : tg_Mem) (x : Int32) : tg_Mem := tg_upA (fb_forest (fb_thS σ x)) 7 (upd (σ 7) x.toNatClampNeg (-2))
def fb_rel (σ : tg_Mem) (x : Int32) : tg_Mem := tg_upA (tg_upA σ 7 (upd (σ 7) x.toNatClampNeg (-1))) 15 (fun _ => fb_thrL (σ 0) x)
def fb_right (x g q s d w0 : Int32) : Bool := fb_in x 0 29 && (fb_in g (-1) 29 && (fb_in q (-1) 29 && (fb_in s 0 19 && (fb_in d 0 999 && (fb_in w0 0 9 && (!(decide (q = -1)) || decide (g = -1)))))))
def fb_thrP (th : tb_A) (x g q s d w0 : Int32) : Int32 := if fb_right x g q s d w0 = true then (if th x.toNatClampNeg = 0 then 0 else 2) else 1
def fb_okP (th : tb_A) (x g q s d w0 : Int32) : Bool := fb_right x g q s d w0 && decide (th x.toNatClampNeg = 0)
def fb_put (σ : tg_Mem) (x g q s d w0 : Int32) : tg_Mem := tg_upA (tg_upA (tg_upA (tg_upA (tg_upA (tg_upA (tg_upA (tg_upA (tg_upA σ 0 (upd (σ 0) x.toNatClampNeg 1)) 1 (upd (σ 1) x.toNatClampNeg q)) 2 (upd (σ 2) x.toNatClampNeg g)) 3 (upd (σ 3) x.toNatClampNeg s)) 4 (upd (σ 4) x.toNatClampNeg d)) 5 (upd (σ 5) x.toNatClampNeg w0)) 6 (upd (σ 6) x.toNatClampNeg 1)) 7 (upd (σ 7) x.toNatClampNeg (-1))) 15 (fun _ => 0)
/-! the tree of an id, in order -/
def fb_trR (μ : tg_Mem) (x : Int32) : Int32 × tb_A × tb_A := (fb_tr μ x).getD (0, μ 12, μ 13)
def fb_lkB (σ : tg_Mem) (x : Int32) : Bool := fb_in x 0 29 && !(decide (fb_forest σ 11 x.toNatClampNeg = 0))
theorem fb_lkB_in {σ : tg_Mem} {x : Int32} (h : fb_lkB σ x = true) : vp_in x 30 := by
  simp only [fb_lkB, Bool.and_eq_true] at h
  exact fb_in30 h.1
def fb_lkT (σ : tg_Mem) (x : Int32) : tg_Mem := tg_upA (tg_upA (tg_upA (tg_upA (fb_forest σ) 12 (fb_trR (fb_forest σ) x).2.1) 13 (fb_trR (fb_forest σ) x).2.2) 14 (fun _ => (fb_trR (fb_forest σ) x).1)) 15 (fun _ => 0)
def fb_lkF (σ : tg_Mem) (x : Int32) : tg_Mem := tg_upA (fb_forest σ) 15 (fun _ => if fb_in x 0 29 = true then 2 else 1)
def fb_lkS (σ : tg_Mem) (x : Int32) : tg_Mem := if fb_lkB σ x = true then fb_lkT σ x else fb_lkF σ x
def fb_chS (b : Bool) (α : tb_A) (x : Int32) (k : Nat) (n : Int32) : Int32 := n + (if b = true then (if α k = x then 1 else 0) else 0)
theorem fb_lkS_0 (σ : tg_Mem) (x : Int32) : fb_lkS σ x 0 = fb_forest σ 0 := by unfold fb_lkS; split <;> rfl
theorem fb_lkS_4 (σ : tg_Mem) (x : Int32) : fb_lkS σ x 4 = fb_forest σ 4 := by unfold fb_lkS; split <;> rfl
theorem fb_lkS_5 (σ : tg_Mem) (x : Int32) : fb_lkS σ x 5 = fb_forest σ 5 := by unfold fb_lkS; split <;> rfl
theorem fb_lkS_6 (σ : tg_Mem) (x : Int32) : fb_lkS σ x 6 = fb_forest σ 6 := by unfold fb_lkS; split <;> rfl
theorem fb_lkS_10 (σ : tg_Mem) (x : Int32) : fb_lkS σ x 10 = fb_forest σ 10 := by unfold fb_lkS; split <;> rfl
theorem fb_lkS_11 (σ : tg_Mem) (x : Int32) : fb_lkS σ x 11 = fb_forest σ 11 := by unfold fb_lkS; split <;> rfl
theorem fb_inm : fb_in (-1) (-1) 29 = true := by decide
def fb_thr1 (b : Bool) : Int32 := if b = true then 0 else 1
def fb_st (σ : tg_Mem) (x : Int32) : tg_Mem := tg_upA σ 15 (fun _ => fb_thr1 (fb_in x 0 29))
end
section
/-! ===== 06: chains, without any machine ===== -/
theorem tr_pig {l : List Nat} {N : Nat} (hn : l.Nodup) (hl : ∀ x ∈ l, x < N) : l.length ≤ N := by
  have h : l.Perm ((List.range N).filter (fun x => decide (x ∈ l))) := by
    refine (List.perm_ext_iff_of_nodup hn (List.nodup_range.filter _)).mpr ?_
    intro a
    simp only [List.mem_filter, List.mem_range, decide_eq_true_eq]
    exact ⟨fun h => ⟨hl a h, h⟩, fun h => h.2⟩
  have h2 := List.length_filter_le (fun x => decide (x ∈ l)) (List.range N)
  rw [h.length_eq]
  simpa using h2
def tr_anc (u : Nat → Option Nat) : Nat → Nat → Option Nat
  | 0, x => some x
  | n + 1, x => match u x with
    | none => none
    | some y => tr_anc u n y
theorem tr_anc_s {u : Nat → Option Nat} {n x y : Nat} (h : u x = some y) : tr_anc u (n + 1) x = tr_anc u n y := by simp [tr_anc, h]
theorem tr_anc_n {u : Nat → Option Nat} {n x : Nat} (h : u x = none) : tr_anc u (n + 1) x = none := by simp [tr_anc, h]
theorem tr_anc_add {u : Nat → Option Nat} : ∀ (m n x y : Nat), tr_anc u m x = some y → tr_anc u (m + n) x = tr_anc u n y := by
  intro m
  induction m with
  | zero => intro n x y h; simp only [tr_anc, Option.some.injEq] at h; subst h; rw [Nat.zero_add]
  | succ m ih =>
    intro n x y h
    have e : m + 1 + n = (m + n) + 1 := by omega
    cases hx : u x with
    | none => rw [tr_anc_n hx] at h; cases h
    | some w => rw [tr_anc_s hx] at h; rw [e, tr_anc_s hx]; exact ih n w y h
theorem tr_anc_le {u : Nat → Option Nat} {m n x z : Nat} (h : tr_anc u n x = some z) (hm : m ≤ n) : ∃ y, tr_anc u m x = some y := by
  cases hy : tr_anc u m x with
  | some y => exact ⟨y, rfl⟩
  | none =>
    exfalso
    have key : ∀ (m d x : Nat), tr_anc u m x = none → tr_anc u (m + d) x = none := by
      intro m
      induction m with
      | zero => intro d x h; simp [tr_anc] at h
      | succ m ih =>
        intro d x h
        have e : m + 1 + d = (m + d) + 1 := by omega
        cases hx : u x with
        | none => rw [e, tr_anc_n hx]
        | some w => rw [tr_anc_s hx] at h; rw [e, tr_anc_s hx]; exact ih d w h
    have h2 := key m (n - m) x hy
    rw [show m + (n - m) = n by omega, h] at h2
    cases h2
def tr_rng (u : Nat → Option Nat) (N : Nat) : Prop := ∀ x y, x < N → u x = some y → y < N
def tr_acyc (u : Nat → Option Nat) (N : Nat) : Prop := ∀ x n, x < N → tr_anc u (n + 1) x ≠ some x
theorem tr_anc_rng {u : Nat → Option Nat} {N : Nat} (hr : tr_rng u N) : ∀ (n x y : Nat), x < N → tr_anc u n x = some y → y < N := by
  intro n
  induction n with
  | zero => intro x y hx h; simp only [tr_anc, Option.some.injEq] at h; omega
  | succ n ih =>
    intro x y hx h
    cases hw : u x with
    | none => rw [tr_anc_n hw] at h; cases h
    | some w => rw [tr_anc_s hw] at h; exact ih w y (hr x w hx hw) h
theorem tr_len {u : Nat → Option Nat} {N x : Nat} (hr : tr_rng u N) (ha : tr_acyc u N) (hx : x < N) : tr_anc u N x = none := by
  cases hz : tr_anc u N x with
  | none => rfl
  | some z =>
    exfalso
    have hall : ∀ m, m ≤ N → ∃ y, tr_anc u m x = some y := fun m hm => tr_anc_le hz hm
    have hl : ((List.range (N + 1)).map (fun m => (tr_anc u m x).getD 0)).length ≤ N := by
      refine tr_pig ?_ ?_
      · refine List.pairwise_map.mpr (List.Pairwise.imp_of_mem ?_ List.pairwise_lt_range)
        intro a b ha' hb' hab hE
        rw [List.mem_range] at ha' hb'
        obtain ⟨ya, ea⟩ := hall a (by omega)
        obtain ⟨yb, eb⟩ := hall b (by omega)
        simp only [ea, eb, Option.getD_some] at hE
        subst hE
        have h3 := tr_anc_add a (b - a) x ya ea
        rw [show a + (b - a) = (b - a - 1) + 1 + a by omega] at h3
        have h4 : tr_anc u (b - a) ya = some ya := by
          rw [← tr_anc_add a (b - a) x ya ea, show a + (b - a) = b by omega, eb]
        rw [show b - a = (b - a - 1) + 1 by omega] at h4
        exact ha ya _ (tr_anc_rng hr a x ya hx ea) h4
      · intro y hy
        obtain ⟨m, hm, rfl⟩ := List.mem_map.mp hy
        rw [List.mem_range] at hm
        obtain ⟨yy, e⟩ := hall m (by omega)
        rw [e]
        exact tr_anc_rng hr m x yy hx e
    simp at hl
    omega
/-- some steps lead from a to b -/
def tr_lead (u : Nat → Option Nat) (a b : Nat) : Prop := ∃ n, tr_anc u n a = some b
theorem tr_lead_rf (u : Nat → Option Nat) (a : Nat) : tr_lead u a a := ⟨0, rfl⟩
theorem tr_lead_tr {u : Nat → Option Nat} {a b c : Nat} (h1 : tr_lead u a b) (h2 : tr_lead u b c) : tr_lead u a c := by
  obtain ⟨m, h1⟩ := h1
  obtain ⟨n, h2⟩ := h2
  exact ⟨m + n, by rw [tr_anc_add m n a b h1]; exact h2⟩
theorem tr_lead_step {u : Nat → Option Nat} {a b : Nat} (h : u a = some b) : tr_lead u a b := ⟨1, by rw [tr_anc_s h]; rfl⟩
/-- a chain that doesn't meet k is the same when k alone is hung anew -/
theorem tr_off {u u' : Nat → Option Nat} {k : Nat} (hu : ∀ j, j ≠ k → u' j = u j) : ∀ (m y : Nat), (∀ i, tr_anc u i y ≠ some k) → tr_anc u' m y = tr_anc u m y := by
  intro m
  induction m with
  | zero => intro y _; rfl
  | succ m ih =>
    intro y h
    have hy : y ≠ k := fun e => h 0 (by rw [e]; rfl)
    cases hw : u y with
    | none => rw [tr_anc_n hw, tr_anc_n (by rw [hu y hy]; exact hw)]
    | some w =>
      rw [tr_anc_s hw, tr_anc_s (by rw [hu y hy]; exact hw)]
      exact ih w (fun i e => h (i + 1) (by rw [tr_anc_s hw]; exact e))
theorem tr_split {u u' : Nat → Option Nat} {k p : Nat} (hu : ∀ j, j ≠ k → u' j = u j) (hk : u' k = some p) : ∀ (m y z : Nat), tr_anc u' m y = some z → tr_anc u m y = some z ∨ ∃ i j, i + 1 + j = m ∧ tr_anc u i y = some k ∧ tr_anc u' j p = some z := by
  intro m
  induction m with
  | zero => intro y z h; exact Or.inl h
  | succ m ih =>
    intro y z h
    by_cases hy : y = k
    · subst hy
      rw [tr_anc_s hk] at h
      exact Or.inr ⟨0, m, by omega, rfl, h⟩
    · cases hw : u y with
      | none => rw [tr_anc_n (by rw [hu y hy]; exact hw)] at h; cases h
      | some w =>
        rw [tr_anc_s (by rw [hu y hy]; exact hw)] at h
        rcases ih w z h with h1 | ⟨i, j, e, h1, h2⟩
        · exact Or.inl (by rw [tr_anc_s hw]; exact h1)
        · exact Or.inr ⟨i + 1, j, by omega, by rw [tr_anc_s hw]; exact h1, h2⟩
theorem tr_acyc_add {u u' : Nat → Option Nat} {N k p : Nat} (ha : tr_acyc u N) (hu : ∀ j, j ≠ k → u' j = u j) (hk : u' k = some p) (hn : ¬ tr_lead u p k) : tr_acyc u' N := by
  intro x n hx h
  have hp : ∀ m, tr_anc u' m p = tr_anc u m p := fun m => tr_off hu m p (fun i e => hn ⟨i, e⟩)
  rcases tr_split hu hk (n + 1) x x h with h1 | ⟨i, j, e, h1, h2⟩
  · exact ha x n hx h1
  · rw [hp] at h2
    exact hn ⟨j + i, by rw [tr_anc_add j i p x h2]; exact h1⟩
/-! ids as ints -/
theorem tr_idx {v : Int32} (h : fa_id v = true) : ∃ j, j < 30 ∧ v = nI j := vp_in_of (fa_id_in h) (by decide)
theorem tr_id_m1 : fa_id (-1) = false := by decide
theorem tr_cl {i : Nat} (h : i < 30) : (nI i).toNatClampNeg = i := tg_cl (Nat.lt_trans h (by decide))
theorem tr_nI {i j : Nat} (hi : i < 30) (hj : j < 30) : nI i = nI j ↔ i = j := nI_eq (Nat.lt_trans hi (by decide)) (Nat.lt_trans hj (by decide))
theorem tr_nI1 {i : Nat} (h : i < 30) : nI i ≠ -1 := by
  intro e
  have := congrArg fa_id e
  rw [fa_id_nI h, tr_id_m1] at this
  cases this
/-- an array of ids as a step -/
def tr_up (lk : tb_A) (x : Nat) : Option Nat := if fa_id (lk x) = true then some (lk x).toNatClampNeg else none
theorem tr_up_s {lk : tb_A} {x y : Nat} (h : tr_up lk x = some y) : lk x = nI y ∧ y < 30 := by
  unfold tr_up at h
  split at h
  · rename_i h1
    obtain ⟨j, hj, e⟩ := tr_idx h1
    rw [e, tr_cl hj] at h
    cases h
    exact ⟨e, hj⟩
  · cases h
theorem tr_up_i {lk : tb_A} {x y : Nat} (hy : y < 30) (h : lk x = nI y) : tr_up lk x = some y := by
  unfold tr_up
  rw [h, fa_id_nI hy, if_pos rfl, tr_cl hy]
theorem tr_up_n {lk : tb_A} {x : Nat} (h : lk x = -1) : tr_up lk x = none := by
  unfold tr_up
  rw [h, tr_id_m1]
  rfl
theorem tr_up_rng (lk : tb_A) (N : Nat) : tr_rng (tr_up lk) 30 := fun _ _ _ h => (tr_up_s h).2
/-- every entry is an id or -1 -/
def tr_val (lk : tb_A) : Prop := ∀ i, i < 30 → lk i = -1 ∨ ∃ j, j < 30 ∧ lk i = nI j
theorem tr_val_none {lk : tb_A} {x : Nat} (hv : tr_val lk) (hx : x < 30) (h : tr_up lk x = none) : lk x = -1 := by
  rcases hv x hx with h1 | ⟨j, hj, e⟩
  · exact h1
  · rw [tr_up_i hj e] at h; cases h
/-! iterations side by side -/
theorem tr_rel {X Y : Type} (R : Nat → X → Y → Prop) (f : Nat → X → X) (g : Nat → Y → Y) (N : Nat) (x : X) (y : Y) (h0 : R 0 x y) (hs : ∀ i a b, i < N → R i a b → R (i + 1) (f i a) (g i b)) : ∀ j, j ≤ N → R j (tg_it f x j) (tg_it g y j) := by
  intro j
  induction j with
  | zero => intro _; exact h0
  | succ j ih => intro h; exact hs j _ _ (by omega) (ih (by omega))
/-- whether the class's bounded walk meets b -/
theorem tr_leadF {σ : tg_Mem} {b : Nat} (hb : b < 30) : ∀ (n i a : Nat), a < 30 → (fa_leadF σ (nI b) n i (nI a) = true ↔ ∃ m, m < n ∧ tr_anc (tr_up (σ 10)) m a = some b) := by
  intro n
  induction n with
  | zero => intro i a _; simp [fa_leadF]
  | succ n ih =>
    intro i a ha
    unfold fa_leadF
    rw [if_pos (fa_id_nI ha)]
    by_cases hab : a = b
    · subst hab
      rw [if_pos rfl]
      exact ⟨fun _ => ⟨0, by omega, rfl⟩, fun _ => rfl⟩
    · rw [if_neg (fun e => hab ((tr_nI ha hb).mp e)), tr_cl ha]
      cases hu : tr_up (σ 10) a with
      | none =>
        have h1 : fa_id (σ 10 a) = false := by
          unfold tr_up at hu
          split at hu
          · cases hu
          · rename_i h; simpa using h
        have h2 : fa_leadF σ (nI b) n (i + 1) (σ 10 a) = false := by
          cases n with
          | zero => rfl
          | succ n => simp [fa_leadF, h1]
        rw [h2]
        refine ⟨fun h => (by cases h), fun ⟨m, hm, h⟩ => ?_⟩
        cases m with
        | zero => simp only [tr_anc, Option.some.injEq] at h; exact absurd h hab
        | succ m => rw [tr_anc_n hu] at h; cases h
      | some y =>
        obtain ⟨e, hy⟩ := tr_up_s hu
        rw [e, ih (i + 1) y hy]
        constructor
        · rintro ⟨m, hm, h⟩
          exact ⟨m + 1, by omega, by rw [tr_anc_s hu]; exact h⟩
        · rintro ⟨m, hm, h⟩
          cases m with
          | zero => simp only [tr_anc, Option.some.injEq] at h; exact absurd h hab
          | succ m => rw [tr_anc_s hu] at h; exact ⟨m, by omega, h⟩
theorem tr_lead_iff {σ : tg_Mem} {a b : Nat} (ha : a < 30) (hb : b < 30) (hc : tr_acyc (tr_up (σ 10)) 30) : fa_lead σ (nI a) (nI b) = true ↔ tr_lead (tr_up (σ 10)) a b := by
  unfold fa_lead
  rw [tr_leadF hb 30 0 a ha]
  refine ⟨fun ⟨m, _, h⟩ => ⟨m, h⟩, fun ⟨m, h⟩ => ⟨m, ?_, h⟩⟩
  rcases Nat.lt_or_ge m 30 with h1 | h1
  · exact h1
  · obtain ⟨y, hy⟩ := tr_anc_le h h1
    rw [tr_len (tr_up_rng _ 30) hc ha] at hy
    cases hy
/-- the reference's walk, that ends by itself -/
theorem tr_belF {lk : tb_A} (hv : tr_val lk) {b : Nat} (hb : b < 30) : ∀ (n a : Nat), a < 30 → tr_anc (tr_up lk) n a = none → ∃ r, fb_belF lk (nI b) (n + 1) (nI a) = some r ∧ (r = true ↔ tr_lead (tr_up lk) a b) := by
  intro n
  induction n with
  | zero => intro a _ h; simp [tr_anc] at h
  | succ n ih =>
    intro a ha h
    unfold fb_belF
    rw [if_neg (tr_nI1 ha)]
    by_cases hab : a = b
    · subst hab
      rw [if_pos rfl]
      exact ⟨true, rfl, fun _ => tr_lead_rf _ _, fun _ => rfl⟩
    · rw [if_neg (fun e => hab ((tr_nI ha hb).mp e)), if_pos (fa_id_nI ha), tr_cl ha]
      cases hu : tr_up lk a with
      | none =>
        rw [tr_val_none hv ha hu]
        refine ⟨false, ?_, fun h => (by cases h), fun ⟨m, h⟩ => ?_⟩
        · unfold fb_belF
          rw [if_pos rfl]
          simp only [Option.some.injEq, decide_eq_false_iff_not]
          exact fun e => tr_nI1 hb e.symm
        · cases m with
          | zero => simp only [tr_anc, Option.some.injEq] at h; exact absurd h hab
          | succ m => rw [tr_anc_n hu] at h; cases h
      | some y =>
        obtain ⟨e, hy⟩ := tr_up_s hu
        rw [tr_anc_s hu] at h
        obtain ⟨r, h1, h2⟩ := ih y hy h
        refine ⟨r, by rw [e]; exact h1, h2.trans ⟨fun ⟨m, q⟩ => ⟨m + 1, by rw [tr_anc_s hu]; exact q⟩, fun ⟨m, q⟩ => ?_⟩⟩
        cases m with
        | zero => simp only [tr_anc, Option.some.injEq] at q; exact absurd q hab
        | succ m => rw [tr_anc_s hu] at q; exact ⟨m, q⟩
theorem tr_bel {lk : tb_A} (hv : tr_val lk) (hc : tr_acyc (tr_up lk) 30) {a b : Nat} (ha : a < 30) (hb : b < 30) : fb_belF lk (nI b) 31 (nI a) = some (fb_bel lk (nI a) (nI b)) ∧ (fb_bel lk (nI a) (nI b) = true ↔ tr_lead (tr_up lk) a b) := by
  obtain ⟨r, h1, h2⟩ := tr_belF hv hb 30 a ha (tr_len (tr_up_rng _ 30) hc ha)
  have e : fb_bel lk (nI a) (nI b) = r := by unfold fb_bel; rw [h1]; rfl
  rw [e]
  exact ⟨h1, h2⟩
end
section
/-! ===== 14: the two forests: what is known ===== -/
/-- an id or none -/
def pu_v (x : Int32) : Prop := x = -1 ∨ ∃ j, j < 30 ∧ x = nI j
/-- the letters of the class and of the reference are the same -/
def pu_M (σ μ : tg_Mem) : Prop := ∀ i, i < 30 →
  (σ 0 i = 0 ↔ μ 0 i = 0) ∧ pu_v (μ 1 i) ∧ pu_v (μ 2 i) ∧ (pu_v (μ 7 i) ∨ μ 7 i = -2) ∧ (μ 0 i = 0 → μ 7 i = -1) ∧
  (σ 0 i ≠ 0 → σ 1 i = μ 2 i ∧ σ 2 i = μ 1 i ∧ σ 8 i = μ 7 i ∧ σ 5 i = μ 4 i ∧ σ 6 i = μ 5 i ∧ (σ 7 i = 0 ↔ μ 6 i = 0) ∧
    (∃ d, d < 1000 ∧ μ 4 i = nI d) ∧ (∃ p, p < 10 ∧ μ 5 i = nI p) ∧ (∃ s, s < 10 ∧ σ 3 i = nI s ∧ ((σ 4 i = 0 ∧ μ 3 i = nI s) ∨ (σ 4 i ≠ 0 ∧ μ 3 i = nI (s + 10)))))
theorem pu_set_o {σ : tg_Mem} {k i a : Nat} {x : Int32} (h : a ≠ k) : tg_set σ k i x a = σ a := by unfold tg_set; rw [if_neg h]
theorem pu_set_s {σ : tg_Mem} {k i : Nat} {x : Int32} : tg_set σ k i x k = upd (σ k) i x := by unfold tg_set; rw [if_pos rfl]
theorem pu_upd_s {f : tb_A} {i : Nat} {x : Int32} : upd f i x i = x := by simp [upd]
theorem pu_upd_o {f : tb_A} {i j : Nat} {x : Int32} (h : j ≠ i) : upd f i x j = f j := by simp [upd, h]
theorem pu_learn_o {τ : tg_Mem} {x : Int32} {a : Nat} (h : a ≠ 9) : fa_learn τ x a = τ a := by
  unfold fa_learn; split
  · exact pu_set_o h
  · rfl
theorem pu_learn {τ : tg_Mem} {x : Int32} {i : Nat} (hi : i < 30) : fa_learn τ x 9 i ≠ 0 ↔ τ 9 i ≠ 0 ∨ nI i = x := by
  unfold fa_learn
  by_cases h : fa_id x = true
  · obtain ⟨j, hj, rfl⟩ := tr_idx h
    rw [if_pos h, pu_set_s, tr_cl hj]
    by_cases e : i = j
    · subst e
      rw [pu_upd_s]
      exact ⟨fun _ => Or.inr rfl, fun _ => by decide⟩
    · rw [pu_upd_o e]
      exact ⟨Or.inl, fun h => h.elim id (fun h => absurd ((tr_nI hi hj).mp h) e)⟩
  · rw [if_neg h]
    exact ⟨Or.inl, fun h2 => h2.elim id (fun e => absurd (by rw [← e]; exact fa_id_nI hi) h)⟩
theorem pu_holds {σ : tg_Mem} {i : Nat} (hi : i < 30) : fa_holds σ (nI i) = true ↔ σ 0 i ≠ 0 := by
  unfold fa_holds
  rw [fa_id_nI hi, tr_cl hi]
  simp
/-- who is known -/
def pu_K (σ : tg_Mem) (n i : Nat) : Prop := ∃ j, j < n ∧ σ 0 j ≠ 0 ∧ (nI i = σ 2 j ∨ nI i = σ 1 j ∨ nI i = σ 8 j)
theorem pu_K_s {σ : tg_Mem} {n i : Nat} : pu_K σ (n + 1) i ↔ pu_K σ n i ∨ (σ 0 n ≠ 0 ∧ (nI i = σ 2 n ∨ nI i = σ 1 n ∨ nI i = σ 8 n)) := by
  constructor
  · rintro ⟨j, h1, h2, h3⟩
    by_cases e : j = n
    · subst e; exact Or.inr ⟨h2, h3⟩
    · exact Or.inl ⟨j, by omega, h2, h3⟩
  · rintro (⟨j, h1, h2, h3⟩ | ⟨h2, h3⟩)
    · exact ⟨j, by omega, h2, h3⟩
    · exact ⟨n, by omega, h2, h3⟩
theorem pu_told {σ : tg_Mem} {i : Nat} (hi : i < 30) : fa_pTold σ (nI i) = (if σ 0 i ≠ 0 then σ 2 i else -1) ∧ fa_gTold σ (nI i) = (if σ 0 i ≠ 0 then σ 1 i else -1) ∧ fa_handOf σ (nI i) = (if σ 0 i ≠ 0 then σ 8 i else -1) := by
  unfold fa_pTold fa_gTold fa_handOf
  rw [tr_cl hi]
  by_cases h : σ 0 i ≠ 0
  · rw [if_pos ((pu_holds hi).mpr h), if_pos ((pu_holds hi).mpr h), if_pos ((pu_holds hi).mpr h), if_pos h, if_pos h, if_pos h]; exact ⟨rfl, rfl, rfl⟩
  · have h2 : ¬ fa_holds σ (nI i) = true := fun c => h ((pu_holds hi).mp c)
    rw [if_neg h2, if_neg h2, if_neg h2, if_neg h, if_neg h, if_neg h]; exact ⟨rfl, rfl, rfl⟩
theorem pu_fk {σ : tg_Mem} : (∀ a, a ≠ 9 → fa_findKnown σ a = σ a) ∧ ∀ i, i < 30 → (fa_findKnown σ 9 i ≠ 0 ↔ σ 0 i ≠ 0 ∨ pu_K σ 30 i) := by
  have h1 : ∀ n, n ≤ 30 → (∀ a, a ≠ 9 → tg_it fa_fk1 σ n a = σ a) ∧ ∀ i, i < n → (tg_it fa_fk1 σ n 9 i ≠ 0 ↔ σ 0 i ≠ 0) := by
    refine tg_inv (fun n τ => (∀ a, a ≠ 9 → τ a = σ a) ∧ ∀ i, i < n → (τ 9 i ≠ 0 ↔ σ 0 i ≠ 0)) fa_fk1 30 σ ⟨fun _ _ => rfl, fun i h => absurd h (Nat.not_lt_zero i)⟩ ?_
    rintro n τ hn ⟨ho, hk⟩
    refine ⟨fun a ha => by unfold fa_fk1; rw [pu_set_o ha]; exact ho a ha, fun i hi => ?_⟩
    unfold fa_fk1
    rw [pu_set_s]
    by_cases e : i = n
    · subst e
      rw [pu_upd_s]
      have hh := pu_holds (σ := τ) hn
      rw [ho 0 (by decide)] at hh
      rw [← hh]
      cases fa_holds τ (nI i) <;> simp [tg_b]
    · rw [pu_upd_o e]
      exact hk i (by omega)
  obtain ⟨o1, k1⟩ := h1 30 (Nat.le_refl _)
  have h2 := tg_inv (fun n τ => (∀ a, a ≠ 9 → τ a = σ a) ∧ ∀ i, i < 30 → (τ 9 i ≠ 0 ↔ σ 0 i ≠ 0 ∨ pu_K σ n i)) fa_fk2 30 (tg_it fa_fk1 σ 30) ⟨o1, fun i hi => by rw [k1 i hi]; exact ⟨Or.inl, fun h => h.elim id (fun ⟨j, hj, _⟩ => absurd hj (Nat.not_lt_zero j))⟩⟩ ?_ 30 (Nat.le_refl _)
  · exact h2
  rintro n τ hn ⟨ho, hk⟩
  have e1 := (pu_told (σ := τ) hn).1
  have o2 : ∀ a, a ≠ 9 → fa_learn τ (fa_pTold τ (nI n)) a = σ a := fun a ha => by rw [pu_learn_o ha]; exact ho a ha
  have e2 := (pu_told (σ := fa_learn τ (fa_pTold τ (nI n))) hn).2.1
  have o3 : ∀ a, a ≠ 9 → fa_learn (fa_learn τ (fa_pTold τ (nI n))) (fa_gTold (fa_learn τ (fa_pTold τ (nI n))) (nI n)) a = σ a := fun a ha => by rw [pu_learn_o ha]; exact o2 a ha
  have e3 := (pu_told (σ := fa_learn (fa_learn τ (fa_pTold τ (nI n))) (fa_gTold (fa_learn τ (fa_pTold τ (nI n))) (nI n))) hn).2.2
  rw [ho 0 (by decide), ho 2 (by decide)] at e1
  rw [o2 0 (by decide), o2 1 (by decide)] at e2
  rw [o3 0 (by decide), o3 8 (by decide)] at e3
  refine ⟨fun a ha => by unfold fa_fk2; rw [pu_learn_o ha]; exact o3 a ha, fun i hi => ?_⟩
  unfold fa_fk2
  rw [pu_learn hi, pu_learn hi, pu_learn hi, hk i hi, e3, e2, e1, pu_K_s]
  have hm := tr_nI1 hi
  by_cases h : σ 0 n ≠ 0
  · simp only [if_pos h]
    simp only [h, ne_eq, not_false_eq_true, true_and]
    simp only [or_assoc]
  · simp only [if_neg h]
    simp only [h, hm, false_and, or_false]
end
section
/-! ===== 15: what the reference knows; who is told as the parent ===== -/
def pu_KM (μ : tg_Mem) (n i : Nat) : Prop := ∃ j, j < n ∧ μ 0 j ≠ 0 ∧ (i = j ∨ nI i = μ 1 j ∨ nI i = μ 2 j ∨ nI i = μ 7 j)
theorem pu_KM_s {μ : tg_Mem} {n i : Nat} : pu_KM μ (n + 1) i ↔ pu_KM μ n i ∨ (μ 0 n ≠ 0 ∧ (i = n ∨ nI i = μ 1 n ∨ nI i = μ 2 n ∨ nI i = μ 7 n)) := by
  constructor
  · rintro ⟨j, h1, h2, h3⟩
    by_cases e : j = n
    · subst e; exact Or.inr ⟨h2, h3⟩
    · exact Or.inl ⟨j, by omega, h2, h3⟩
  · rintro (⟨j, h1, h2, h3⟩ | ⟨h2, h3⟩)
    · exact ⟨j, by omega, h2, h3⟩
    · exact ⟨n, by omega, h2, h3⟩
theorem pu_upd1 {κ : tb_A} {i j : Nat} : upd κ j 1 i ≠ 0 ↔ κ i ≠ 0 ∨ i = j := by
  by_cases e : i = j
  · subst e; rw [pu_upd_s]; exact ⟨fun _ => Or.inr rfl, fun _ => by decide⟩
  · rw [pu_upd_o e]; exact ⟨Or.inl, fun h => h.elim id (fun h => absurd h e)⟩
theorem pu_kT {tl κ : tb_A} {n i : Nat} (hi : i < 30) (hv : pu_v (tl n)) : fb_kT tl n κ i ≠ 0 ↔ κ i ≠ 0 ∨ nI i = tl n := by
  unfold fb_kT
  rcases hv with h | ⟨j, hj, h⟩
  · rw [if_pos h, h]; exact ⟨Or.inl, fun c => c.elim id (fun c => absurd c (tr_nI1 hi))⟩
  · rw [h, if_neg (tr_nI1 hj), tr_cl hj, pu_upd1, tr_nI hi hj]
theorem pu_kH {hd κ : tb_A} {n i : Nat} (hi : i < 30) (hv : pu_v (hd n) ∨ hd n = -2) : fb_kH hd n κ i ≠ 0 ↔ κ i ≠ 0 ∨ nI i = hd n := by
  unfold fb_kH
  rcases hv with (h | ⟨j, hj, h⟩) | h
  · rw [h, if_pos (by decide)]; exact ⟨Or.inl, fun c => c.elim id (fun c => absurd c (tr_nI1 hi))⟩
  · rw [h, if_neg (nI_pos (Nat.lt_trans hj (by decide))), tr_cl hj, pu_upd1, tr_nI hi hj]
  · rw [h, if_pos (by decide)]
    refine ⟨Or.inl, fun c => c.elim id (fun c => absurd ?_ (nI_pos (n := i) (Nat.lt_trans hi (by decide))))⟩
    rw [c]; decide
theorem pu_fbK {μ : tg_Mem} (hv : ∀ i, i < 30 → pu_v (μ 1 i) ∧ pu_v (μ 2 i) ∧ (pu_v (μ 7 i) ∨ μ 7 i = -2)) : ∀ i, i < 30 → (fb_K μ i ≠ 0 ↔ pu_KM μ 30 i) := by
  have h1 : ∀ n, n ≤ 30 → ∀ i, i < n → tg_it fb_k1 (μ 8) n i = 0 := by
    refine tg_inv (fun n κ => ∀ i, i < n → κ i = 0) fb_k1 30 (μ 8) (fun i h => absurd h (Nat.not_lt_zero i)) ?_
    intro n κ hn hk i hi
    unfold fb_k1
    by_cases e : i = n
    · subst e; exact pu_upd_s
    · rw [pu_upd_o e]; exact hk i (by omega)
  have h2 := tg_inv (fun n κ => ∀ i, i < 30 → (κ i ≠ 0 ↔ pu_KM μ n i)) (fb_k2 (μ 0) (μ 1) (μ 2) (μ 7)) 30 (tg_it fb_k1 (μ 8) 30) (fun i hi => by rw [h1 30 (Nat.le_refl _) i hi]; exact ⟨fun c => absurd rfl c, fun ⟨j, hj, _⟩ => absurd hj (Nat.not_lt_zero j)⟩) ?_ 30 (Nat.le_refl _)
  · exact h2
  intro n κ hn hk i hi
  unfold fb_k2
  obtain ⟨v1, v2, v7⟩ := hv n hn
  by_cases h : μ 0 n = 0
  · rw [if_pos h, hk i hi, pu_KM_s]
    exact ⟨Or.inl, fun c => c.elim id (fun c => absurd h c.1)⟩
  · rw [if_neg h, pu_kH hi v7, pu_kT hi v2, pu_kT hi v1, pu_upd1, hk i hi, pu_KM_s]
    simp only [or_assoc, ne_eq, h, not_false_eq_true, true_and]
/-- the class's known and the reference's -/
theorem pu_known {σ μ : tg_Mem} (hM : pu_M σ μ) : ∀ i, i < 30 → (fa_findKnown σ 9 i = 0 ↔ fb_K μ i = 0) := by
  intro i hi
  have h1 := pu_fk (σ := σ) |>.2 i hi
  have h2 := pu_fbK (μ := μ) (fun j hj => ⟨(hM j hj).2.1, (hM j hj).2.2.1, (hM j hj).2.2.2.1⟩) i hi
  have h3 : (σ 0 i ≠ 0 ∨ pu_K σ 30 i) ↔ pu_KM μ 30 i := by
    constructor
    · rintro (h | ⟨j, hj, h, hc⟩)
      · exact ⟨i, hi, fun c => h ((hM i hi).1.mpr c), Or.inl rfl⟩
      · obtain ⟨e1, e2, e8, -⟩ := (hM j hj).2.2.2.2.2 h
        refine ⟨j, hj, fun c => h ((hM j hj).1.mpr c), ?_⟩
        rw [e2, e1, e8] at hc
        exact Or.inr hc
    · rintro ⟨j, hj, h, hc⟩
      have h' : σ 0 j ≠ 0 := fun c => h ((hM j hj).1.mp c)
      obtain ⟨e1, e2, e8, -⟩ := (hM j hj).2.2.2.2.2 h'
      rcases hc with rfl | hc
      · exact Or.inl h'
      · exact Or.inr ⟨j, hj, h', by rw [e2, e1, e8]; exact hc⟩
  have h4 := h1.trans (h3.trans h2.symm)
  constructor
  · intro c
    exact Classical.byContradiction fun d => h4.mpr d c
  · intro c
    exact Classical.byContradiction fun d => h4.mp d c
/-- the mail as it was -/
def pu_same (σ τ : tg_Mem) : Prop := ∀ a, a < 9 → τ a = σ a
theorem pu_guess {σ τ μ : tg_Mem} (hM : pu_M σ μ) (hs : pu_same σ τ) {x : Nat} (hx : x < 30) : fa_guess τ (nI x) = fb_guess (μ 0) (μ 1) (μ 2) (nI x) := by
  unfold fa_guess fb_guess
  have key : ∀ (n i : Nat), n + i = 30 → fa_fnd τ (nI x) n i () = fb_fnd (μ 0) (μ 1) (μ 2) (nI x) n i () := by
    intro n
    induction n with
    | zero => intro i _; rfl
    | succ n ih =>
      intro i hi
      have hi' : i < 30 := by omega
      have ihn := ih (i + 1) (by omega)
      unfold fa_fnd fb_fnd
      obtain ⟨e1, e2, -⟩ := pu_told (σ := τ) hi'
      rw [e1, e2, hs 0 (by decide), hs 1 (by decide), hs 2 (by decide), ihn]
      by_cases h : σ 0 i = 0
      · have hne : ¬ (if σ 0 i ≠ 0 then σ 2 i else -1) = nI x := by rw [if_neg (fun c => c h)]; exact Ne.symm (tr_nI1 hx)
        rw [if_pos ((hM i hi').1.mp h), if_neg hne]
      · obtain ⟨m1, m2, -⟩ := (hM i hi').2.2.2.2.2 h
        rw [if_neg (fun c => h ((hM i hi').1.mpr c)), if_pos h, if_pos h, m1, m2]
  exact key 30 0 rfl
theorem pu_toldE {σ τ μ : tg_Mem} (hM : pu_M σ μ) (hs : pu_same σ τ) {x : Nat} (hx : x < 30) : fa_told τ (nI x) = fb_told (μ 0) (μ 1) (μ 2) (μ 7) (nI x) := by
  unfold fa_told fb_told
  obtain ⟨e1, e2, e3⟩ := pu_told (σ := τ) hx
  rw [e1, e3, hs 0 (by decide), hs 2 (by decide), hs 8 (by decide), tr_cl hx, pu_guess hM hs hx]
  by_cases h : σ 0 x = 0
  · have hf : fa_holds τ (nI x) = false := by
      cases hh : fa_holds τ (nI x)
      · rfl
      · exact absurd ((pu_holds hx).mp hh) (by rw [hs 0 (by decide)]; exact fun c => c h)
    rw [if_pos hf, if_pos ((hM x hx).1.mp h)]
  · have hf : ¬ fa_holds τ (nI x) = false := by
      rw [(pu_holds hx).mpr (by rw [hs 0 (by decide)]; exact h)]; decide
    obtain ⟨m1, m2, m8, -⟩ := (hM x hx).2.2.2.2.2 h
    rw [if_neg hf, if_neg (fun c => h ((hM x hx).1.mpr c)), if_pos h, if_pos h, m2, m8]
    by_cases h1 : μ 7 x = -1
    · rw [if_pos h1, if_neg (by rw [h1]; decide), if_pos h1]
    · rw [if_neg h1]
      by_cases h2 : μ 7 x = -2
      · rw [if_pos h2, if_pos h2]
      · rw [if_neg h2, if_neg h2, if_neg h1]
end
section
/-! ===== 16: the links are the same ===== -/
theorem pu_anc {u u' : Nat → Option Nat} (h : ∀ x, x < 30 → u x = u' x) (hr : tr_rng u' 30) : ∀ (n x : Nat), x < 30 → tr_anc u n x = tr_anc u' n x := by
  intro n
  induction n with
  | zero => intro x _; rfl
  | succ n ih =>
    intro x hx
    cases e : u' x with
    | none => rw [tr_anc_n e, tr_anc_n ((h x hx).trans e)]
    | some y => rw [tr_anc_s e, tr_anc_s ((h x hx).trans e)]; exact ih y (hr x y hx e)
theorem pu_lead {u u' : Nat → Option Nat} (h : ∀ x, x < 30 → u x = u' x) (hr : tr_rng u' 30) {a b : Nat} (ha : a < 30) : tr_lead u a b ↔ tr_lead u' a b :=
  ⟨fun ⟨n, e⟩ => ⟨n, by rw [← pu_anc h hr n a ha]; exact e⟩, fun ⟨n, e⟩ => ⟨n, by rw [pu_anc h hr n a ha]; exact e⟩⟩
theorem pu_acyc {u u' : Nat → Option Nat} (h : ∀ x, x < 30 → u x = u' x) (hr : tr_rng u' 30) (hc : tr_acyc u' 30) : tr_acyc u 30 := fun x n hx => by
  rw [pu_anc h hr (n + 1) x hx]
  exact hc x n hx
theorem pu_up_eq {f g : tb_A} {x : Nat} (h : f x = g x) : tr_up f x = tr_up g x := by unfold tr_up; rw [h]
theorem pu_guessV {μ : tg_Mem} (hv : ∀ i, i < 30 → pu_v (μ 2 i)) (x : Int32) : pu_v (fb_guess (μ 0) (μ 1) (μ 2) x) := by
  unfold fb_guess
  have key : ∀ (n i : Nat), n + i = 30 → pu_v (fb_fnd (μ 0) (μ 1) (μ 2) x n i ()) := by
    intro n
    induction n with
    | zero => intro i _; exact Or.inl rfl
    | succ n ih =>
      intro i hi
      have ihn := ih (i + 1) (by omega)
      unfold fb_fnd
      split
      · exact ihn
      · split
        · split
          · exact ihn
          · exact hv i (by omega)
        · exact ihn
  exact key 30 0 rfl
theorem pu_toldV {μ : tg_Mem} (hv : ∀ i, i < 30 → pu_v (μ 1 i) ∧ pu_v (μ 2 i) ∧ (pu_v (μ 7 i) ∨ μ 7 i = -2)) {x : Nat} (hx : x < 30) : pu_v (fb_told (μ 0) (μ 1) (μ 2) (μ 7) (nI x)) := by
  unfold fb_told
  rw [tr_cl hx]
  obtain ⟨v1, v2, v7⟩ := hv x hx
  split
  · exact pu_guessV (fun i hi => (hv i hi).2.1) _
  · split
    · exact Or.inl rfl
    · split
      · exact v1
      · exact v7.resolve_right (by assumption)
/-- the relation on the way -/
def pu_R (τ0 : tg_Mem) (i : Nat) (τ : tg_Mem) (lk : tb_A) : Prop :=
  (∀ a, a ≠ 10 → τ a = τ0 a) ∧ (∀ j, j < 30 → τ 10 j = lk j) ∧ tr_val lk ∧ tr_acyc (tr_up lk) 30 ∧ ∀ j, i ≤ j → j < 30 → lk j = -1
theorem pu_leadm1 (σ : tg_Mem) (b : Int32) : fa_lead σ (-1) b = false := by
  unfold fa_lead fa_leadF
  rw [if_neg (by rw [tr_id_m1]; decide)]
theorem pu_step {σ μ τ0 : tg_Mem} (hM : pu_M σ μ) (hs : pu_same σ τ0) {i : Nat} (hi : i < 30) (hk : τ0 9 i = 0 ↔ fb_K μ i = 0) {τ : tg_Mem} {lk : tb_A} (h : pu_R τ0 i τ lk) :
    pu_R τ0 (i + 1) (fa_lk2 i τ) (fb_l2 (μ 0) (μ 1) (μ 2) (μ 7) (fb_K μ) i lk) ∧ (fb_toldK (μ 0) (μ 1) (μ 2) (μ 7) (fb_K μ) i ≠ -1 → fb_belF lk (nI i) 31 (fb_toldK (μ 0) (μ 1) (μ 2) (μ 7) (fb_K μ) i) = some (fb_bel lk (fb_toldK (μ 0) (μ 1) (μ 2) (μ 7) (fb_K μ) i) (nI i))) := by
  obtain ⟨ho, he, hv, hc, hf⟩ := h
  have hsτ : pu_same σ τ := fun a ha => (ho a (by omega)).trans (hs a ha)
  have htold := pu_toldE hM hsτ hi
  have hK9 : τ 9 i = 0 ↔ fb_K μ i = 0 := by rw [ho 9 (by decide)]; exact hk
  have hlk : lk i = -1 := hf i (Nat.le_refl _) hi
  have hup : ∀ x, x < 30 → tr_up (τ 10) x = tr_up lk x := fun x hx => pu_up_eq (he x hx)
  have hcτ : tr_acyc (tr_up (τ 10)) 30 := pu_acyc hup (tr_up_rng lk 30) hc
  have hV := pu_toldV (μ := μ) (fun j hj => ⟨(hM j hj).2.1, (hM j hj).2.2.1, (hM j hj).2.2.2.1⟩) hi
  -- writing -1
  have none : tr_up (upd lk i (-1)) = tr_up lk := by
    funext x
    by_cases e : x = i
    · subst e; exact pu_up_eq (by rw [pu_upd_s, hlk])
    · exact pu_up_eq (pu_upd_o e)
  have w1 : ∀ (τ' : tg_Mem), (∀ a, a ≠ 10 → τ' a = τ a) → (∀ j, j < 30 → τ' 10 j = upd lk i (-1) j) → pu_R τ0 (i + 1) τ' (upd lk i (-1)) := by
    intro τ' h1 h2
    refine ⟨fun a ha => (h1 a ha).trans (ho a ha), h2, fun j hj => ?_, by rw [none]; exact hc, fun j hj hj2 => by rw [pu_upd_o (by omega)]; exact hf j (by omega) hj2⟩
    by_cases e : j = i
    · subst e; exact Or.inl pu_upd_s
    · rw [pu_upd_o e]; exact hv j hj
  have wU : ∀ v : Int32, ∀ j, j < 30 → tg_set τ 10 i v 10 j = upd lk i v j := by
    intro v j hj
    rw [pu_set_s]
    by_cases e : j = i
    · subst e; rw [pu_upd_s, pu_upd_s]
    · rw [pu_upd_o e, pu_upd_o e]; exact he j hj
  unfold fa_lk2 fb_l2
  by_cases h9 : fb_K μ i = 0
  · have eT : fb_toldK (μ 0) (μ 1) (μ 2) (μ 7) (fb_K μ) i = -1 := by unfold fb_toldK; rw [if_pos h9]
    rw [if_pos (hK9.mpr h9), eT, if_pos rfl]
    refine ⟨w1 τ (fun _ _ => rfl) (fun j hj => ?_), fun c => absurd rfl c⟩
    by_cases e : j = i
    · subst e; rw [pu_upd_s, he j hj, hlk]
    · rw [pu_upd_o e]; exact he j hj
  · have eT : fb_toldK (μ 0) (μ 1) (μ 2) (μ 7) (fb_K μ) i = fb_told (μ 0) (μ 1) (μ 2) (μ 7) (nI i) := by unfold fb_toldK; rw [if_neg h9]
    rw [if_neg (fun c => h9 (hK9.mp c)), eT, htold]
    rcases hV with e | ⟨a, ha, e⟩
    · rw [e, pu_leadm1, if_neg (by decide), if_pos rfl]
      exact ⟨w1 _ (fun a ha => pu_set_o ha) (wU (-1)), fun c => absurd rfl c⟩
    · rw [e]
      obtain ⟨b1, b2⟩ := tr_bel hv hc ha hi
      have l1 := (tr_lead_iff (σ := τ) ha hi hcτ).trans (pu_lead hup (tr_up_rng lk 30) ha)
      refine ⟨?_, fun _ => b1⟩
      rw [if_neg (tr_nI1 ha)]
      by_cases hl : tr_lead (tr_up lk) a i
      · rw [if_pos (l1.mpr hl), if_pos (b2.mpr hl)]
        exact w1 _ (fun a ha => pu_set_o ha) (wU (-1))
      · rw [if_neg (fun c => hl (l1.mp c)), if_neg (fun c => hl (b2.mp c))]
        refine ⟨fun x hx => (pu_set_o hx).trans (ho x hx), wU _, fun j hj => ?_, ?_, fun j hj hj2 => by rw [pu_upd_o (by omega)]; exact hf j (by omega) hj2⟩
        · by_cases e : j = i
          · subst e; exact Or.inr ⟨a, ha, pu_upd_s⟩
          · rw [pu_upd_o e]; exact hv j hj
        · exact tr_acyc_add hc (fun j hj => pu_up_eq (pu_upd_o hj)) (tr_up_i ha pu_upd_s) hl
end
section
/-! ===== 17: the links, all; who stands above ===== -/
theorem pu_init {f : tb_A} : ∀ n, n ≤ 30 → ∀ j, j < n → tg_it fb_l1 f n j = -1 := by
  refine tg_inv (fun n κ => ∀ i, i < n → κ i = -1) fb_l1 30 f (fun i h => absurd h (Nat.not_lt_zero i)) ?_
  intro n κ hn hk i hi
  unfold fb_l1
  by_cases e : i = n
  · subst e; exact pu_upd_s
  · rw [pu_upd_o e]; exact hk i (by omega)
theorem pu_init1 {τ : tg_Mem} : ∀ n, n ≤ 30 → (∀ a, a ≠ 10 → tg_it fa_lk1 τ n a = τ a) ∧ ∀ j, j < n → tg_it fa_lk1 τ n 10 j = -1 := by
  refine tg_inv (fun n κ => (∀ a, a ≠ 10 → κ a = τ a) ∧ ∀ i, i < n → κ 10 i = -1) fa_lk1 30 τ ⟨fun _ _ => rfl, fun i h => absurd h (Nat.not_lt_zero i)⟩ ?_
  rintro n κ hn ⟨ho, hk⟩
  refine ⟨fun a ha => by unfold fa_lk1; rw [pu_set_o ha]; exact ho a ha, fun i hi => ?_⟩
  unfold fa_lk1
  rw [pu_set_s]
  by_cases e : i = n
  · subst e; exact pu_upd_s
  · rw [pu_upd_o e]; exact hk i (by omega)
theorem pu_R0 {τ0 : tg_Mem} {f : tb_A} : pu_R τ0 0 (tg_it fa_lk1 τ0 30) (tg_it fb_l1 f 30) := by
  have h1 := pu_init (f := f) 30 (Nat.le_refl _)
  obtain ⟨h2, h3⟩ := pu_init1 (τ := τ0) 30 (Nat.le_refl _)
  refine ⟨h2, fun j hj => by rw [h1 j hj, h3 j hj], fun j hj => Or.inl (h1 j hj), fun x n hx => ?_, fun j _ hj => h1 j hj⟩
  rw [tr_anc_n (tr_up_n (h1 x hx))]
  exact fun c => by cases c
/-- the links -/
theorem pu_links {σ μ : tg_Mem} (hM : pu_M σ μ) : (∀ a, a ≠ 9 → a ≠ 10 → fa_linkKnown (fa_findKnown σ) a = σ a) ∧ (∀ j, j < 30 → (fa_linkKnown (fa_findKnown σ) 9 j = 0 ↔ fb_K μ j = 0)) ∧ (∀ j, j < 30 → fa_linkKnown (fa_findKnown σ) 10 j = fb_L μ j) ∧ tr_val (fb_L μ) ∧ tr_acyc (tr_up (fb_L μ)) 30 ∧
    ∀ i, i < 30 → fb_toldK (μ 0) (μ 1) (μ 2) (μ 7) (fb_K μ) i ≠ -1 → fb_belF (tg_it (fb_l2 (μ 0) (μ 1) (μ 2) (μ 7) (fb_K μ)) (tg_it fb_l1 (μ 9) 30) i) (nI i) 31 (fb_toldK (μ 0) (μ 1) (μ 2) (μ 7) (fb_K μ) i) = some (fb_bel (tg_it (fb_l2 (μ 0) (μ 1) (μ 2) (μ 7) (fb_K μ)) (tg_it fb_l1 (μ 9) 30) i) (fb_toldK (μ 0) (μ 1) (μ 2) (μ 7) (fb_K μ) i) (nI i)) := by
  have hs : pu_same σ (fa_findKnown σ) := fun a ha => pu_fk.1 a (by omega)
  have hk := pu_known hM
  have h := tr_rel (pu_R (fa_findKnown σ)) fa_lk2 (fb_l2 (μ 0) (μ 1) (μ 2) (μ 7) (fb_K μ)) 30 _ _ (pu_R0 (f := μ 9)) (fun i a b hi h => (pu_step hM hs hi (hk i hi) h).1)
  obtain ⟨ho, he, hv, hc, -⟩ := h 30 (Nat.le_refl _)
  refine ⟨fun a h9 h10 => (ho a h10).trans (pu_fk.1 a h9), fun j hj => ?_, he, hv, hc, fun i hi => (pu_step hM hs hi (hk i hi) (h i (Nat.le_of_lt hi))).2⟩
  rw [← hk j hj]
  unfold fa_linkKnown
  rw [ho 9 (by decide)]
/-- who stands above: the two walks -/
theorem pu_abvF {τ : tg_Mem} {th lk : tb_A} (h0 : ∀ j, j < 30 → (τ 0 j = 0 ↔ th j = 0)) (he : ∀ j, j < 30 → τ 10 j = lk j) (hv : tr_val lk) : ∀ (n i a : Nat), a < 30 → tr_anc (tr_up lk) n a = none → ∃ r, fb_abvF th lk (n + 1) (nI a) = some r ∧ fa_pblF τ n i (nI a) = r ∧ pu_v r := by
  intro n
  induction n with
  | zero => intro i a _ h; cases h
  | succ n ih =>
    intro i a ha h
    have hid : fa_id (nI a) = true := fa_id_nI ha
    have hh : fa_holds τ (nI a) = true ↔ th a ≠ 0 := (pu_holds ha).trans (not_congr (h0 a ha))
    unfold fb_abvF fa_pblF
    rw [if_neg (tr_nI1 ha), if_pos hid, if_pos hid, tr_cl ha, he a ha]
    by_cases ht : th a = 0
    · rw [if_pos ht, if_neg (fun c => hh.mp c ht)]
      by_cases hl : lk a = -1
      · rw [if_pos hl, if_pos hl]
        exact ⟨_, rfl, rfl, Or.inr ⟨a, ha, rfl⟩⟩
      · rw [if_neg hl, if_neg hl]
        obtain ⟨b, hb, e⟩ := (hv a ha).resolve_left hl
        rw [e]
        rw [tr_anc_s (tr_up_i hb e)] at h
        exact ih (i + 1) b hb h
    · rw [if_neg ht, if_pos (hh.mpr ht)]
      exact ⟨_, rfl, rfl, Or.inr ⟨a, ha, rfl⟩⟩
theorem pu_abv {τ : tg_Mem} {th lk : tb_A} (h0 : ∀ j, j < 30 → (τ 0 j = 0 ↔ th j = 0)) (he : ∀ j, j < 30 → τ 10 j = lk j) (hv : tr_val lk) (hc : tr_acyc (tr_up lk) 30) {x : Int32} (hx : pu_v x) : fb_abvF th lk 31 x = some (fb_abv th lk x) ∧ fa_pbl τ x = fb_abv th lk x ∧ pu_v (fb_abv th lk x) := by
  rcases hx with rfl | ⟨a, ha, rfl⟩
  · have e : fb_abvF th lk 31 (-1) = some (-1) := by unfold fb_abvF; rw [if_pos rfl]
    have e2 : fb_abv th lk (-1) = -1 := by unfold fb_abv; rw [e]; rfl
    refine ⟨by rw [e2, e], ?_, Or.inl e2⟩
    rw [e2]
    unfold fa_pbl fa_pblF
    rw [if_neg (by rw [tr_id_m1]; decide)]
  · obtain ⟨r, h1, h2, h3⟩ := pu_abvF h0 he hv 30 0 a ha (tr_len (tr_up_rng lk 30) hc ha)
    have e2 : fb_abv th lk (nI a) = r := by unfold fb_abv; rw [h1]; rfl
    rw [e2]
    exact ⟨h1, h2, h3⟩
/-- the parents by links -/
theorem pu_above {σ μ : tg_Mem} (hM : pu_M σ μ) : (∀ a, a ≠ 9 → a ≠ 10 → a ≠ 11 → fa_hangByLinks (fa_linkKnown (fa_findKnown σ)) a = σ a) ∧ (∀ j, j < 30 → (fa_hangByLinks (fa_linkKnown (fa_findKnown σ)) 9 j = 0 ↔ fb_K μ j = 0)) ∧ (∀ j, j < 30 → fa_hangByLinks (fa_linkKnown (fa_findKnown σ)) 11 j = fb_A0 μ j) ∧ (∀ j, j < 30 → pu_v (fb_A0 μ j)) ∧ fb_hyp (μ 0) (μ 1) (μ 2) (μ 7) (μ 8) (μ 9) := by
  obtain ⟨ho, hk, he, hv, hc, hb⟩ := pu_links hM
  have h0 : ∀ τ : tg_Mem, τ 0 = σ 0 → ∀ j, j < 30 → (τ 0 j = 0 ↔ μ 0 j = 0) := fun τ h j hj => by rw [h]; exact (hM j hj).1
  have hx : ∀ j, j < 30 → pu_v (if μ 0 j = 0 then -1 else fb_L μ j) := fun j hj => by
    split
    · exact Or.inl rfl
    · exact hv j hj
  have h00 := h0 _ (ho 0 (by decide) (by decide))
  have key := tr_rel (fun i (τ : tg_Mem) (α : tb_A) => (∀ a, a ≠ 11 → τ a = fa_linkKnown (fa_findKnown σ) a) ∧ (∀ j, j < i → τ 11 j = α j ∧ pu_v (α j))) fa_hb (fb_a0 (μ 0) (fb_L μ)) 30 (fa_linkKnown (fa_findKnown σ)) (μ 10) ⟨fun _ _ => rfl, fun j hj => absurd hj (Nat.not_lt_zero j)⟩ ?_ 30 (Nat.le_refl _)
  · obtain ⟨k1, k2⟩ := key
    refine ⟨fun a h9 h10 h11 => (k1 a h11).trans (ho a h9 h10), fun j hj => ?_, fun j hj => (k2 j hj).1, fun j hj => (k2 j hj).2, fun i hi => (hM i hi).2.1.imp id (fun ⟨j, hj, e⟩ => by rw [e]; exact tg_in hj (by decide)), fun i hi => (hM i hi).2.2.1.imp id (fun ⟨j, hj, e⟩ => by rw [e]; exact tg_in hj (by decide)), fun i hi => ?_, hb, fun i hi => (pu_abv h00 he hv hc (hx i hi)).1⟩
    · unfold fa_hangByLinks
      rw [k1 9 (by decide)]
      exact hk j hj
    · rcases (hM i hi).2.2.2.1 with (e | ⟨j, hj, e⟩) | e
      · exact Or.inl (by rw [e]; decide)
      · exact Or.inr (by rw [e]; exact tg_in hj (by decide))
      · exact Or.inl (by rw [e]; decide)
  rintro i τ α hi ⟨k1, k2⟩
  refine ⟨fun a ha => by unfold fa_hb; rw [pu_set_o ha]; exact k1 a ha, fun j hj => ?_⟩
  have e0 : τ 0 = σ 0 := (k1 0 (by decide)).trans (ho 0 (by decide) (by decide))
  have eL : ∀ j, j < 30 → τ 10 j = fb_L μ j := fun j hj => by rw [k1 10 (by decide)]; exact he j hj
  unfold fa_hb fb_a0
  rw [pu_set_s]
  by_cases e : j = i
  · subst e
    obtain ⟨-, a2, a3⟩ := pu_abv (h0 τ e0) eL hv hc (hx j hi)
    rw [pu_upd_s, pu_upd_s]
    refine ⟨?_, a3⟩
    by_cases ht : μ 0 j = 0
    · rw [if_pos ht] at a2 a3 ⊢
      rw [if_neg (fun c => (pu_holds hi).mp c ((h0 τ e0 j hi).mpr ht)), ← a2]
      unfold fa_pbl fa_pblF
      rw [if_neg (by rw [tr_id_m1]; decide)]
    · rw [if_neg ht] at a2 a3 ⊢
      rw [if_pos ((pu_holds hi).mpr (fun c => ht ((h0 τ e0 j hi).mp c))), eL j hi, a2]
  · rw [pu_upd_o e, pu_upd_o e]
    exact k2 j (by omega)
end
section
/-! ===== 18: who is missing stays or goes ===== -/
def pu_c (f : tb_A) (x : Int32) : Nat → Nat | 0 => 0 | n + 1 => pu_c f x n + (if f n = x then 1 else 0)
theorem pu_c_le {f : tb_A} {x : Int32} : ∀ n, pu_c f x n ≤ n := by
  intro n
  induction n with
  | zero => exact Nat.le_refl _
  | succ n ih => unfold pu_c; split <;> omega
theorem pu_c0 {f : tb_A} {x : Int32} : ∀ n, pu_c f x n = 0 → ∀ k, k < n → f k ≠ x := by
  intro n
  induction n with
  | zero => intro _ k hk; exact absurd hk (Nat.not_lt_zero k)
  | succ n ih =>
    intro h k hk
    unfold pu_c at h
    by_cases e : f n = x
    · rw [if_pos e] at h; omega
    · rw [if_neg e] at h
      by_cases e2 : k = n
      · subst e2; exact e
      · exact ih h k (by omega)
theorem pu_c1 {f : tb_A} {x : Int32} : ∀ n, pu_c f x n = 1 → ∀ j, j < n → f j = x → ∀ k, k < n → f k = x → k = j := by
  intro n
  induction n with
  | zero => intro _ j hj; exact absurd hj (Nat.not_lt_zero j)
  | succ n ih =>
    intro h j hj hjx k hk hkx
    unfold pu_c at h
    by_cases e : f n = x
    · rw [if_pos e] at h
      have h0 := pu_c0 (f := f) (x := x) n (by omega)
      have h1 : j = n := Nat.eq_of_le_of_lt_succ (Nat.le_of_not_lt fun c => h0 j c hjx) hj
      have h2 : k = n := Nat.eq_of_le_of_lt_succ (Nat.le_of_not_lt fun c => h0 k c hkx) hk
      rw [h1, h2]
    · rw [if_neg e] at h
      have h1 : j ≠ n := fun c => e (by rw [← c]; exact hjx)
      have h2 : k ≠ n := fun c => e (by rw [← c]; exact hkx)
      exact ih h j (by omega) hjx k (by omega) hkx
theorem pu_c_eq {f g : tb_A} {x : Int32} : ∀ n, (∀ k, k < n → f k = g k) → pu_c f x n = pu_c g x n := by
  intro n
  induction n with
  | zero => intro _; rfl
  | succ n ih => intro h; unfold pu_c; rw [ih (fun k hk => h k (by omega)), h n (by omega)]
theorem pu_nch {σ : tg_Mem} {x : Int32} : fa_nch σ x = nI (pu_c (σ 11) x 30) := by
  have h := tg_inv (fun n (k : Int32) => k = nI (pu_c (σ 11) x n)) (fa_nchS σ x) 30 0 rfl ?_ 30 (Nat.le_refl _)
  · exact h
  intro n k hn hk
  unfold fa_nchS pu_c
  rw [hk]
  by_cases e : σ 11 n = x
  · rw [if_pos e, if_pos e, nI_succ]
  · rw [if_neg e, if_neg e]; rfl
theorem pu_bN {α : tb_A} {x : Int32} : (fb_bN α x).1 = nI (pu_c α x 30) ∧ (pu_c α x 30 ≠ 0 → ∃ j, j < 30 ∧ (fb_bN α x).2 = nI j ∧ α j = x) := by
  have h := tg_inv (fun n (q : Int32 × Int32) => q.1 = nI (pu_c α x n) ∧ (pu_c α x n ≠ 0 → ∃ j, j < n ∧ q.2 = nI j ∧ α j = x)) (fb_cnt α x) 30 (0, -1) ⟨rfl, fun c => absurd rfl c⟩ ?_ 30 (Nat.le_refl _)
  · exact h
  rintro n q hn ⟨h1, h2⟩
  unfold fb_cnt pu_c
  by_cases e : α n = x
  · rw [if_pos e, if_pos e, if_pos e]
    exact ⟨by rw [nI_succ]; exact congrArg (· + 1) h1, fun _ => ⟨n, by omega, rfl, e⟩⟩
  · rw [if_neg e, if_neg e, if_neg e]
    refine ⟨?_, fun c => ?_⟩
    · show q.1 + 0 = _
      rw [h1]; exact Int32.add_zero _
    · obtain ⟨j, hj, e1, e2⟩ := h2 c
      exact ⟨j, by omega, e1, e2⟩
theorem pu_free {τ : tg_Mem} {x : Int32} (hx : x ≠ -1) : (∀ a, a ≠ 11 → fa_free τ x a = τ a) ∧ ∀ j, j < 30 → fa_free τ x 11 j = if τ 11 j = x then -1 else τ 11 j := by
  have h := tg_inv (fun n (κ : tg_Mem) => (∀ a, a ≠ 11 → κ a = τ a) ∧ (∀ j, j < n → κ 11 j = if τ 11 j = x then -1 else τ 11 j) ∧ ∀ j, n ≤ j → κ 11 j = τ 11 j) (fa_fr x) 30 τ ⟨fun _ _ => rfl, fun j hj => absurd hj (Nat.not_lt_zero j), fun _ _ => rfl⟩ ?_ 30 (Nat.le_refl _)
  · exact ⟨h.1, h.2.1⟩
  rintro n κ hn ⟨h1, h2, h3⟩
  unfold fa_fr
  rw [h3 n (Nat.le_refl _)]
  by_cases e : τ 11 n = x
  · rw [if_pos e]
    refine ⟨fun a ha => by rw [pu_set_o ha]; exact h1 a ha, fun j hj => ?_, fun j hj => ?_⟩
    · rw [pu_set_s]
      by_cases e2 : j = n
      · subst e2; rw [pu_upd_s, if_pos e]
      · rw [pu_upd_o e2]; exact h2 j (by omega)
    · rw [pu_set_s, pu_upd_o (by omega)]; exact h3 j (by omega)
  · rw [if_neg e]
    refine ⟨h1, fun j hj => ?_, fun j hj => h3 j (by omega)⟩
    by_cases e2 : j = n
    · subst e2; rw [h3 j (Nat.le_refl _), if_neg e]
    · exact h2 j (by omega)
/-- on the way through the missing -/
def pu_B (τ0 : tg_Mem) (i : Nat) (τ : tg_Mem) (q : tb_A × tb_A) : Prop :=
  (∀ a, a ≠ 11 → a ≠ 12 → τ a = τ0 a) ∧ (∀ j, j < 30 → τ 11 j = q.1 j ∧ pu_v (q.1 j)) ∧ ∀ j, j < i → (τ 12 j = 0 ↔ q.2 j = 0)
theorem pu_Bstep {σ μ τ0 : tg_Mem} (hM : pu_M σ μ) (hs : pu_same σ τ0) {i : Nat} (hi : i < 30) {τ : tg_Mem} {q : tb_A × tb_A} (h : pu_B τ0 i τ q) : pu_B τ0 (i + 1) (fa_km i τ) (fb_b (μ 0) i q) := by
  obtain ⟨ho, he, hg⟩ := h
  have hh : fa_holds τ (nI i) = true ↔ μ 0 i ≠ 0 := by
    rw [pu_holds hi, ho 0 (by decide) (by decide), hs 0 (by decide)]
    exact not_congr (hM i hi).1
  have hc : pu_c (τ 11) (nI i) 30 = pu_c q.1 (nI i) 30 := pu_c_eq 30 (fun k hk => (he k hk).1)
  have hle := pu_c_le (f := q.1) (x := nI i) 30
  obtain ⟨b1, b2⟩ := pu_bN (α := q.1) (x := nI i)
  have hset : ∀ (v : Int32) (g : Int32), (v = 0 ↔ g = 0) → ∀ j, j < i + 1 → (tg_set τ 12 i v 12 j = 0 ↔ upd q.2 i g j = 0) := by
    intro v g hvg j hj
    rw [pu_set_s]
    by_cases e : j = i
    · subst e; rw [pu_upd_s, pu_upd_s]; exact hvg
    · rw [pu_upd_o e, pu_upd_o e]; exact hg j (by omega)
  unfold fa_km fb_b
  by_cases ht : μ 0 i = 0
  · rw [if_neg (fun c => hh.mp c ht), if_pos ht, pu_nch, hc, b1]
    have hcl : ∀ k, k ≤ 30 → (nI k < 2 ↔ k < 2) := fun k hk => by
      constructor
      · intro c; exact Classical.byContradiction fun d => nI_nlt (a := k) (b := 2) (by omega) (Nat.lt_of_le_of_lt hk (by decide)) c
      · intro c; exact nI_lt (a := k) (b := 2) c (by decide)
    have h1e : ∀ k, k ≤ 30 → (nI k = 1 ↔ k = 1) := fun k hk => nI_eq (a := k) (b := 1) (Nat.lt_of_le_of_lt hk (by decide)) (by decide)
    have hle1 : ∀ k, k ≤ 30 → (nI k ≤ 1 ↔ k ≤ 1) := fun k hk => by
      constructor
      · intro c; exact Classical.byContradiction fun d => nI_ge (a := 1) (b := k) (by omega) (Nat.lt_of_le_of_lt hk (by decide)) c
      · intro c; exact nI_le (a := k) (b := 1) c (by decide)
    by_cases hlt : pu_c q.1 (nI i) 30 < 2
    · rw [if_pos ((hcl _ hle).mpr hlt)]
      obtain ⟨f1, f2⟩ := pu_free (τ := tg_set τ 12 i 0) (x := nI i) (tr_nI1 hi)
      refine ⟨fun a h11 h12 => by rw [f1 a h11, pu_set_o h12]; exact ho a h11 h12, fun j hj => ?_, fun j hj => ?_⟩
      · rw [f2 j hj, pu_set_o (by decide), (he j hj).1]
        by_cases h1 : pu_c q.1 (nI i) 30 = 1
        · rw [if_pos ((h1e _ hle).mpr h1)]
          obtain ⟨k, hk, e1, e2⟩ := b2 (by omega)
          rw [e1, tr_cl hk]
          dsimp only
          by_cases e : j = k
          · subst e; rw [if_pos e2, pu_upd_s]; exact ⟨rfl, Or.inl rfl⟩
          · rw [if_neg (fun c => e (pu_c1 30 h1 k hk e2 j hj c)), pu_upd_o e]; exact ⟨rfl, (he j hj).2⟩
        · rw [if_neg (fun c => h1 ((h1e _ hle).mp c)), if_neg (pu_c0 30 (by omega) j hj)]
          exact ⟨rfl, (he j hj).2⟩
      · rw [f1 12 (by decide)]
        refine hset 0 _ ?_ j hj
        simp [tg_b, ht, (hle1 _ hle).mpr (by omega : pu_c q.1 (nI i) 30 ≤ 1)]
    · rw [if_neg (fun c => hlt ((hcl _ hle).mp c)), if_neg (fun c => by have := (h1e _ hle).mp c; omega)]
      refine ⟨fun a h11 h12 => by rw [pu_set_o h12]; exact ho a h11 h12, fun j hj => by rw [pu_set_o (by decide)]; exact he j hj, fun j hj => ?_⟩
      refine hset 1 _ ?_ j hj
      have hn : ¬ nI (pu_c q.1 (nI i) 30) ≤ 1 := fun c => by have := (hle1 _ hle).mp c; omega
      simp [tg_b, ht, hn]
  · rw [if_pos (hh.mpr ht), if_neg ht]
    refine ⟨fun a h11 h12 => by rw [pu_set_o h12]; exact ho a h11 h12, fun j hj => by rw [pu_set_o (by decide)]; exact he j hj, fun j hj => ?_⟩
    refine hset 1 _ ?_ j hj
    simp [tg_b, ht]
end
section
/-! ===== 19: replies are hung alike ===== -/
theorem pu_keep {σ μ : tg_Mem} (hM : pu_M σ μ) : (∀ a, a ≠ 9 → a ≠ 10 → a ≠ 11 → a ≠ 12 → fa_keepMissing (fa_hangByLinks (fa_linkKnown (fa_findKnown σ))) a = σ a) ∧ (∀ j, j < 30 → (fa_keepMissing (fa_hangByLinks (fa_linkKnown (fa_findKnown σ))) 9 j = 0 ↔ fb_K μ j = 0)) ∧ (∀ j, j < 30 → fa_keepMissing (fa_hangByLinks (fa_linkKnown (fa_findKnown σ))) 11 j = (fb_AG μ).1 j ∧ pu_v ((fb_AG μ).1 j)) ∧ (∀ j, j < 30 → (fa_keepMissing (fa_hangByLinks (fa_linkKnown (fa_findKnown σ))) 12 j = 0 ↔ (fb_AG μ).2 j = 0)) := by
  obtain ⟨ho, hk, he, hv, -⟩ := pu_above hM
  have hs : pu_same σ (fa_hangByLinks (fa_linkKnown (fa_findKnown σ))) := fun a ha => ho a (by omega) (by omega) (by omega)
  have h := tr_rel (pu_B (fa_hangByLinks (fa_linkKnown (fa_findKnown σ)))) fa_km (fb_b (μ 0)) 30 (fa_hangByLinks (fa_linkKnown (fa_findKnown σ))) (fb_A0 μ, μ 11) ⟨fun _ _ _ => rfl, fun j hj => ⟨he j hj, hv j hj⟩, fun j hj => absurd hj (Nat.not_lt_zero j)⟩ (fun i a b hi h => pu_Bstep hM hs hi h) 30 (Nat.le_refl _)
  obtain ⟨h1, h2, h3⟩ := h
  refine ⟨fun a a9 a10 a11 a12 => (h1 a a11 a12).trans (ho a a9 a10 a11), fun j hj => ?_, h2, h3⟩
  rw [← hk j hj]
  unfold fa_keepMissing
  rw [h1 9 (by decide) (by decide)]
theorem pu_itupd {v : Nat → Int32} {f0 : tb_A} : ∀ n, ∀ j, j < n → tg_it (fun k f => upd f k (v k)) f0 n j = v j := by
  intro n
  induction n with
  | zero => intro j hj; exact absurd hj (Nat.not_lt_zero j)
  | succ n ih =>
    intro j hj
    show upd _ n (v n) j = v j
    by_cases e : j = n
    · subst e; exact pu_upd_s
    · rw [pu_upd_o e]; exact ih j (by omega)
/-- whom a reply is hung under -/
def pu_ov (μ : tg_Mem) (k : Nat) : Int32 := if fb_alone (μ 0) (fb_AG μ).1 (nI k) = true then (if μ 3 k < 10 then -1 else if μ 7 k = -2 then -1 else tg_it (fb_c2 (μ 0) (fb_AG μ).1 (μ 3) (μ 4) k) (-1) 30) else -1
theorem pu_O {μ : tg_Mem} : ∀ j, j < 30 → fb_O μ j = pu_ov μ j := fun j hj => pu_itupd (v := pu_ov μ) (f0 := μ 12) 30 j hj
theorem pu_A2 {μ : tg_Mem} : ∀ j, j < 30 → fb_A2 μ j = if pu_ov μ j = -1 then (fb_AG μ).1 j else pu_ov μ j := by
  have h := tg_inv (fun n (α : tb_A) => (∀ j, j < 30 → j < n → α j = if pu_ov μ j = -1 then (fb_AG μ).1 j else pu_ov μ j) ∧ ∀ j, n ≤ j → α j = (fb_AG μ).1 j) (fb_d (fb_O μ)) 30 (fb_AG μ).1 ⟨fun j _ hj => absurd hj (Nat.not_lt_zero j), fun _ _ => rfl⟩ ?_ 30 (Nat.le_refl _)
  · exact fun j hj => h.1 j hj hj
  rintro n α hn ⟨h1, h2⟩
  unfold fb_d
  rw [pu_O n hn, h2 n (Nat.le_refl _)]
  refine ⟨fun j hj hj2 => ?_, fun j hj => by rw [pu_upd_o (by omega)]; exact h2 j (by omega)⟩
  by_cases e : j = n
  · subst e; exact pu_upd_s
  · rw [pu_upd_o e]; exact h1 j hj (by omega)
theorem pu_alone {μ : tg_Mem} {α : tb_A} {j : Nat} (hj : j < 30) : fb_alone (μ 0) α (nI j) = true ↔ μ 0 j ≠ 0 ∧ α j = -1 := by
  unfold fb_alone
  rw [tr_cl hj]
  simp
end
section
/-! ===== 20: the letter answered ===== -/
theorem pu_day {a b : Nat} (ha : a < 1000) (hb : b < 1000) : nI a - nI b < 0 ↔ nI a < nI b := by
  have e1 := nI_toInt (n := a) (Nat.lt_trans ha (by decide))
  have e2 := nI_toInt (n := b) (Nat.lt_trans hb (by decide))
  rw [Int32.lt_iff_toInt_lt, Int32.lt_iff_toInt_lt, Int32.toInt_sub, e1, e2]
  have e0 : (0 : Int32).toInt = 0 := rfl
  rw [e0]
  simp only [Int.bmod]
  split <;> omega
theorem pu_s10 {s : Nat} : nI (s + 10) - 10 = nI s := by
  have e : nI (s + 10) = nI s + 10 := Int32.ofNat_add s 10
  rw [e, Int32.add_sub_cancel]
theorem pu_can {σ τ μ : tg_Mem} (hM : pu_M σ μ) (hs : pu_same σ τ) (he : ∀ j, j < 30 → σ 4 j = 0 → τ 11 j = (fb_AG μ).1 j) {k j : Nat} (hk : k < 30) (hj : j < 30) (hk0 : σ 0 k ≠ 0) (hk4 : σ 4 k ≠ 0) : (τ 11 j = -1 ∧ fa_ans τ (nI j) (nI k) = true) ↔ fb_can (μ 0) (fb_AG μ).1 (μ 3) (μ 4) k j = true := by
  obtain ⟨-, -, -, d5k, -, -, ⟨dk, hdk, edk⟩, -, ⟨sk, hsk, e3k, e4k⟩⟩ := (hM k hk).2.2.2.2.2 hk0
  have e4k := e4k.resolve_left (fun c => hk4 c.1)
  have hcan : fb_can (μ 0) (fb_AG μ).1 (μ 3) (μ 4) k j = true ↔ (μ 0 j ≠ 0 ∧ (fb_AG μ).1 j = -1) ∧ μ 3 j = μ 3 k - 10 ∧ ¬ (μ 4 k < μ 4 j) ∧ ¬ (14 < μ 4 k - μ 4 j) := by
    unfold fb_can
    rw [Bool.and_eq_true, pu_alone hj]
    simp
  have hans : fa_ans τ (nI j) (nI k) = true ↔ σ 0 j ≠ 0 ∧ σ 0 k ≠ 0 ∧ σ 4 j = 0 ∧ σ 4 k ≠ 0 ∧ σ 3 j = σ 3 k ∧ ¬ (σ 5 k - σ 5 j < 0) ∧ ¬ (14 < σ 5 k - σ 5 j) := by
    unfold fa_ans
    rw [Bool.and_eq_true, pu_holds hj, Bool.and_eq_true, pu_holds hk, tr_cl hj, tr_cl hk, hs 0 (by decide), hs 3 (by decide), hs 4 (by decide), hs 5 (by decide)]
    simp
  rw [hcan, hans]
  have h10 : μ 3 k - 10 = nI sk := by rw [e4k.2]; exact pu_s10
  rw [h10]
  constructor
  · rintro ⟨h11, h0, -, h4, -, h3, hd1, hd2⟩
    obtain ⟨-, -, -, d5j, -, -, ⟨dj, hdj, edj⟩, -, ⟨sj, hsj, e3j, e4j⟩⟩ := (hM j hj).2.2.2.2.2 h0
    have e4j := e4j.resolve_right (fun c => c.1 h4)
    rw [d5k, d5j, edk, edj] at hd1 hd2
    rw [edk, edj]
    refine ⟨⟨fun c => h0 ((hM j hj).1.mpr c), by rw [← he j hj h4]; exact h11⟩, ?_, fun c => hd1 ((pu_day hdk hdj).mpr c), hd2⟩
    rw [e4j.2, ← e3j, h3, e3k]
  · rintro ⟨⟨h0, h11⟩, h3, hd1, hd2⟩
    have h0' : σ 0 j ≠ 0 := fun c => h0 ((hM j hj).1.mp c)
    obtain ⟨-, -, -, d5j, -, -, ⟨dj, hdj, edj⟩, -, ⟨sj, hsj, e3j, e4j⟩⟩ := (hM j hj).2.2.2.2.2 h0'
    have h4 : σ 4 j = 0 ∧ μ 3 j = nI sj := by
      refine e4j.resolve_right (fun c => ?_)
      rw [c.2] at h3
      have := (nI_eq (a := sj + 10) (b := sk) (by omega) (by omega)).mp h3
      omega
    rw [edk, edj] at hd1 hd2
    refine ⟨by rw [he j hj h4.1]; exact h11, h0', hk0, h4.1, hk4, ?_, ?_, ?_⟩
    · rw [e3j, e3k, ← h4.2]; exact h3
    · rw [d5k, d5j, edk, edj]; exact fun c => hd1 ((pu_day hdk hdj).mp c)
    · rw [d5k, d5j, edk, edj]; exact hd2
theorem pu_best {σ τ μ : tg_Mem} (hM : pu_M σ μ) (hs : pu_same σ τ) (he : ∀ j, j < 30 → σ 4 j = 0 → τ 11 j = (fb_AG μ).1 j) {k : Nat} (hk : k < 30) (hk0 : σ 0 k ≠ 0) (hk4 : σ 4 k ≠ 0) : fa_best τ (nI k) = tg_it (fb_c2 (μ 0) (fb_AG μ).1 (μ 3) (μ 4) k) (-1) 30 ∧ (fa_best τ (nI k) = -1 ∨ ∃ f, f < 30 ∧ fa_best τ (nI k) = nI f ∧ μ 0 f ≠ 0 ∧ (fb_AG μ).1 f = -1 ∧ σ 4 f = 0) := by
  have h := tr_rel (fun (_ : Nat) (b c : Int32) => b = c ∧ (b = -1 ∨ ∃ f, f < 30 ∧ b = nI f ∧ μ 0 f ≠ 0 ∧ (fb_AG μ).1 f = -1 ∧ σ 4 f = 0)) (fa_bestS τ (nI k)) (fb_c2 (μ 0) (fb_AG μ).1 (μ 3) (μ 4) k) 30 (-1) (-1) ⟨rfl, Or.inl rfl⟩ ?_ 30 (Nat.le_refl _)
  · unfold fa_best
    refine ⟨h.1, h.2⟩
  rintro j b c hj ⟨rfl, hb⟩
  have hcan := pu_can hM hs he hk hj hk0 hk4
  have hday : ∀ f, f < 30 → μ 0 f ≠ 0 → fa_dayOf τ (nI f) = μ 4 f := fun f hf h0 => by
    have h0' : σ 0 f ≠ 0 := fun c => h0 ((hM f hf).1.mp c)
    unfold fa_dayOf
    rw [if_pos ((pu_holds hf).mpr (by rw [hs 0 (by decide)]; exact h0')), tr_cl hf, hs 5 (by decide)]
    exact ((hM f hf).2.2.2.2.2 h0').2.2.2.1
  unfold fa_bestS fb_c2
  by_cases hc : fb_can (μ 0) (fb_AG μ).1 (μ 3) (μ 4) k j = true
  · obtain ⟨c1, c2⟩ := hcan.mpr hc
    have hj0 : μ 0 j ≠ 0 ∧ (fb_AG μ).1 j = -1 := by
      unfold fb_can at hc
      rw [Bool.and_eq_true, pu_alone hj] at hc
      exact hc.1
    have hj4 : σ 4 j = 0 := by
      unfold fa_ans at c2
      simp only [Bool.and_eq_true, decide_eq_true_eq] at c2
      have := c2.2.2.1
      rw [tr_cl hj, hs 4 (by decide)] at this
      exact this
    have hnew : nI j = -1 ∨ ∃ f, f < 30 ∧ nI j = nI f ∧ μ 0 f ≠ 0 ∧ (fb_AG μ).1 f = -1 ∧ σ 4 f = 0 := Or.inr ⟨j, hj, rfl, hj0.1, hj0.2, hj4⟩
    rw [if_pos c1, if_pos c2, if_pos hc]
    rcases hb with rfl | ⟨f, hf, rfl, hf0, hf1⟩
    · rw [if_pos rfl, if_pos rfl]; exact ⟨rfl, hnew⟩
    · rw [if_neg (tr_nI1 hf), if_neg (tr_nI1 hf), hday j hj hj0.1, hday f hf hf0, tr_cl hf]
      refine ⟨rfl, ?_⟩
      split
      · exact Or.inr ⟨f, hf, rfl, hf0, hf1⟩
      · exact hnew
  · rw [if_neg hc]
    by_cases c1 : τ 11 j = -1
    · rw [if_pos c1, if_neg (fun c2 => hc (hcan.mp ⟨c1, c2⟩))]; exact ⟨rfl, hb⟩
    · rw [if_neg c1]; exact ⟨rfl, hb⟩
end
section
/-! ===== 21: the parents are the same ===== -/
theorem pu_ov0 {σ μ : tg_Mem} (hM : pu_M σ μ) {j : Nat} (hj : j < 30) (h : σ 0 j = 0 ∨ σ 4 j = 0 ∨ (fb_AG μ).1 j ≠ -1) : pu_ov μ j = -1 := by
  unfold pu_ov
  by_cases ha : fb_alone (μ 0) (fb_AG μ).1 (nI j) = true
  · obtain ⟨h0, h1⟩ := (pu_alone hj).mp ha
    have h0' : σ 0 j ≠ 0 := fun c => h0 ((hM j hj).1.mp c)
    rcases h with h | h | h
    · exact absurd h h0'
    · obtain ⟨-, -, -, -, -, -, -, -, ⟨s, hs, e3, e4⟩⟩ := (hM j hj).2.2.2.2.2 h0'
      have e4 := e4.resolve_right (fun c => c.1 h)
      rw [if_pos ha, if_pos (by rw [e4.2]; exact nI_lt (a := s) (b := 10) hs (by decide))]
    · exact absurd h1 h
  · rw [if_neg ha]
theorem pu_hang {σ μ : tg_Mem} (hM : pu_M σ μ) : (∀ a, a ≠ 9 → a ≠ 10 → a ≠ 11 → a ≠ 12 → fa_hangReplies (fa_keepMissing (fa_hangByLinks (fa_linkKnown (fa_findKnown σ)))) a = σ a) ∧ (∀ j, j < 30 → (fa_hangReplies (fa_keepMissing (fa_hangByLinks (fa_linkKnown (fa_findKnown σ)))) 9 j = 0 ↔ fb_K μ j = 0)) ∧ (∀ j, j < 30 → fa_hangReplies (fa_keepMissing (fa_hangByLinks (fa_linkKnown (fa_findKnown σ)))) 11 j = fb_A2 μ j) ∧ (∀ j, j < 30 → (fa_hangReplies (fa_keepMissing (fa_hangByLinks (fa_linkKnown (fa_findKnown σ)))) 12 j = 0 ↔ (fb_AG μ).2 j = 0)) := by
  obtain ⟨ho, hk, he, hg⟩ := pu_keep hM
  generalize fa_keepMissing (fa_hangByLinks (fa_linkKnown (fa_findKnown σ))) = τ3 at ho hk he hg ⊢
  have hs3 : pu_same σ τ3 := fun a ha => ho a (by omega) (by omega) (by omega) (by omega)
  have h := tg_inv (fun n (τ : tg_Mem) => (∀ a, a ≠ 11 → τ a = τ3 a) ∧ (∀ j, j < n → j < 30 → τ 11 j = if pu_ov μ j = -1 then (fb_AG μ).1 j else pu_ov μ j) ∧ ∀ j, n ≤ j → τ 11 j = τ3 11 j) fa_hr 30 τ3 ⟨fun _ _ => rfl, fun j hj => absurd hj (Nat.not_lt_zero j), fun _ _ => rfl⟩ ?_ 30 (Nat.le_refl _)
  · obtain ⟨h1, h2, -⟩ := h
    unfold fa_hangReplies
    exact ⟨fun a a9 a10 a11 a12 => (h1 a a11).trans (ho a a9 a10 a11 a12), fun j hj => by rw [h1 9 (by decide)]; exact hk j hj, fun j hj => by rw [h2 j hj hj, pu_A2 j hj], fun j hj => by rw [h1 12 (by decide)]; exact hg j hj⟩
  rintro n τ hn ⟨h1, h2, h3⟩
  have hs : pu_same σ τ := fun a ha => (h1 a (by omega)).trans (hs3 a ha)
  have hn11 : τ 11 n = (fb_AG μ).1 n := (h3 n (Nat.le_refl _)).trans (he n hn).1
  -- nothing written
  have keep : (if pu_ov μ n = -1 then (fb_AG μ).1 n else pu_ov μ n) = (fb_AG μ).1 n → (∀ a, a ≠ 11 → τ a = τ3 a) ∧ (∀ j, j < n + 1 → j < 30 → τ 11 j = if pu_ov μ j = -1 then (fb_AG μ).1 j else pu_ov μ j) ∧ ∀ j, n + 1 ≤ j → τ 11 j = τ3 11 j := by
    intro hv
    refine ⟨h1, fun j hj hj2 => ?_, fun j hj => h3 j (by omega)⟩
    by_cases e : j = n
    · subst e; rw [hv]; exact hn11
    · exact h2 j (by omega) hj2
  have hrep : fa_isReply τ (nI n) = true ↔ σ 0 n ≠ 0 ∧ σ 4 n ≠ 0 := by
    unfold fa_isReply
    rw [Bool.and_eq_true, pu_holds hn, tr_cl hn, hs 0 (by decide), hs 4 (by decide)]
    simp
  unfold fa_hr
  by_cases hr : fa_isReply τ (nI n) = true
  · obtain ⟨r0, r4⟩ := hrep.mp hr
    rw [if_pos hr]
    by_cases h11 : τ 11 n = -1
    · rw [if_pos h11]
      have hAG : (fb_AG μ).1 n = -1 := by rw [← hn11]; exact h11
      have m0 : μ 0 n ≠ 0 := fun c => r0 ((hM n hn).1.mpr c)
      obtain ⟨-, -, e8, -, -, -, -, -, ⟨s, hs', e3, e4⟩⟩ := (hM n hn).2.2.2.2.2 r0
      have e4 := e4.resolve_left (fun c => r4 c.1)
      have hh : fa_handOf τ (nI n) = μ 7 n := by rw [(pu_told hn).2.2, hs 0 (by decide), hs 8 (by decide), if_pos r0, e8]
      have hov : pu_ov μ n = if μ 7 n = -2 then -1 else tg_it (fb_c2 (μ 0) (fb_AG μ).1 (μ 3) (μ 4) n) (-1) 30 := by
        unfold pu_ov
        rw [if_pos ((pu_alone hn).mpr ⟨m0, hAG⟩), if_neg (by rw [e4.2]; exact nI_nlt (a := s + 10) (b := 10) (by omega) (by omega))]
      rw [hh]
      by_cases h7 : μ 7 n = -2
      · rw [if_pos h7] at hov ⊢
        exact keep (by rw [hov, if_pos rfl])
      · rw [if_neg h7] at hov ⊢
        have hb := (pu_best hM hs (fun j hj h4 => by
          by_cases e : j < n
          · rw [h2 j e hj, pu_ov0 hM hj (Or.inr (Or.inl h4)), if_pos rfl]
          · rw [h3 j (by omega)]; exact (he j hj).1) hn r0 r4).1
        rw [hb, ← hov]
        refine ⟨fun a ha => by rw [pu_set_o ha]; exact h1 a ha, fun j hj hj2 => ?_, fun j hj => by rw [pu_set_s, pu_upd_o (by omega)]; exact h3 j (by omega)⟩
        rw [pu_set_s]
        by_cases e : j = n
        · subst e
          rw [pu_upd_s, hAG]
          by_cases c : pu_ov μ j = -1
          · rw [if_pos c, c]
          · rw [if_neg c]
        · rw [pu_upd_o e]; exact h2 j (by omega) hj2
    · rw [if_neg h11]
      exact keep (by rw [pu_ov0 hM hn (Or.inr (Or.inr (by rw [← hn11]; exact h11))), if_pos rfl])
  · rw [if_neg hr]
    refine keep ?_
    have : σ 0 n = 0 ∨ σ 4 n = 0 ∨ (fb_AG μ).1 n ≠ -1 := by
      by_cases c : σ 0 n = 0
      · exact Or.inl c
      · by_cases d : σ 4 n = 0
        · exact Or.inr (Or.inl d)
        · exact absurd (hrep.mpr ⟨c, d⟩) hr
    rw [pu_ov0 hM hn this, if_pos rfl]
end
section
/-! ===== 22: the parents make no ring ===== -/
theorem pu_abv_anc {th lk : tb_A} (hv : tr_val lk) : ∀ (n a m : Nat), a < 30 → m < 30 → fb_abvF th lk n (nI a) = some (nI m) → ∃ q, tr_anc (tr_up lk) q a = some m := by
  intro n
  induction n with
  | zero => intro a m _ _ h; cases h
  | succ n ih =>
    intro a m ha hm h
    unfold fb_abvF at h
    rw [if_neg (tr_nI1 ha), if_pos (fa_id_nI ha), tr_cl ha] at h
    have self : some (nI a) = some (nI m) → ∃ q, tr_anc (tr_up lk) q a = some m := fun e => ⟨0, by rw [(tr_nI ha hm).mp (Option.some.inj e)]; rfl⟩
    by_cases ht : th a = 0
    · rw [if_pos ht] at h
      by_cases hl : lk a = -1
      · rw [if_pos hl] at h; exact self h
      · rw [if_neg hl] at h
        obtain ⟨b, hb, e⟩ := (hv a ha).resolve_left hl
        rw [e] at h
        obtain ⟨q, hq⟩ := ih b m hb hm h
        exact ⟨q + 1, by rw [tr_anc_s (tr_up_i hb e)]; exact hq⟩
    · rw [if_neg ht] at h; exact self h
theorem pu_acyc_by {u u' : Nat → Option Nat} (hr : tr_rng u' 30) (hc : tr_acyc u 30) (h : ∀ x y, x < 30 → u' x = some y → ∃ q, tr_anc u (q + 1) x = some y) : tr_acyc u' 30 := by
  have key : ∀ (n x y : Nat), x < 30 → tr_anc u' (n + 1) x = some y → ∃ q, tr_anc u (q + 1) x = some y := by
    intro n
    induction n with
    | zero =>
      intro x y hx e
      cases e1 : u' x with
      | none => rw [tr_anc_n e1] at e; cases e
      | some z =>
        rw [tr_anc_s e1] at e
        have e2 : z = y := Option.some.inj e
        rw [← e2]; exact h x z hx e1
    | succ n ih =>
      intro x y hx e
      cases e1 : u' x with
      | none => rw [tr_anc_n e1] at e; cases e
      | some z =>
        rw [tr_anc_s e1] at e
        obtain ⟨q1, h1⟩ := h x z hx e1
        obtain ⟨q2, h2⟩ := ih z y (hr x z hx e1) e
        refine ⟨q1 + 1 + q2, ?_⟩
        have := tr_anc_add (u := u) (q1 + 1) (q2 + 1) x z h1
        rw [show q1 + 1 + q2 + 1 = q1 + 1 + (q2 + 1) by omega, this]
        exact h2
  intro x n hx e
  obtain ⟨q, hq⟩ := key n x x hx e
  exact hc x q hx hq
/-- the parents by links: none is its own forebear; only letters have one -/
theorem pu_A0 {σ μ : tg_Mem} (hM : pu_M σ μ) : tr_acyc (tr_up (fb_A0 μ)) 30 ∧ ∀ j, j < 30 → μ 0 j = 0 → fb_A0 μ j = -1 := by
  obtain ⟨-, -, -, hv, hc, -⟩ := pu_links hM
  have hA : ∀ j, j < 30 → fb_A0 μ j = fb_abv (μ 0) (fb_L μ) (if μ 0 j = 0 then -1 else fb_L μ j) := fun j hj => pu_itupd (v := fun k => fb_abv (μ 0) (fb_L μ) (if μ 0 k = 0 then -1 else fb_L μ k)) (f0 := μ 10) 30 j hj
  have hm1 : fb_abv (μ 0) (fb_L μ) (-1) = -1 := by unfold fb_abv fb_abvF; rw [if_pos rfl]; rfl
  refine ⟨pu_acyc_by (tr_up_rng _ 30) hc (fun x y hx e => ?_), fun j hj h0 => by rw [hA j hj, if_pos h0, hm1]⟩
  obtain ⟨e1, hy⟩ := tr_up_s e
  rw [hA x hx] at e1
  by_cases h0 : μ 0 x = 0
  · rw [if_pos h0, hm1] at e1; exact absurd e1.symm (tr_nI1 hy)
  · rw [if_neg h0] at e1
    rcases hv x hx with hl | ⟨a, ha, hl⟩
    · rw [hl, hm1] at e1; exact absurd e1.symm (tr_nI1 hy)
    · rw [hl] at e1
      have h0τ : ∀ j, j < 30 → (fa_linkKnown (fa_findKnown σ) 0 j = 0 ↔ μ 0 j = 0) := fun j hj => by rw [(pu_links hM).1 0 (by decide) (by decide)]; exact (hM j hj).1
      have hb := (pu_abv h0τ (pu_links hM).2.2.1 hv hc (Or.inr ⟨a, ha, rfl⟩ : pu_v (nI a))).1
      rw [e1] at hb
      obtain ⟨q, hq⟩ := pu_abv_anc hv 31 a y ha hy hb
      exact ⟨q, by rw [tr_anc_s (tr_up_i ha hl)]; exact hq⟩
end
section
/-! ===== 23: the final parents: no ring; a parent is in the forest ===== -/
theorem pu_AGs {σ μ : tg_Mem} (hM : pu_M σ μ) : ∀ j, j < 30 → ((fb_AG μ).1 j = -1 ∨ (fb_AG μ).1 j = fb_A0 μ j) ∧ (∀ m, m < 30 → (fb_AG μ).1 j = nI m → (fb_AG μ).2 m ≠ 0) := by
  have h := tg_inv (fun n (q : tb_A × tb_A) => (∀ j, j < 30 → q.1 j = -1 ∨ q.1 j = fb_A0 μ j) ∧ ∀ j, j < 30 → ∀ m, m < n → m < 30 → q.1 j = nI m → q.2 m ≠ 0) (fb_b (μ 0)) 30 (fb_A0 μ, μ 11) ⟨fun j _ => Or.inr rfl, fun j _ m hm => absurd hm (Nat.not_lt_zero m)⟩ ?_ 30 (Nat.le_refl _)
  · exact fun j hj => ⟨h.1 j hj, fun m hm => h.2 j hj m hm hm⟩
  rintro n q hn ⟨h1, h2⟩
  obtain ⟨b1, b2⟩ := pu_bN (α := q.1) (x := nI n)
  have hle := pu_c_le (f := q.1) (x := nI n) 30
  have h1e : ∀ k, k ≤ 30 → (nI k = 1 ↔ k = 1) := fun k hk => nI_eq (a := k) (b := 1) (Nat.lt_of_le_of_lt hk (by decide)) (by decide)
  have hgt : ∀ k, k ≤ 30 → 1 < k → ¬ nI k ≤ 1 := fun k hk h => nI_ge (a := 1) (b := k) h (Nat.lt_of_le_of_lt hk (by decide))
  -- what stands behind the step
  have hα : ∀ j, j < 30 → (fb_b (μ 0) n q).1 j = -1 ∨ ((fb_b (μ 0) n q).1 j = q.1 j ∧ (q.1 j = nI n → μ 0 n ≠ 0 ∨ 1 < pu_c q.1 (nI n) 30)) := by
    intro j hj
    unfold fb_b
    dsimp only
    by_cases ht : μ 0 n = 0
    · rw [if_pos ht, b1]
      by_cases hc : pu_c q.1 (nI n) 30 = 1
      · rw [if_pos ((h1e _ hle).mpr hc)]
        obtain ⟨k, hk, e1, e2⟩ := b2 (by omega)
        rw [e1, tr_cl hk]
        by_cases e : j = k
        · subst e; exact Or.inl pu_upd_s
        · rw [pu_upd_o e]
          exact Or.inr ⟨rfl, fun c => absurd (pu_c1 30 hc k hk e2 j hj c) e⟩
      · rw [if_neg (fun c => hc ((h1e _ hle).mp c))]
        refine Or.inr ⟨rfl, fun c => Or.inr ?_⟩
        by_cases h0 : pu_c q.1 (nI n) 30 = 0
        · exact absurd c (pu_c0 30 h0 j hj)
        · omega
    · rw [if_neg ht]
      exact Or.inr ⟨rfl, fun _ => Or.inl ht⟩
  refine ⟨fun j hj => ?_, fun j hj m hm hm2 e => ?_⟩
  · rcases hα j hj with h | ⟨h, -⟩
    · exact Or.inl h
    · rw [h]; exact h1 j hj
  · rcases hα j hj with h | ⟨h, h3⟩
    · rw [h] at e; exact absurd e.symm (tr_nI1 hm2)
    · rw [h] at e
      unfold fb_b
      dsimp only
      by_cases em : m = n
      · subst em
        rw [pu_upd_s, b1]
        rcases h3 e with h | h
        · simp [tg_b, h]
        · simp [tg_b, hgt _ hle h]
      · rw [pu_upd_o em]; exact h2 j hj m (by omega) hm2 e
theorem pu_ovs {σ μ : tg_Mem} (hM : pu_M σ μ) {j : Nat} (hj : j < 30) (h : pu_ov μ j ≠ -1) : σ 0 j ≠ 0 ∧ (fb_AG μ).1 j = -1 ∧ ∃ f, f < 30 ∧ pu_ov μ j = nI f ∧ μ 0 f ≠ 0 ∧ (fb_AG μ).1 f = -1 ∧ σ 4 f = 0 := by
  have h0 : σ 0 j ≠ 0 := fun c => h (pu_ov0 hM hj (Or.inl c))
  have h4 : σ 4 j ≠ 0 := fun c => h (pu_ov0 hM hj (Or.inr (Or.inl c)))
  have h1 : (fb_AG μ).1 j = -1 := Classical.byContradiction fun c => h (pu_ov0 hM hj (Or.inr (Or.inr c)))
  obtain ⟨ho, -, he, -⟩ := pu_keep hM
  obtain ⟨b1, b2⟩ := pu_best hM (τ := fa_keepMissing (fa_hangByLinks (fa_linkKnown (fa_findKnown σ)))) (fun a ha => ho a (by omega) (by omega) (by omega) (by omega)) (fun j hj _ => (he j hj).1) hj h0 h4
  refine ⟨h0, h1, ?_⟩
  have e : pu_ov μ j = tg_it (fb_c2 (μ 0) (fb_AG μ).1 (μ 3) (μ 4) j) (-1) 30 := by
    unfold pu_ov at h ⊢
    by_cases ha : fb_alone (μ 0) (fb_AG μ).1 (nI j) = true
    · rw [if_pos ha] at h ⊢
      by_cases h3 : μ 3 j < 10
      · rw [if_pos h3] at h; exact absurd rfl h
      · rw [if_neg h3] at h ⊢
        by_cases h7 : μ 7 j = -2
        · rw [if_pos h7] at h; exact absurd rfl h
        · rw [if_neg h7]
    · rw [if_neg ha] at h; exact absurd rfl h
  rw [← b1] at e
  rcases b2 with c | c
  · exact absurd (e.trans c) h
  · rw [e]; exact c
theorem pu_gam {μ : tg_Mem} : ∀ m, m < 30 → μ 0 m ≠ 0 → (fb_AG μ).2 m ≠ 0 := by
  intro m hm h0
  have h := tg_inv (fun n (q : tb_A × tb_A) => ∀ m, m < n → m < 30 → μ 0 m ≠ 0 → q.2 m ≠ 0) (fb_b (μ 0)) 30 (fb_A0 μ, μ 11) (fun m hm => absurd hm (Nat.not_lt_zero m)) ?_ 30 (Nat.le_refl _)
  · exact h m hm hm h0
  intro n q hn hi m hm hm2 h0
  unfold fb_b
  dsimp only
  by_cases e : m = n
  · subst e; rw [pu_upd_s]; simp [tg_b, h0]
  · rw [pu_upd_o e]; exact hi m (by omega) hm2 h0
theorem pu_twostep {u1 u2 : Nat → Option Nat} (hr : tr_rng u2 30) (h : ∀ x z, x < 30 → u2 x = some z → u1 x = some z ∨ u2 z = none) (hc : tr_acyc u1 30) : tr_acyc u2 30 := by
  have key : ∀ (n x y : Nat), x < 30 → tr_anc u2 n x = some y → tr_anc u1 n x = some y ∨ u2 y = none := by
    intro n
    induction n with
    | zero => intro x y _ e; exact Or.inl e
    | succ n ih =>
      intro x y hx e
      cases e1 : u2 x with
      | none => rw [tr_anc_n e1] at e; cases e
      | some z =>
        rw [tr_anc_s e1] at e
        rcases h x z hx e1 with h1 | h1
        · rcases ih z y (hr x z hx e1) e with h2 | h2
          · exact Or.inl (by rw [tr_anc_s h1]; exact h2)
          · exact Or.inr h2
        · cases n with
          | zero => exact Or.inr (by rw [← Option.some.inj (show some z = some y from e)]; exact h1)
          | succ n => rw [tr_anc_n h1] at e; cases e
  intro x n hx e
  rcases key (n + 1) x x hx e with h | h
  · exact hc x n hx h
  · rw [tr_anc_n h] at e; cases e
/-- the final parents -/
theorem pu_final {σ μ : tg_Mem} (hM : pu_M σ μ) : tr_val (fb_A2 μ) ∧ tr_acyc (tr_up (fb_A2 μ)) 30 ∧ (∀ j m, j < 30 → m < 30 → fb_A2 μ j = nI m → μ 0 j ≠ 0 ∧ (fb_AG μ).2 m ≠ 0) := by
  obtain ⟨-, -, he, -⟩ := pu_keep hM
  obtain ⟨hc0, hl0⟩ := pu_A0 hM
  have hAG := pu_AGs hM
  have hγ := pu_gam (μ := μ)
  have hc1 : tr_acyc (tr_up (fb_AG μ).1) 30 := pu_acyc_by (tr_up_rng _ 30) hc0 (fun x y hx e => by
    obtain ⟨e1, hy⟩ := tr_up_s e
    rcases (hAG x hx).1 with h | h
    · rw [h] at e1; exact absurd e1.symm (tr_nI1 hy)
    · exact ⟨0, by rw [tr_anc_s (tr_up_i hy (by rw [← h]; exact e1))]; rfl⟩)
  have hroot : ∀ f, f < 30 → (fb_AG μ).1 f = -1 → σ 4 f = 0 → tr_up (fb_A2 μ) f = none := fun f hf h1 h4 => tr_up_n (by rw [pu_A2 f hf, pu_ov0 hM hf (Or.inr (Or.inl h4)), if_pos rfl]; exact h1)
  refine ⟨fun j hj => ?_, ?_, fun j m hj hm e => ?_⟩
  · rw [pu_A2 j hj]
    by_cases h : pu_ov μ j = -1
    · rw [if_pos h]; exact (he j hj).2
    · rw [if_neg h]
      obtain ⟨-, -, f, hf, e, -⟩ := pu_ovs hM hj h
      exact Or.inr ⟨f, hf, e⟩
  · refine pu_twostep (tr_up_rng _ 30) (fun x z hx e1 => ?_) hc1
    obtain ⟨e2, hz⟩ := tr_up_s e1
    rw [pu_A2 x hx] at e2
    by_cases h : pu_ov μ x = -1
    · rw [if_pos h] at e2
      exact Or.inl (tr_up_i hz e2)
    · rw [if_neg h] at e2
      obtain ⟨-, -, f, hf, e3, -, h4, h5⟩ := pu_ovs hM hx h
      have ez : z = f := (tr_nI hz hf).mp (e2.symm.trans e3)
      rw [ez]
      exact Or.inr (hroot f hf h4 h5)
  · rw [pu_A2 j hj] at e
    by_cases h : pu_ov μ j = -1
    · rw [if_pos h] at e
      refine ⟨fun c => ?_, (hAG j hj).2 m hm e⟩
      rcases (hAG j hj).1 with h2 | h2
      · rw [h2] at e; exact absurd e.symm (tr_nI1 hm)
      · rw [h2, hl0 j hj c] at e; exact absurd e.symm (tr_nI1 hm)
    · rw [if_neg h] at e
      obtain ⟨h0, -, f, hf, e3, h4, -⟩ := pu_ovs hM hj h
      refine ⟨fun c => h0 ((hM j hj).1.mpr c), ?_⟩
      rw [(tr_nI hm hf).mp (e.symm.trans e3)]
      exact hγ f hf h4
end
section
/-! ===== 24: sizes: a walk upwards ===== -/
theorem pu_lead_s {u : Nat → Option Nat} {a b y : Nat} (h : u a = some b) : tr_lead u a y ↔ y = a ∨ tr_lead u b y := by
  constructor
  · rintro ⟨n, e⟩
    cases n with
    | zero => exact Or.inl (Option.some.inj (show some a = some y from e)).symm
    | succ n => rw [tr_anc_s h] at e; exact Or.inr ⟨n, e⟩
  · rintro (rfl | ⟨n, e⟩)
    · exact tr_lead_rf u _
    · exact ⟨n + 1, by rw [tr_anc_s h]; exact e⟩
theorem pu_lead_n {u : Nat → Option Nat} {a y : Nat} (h : u a = none) : tr_lead u a y ↔ y = a := by
  constructor
  · rintro ⟨n, e⟩
    cases n with
    | zero => exact (Option.some.inj (show some a = some y from e)).symm
    | succ n => rw [tr_anc_n h] at e; cases e
  · rintro rfl
    exact tr_lead_rf u _
theorem pu_lead_no {u : Nat → Option Nat} {a b : Nat} (hc : tr_acyc u 30) (ha : a < 30) (h : u a = some b) : ¬ tr_lead u b a := fun ⟨n, e⟩ => hc a n ha (by rw [tr_anc_s h]; exact e)
def pu_min (s x : Int32) : Int32 := if s < x then s else x
theorem pu_upS {τ : tg_Mem} {sent : Int32} {x : Nat} : (∀ a, a ≠ 13 → a ≠ 15 → fa_upS sent x τ a = τ a) ∧ (∀ y, fa_upS sent x τ 15 y = if y = x then τ 15 x + 1 else τ 15 y) ∧ (∀ y, fa_upS sent x τ 13 y = if y = x then pu_min sent (τ 13 x) else τ 13 y) := by
  unfold fa_upS
  refine ⟨fun a h1 h2 => by rw [pu_set_o h1, pu_set_o h2], fun y => ?_, fun y => ?_⟩
  · rw [pu_set_o (by decide), pu_set_s]; rfl
  · rw [pu_set_s, pu_set_o (by decide)]; rfl
/-- what a walk upwards leaves behind -/
def pu_W (sent : Int32) (τ τ' : tg_Mem) (P : Nat → Prop) : Prop :=
  (∀ a, a ≠ 13 → a ≠ 15 → τ' a = τ a) ∧ ∀ y, y < 30 → (P y → τ' 15 y = τ 15 y + 1 ∧ τ' 13 y = pu_min sent (τ 13 y)) ∧ (¬ P y → τ' 15 y = τ 15 y ∧ τ' 13 y = τ 13 y)
theorem pu_upF {u : Nat → Option Nat} (hr : tr_rng u 30) (hc : tr_acyc u 30) {sent : Int32} : ∀ (n i a : Nat) (τ : tg_Mem), a < 30 → (∀ x, x < 30 → tr_up (τ 11) x = u x) → tr_anc u n a = none → pu_W sent τ (fa_upF sent n i (nI a, τ)) (tr_lead u a) := by
  intro n
  induction n with
  | zero => intro i a τ _ _ h; cases h
  | succ n ih =>
    intro i a τ ha hu h
    unfold fa_upF
    rw [if_pos (fa_id_nI ha), tr_cl ha]
    dsimp only
    obtain ⟨s1, s2, s3⟩ := pu_upS (τ := τ) (sent := sent) (x := a)
    have hu2 : ∀ x, x < 30 → tr_up (fa_upS sent a τ 11) x = u x := fun x hx => by rw [s1 11 (by decide) (by decide)]; exact hu x hx
    cases e : u a with
    | none =>
      have hv : fa_id (τ 11 a) = false := by
        have := hu a ha
        rw [e] at this
        unfold tr_up at this
        cases h1 : fa_id (τ 11 a)
        · rfl
        · rw [if_pos h1] at this; cases this
      have hend : fa_upF sent n (i + 1) (τ 11 a, fa_upS sent a τ) = fa_upS sent a τ := by
        cases n with
        | zero => rfl
        | succ n => unfold fa_upF; rw [if_neg (by rw [hv]; decide)]
      rw [hend]
      refine ⟨s1, fun y hy => ⟨fun hp => ?_, fun hp => ?_⟩⟩
      · have ey := (pu_lead_n e).mp hp
        subst ey
        exact ⟨by rw [s2, if_pos rfl], by rw [s3, if_pos rfl]⟩
      · have ey : ¬ y = a := fun c => hp ((pu_lead_n e).mpr c)
        exact ⟨by rw [s2, if_neg ey], by rw [s3, if_neg ey]⟩
    | some b =>
      have hb := hr a b ha e
      have h11 : τ 11 a = nI b := (tr_up_s ((hu a ha).trans e)).1
      rw [tr_anc_s e] at h
      rw [h11]
      obtain ⟨w1, w2⟩ := ih (i + 1) b (fa_upS sent a τ) hb hu2 h
      have hno := pu_lead_no hc ha e
      refine ⟨fun k h1 h2 => (w1 k h1 h2).trans (s1 k h1 h2), fun y hy => ⟨fun hp => ?_, fun hp => ?_⟩⟩
      · rcases (pu_lead_s e).mp hp with ey | hp2
        · subst ey
          obtain ⟨c1, c2⟩ := (w2 y hy).2 hno
          exact ⟨by rw [c1, s2, if_pos rfl], by rw [c2, s3, if_pos rfl]⟩
        · have ey : ¬ y = a := fun c => hno (by rw [← c]; exact hp2)
          obtain ⟨c1, c2⟩ := (w2 y hy).1 hp2
          exact ⟨by rw [c1, s2, if_neg ey], by rw [c2, s3, if_neg ey]⟩
      · have ey : ¬ y = a := fun c => hp ((pu_lead_s e).mpr (Or.inl c))
        have hp2 : ¬ tr_lead u b y := fun c => hp ((pu_lead_s e).mpr (Or.inr c))
        obtain ⟨c1, c2⟩ := (w2 y hy).2 hp2
        exact ⟨by rw [c1, s2, if_neg ey], by rw [c2, s3, if_neg ey]⟩
end
section
/-! ===== 25: sizes and earliest days ===== -/
noncomputable def pu_n (P : Nat → Prop) : Nat → Nat | 0 => 0 | n + 1 => pu_n P n + @ite Nat (P n) (Classical.propDecidable (P n)) 1 0
noncomputable def pu_mn (P : Nat → Prop) (d : Nat → Int32) : Nat → Int32 | 0 => 1000 | n + 1 => @ite Int32 (P n) (Classical.propDecidable (P n)) (pu_min (d n) (pu_mn P d n)) (pu_mn P d n)
theorem pu_n_p {P : Nat → Prop} {n : Nat} (h : P n) : pu_n P (n + 1) = pu_n P n + 1 := by
  show pu_n P n + _ = _
  rw [if_pos h]
theorem pu_n_n {P : Nat → Prop} {n : Nat} (h : ¬ P n) : pu_n P (n + 1) = pu_n P n := by
  show pu_n P n + _ = _
  rw [if_neg h]; rfl
theorem pu_mn_p {P : Nat → Prop} {d : Nat → Int32} {n : Nat} (h : P n) : pu_mn P d (n + 1) = pu_min (d n) (pu_mn P d n) := if_pos h
theorem pu_mn_n {P : Nat → Prop} {d : Nat → Int32} {n : Nat} (h : ¬ P n) : pu_mn P d (n + 1) = pu_mn P d n := if_neg h
theorem pu_mt1 {τ : tg_Mem} : ∀ n, n ≤ 30 → (∀ a, a ≠ 13 → a ≠ 15 → tg_it fa_mt1 τ n a = τ a) ∧ ∀ j, j < n → tg_it fa_mt1 τ n 15 j = 0 ∧ tg_it fa_mt1 τ n 13 j = 1000 := by
  refine tg_inv (fun n κ => (∀ a, a ≠ 13 → a ≠ 15 → κ a = τ a) ∧ ∀ i, i < n → κ 15 i = 0 ∧ κ 13 i = 1000) fa_mt1 30 τ ⟨fun _ _ _ => rfl, fun i h => absurd h (Nat.not_lt_zero i)⟩ ?_
  rintro n κ hn ⟨ho, hk⟩
  unfold fa_mt1
  refine ⟨fun a h1 h2 => by rw [pu_set_o h1, pu_set_o h2]; exact ho a h1 h2, fun i hi => ?_⟩
  rw [pu_set_o (by decide), pu_set_s, pu_set_s, pu_set_o (by decide)]
  by_cases e : i = n
  · subst e; exact ⟨pu_upd_s, pu_upd_s⟩
  · rw [pu_upd_o e, pu_upd_o e]; exact hk i (by omega)
/-- the sizes and the earliest days of the trees -/
theorem pu_mt2 {u : Nat → Option Nat} (hr : tr_rng u 30) (hc : tr_acyc u 30) {τ : tg_Mem} (hu : ∀ x, x < 30 → tr_up (τ 11) x = u x) :
    (∀ a, a ≠ 13 → a ≠ 15 → tg_it fa_mt2 (tg_it fa_mt1 τ 30) 30 a = τ a) ∧ ∀ y, y < 30 → tg_it fa_mt2 (tg_it fa_mt1 τ 30) 30 15 y = nI (pu_n (fun i => τ 12 i ≠ 0 ∧ tr_lead u i y) 30) ∧ tg_it fa_mt2 (tg_it fa_mt1 τ 30) 30 13 y = pu_mn (fun i => τ 12 i ≠ 0 ∧ tr_lead u i y) (fun i => fa_dayOf τ (nI i)) 30 := by
  obtain ⟨o1, k1⟩ := pu_mt1 (τ := τ) 30 (Nat.le_refl _)
  have h := tg_inv (fun n (κ : tg_Mem) => (∀ a, a ≠ 13 → a ≠ 15 → κ a = τ a) ∧ ∀ y, y < 30 → κ 15 y = nI (pu_n (fun i => τ 12 i ≠ 0 ∧ tr_lead u i y) n) ∧ κ 13 y = pu_mn (fun i => τ 12 i ≠ 0 ∧ tr_lead u i y) (fun i => fa_dayOf τ (nI i)) n) fa_mt2 30 (tg_it fa_mt1 τ 30) ⟨o1, fun y hy => k1 y hy⟩ ?_ 30 (Nat.le_refl _)
  · exact h
  rintro n κ hn ⟨ho, hk⟩
  unfold fa_mt2
  rw [ho 12 (by decide) (by decide)]
  by_cases h12 : τ 12 n = 0
  · rw [if_pos h12]
    refine ⟨ho, fun y hy => ?_⟩
    rw [pu_n_n (fun c => c.1 h12), pu_mn_n (fun c => c.1 h12)]
    exact hk y hy
  · rw [if_neg h12]
    have hd : fa_dayOf κ (nI n) = fa_dayOf τ (nI n) := by
      unfold fa_dayOf fa_holds
      rw [ho 0 (by decide) (by decide), ho 5 (by decide) (by decide)]
    unfold fa_upwards
    rw [hd]
    obtain ⟨w1, w2⟩ := pu_upF hr hc (sent := fa_dayOf τ (nI n)) 30 0 n κ hn (fun x hx => by rw [ho 11 (by decide) (by decide)]; exact hu x hx) (tr_len hr hc hn)
    refine ⟨fun a h1 h2 => (w1 a h1 h2).trans (ho a h1 h2), fun y hy => ?_⟩
    by_cases hp : tr_lead u n y
    · obtain ⟨c1, c2⟩ := (w2 y hy).1 hp
      rw [pu_n_p ⟨h12, hp⟩, pu_mn_p ⟨h12, hp⟩, c1, c2, (hk y hy).1, (hk y hy).2, nI_succ]
      exact ⟨rfl, rfl⟩
    · obtain ⟨c1, c2⟩ := (w2 y hy).2 hp
      rw [pu_n_n (fun c => hp c.2), pu_mn_n (fun c => hp c.2), c1, c2]
      exact hk y hy
end
section
/-! ===== 26: the measured forest ===== -/
theorem pu_mt3 {τ : tg_Mem} : ∀ n, n ≤ 30 → (∀ a, a ≠ 14 → tg_it fa_mt3 τ n a = τ a) ∧ ∀ j, j < n → tg_it fa_mt3 τ n 14 j = if τ 11 j = -1 then τ 13 j else fa_dayOf τ (nI j) := by
  refine tg_inv (fun n κ => (∀ a, a ≠ 14 → κ a = τ a) ∧ ∀ j, j < n → κ 14 j = if τ 11 j = -1 then τ 13 j else fa_dayOf τ (nI j)) fa_mt3 30 τ ⟨fun _ _ => rfl, fun i h => absurd h (Nat.not_lt_zero i)⟩ ?_
  rintro n κ hn ⟨ho, hk⟩
  have hd : fa_dayOf κ (nI n) = fa_dayOf τ (nI n) := by
    unfold fa_dayOf fa_holds
    rw [ho 0 (by decide), ho 5 (by decide)]
  unfold fa_mt3
  rw [hd, ho 11 (by decide), ho 13 (by decide)]
  refine ⟨fun a h => by rw [pu_set_o h]; exact ho a h, fun j hj => ?_⟩
  rw [pu_set_s]
  by_cases e : j = n
  · subst e; exact pu_upd_s
  · rw [pu_upd_o e]; exact hk j (by omega)
/-- the forest measured: what each array holds -/
theorem pu_measure {u : Nat → Option Nat} (hr : tr_rng u 30) (hc : tr_acyc u 30) {τ : tg_Mem} (hu : ∀ x, x < 30 → tr_up (τ 11) x = u x) :
    (∀ a, a ≠ 13 → a ≠ 14 → a ≠ 15 → fa_measure τ a = τ a) ∧ ∀ y, y < 30 → fa_measure τ 15 y = nI (pu_n (fun i => τ 12 i ≠ 0 ∧ tr_lead u i y) 30) ∧ fa_measure τ 13 y = pu_mn (fun i => τ 12 i ≠ 0 ∧ tr_lead u i y) (fun i => fa_dayOf τ (nI i)) 30 ∧ fa_measure τ 14 y = if τ 11 y = -1 then pu_mn (fun i => τ 12 i ≠ 0 ∧ tr_lead u i y) (fun i => fa_dayOf τ (nI i)) 30 else fa_dayOf τ (nI y) := by
  obtain ⟨o2, k2⟩ := pu_mt2 hr hc hu
  obtain ⟨o3, k3⟩ := pu_mt3 (τ := tg_it fa_mt2 (tg_it fa_mt1 τ 30) 30) 30 (Nat.le_refl _)
  unfold fa_measure
  refine ⟨fun a h1 h2 h3 => by rw [o3 a h2, o2 a h1 h3], fun y hy => ⟨by rw [o3 15 (by decide)]; exact (k2 y hy).1, by rw [o3 13 (by decide)]; exact (k2 y hy).2, ?_⟩⟩
  have hd : fa_dayOf (tg_it fa_mt2 (tg_it fa_mt1 τ 30) 30) (nI y) = fa_dayOf τ (nI y) := by
    unfold fa_dayOf fa_holds
    rw [o2 0 (by decide) (by decide), o2 5 (by decide) (by decide)]
  rw [k3 y hy, hd, o2 11 (by decide) (by decide), (k2 y hy).2]
end
section
/-! ===== 27: places among the roots, places behind a parent ===== -/
theorem pu_place {σ : tg_Mem} {x : Int32} : fa_place σ x = nI (pu_n (fun i => fa_before σ (nI i) x = true) 30) := by
  have h := tg_inv (fun n (k : Int32) => k = nI (pu_n (fun i => fa_before σ (nI i) x = true) n)) (fa_placeS σ x) 30 0 rfl ?_ 30 (Nat.le_refl _)
  · exact h
  intro n k hn hk
  unfold fa_placeS
  rw [hk]
  by_cases e : fa_before σ (nI n) x = true
  · rw [if_pos e, pu_n_p e, nI_succ]
  · rw [if_neg e, pu_n_n e]
/-- a sum over those who are P -/
noncomputable def pu_sum (P : Nat → Prop) (f : Nat → Nat) : Nat → Nat | 0 => 0 | n + 1 => pu_sum P f n + @ite Nat (P n) (Classical.propDecidable (P n)) (f n) 0
theorem pu_sum_p {P : Nat → Prop} {f : Nat → Nat} {n : Nat} (h : P n) : pu_sum P f (n + 1) = pu_sum P f n + f n := by
  show pu_sum P f n + _ = _
  rw [if_pos h]
theorem pu_sum_n {P : Nat → Prop} {f : Nat → Nat} {n : Nat} (h : ¬ P n) : pu_sum P f (n + 1) = pu_sum P f n := by
  show pu_sum P f n + _ = _
  rw [if_neg h]; rfl
theorem pu_off {σ : tg_Mem} {x : Int32} {sz : Nat → Nat} (hz : ∀ i, i < 30 → σ 15 i = nI (sz i)) : fa_off σ x = nI ((if fa_par σ x = -1 then 0 else 1) + pu_sum (fun i => fa_before σ (nI i) x = true) sz 30) := by
  have h := tg_inv (fun n (k : Int32) => k = nI ((if fa_par σ x = -1 then 0 else 1) + pu_sum (fun i => fa_before σ (nI i) x = true) sz n)) (fa_offS σ x) 30 (if fa_par σ x = -1 then 0 else 1) (by
    show _ = nI (_ + 0)
    split <;> rfl) ?_ 30 (Nat.le_refl _)
  · exact h
  intro n k hn hk
  unfold fa_offS
  rw [hk]
  by_cases e : fa_before σ (nI n) x = true
  · rw [if_pos e, pu_sum_p e, hz n hn, ← Nat.add_assoc]
    exact (Int32.ofNat_add _ _).symm
  · rw [if_neg e, pu_sum_n e]
/-- who comes before whom -/
theorem pu_before {σ : tg_Mem} {f g : Nat} (hf : f < 30) (hg : g < 30) : fa_before σ (nI f) (nI g) = true ↔ σ 12 f ≠ 0 ∧ σ 12 g ≠ 0 ∧ σ 11 f = σ 11 g ∧ (σ 14 f < σ 14 g ∨ (σ 14 f = σ 14 g ∧ f < g)) := by
  have hc : ∀ i, i < 30 → (fa_cont σ (nI i) = true ↔ σ 12 i ≠ 0) := fun i hi => by
    unfold fa_cont
    rw [fa_id_nI hi, tr_cl hi]
    simp
  have hl : ¬ nI g ≤ nI f ↔ f < g := by
    constructor
    · intro c; exact Classical.byContradiction fun d => c (nI_le (a := g) (b := f) (by omega) (Nat.lt_trans hf (by decide)))
    · intro c; exact nI_ge c (Nat.lt_trans hg (by decide))
  unfold fa_before
  rw [Bool.and_eq_true, Bool.and_eq_true, hc f hf, hc g hg, tr_cl hf, tr_cl hg]
  simp only [Bool.and_eq_true, Bool.or_eq_true, decide_eq_true_eq, Bool.not_eq_true', decide_eq_false_iff_not, hl]
end
section
/-! ===== 28: before is an order; places differ ===== -/
theorem pu_n_le {P P' : Nat → Prop} (h : ∀ i, P i → P' i) : ∀ n, pu_n P n ≤ pu_n P' n := by
  intro n
  induction n with
  | zero => exact Nat.le_refl _
  | succ n ih =>
    by_cases e : P n
    · rw [pu_n_p e, pu_n_p (h n e)]; omega
    · rw [pu_n_n e]
      by_cases e2 : P' n
      · rw [pu_n_p e2]; omega
      · rw [pu_n_n e2]; exact ih
theorem pu_n_lt {P P' : Nat → Prop} (h : ∀ i, P i → P' i) {j : Nat} (h1 : P' j) (h2 : ¬ P j) : ∀ n, j < n → pu_n P n < pu_n P' n := by
  intro n
  induction n with
  | zero => intro hj; exact absurd hj (Nat.not_lt_zero j)
  | succ n ih =>
    intro hj
    by_cases e : j = n
    · subst e
      rw [pu_n_n h2, pu_n_p h1]
      have := pu_n_le h j
      omega
    · have := ih (by omega)
      by_cases e1 : P n
      · rw [pu_n_p e1, pu_n_p (h n e1)]; omega
      · rw [pu_n_n e1]
        by_cases e2 : P' n
        · rw [pu_n_p e2]; omega
        · rw [pu_n_n e2]; exact this
theorem pu_n_top {P : Nat → Prop} : ∀ n, pu_n P n ≤ n := by
  intro n
  induction n with
  | zero => exact Nat.le_refl _
  | succ n ih =>
    by_cases e : P n
    · rw [pu_n_p e]; omega
    · rw [pu_n_n e]; omega
theorem pu_bf_irr {σ : tg_Mem} {f : Nat} (hf : f < 30) : ¬ fa_before σ (nI f) (nI f) = true := by
  rw [pu_before hf hf]
  rintro ⟨-, -, -, h | ⟨-, h⟩⟩
  · exact Int32.lt_irrefl h
  · exact Nat.lt_irrefl _ h
theorem pu_bf_tr {σ : tg_Mem} {f g k : Nat} (hf : f < 30) (hg : g < 30) (hk : k < 30) (h1 : fa_before σ (nI f) (nI g) = true) (h2 : fa_before σ (nI g) (nI k) = true) : fa_before σ (nI f) (nI k) = true := by
  rw [pu_before hf hg] at h1
  rw [pu_before hg hk] at h2
  rw [pu_before hf hk]
  obtain ⟨a1, a2, a3, a4⟩ := h1
  obtain ⟨b1, b2, b3, b4⟩ := h2
  refine ⟨a1, b2, a3.trans b3, ?_⟩
  rcases a4 with a | ⟨a, a'⟩
  · rcases b4 with b | ⟨b, b'⟩
    · exact Or.inl (Int32.lt_trans a b)
    · exact Or.inl (by rw [← b]; exact a)
  · rcases b4 with b | ⟨b, b'⟩
    · exact Or.inl (by rw [a]; exact b)
    · exact Or.inr ⟨a.trans b, Nat.lt_trans a' b'⟩
theorem pu_bf_tot {σ : tg_Mem} {f g : Nat} (hf : f < 30) (hg : g < 30) (h1 : σ 12 f ≠ 0) (h2 : σ 12 g ≠ 0) (h3 : σ 11 f = σ 11 g) (hne : f ≠ g) : fa_before σ (nI f) (nI g) = true ∨ fa_before σ (nI g) (nI f) = true := by
  rw [pu_before hf hg, pu_before hg hf]
  by_cases c1 : σ 14 f < σ 14 g
  · exact Or.inl ⟨h1, h2, h3, Or.inl c1⟩
  · by_cases c2 : σ 14 g < σ 14 f
    · exact Or.inr ⟨h2, h1, h3.symm, Or.inl c2⟩
    · have e : σ 14 f = σ 14 g := Int32.le_antisymm (Int32.not_lt.mp c2) (Int32.not_lt.mp c1)
      by_cases c : f < g
      · exact Or.inl ⟨h1, h2, h3, Or.inr ⟨e, c⟩⟩
      · exact Or.inr ⟨h2, h1, h3.symm, Or.inr ⟨e.symm, by omega⟩⟩
end
section
/-! ===== 29: who comes before stands at a smaller place ===== -/
theorem pu_n_cong {P P' : Nat → Prop} : ∀ n, (∀ i, i < n → (P i ↔ P' i)) → pu_n P n = pu_n P' n := by
  intro n
  induction n with
  | zero => intro _; rfl
  | succ n ih =>
    intro h
    have e := ih (fun i hi => h i (by omega))
    by_cases c : P n
    · rw [pu_n_p c, pu_n_p ((h n (by omega)).mp c), e]
    · rw [pu_n_n c, pu_n_n (fun d => c ((h n (by omega)).mpr d)), e]
noncomputable def pu_pl (σ : tg_Mem) (x : Nat) : Nat := pu_n (fun i => fa_before σ (nI i) (nI x) = true) 30
theorem pu_pl_lt {σ : tg_Mem} {f g : Nat} (hf : f < 30) (hg : g < 30) (h : fa_before σ (nI f) (nI g) = true) : pu_pl σ f < pu_pl σ g := by
  unfold pu_pl
  rw [pu_n_cong (P' := fun i => i < 30 ∧ fa_before σ (nI i) (nI f) = true) 30 (fun i hi => ⟨fun c => ⟨hi, c⟩, fun c => c.2⟩), pu_n_cong (P := fun i => fa_before σ (nI i) (nI g) = true) (P' := fun i => i < 30 ∧ fa_before σ (nI i) (nI g) = true) 30 (fun i hi => ⟨fun c => ⟨hi, c⟩, fun c => c.2⟩)]
  exact pu_n_lt (fun i ⟨hi, c⟩ => ⟨hi, pu_bf_tr hi hf hg c h⟩) (j := f) ⟨hf, h⟩ (fun c => pu_bf_irr hf c.2) 30 hf
theorem pu_pl_inj {σ : tg_Mem} {f g : Nat} (hf : f < 30) (hg : g < 30) (h1 : σ 12 f ≠ 0) (h2 : σ 12 g ≠ 0) (h3 : σ 11 f = σ 11 g) (h : pu_pl σ f = pu_pl σ g) : f = g := by
  refine Classical.byContradiction fun hne => ?_
  rcases pu_bf_tot hf hg h1 h2 h3 hne with c | c
  · have := pu_pl_lt hf hg c; omega
  · have := pu_pl_lt hg hf c; omega
theorem pu_pl_30 {σ : tg_Mem} {f : Nat} (hf : f < 30) : pu_pl σ f < 30 := by
  have h := pu_n_lt (P := fun i => i < 30 ∧ fa_before σ (nI i) (nI f) = true) (P' := fun i => i < 30) (fun i c => c.1) (j := f) hf (fun c => pu_bf_irr hf c.2) 30 hf
  have h2 := pu_n_top (P := fun i => i < 30) 30
  unfold pu_pl
  rw [pu_n_cong (P' := fun i => i < 30 ∧ fa_before σ (nI i) (nI f) = true) 30 (fun i hi => ⟨fun c => ⟨hi, c⟩, fun c => c.2⟩)]
  omega
end
section
/-! ===== 30: the roots in their rows ===== -/
/-- r is a root of the forest -/
def pu_rt (σ : tg_Mem) (r : Nat) : Prop := σ 12 r ≠ 0 ∧ σ 11 r = -1
theorem pu_pr {σ : tg_Mem} : (∀ a, a ≠ 19 → a ≠ 20 → fa_placeRoots σ a = σ a) ∧ fa_placeRoots σ 20 0 = nI (pu_n (pu_rt σ) 30) ∧ ∀ r, r < 30 → pu_rt σ r → fa_placeRoots σ 19 (pu_pl σ r) = nI r := by
  have h := tg_inv (fun n (τ : tg_Mem) => (∀ a, a ≠ 19 → a ≠ 20 → τ a = σ a) ∧ τ 20 0 = nI (pu_n (pu_rt σ) n) ∧ ∀ r, r < n → pu_rt σ r → τ 19 (pu_pl σ r) = nI r) fa_pr 30 (tg_set σ 20 0 0) ⟨fun a _ h => pu_set_o h, by rw [pu_set_s, pu_upd_s]; rfl, fun r hr => absurd hr (Nat.not_lt_zero r)⟩ ?_ 30 (Nat.le_refl _)
  · exact ⟨h.1, h.2.1, fun r hr c => h.2.2 r hr c⟩
  rintro n τ hn ⟨ho, hc, hr⟩
  unfold fa_pr
  rw [ho 12 (by decide) (by decide), ho 11 (by decide) (by decide)]
  have skip : ¬ pu_rt σ n → (∀ a, a ≠ 19 → a ≠ 20 → τ a = σ a) ∧ τ 20 0 = nI (pu_n (pu_rt σ) (n + 1)) ∧ ∀ r, r < n + 1 → pu_rt σ r → τ 19 (pu_pl σ r) = nI r := fun c => ⟨ho, by rw [pu_n_n c]; exact hc, fun r h1 h2 => hr r (Nat.lt_of_le_of_ne (by omega) (fun e => c (by rw [← e]; exact h2))) h2⟩
  by_cases h12 : σ 12 n = 0
  · rw [if_pos h12]; exact skip (fun c => c.1 h12)
  · rw [if_neg h12]
    by_cases h11 : σ 11 n = -1
    · rw [if_pos h11]
      have hb : ∀ i, fa_before τ (nI i) (nI n) = fa_before σ (nI i) (nI n) := fun i => by
        unfold fa_before fa_cont
        rw [ho 12 (by decide) (by decide), ho 11 (by decide) (by decide), ho 14 (by decide) (by decide)]
      have hp : fa_place τ (nI n) = nI (pu_pl σ n) := by
        rw [pu_place]
        unfold pu_pl
        rw [pu_n_cong 30 (fun i _ => by rw [hb i])]
      have hlt := pu_pl_30 (σ := σ) hn
      have hpr : fa_placeRoot τ (nI n) = tg_set τ 19 (pu_pl σ n) (nI n) := by
        unfold fa_placeRoot
        rw [hp, if_pos (fa_id_nI hlt), tr_cl hlt]
      rw [hpr]
      refine ⟨fun a h1 h2 => by rw [pu_set_o h2, pu_set_o h1]; exact ho a h1 h2, ?_, fun r h1 h2 => ?_⟩
      · rw [pu_set_s, pu_upd_s, pu_set_o (by decide), hc, pu_n_p ⟨h12, h11⟩, nI_succ]
      · rw [pu_set_o (by decide), pu_set_s]
        by_cases e : r = n
        · subst e; exact pu_upd_s
        · rw [pu_upd_o (fun c => e (pu_pl_inj (by omega) hn h2.1 h12 (h2.2.trans h11.symm) c))]
          exact hr r (by omega) h2
    · rw [if_neg h11]; exact skip (fun c => h11 c.2)
end
section
/-! ===== 31: places behind the parents ===== -/
theorem pu_pt1 {σ : tg_Mem} : ∀ n, n ≤ 30 → (∀ a, a ≠ 16 → tg_it fa_pt1 σ n a = σ a) ∧ ∀ j, j < n → tg_it fa_pt1 σ n 16 j = fa_off σ (nI j) := by
  refine tg_inv (fun n κ => (∀ a, a ≠ 16 → κ a = σ a) ∧ ∀ j, j < n → κ 16 j = fa_off σ (nI j)) fa_pt1 30 σ ⟨fun _ _ => rfl, fun i h => absurd h (Nat.not_lt_zero i)⟩ ?_
  rintro n κ hn ⟨ho, hk⟩
  have hb : ∀ i g, fa_before κ i g = fa_before σ i g := fun i g => by
    unfold fa_before fa_cont
    rw [ho 12 (by decide), ho 11 (by decide), ho 14 (by decide)]
  have hS : fa_offS κ (nI n) = fa_offS σ (nI n) := by
    funext i k
    unfold fa_offS
    rw [hb, ho 15 (by decide)]
  have hp : fa_par κ (nI n) = fa_par σ (nI n) := by
    unfold fa_par fa_cont
    rw [ho 12 (by decide), ho 11 (by decide)]
  have hd : fa_off κ (nI n) = fa_off σ (nI n) := by
    unfold fa_off
    rw [hS, hp]
  unfold fa_pt1
  rw [hd]
  refine ⟨fun a h => by rw [pu_set_o h]; exact ho a h, fun j hj => ?_⟩
  rw [pu_set_s]
  by_cases e : j = n
  · subst e; exact pu_upd_s
  · rw [pu_upd_o e]; exact hk j (by omega)
end
section
/-! ===== 09: the class's public methods: they throw, and a throw makes a cell (first rows: the kit's row of a throw, its end said more exactly) ===== -/
section VGE
variable {p : Program} {l : Launch} {e : Env} {R : Room} {s : State} {m : MethodId} {args : Array Value} {below : List Frame} {meth : Method} {c : Code} {H : Heap} {locs : List Loc} {cells slots : Nat} {Q : State → Prop}
variable {mc ms : Nat} {free : Addr → Prop} {A0 A1 : Nat → Prop} {H0 : Heap} {a : Array Value} {ls : Array Slot} {st0 rest : List Value}
variable {Qc : Array Value → State → Outcome → State → Prop} {XC : String → State → State → Prop}
/-- 'throw new E("text")': new; dup; ldc; invokespecial; athrow -/
theorem vg_throwS {cc : ByteArray} {pc : Nat} (hexec : p.tables.exec = Jvm.exec) (hb : c.code = cc) (hl : l.stackTraces = false) {own cls text : String} {names : List String} {ik is ic mc ms sa : Nat} {A : Nat → Prop}
    (hown : s.vm.findClass own = some m.cls) (hcls : Bundle.fit cls = true) (hnames : ∀ n ∈ names, Bundle.fit n = true)
    (hk : (Cond.classLink own ik cls).before args s = true) (hini : (Cond.initialized cls).before args s = true) (hstr : vk_R own is text sa s) (hat : ∀ w ∈ vx_atS own ic cls names, w.before args s = true)
    (hgood : ∀ w ∈ Cond.classLink own ik cls :: Cond.initialized cls :: vx_atS own ic cls names, vx_ot w = true)
    (hU : vx_Zq Bundle.tN "UNASSIGNED_STACK" Bundle.steD A s s.heap) (hN : vx_Zq Bundle.tN "SUPPRESSED_SENTINEL" Bundle.listD A s s.heap) (hS : va_S A s.heap H locs) (hsize : ls.size = c.maxLocals)
    (d0 : decode cc pc = .ok (.new ik, 3)) (d3 : decode cc (pc + 3) = .ok (.dup, 1)) (d4 : decode cc (pc + 4) = .ok (.ldc is, 2)) (d6 : decode cc (pc + 6) = .ok (.invokespecial ic, 3)) (d9 : decode cc (pc + 9) = .ok (.athrow, 1))
    (hout : ∀ x ∈ c.exceptionTable.toList, covers x (pc + 9) = false)
    (hRframes : names.length + 3 < R.frames) (hRlocals : (rest.map fun v => v.category).sum + (13 * (names.length + 1) + 43) ≤ R.locals) (hRcells : cells + 1 ≤ R.cells) (hRslots : slots + 6 ≤ R.slots) (hlocks : meth.locks = false)
    (hx : ∀ t : State, s.vm.Alike t.vm → H.size < t.heap.size → (∀ q : Nat, q < H.size → t.heap[q]? = H[q]?) → XC cls s t)
    (hf : ∀ z ∈ locs, free z.base) (hc : cells + 1 ≤ mc) (hs : slots + 6 ≤ ms) :
    W p l e R s m args below meth c H locs cells slots (vx_MQ below Qc XC args s mc ms free) (F0 m pc ls rest) := by
  intro T hT X
  have htr : e.platform.stackTraces = false := (show e.platform.stackTraces = l.stackTraces by rw [X.admits.platform]).trans hl
  have Y := vx_rebase X (R' := { frames := R.frames, locals := R.locals, cells := 1, slots := 6 }) (Nat.le_refl _) (Nat.le_refl _) hRcells hRslots
  obtain ⟨s', hA⟩ : ∃ z, z = (T.setVm s.vm).setFrames (.invoking m args :: below) := ⟨_, rfl⟩
  rw [← hA] at Y
  have hvm : s'.vm = s.vm := by rw [hA]; rfl
  have hhp : s'.heap = H := by rw [hA]; exact hT
  have hW0 : s.WarmedH s'.vm := by rw [hvm]; exact State.WarmedH.refl s
  have hat' : ∀ w ∈ vx_atS own ic cls names, w.before args s' = true := fun w hw => vx_ot_at hW0 hvm.symm (hgood w (List.mem_cons_of_mem _ (List.mem_cons_of_mem _ hw))) (hat w hw)
  have hk' : (Cond.classLink own ik cls).before args s' = true := vx_ot_at hW0 hvm.symm (hgood _ List.mem_cons_self) hk
  have hini' : (Cond.initialized cls).before args s' = true := vx_ot_at hW0 hvm.symm (hgood _ (List.mem_cons_of_mem _ List.mem_cons_self)) hini
  have hU' : vx_Zq Bundle.tN "UNASSIGNED_STACK" Bundle.steD A s' s'.heap := by rw [hhp]; exact vx_Zq.moved hW0.alike (hU.kept hS.2.1)
  have hN' : vx_Zq Bundle.tN "SUPPRESSED_SENTINEL" Bundle.listD A s' s'.heap := by rw [hhp]; exact vx_Zq.moved hW0.alike (hN.kept hS.2.1)
  have h : ∀ w ∈ Bundle.ownAtoms own ic cls names, w.before args s' = true := vx_own hat' (vx_isRefq hU'.1) (vx_isRefq hN'.1) hU'.2.word hN'.2.word
  have hown' : s'.vm.findClass own = some m.cls := by rw [hvm]; exact hown
  have hins : (Cond.instantiable cls 6).before args s' = true := h _ (by simp [Bundle.ownAtoms])
  obtain ⟨vm₁, cX, kX, hfX, hkX, -, -, X₁, st1⟩ := Y.newCold hexec (own := own) (C := cls) (index := ik) (n := 6) hown' hk' hins hini'
    (g := F0 m pc ls rest) rfl (by rw [hb]; exact d0) (Nat.le_refl _) (Nat.le_refl _)
  generalize hT1 : (T.setVm vm₁).pushCell { cls := cX, slots := kX.instanceTypes.map defaultValue, vm := .none } = T1 at X₁ st1
  have hcat : (Value.ref T.heap.size).category = 1 := rfl
  have hcellA : T1.heap[T.heap.size]? = some (freshCell cX kX) := by rw [← hT1]; exact State.heap_pushCell_size _ _
  have d3' : decode c.code (pc + 3) = .ok (.dup, 1) := by rw [hb]; exact d3
  have d4' : decode c.code (pc + 4) = .ok (.ldc is, 2) := by rw [hb]; exact d4
  have hstr' : vk_R own is text sa s' := vk_R.warm hW0 hstr
  obtain ⟨U, hsteps, hrun, hend, hW, hsame, ce, hce, hO⟩ := X₁.ctorThrowS hexec htr (own := own) (cls := cls) (names := names) (ic := ic) hown' hcls hnames h (fun x hx => nomatch hx) hfX hkX hcellA (by rw [hhp, hT]; exact Nat.le_refl _) (msg := .ref sa) rfl
    (g := { method := m, pc := pc + 6, locals := ls, stack := .ref sa :: .ref T.heap.size :: .ref T.heap.size :: rest, locked := none }) rfl hsize rfl rfl (rest := rest) rfl
    (by rw [hb]; exact d6) (by rw [hb]; exact d9) hout hRframes (by simp only [List.map_cons, List.sum_cons, hcat]; omega) hlocks
  obtain ⟨f1, f2⟩ := vx_frame hsame
  rw [hhp] at f1 f2
  have hWs : s.WarmedH U.vm := State.WarmedH.trans hW0 hW
  have hcl : s.vm.findClass cls = some ce.cls := by
    have h9 := hO.cls
    rw [hvm] at h9
    exact h9
  have hall : s.sameButNew ({ U with vm := s.vm } : State) locs mc ms := by
    subst hA
    obtain ⟨e1, e2⟩ := hsame
    rw [State.setFrames_setFrames] at e1
    have h2 : (T.setVm s.vm).sameButNew ({ U with vm := s.vm } : State) [] (0 + 1) (0 + 6) := ⟨e1, e2⟩
    have h3 := X.same.trans h2
    rw [List.append_nil] at h3
    exact h3.mono hc hs
  refine ⟨U, ?_, .threw T.heap.size, hrun, hend, Or.inr ⟨T.heap.size, rfl, cls, ce, locs, hx U hWs.alike (hT ▸ (Array.getElem?_eq_some_iff.mp hce).1) (fun q hq => f2 q hq (fun z hz => nomatch hz)), hce, hO.vm, hcl, hWs, hall, hf⟩⟩
  refine st1 _ ?_
  show Steps p.tables e below (T1.setTop { method := m, pc := pc + 3, locals := ls, stack := .ref T.heap.size :: rest, locked := none }) _
  jvm_step X₁.here [X₁.here.top, hexec, d3', Value.category]
  exact X₁.ldcString hexec (own := own) (text := text) (index := is) (a := sa) hown' hstr'.1 hstr'.2
    (g := { method := m, pc := pc + 4, locals := ls, stack := .ref T.heap.size :: .ref T.heap.size :: rest, locked := none }) rfl d4' _ hsteps
end VGE
/-! ===== the class's public methods: they throw ===== -/
abbrev tx_I : String := "java/lang/IllegalArgumentException"
abbrev tx_J : String := "java/lang/IllegalStateException"
abbrev tx_O : String := "java/lang/IndexOutOfBoundsException"
abbrev tx_up : List String := ["java/lang/RuntimeException", "java/lang/Exception"]
def tx_str : List (Nat × String) := [(134, "an id is out of range"), (136, "a grandparent is told without a parent"), (138, "a subject, day or person is out of range"), (140, "there is no letter with this id"), (142, "the id is not in the forest"), (42, "there is a letter with this id"), (73, "a letter is joined to another one"), (80, "the other letter is in the tree of this one"), (109, "there is no such root"), (112, "there is no such place in the tree")]
def tx_de : List String := ["java/lang/RuntimeException", "java/lang/Exception", Bundle.tN]
/-- what a throw needs -/
def tx_TX (A : Nat → Prop) (U : State) : Prop :=
  (∀ X ∈ [tx_I, tx_J, tx_O], va_Nw (.castable X X) U) ∧ (∀ Y ∈ tx_de, va_Nw (.declares (Bundle.initS Y)) U) ∧ (∀ q ∈ tx_str, ∃ a, vk_R RX2 q.1 q.2 a U) ∧ vx_Zq Bundle.tN "UNASSIGNED_STACK" Bundle.steD A U U.heap ∧ vx_Zq Bundle.tN "SUPPRESSED_SENTINEL" Bundle.listD A U U.heap
theorem tx_TX.call {A : Nat → Prop} {s U : State} {H : Heap} {locs : List Loc} (hW : s.WarmedH U.vm) (hU : U.heap = H) (hS : va_S A s.heap H locs) (h : tx_TX A s) : tx_TX A U := by
  obtain ⟨h1, h0, h2, h3, h4⟩ := h
  refine ⟨fun X hX => va_Nw.warmC hW (h1 X hX), fun Y hY => va_Nw.warmD hW (h0 Y hY), fun q hq => ?_, ?_, ?_⟩
  · obtain ⟨a, ha⟩ := h2 q hq
    exact ⟨a, ha.warm hW⟩
  · exact (h3.moved hW.alike).kept (fun a ha hn => by rw [hU]; exact hS.2.1 a ha hn)
  · exact (h4.moved hW.alike).kept (fun a ha hn => by rw [hU]; exact hS.2.1 a ha hn)
theorem tx_TX.same {A : Nat → Prop} {u U : State} (hv : U.vm = u.vm) (hU : U.heap = u.heap) (h : tx_TX A u) : tx_TX A U := by
  obtain ⟨h1, h0, h2, h3, h4⟩ := h
  have ha : u.vm.Alike U.vm := by rw [hv]; exact Vm.Alike.refl _
  refine ⟨fun X hX => va_Nw.same rfl hv.symm (h1 X hX), fun Y hY => va_Nw.same rfl hv.symm (h0 Y hY), fun q hq => ?_, ?_, ?_⟩
  · obtain ⟨a, ha⟩ := h2 q hq
    exact ⟨a, ha.same hv⟩
  · rw [hU]; exact h3.moved ha
  · rw [hU]; exact h4.moved ha
def tx_XB (ex : Option String) (w : tg_Mem → va_W) (D : va_G) (A : Nat → Prop) (σ : tg_Mem) : String → State → State → Prop := fun E st t => ex = some E ∧ st.heap.size < t.heap.size ∧ va_P D vwCl (w σ) t.heap ∧ va_F A st t
def tx_QR (ex : Option String) (w : tg_Mem → va_W) (D : va_G) (A : Nat → Prop) (r : Option Value) (σ' : tg_Mem) : Array Value → State → Outcome → State → Prop := fun a st o t => ex = none ∧ t.heap.size = st.heap.size ∧ tg_PT w D A r σ' a st o t
def tx_Pre (w : tg_Mem → va_W) (D : va_G) (tys : List (ClassId × FieldType)) (nl : List (String × Nat × MethodName × String)) (A : Nat → Prop) (As : List Value) (σ : tg_Mem) : Array Value → State → Prop :=
  va_Pc As (fun U => va_P D vwCl (w σ) U.heap ∧ va_K D vwCl tys U ∧ tg_NU nl U ∧ tx_TX A U)
def tx_rm (f : Nat) : Room := { frames := f, cells := 1, slots := 6, locals := 28 * f }
/-- a method's contract: it throws ex (the state as it was), or returns r and leaves σ' -/
def tx_CT (l : Launch) (y : MethodName) (ws : List Cond) (rm : Room) (w : tg_Mem → va_W) (tys : List (ClassId × FieldType)) (nl : List (String × Nat × MethodName × String)) (A : Nat → Prop) (D : va_G) (As : List Value) (σ : tg_Mem) (ex : Option String) (r : Option Value) (σ' : tg_Mem) : Prop :=
  vx_Met l y ws rm (tx_Pre w D tys nl A As σ) (tx_QR ex w D A r σ') (tx_XB ex w D A σ) 1 6 A
theorem tx_blind {w : tg_Mem → va_W} {D : va_G} {tys : List (ClassId × FieldType)} {nl : List (String × Nat × MethodName × String)} {A : Nat → Prop} {As : List Value} {σ : tg_Mem} : FrameBlind (tx_Pre w D tys nl A As σ) := fun a U g mk h => by
  obtain ⟨h1, h2, h3, h4, h5⟩ := h
  exact ⟨h1, h2, va_K.moved (u := U) (U := U.calling g mk a) (Vm.Alike.refl U.vm) h3, tg_NU.same (u := U) (U := U.calling g mk a) rfl h4, tx_TX.same (u := U) (U := U.calling g mk a) rfl rfl h5⟩
/-- no new cell: a stand of no cost -/
theorem tx_shrink {p : Program} {l : Launch} {e : Env} {R : Room} {s : State} {m : MethodId} {args : Array Value} {below : List Frame} {meth : Method} {c : Code} {T : State} {locs : List Loc} {k n : Nat} (X : Stand p l e R s m args below meth c T locs k n) (h : T.heap.size = s.heap.size) : Stand p l e R s m args below meth c T locs 0 0 := by
  obtain ⟨a1, a2, a3, a4, a5, a6, a7, a8, a9, a10, a11, a12, a13, ⟨b1, b2, b3, b4, b5, b6⟩⟩ := X
  refine ⟨a1, a2, a3, a4, a5, a6, a7, a8, a9, a10, a11, a12, a13, ⟨b1, b2, Nat.le_of_eq h, b4, ?_, b6⟩⟩
  have e : ((T.setVm s.vm).heap.toList.drop s.heap.size) = [] := List.drop_eq_nil_of_le (by
    show T.heap.toList.length ≤ s.heap.size
    rw [Array.length_toList, h]
    exact Nat.le_refl _)
  rw [e]
  exact Nat.le_refl _
theorem tx_size0 {p : Program} {l : Launch} {e : Env} {R : Room} {s : State} {m : MethodId} {args : Array Value} {below : List Frame} {meth : Method} {c : Code} {T : State} {locs : List Loc} {n : Nat} (X : Stand p l e R s m args below meth c T locs 0 n) : T.heap.size = s.heap.size :=
  Nat.le_antisymm (show T.heap.size ≤ s.heap.size + 0 from X.same.2.2.1) X.same.2.1
section TXR
variable {p : Program} {l : Launch} {e : Env} {R : Room} {s : State} {m : MethodId} {args : Array Value} {below : List Frame} {meth : Method} {c : Code} {D : va_G} {w : tg_Mem → va_W} {A : Nat → Prop} {n : Nat} {Q : State → Prop}
variable {cc : ByteArray} {Ts : List Cond} {own : String} {σ : tg_Mem} {pc : Nat} {L L' : List (Nat × Value)} {st : List Value}
/-- behind a call that returns or throws -/
theorem tx_after {a : Array Value} {r : Option Value} {rest : List Value} {ex : Option String} {σ2 : tg_Mem} (hlk : meth.locks = false) (hout : ∀ x ∈ c.exceptionTable.toList, False) {exo : Option String} {ro : Option Value} {σo : tg_Mem}
    (hr : ∀ (H : Heap) (locs : List Loc) (ls : Array Slot), va_P D vwCl (w σ) H → va_S A s.heap H locs → lv_has ls n L → vx_Run p l e R s m args below meth c H locs 0 0 1 6 (F0 m pc ls st) rest (tx_QR ex w D A r σ2 a) (tx_XB ex w D A σ) A)
    (hex : ∀ E, ex = some E → exo = some E)
    (kk : ex = none → tg_G p l e R s m args below meth c D w A n 0 0 (vx_MQ below (tx_QR exo w D A ro σo) (tx_XB exo w D A σ) args s 1 6 A) σ2 (pc + 3) L (r.toList ++ rest)) :
    tg_G p l e R s m args below meth c D w A n 0 0 (vx_MQ below (tx_QR exo w D A ro σo) (tx_XB exo w D A σ) args s 1 6 A) σ pc L st := by
  intro H locs ls hP hS hl T hT X
  have hHs : H.size = s.heap.size := by rw [← hT]; exact tx_size0 X
  rcases hr H locs ls hP hS hl T hT X with ⟨v, st₀, t, T', Lc, h0, X', hL, e1, e2, ⟨hx, hsz, hv, hPt, hz, hk⟩, sg⟩ | ⟨q, st₀, t, T', Lc, E, ce, h0, X', hL, e1, e2, ⟨hx, hlt, hPt, hz, hk⟩, hce, hcv, hcl, sg⟩
  · cases hv
    rw [h0] at hz hk
    have X2 := tx_shrink X' (by rw [e1, hsz, h0]; exact hHs)
    obtain ⟨t2, a1, b1⟩ := kk hx T'.heap (locs ++ Lc) ls (by rw [e1]; exact hPt)
      ⟨Nat.le_trans hS.1 (by rw [e1]; exact hz), fun q h1 h2 => by rw [e1, hk q (Nat.lt_of_lt_of_le h1 hS.1) h2]; exact hS.2.1 q h1 h2, fun q hq => by
        rcases List.mem_append.mp hq with h | h
        · exact hS.2.2 q h
        · exact hL q h⟩ hl T' rfl X2
    exact ⟨t2, sg t2 a1, b1⟩
  · rw [h0] at hlt hz hk
    have hS2 : va_S A s.heap T'.heap (locs ++ Lc) := ⟨Nat.le_trans hS.1 (by rw [e1]; exact hz), fun q h1 h2 => by rw [e1, hk q (Nat.lt_of_lt_of_le h1 hS.1) h2]; exact hS.2.1 q h1 h2, fun q hq => by
        rcases List.mem_append.mp hq with h | h
        · exact hS.2.2 q h
        · exact hL q h⟩
    have ko := vx_out (p := p) (l := l) (e := e) (R := R) (s := s) (m := m) (args := args) (below := below) (meth := meth) (c := c) (H := T'.heap) (locs := locs ++ Lc) (cells := 1) (slots := 6) (Qc := tx_QR exo w D A ro σo) (XC := tx_XB exo w D A σ) (free := A) (ls := ls) (rest := rest) (pc := pc) (E := E) (ce := ce) (q := q) (mc := 1) (ms := 6) (fun x hx => absurd hx (fun h => hout x h)) hlk (by rw [e1]; exact hce) hcv hcl
      (fun t3 h3 _ => ⟨hex E hx, by rw [h3, e1]; exact Nat.lt_of_le_of_lt hS.1 hlt, by rw [h3, e1]; exact hPt, hS2.F h3⟩) hS2.2.2 (Nat.le_refl _) (Nat.le_refl _)
    obtain ⟨t2, a1, b1⟩ := ko T' rfl X'
    exact ⟨t2, sg.trans a1, b1⟩
/-- a normal end -/
theorem tx_ends {exo : Option String} {ro : Option Value} {σo : tg_Mem} {XC : String → State → State → Prop} (hx : exo = none) (kk : tg_G p l e R s m args below meth c D w A n 0 0 (MQ below (tg_PT w D A ro σo) args s 0 0 A) σ pc L st) : tg_G p l e R s m args below meth c D w A n 0 0 (vx_MQ below (tx_QR exo w D A ro σo) XC args s 1 6 A) σ pc L st := by
  intro H locs ls hP hS hl T hT X
  obtain ⟨t, a1, o, b1, b2, b3, L9, ⟨f1, f2, f3⟩, hL⟩ := kk H locs ls hP hS hl T hT X
  have hsz : t.heap.size = s.heap.size := Nat.le_antisymm (show t.heap.size ≤ s.heap.size + 0 from f3.2.2.1) f3.2.1
  exact ⟨t, a1, o, b1, b2, Or.inl ⟨⟨hx, hsz, b3⟩, L9, ⟨f1, f2, f3.mono (Nat.zero_le _) (Nat.zero_le _)⟩, hL⟩⟩
end TXR
theorem tx_good {X : String} {ic : Nat} {x : Cond} (h : ∀ w ∈ (vx_atS RX2 ic X tx_up).filter goodWord, w ∈ lw_tbl) : ∀ w ∈ (vx_atS RX2 ic X tx_up).filter goodWord, w ∈ x :: tw_G := fun w hw => tw_in (h w hw) (List.mem_filter.mp hw).2
def tx_B (X : String) : List Cond := [.castable X X, .declares (Bundle.initS "java/lang/RuntimeException"), .declares (Bundle.initS "java/lang/Exception"), .declares (Bundle.initS Bundle.tN)]
set_option maxRecDepth 100000 in
theorem tx_bI : ∀ w ∈ (vx_atS RX2 75 tx_I tx_up).filter (fun w => !goodWord w), w ∈ tx_B tx_I := by decide +kernel
set_option maxRecDepth 100000 in
theorem tx_aI : ∀ w ∈ (vx_atS RX2 75 tx_I tx_up).filter goodWord, w ∈ lw_tbl := by decide +kernel
set_option maxRecDepth 100000 in
theorem tx_oI : ∀ w ∈ vx_atS RX2 75 tx_I tx_up, vx_ot w = true := by decide +kernel
set_option maxRecDepth 100000 in
theorem tx_bJ : ∀ w ∈ (vx_atS RX2 44 tx_J tx_up).filter (fun w => !goodWord w), w ∈ tx_B tx_J := by decide +kernel
set_option maxRecDepth 100000 in
theorem tx_aJ : ∀ w ∈ (vx_atS RX2 44 tx_J tx_up).filter goodWord, w ∈ lw_tbl := by decide +kernel
set_option maxRecDepth 100000 in
theorem tx_oJ : ∀ w ∈ vx_atS RX2 44 tx_J tx_up, vx_ot w = true := by decide +kernel
set_option maxRecDepth 100000 in
theorem tx_bO : ∀ w ∈ (vx_atS RX2 111 tx_O tx_up).filter (fun w => !goodWord w), w ∈ tx_B tx_O := by decide +kernel
set_option maxRecDepth 100000 in
theorem tx_aO : ∀ w ∈ (vx_atS RX2 111 tx_O tx_up).filter goodWord, w ∈ lw_tbl := by decide +kernel
set_option maxRecDepth 100000 in
theorem tx_oO : ∀ w ∈ vx_atS RX2 111 tx_O tx_up, vx_ot w = true := by decide +kernel
set_option maxRecDepth 100000 in
theorem tx_lI : Cond.classLink RX2 71 tx_I ∈ lw_tbl := by decide +kernel
set_option maxRecDepth 100000 in
theorem tx_nI : Cond.initialized tx_I ∈ lw_tbl := by decide +kernel
set_option maxRecDepth 100000 in
theorem tx_lJ : Cond.classLink RX2 40 tx_J ∈ lw_tbl := by decide +kernel
set_option maxRecDepth 100000 in
theorem tx_nJ : Cond.initialized tx_J ∈ lw_tbl := by decide +kernel
set_option maxRecDepth 100000 in
theorem tx_lO : Cond.classLink RX2 107 tx_O ∈ lw_tbl := by decide +kernel
set_option maxRecDepth 100000 in
theorem tx_nO : Cond.initialized tx_O ∈ lw_tbl := by decide +kernel
/-- the words of a throw, at s -/
theorem tx_at {X : String} {ic : Nat} {x : Cond} {A : Nat → Prop} {s : State} {args : Array Value} (ha : ∀ w ∈ (vx_atS RX2 ic X tx_up).filter goodWord, w ∈ lw_tbl) (hb : ∀ w ∈ (vx_atS RX2 ic X tx_up).filter (fun w => !goodWord w), w ∈ tx_B X) (hX : X ∈ [tx_I, tx_J, tx_O]) (hs : ∀ w ∈ x :: tw_G, w.before args s = true) (hT : tx_TX A s) :
    ∀ w ∈ vx_atS RX2 ic X tx_up, w.before args s = true :=
  vx_hat (fun w hw => hs w (tx_good ha w hw)) hb (vx_c (va_Nw.use rfl (hT.1 X hX)) (vx_c (va_Nw.use rfl (hT.2.1 _ (List.mem_cons_self ..))) (vx_c (va_Nw.use rfl (hT.2.1 _ (List.mem_cons_of_mem _ (List.mem_cons_self ..)))) (vx_c (va_Nw.use rfl (hT.2.1 _ (List.mem_cons_of_mem _ (List.mem_cons_of_mem _ (List.mem_cons_self ..))))) vx_n))))
section TXT
variable {p : Program} {l : Launch} {e : Env} {R : Room} {s : State} {m : MethodId} {args : Array Value} {below : List Frame} {meth : Method} {c : Code} {D : va_G} {w : tg_Mem → va_W} {A : Nat → Prop} {n : Nat}
variable {cc : ByteArray} {σ : tg_Mem} {pc : Nat} {L : List (Nat × Value)} {st : List Value} {x : Cond}
/-- new X(text), thrown -/
theorem tx_throw {X text : String} {ik is ic : Nat} {exo : Option String} {ro : Option Value} {σo : tg_Mem} (S : CallFix p m c cc n s args (x :: tw_G) RX2) (hl : l.stackTraces = false) (hT : tx_TX A s) (hlk : meth.locks = false) (hout : ∀ x ∈ c.exceptionTable.toList, False)
    (hD : ∀ σ, va_D A (w σ)) (hX : X ∈ [tx_I, tx_J, tx_O]) (hfit : Bundle.fit X = true)
    (hk : Cond.classLink RX2 ik X ∈ lw_tbl) (hn : Cond.initialized X ∈ lw_tbl) (ha : ∀ w ∈ (vx_atS RX2 ic X tx_up).filter goodWord, w ∈ lw_tbl) (hb : ∀ w ∈ (vx_atS RX2 ic X tx_up).filter (fun w => !goodWord w), w ∈ tx_B X) (ho : ∀ w ∈ vx_atS RX2 ic X tx_up, vx_ot w = true)
    (hstr : (is, text) ∈ tx_str)
    (d0 : decode cc pc = .ok (.new ik, 3)) (d3 : decode cc (pc + 3) = .ok (.dup, 1)) (d4 : decode cc (pc + 4) = .ok (.ldc is, 2)) (d6 : decode cc (pc + 6) = .ok (.invokespecial ic, 3)) (d9 : decode cc (pc + 9) = .ok (.athrow, 1))
    (hRf : 6 ≤ R.frames) (hRl : (st.map fun v => v.category).sum + 82 ≤ R.locals) (hRc : 1 ≤ R.cells) (hRs : 6 ≤ R.slots) (hex : exo = some X) :
    tg_G p l e R s m args below meth c D w A n 0 0 (vx_MQ below (tx_QR exo w D A ro σo) (tx_XB exo w D A σ) args s 1 6 A) σ pc L st := by
  intro H locs ls hP hS hl9
  obtain ⟨a, hstr⟩ := hT.2.2.1 _ hstr
  refine vg_throwS (sa := a) S.1 S.2.1 hl S.2.2.2.1 hfit (by decide +kernel) (S.2.2.2.2 _ (tw_in hk rfl)) (S.2.2.2.2 _ (tw_in hn rfl)) hstr (tx_at ha hb hX S.2.2.2.2 hT) ?_ hT.2.2.2.1 hT.2.2.2.2 hS (hl9.1.trans S.2.2.1.symm) d0 d3 d4 d6 d9 (fun x hx => absurd hx (fun h => hout x h)) hRf hRl hRc hRs hlk ?_ hS.2.2 (Nat.le_refl _) (Nat.le_refl _)
  · intro v hv
    rcases List.mem_cons.mp hv with h | h
    · rw [h]; rfl
    · rcases List.mem_cons.mp h with h | h
      · rw [h]; rfl
      · exact ho v h
  · intro t ht hz hk9
    refine ⟨hex, Nat.lt_of_le_of_lt hS.1 hz, hP.kept (fun k q hq => hk9 _ (vx_lt hP hq)), Nat.le_trans hS.1 (Nat.le_of_lt hz), fun q h1 h2 => ?_⟩
    rw [hk9 q (Nat.lt_of_lt_of_le h1 hS.1)]
    exact hS.2.1 q h1 h2
end TXT
/-- a throwing method's contract out of the walk of its body -/
theorem tx_met {l : Launch} {y : MethodName} {ws ws' : List Cond} {cc : ByteArray} {maxL fr : Nat} {ret : Option FieldType} {w : tg_Mem → va_W} {tys : List (ClassId × FieldType)} {nl : List (String × Nat × MethodName × String)} {A : Nat → Prop} {D : va_G} {As : List Value} {σ σ' : tg_Mem} {ex : Option String} {r : Option Value} {own : String} (hy : plainName y.cls = true) (hown : y.cls = own) (hw : ws = Cond.code y cc maxL ret :: ws') (hlen : (lg_sl As).length ≤ maxL)
    (body : ∀ (p : Program) (e : Env) (s : State) (m : MethodId) (below : List Frame) (meth : Method) (c : Code), CallFix p m c cc maxL s As.toArray ws own → va_K D vwCl tys s → tg_NU nl s → tx_TX A s → meth.sig.returnType = ret → meth.locks = false → (∀ x ∈ c.exceptionTable.toList, False) →
      tg_G p l e (tx_rm fr) s m As.toArray below meth c D w A maxL 0 0 (vx_MQ below (tx_QR ex w D A r σ') (tx_XB ex w D A σ) As.toArray s 1 6 A) σ 0 (lv_args 0 As) []) : tx_CT l y ws (tx_rm fr) w tys nl A D As σ ex r σ' := by
  refine vx_ofW (cc := cc) (maxL := maxL) (ret := ret) hy hw ?_
  intro p e s m args below meth c s₁ B hml hh hv
  obtain ⟨rfl, hP, hK, hN, hT⟩ := hv
  rw [lg_entry_eq]
  exact body p e s m below meth c ⟨B.exec, B.bytes, hml, by rw [← hown]; exact findClass_of_methodNamed B.named, atoms_spec (ws := ws) B.pre⟩ hK hN hT B.returns B.notSynchronized hh s.heap [] _ hP va_S.rf (lv_entry As hlen)
section TXC
variable {p : Program} {l : Launch} {e : Env} {R : Room} {s : State} {m : MethodId} {args : Array Value} {below : List Frame} {meth : Method} {c : Code} {D : va_G} {w : tg_Mem → va_W} {A : Nat → Prop} {n : Nat}
variable {cc : ByteArray} {Ts : List Cond} {own : String} {σ : tg_Mem} {pc : Nat} {L : List (Nat × Value)} {st : List Value}
variable {tys : List (ClassId × FieldType)} {nl : List (String × Nat × MethodName × String)} {y : MethodName} {bytes : ByteArray} {maxL index : Nat} {ret : Option FieldType} {ws ws' : List Cond} {fr : Nat}
theorem tx_preV {H : Heap} {locs : List Loc} {a q0 ci : Nat} {q : vw_C} {fs : List Value} {As : List Value} (hK : va_K D vwCl tys s) (hN : tg_NU nl s) (hX : tx_TX A s) (hS : va_S A s.heap H locs) (hP : va_P D vwCl (w σ) H) (hc : vwCl[ci]? = some q) (he : (w σ)[q0]? = some (a, .inr (ci, fs))) : PreV s H q.1 a (tx_Pre w D tys nl A (.ref a :: As) σ) As :=
  ⟨tx_blind, va_recv hK hP hc he, fun U hU hW => ⟨rfl, by rw [hU]; exact hP, va_K.moved hW.alike hK, hN.warm hW, hX.call hW hU hS⟩⟩
theorem tx_preS {H : Heap} {locs : List Loc} {As : List Value} (hK : va_K D vwCl tys s) (hN : tg_NU nl s) (hX : tx_TX A s) (hS : va_S A s.heap H locs) (hP : va_P D vwCl (w σ) H) : PreS s H (tx_Pre w D tys nl A As σ) As :=
  ⟨tx_blind, fun U hU hW => ⟨rfl, by rw [hU]; exact hP, va_K.moved hW.alike hK, hN.warm hW, hX.call hW hU hS⟩⟩
variable {exo : Option String} {ro : Option Value} {σo : tg_Mem}
theorem tx_callV {nA : Nat} {q : vw_C} {fs As rest : List Value} {a ci : Nat} {r : Option Value} {ex : Option String} {σ2 : tg_Mem} (S : CallFix p m c cc n s args Ts own) (hK : va_K D vwCl tys s) (hN : tg_NU nl s) (hX : tx_TX A s) (hlk : meth.locks = false) (hout : ∀ x ∈ c.exceptionTable.toList, False) (hM : tx_CT l y ws (tx_rm fr) w tys nl A D (.ref a :: As) σ ex r σ2) (q0 : Nat) (he : (w σ)[q0]? = some (a, .inr (ci, fs))) (hc : vwCl[ci]? = some q)
    (hT : GoodIn Ts (wsV own index q.1 y ws)) (hw : ws = Cond.code y bytes maxL ret :: ws') (hd : y.cls = q.1 ∧ y.cls ≠ "java/lang/invoke/MethodHandle" ∧ y.cls ≠ "java/lang/invoke/VarHandle" ∧ (parseMethodDescriptor y.desc).map (fun d => d.parameters.length) = some nA) (hR : fr + 1 ≤ R.frames ∧ 8 + (maxL + 11) + 28 * fr ≤ R.locals)
    (hnA : As.length = nA) (hst : st = As.reverse ++ .ref a :: rest) (hcat : (rest.map fun v => v.category).sum ≤ 8) (d : decode cc pc = .ok (.invokevirtual index, 3)) (hf : 1 ≤ R.cells ∧ 6 ≤ R.slots) (hex : ∀ E, ex = some E → exo = some E)
    (kk : ex = none → tg_G p l e R s m args below meth c D w A n 0 0 (vx_MQ below (tx_QR exo w D A ro σo) (tx_XB exo w D A σ) args s 1 6 A) σ2 (pc + 3) L (r.toList ++ rest)) : tg_G p l e R s m args below meth c D w A n 0 0 (vx_MQ below (tx_QR exo w D A ro σo) (tx_XB exo w D A σ) args s 1 6 A) σ pc L st :=
  tx_after hlk hout (fun H locs ls hP hS hl => vx_runV (As := As) (rest := rest) S hM (cwV nA S.2.2.2.2 hT hw rfl rfl hd hR) (tx_preV hK hN hX hS hP hc he) rfl hnA hl.1 hst (lv_room hcat) d hf) hex kk
theorem tx_callS {nA : Nat} {As rest : List Value} {r : Option Value} {ex : Option String} {σ2 : tg_Mem} (S : CallFix p m c cc n s args Ts own) (hK : va_K D vwCl tys s) (hN : tg_NU nl s) (hX : tx_TX A s) (hlk : meth.locks = false) (hout : ∀ x ∈ c.exceptionTable.toList, False) (hM : tx_CT l y ws (tx_rm fr) w tys nl A D As σ ex r σ2)
    (hT : GoodIn Ts (va_wsS own index y ws)) (hw : ws = Cond.code y bytes maxL ret :: ws') (hd : y.cls ≠ "java/lang/invoke/MethodHandle" ∧ y.cls ≠ "java/lang/invoke/VarHandle" ∧ (parseMethodDescriptor y.desc).map (fun d => d.parameters.length) = some nA) (hR : fr + 1 ≤ R.frames ∧ 8 + (maxL + 11) + 28 * fr ≤ R.locals)
    (hnA : As.length = nA) (hst : st = As.reverse ++ rest) (hcat : (rest.map fun v => v.category).sum ≤ 8) (d : decode cc pc = .ok (.invokestatic index, 3)) (hf : 1 ≤ R.cells ∧ 6 ≤ R.slots) (hex : ∀ E, ex = some E → exo = some E)
    (kk : ex = none → tg_G p l e R s m args below meth c D w A n 0 0 (vx_MQ below (tx_QR exo w D A ro σo) (tx_XB exo w D A σ) args s 1 6 A) σ2 (pc + 3) L (r.toList ++ rest)) : tg_G p l e R s m args below meth c D w A n 0 0 (vx_MQ below (tx_QR exo w D A ro σo) (tx_XB exo w D A σ) args s 1 6 A) σ pc L st :=
  tx_after hlk hout (fun H locs ls hP hS hl => vx_runS (As := As) (rest := rest) S hM (va_cwS nA S.2.2.2.2 hT hw rfl rfl hd hR) (tx_preS hK hN hX hS hP) rfl hnA hl.1 hst (lv_room hcat) d hf) hex kk
end TXC
end
section
/-! ===== 10: the class: its public methods (printed by wip/whole/genD.py) ===== -/
def tx_or (a b : Option String) : Option String := match a with | some E => some E | none => b
theorem tx_orN {b : Option String} : tx_or none b = b := rfl
theorem tx_orS {E : String} {b : Option String} : tx_or (some E) b = some E := rfl
def fx_id (x : Int32) : Option String := if fa_id x = true then none else some tx_I
def fx_told (x y : Int32) : Option String := tx_or (if x = -1 then none else fx_id x) (tx_or (if y = -1 then none else fx_id y) (if x = -1 then none else if y = -1 then some tx_I else none))
def fx_below (x y : Int32) : Option String := if x < 0 then some tx_I else if x < y then none else some tx_I
def fx_letter (σ : tg_Mem) (x : Int32) : Option String := tx_or (fx_id x) (if fa_holds σ x = true then none else some tx_J)
def fx_forest (σ : tg_Mem) (x : Int32) : Option String := tx_or (fx_id x) (if fa_cont σ x = true then none else some tx_O)
def fx_put (σ : tg_Mem) (x g q sub d w0 : Int32) : Option String := tx_or (fx_id x) (tx_or (fx_told g q) (tx_or (fx_below sub 20) (tx_or (fx_below d 1000) (tx_or (fx_below w0 10) (if fa_holds σ x = true then some tx_J else none)))))
def fx_join (σ : tg_Mem) (x y : Int32) : Option String := tx_or (fx_id x) (tx_or (fx_id y) (tx_or (if x = y then some tx_I else none) (tx_or (fx_letter σ x) (tx_or (fx_letter σ y) (if fa_inT σ y x = true then some tx_J else none)))))
def fx_touched (σ : tg_Mem) (x : Int32) : Bool := if fa_handOf σ x = -1 then false else true
def fx_readS (x : Int32) (j : Nat) (q : Int32 × tg_Mem) : Int32 × tg_Mem := (if fa_isUnread q.2 (fa_idAt q.2 x (nI j)) = true then q.1 + 1 else q.1, fa_mark q.2 (fa_idAt q.2 x (nI j)))
def fx_read (σ : tg_Mem) (x : Int32) : Int32 × tg_Mem := tg_it (fx_readS x) (0, σ) 30
def fx_state (σ : tg_Mem) (x : Int32) : Int32 := if fa_holds σ x = true then 3 else if fa_cont σ x = true then 2 else if fa_knows σ x = true then 1 else 0
def fx_root (σ : tg_Mem) (x : Int32) : Option String := if fa_rootAt σ x = -1 then some tx_O else none
def fx_inTree (σ : tg_Mem) (x y : Int32) : Option String := tx_or (fx_forest σ x) (if fa_idAt σ x y = -1 then some tx_O else none)
def fx_lettersS (σ : tg_Mem) (x : Int32) (j : Nat) (b : Int32) : Int32 := if fa_holds σ (fa_idAt σ x (nI j)) = true then b + 1 else b
def fx_letters (σ : tg_Mem) (x : Int32) : Int32 := tg_it (fx_lettersS σ x) 0 30
def fx_unreadS (σ : tg_Mem) (x : Int32) (j : Nat) (b : Int32) : Int32 := if fa_isUnread σ (fa_idAt σ x (nI j)) = true then b + 1 else b
def fx_unread (σ : tg_Mem) (x : Int32) : Int32 := tg_it (fx_unreadS σ x) 0 30
def fx_peopleS (σ : tg_Mem) (x : Int32) (j : Nat) (b : Int32) : Int32 := b ||| fa_writerBit σ (fa_idAt σ x (nI j))
def fx_people (σ : tg_Mem) (x : Int32) : Int32 := tg_it (fx_peopleS σ x) 0 30
def fx_latestS (σ : tg_Mem) (x : Int32) (j : Nat) (b : Int32) : Int32 := if fa_holds σ (fa_idAt σ x (nI j)) = true then (if b < fa_dayOf σ (fa_idAt σ x (nI j)) then fa_dayOf σ (fa_idAt σ x (nI j)) else b) else b
def fx_latest (σ : tg_Mem) (x : Int32) : Int32 := tg_it (fx_latestS σ x) (-1) 30

set_option maxHeartbeats 4000000 in
set_option maxRecDepth 100000 in
theorem k_X2_requireId {l : Launch} {D : va_G} {h : Nat → Nat} {cI cZ : ClassId} (hd : tw_dis 23 h) (hl : l.stackTraces = false) (σ : tg_Mem) (x : Int32) : tx_CT l yX2_requireId wzX2_requireId (tx_rm 6) (tw_T h cI cZ) (tw_ty cI cZ) tw_nl (tw_A 23 h) D [.int x] σ (fx_id x) none σ := by
  refine tx_met (own := RX2) (cc := cX2_requireId) (maxL := 1) (ret := none) (by decide +kernel) rfl rfl (Nat.le_of_ble_eq_true rfl) ?_
  intro p e s m below meth c S hK hN hX hr hlk hh
  refine tg_sub (L' := [(0, .int x)]) [0] rfl ?_
  refine tg_iload_n S 0 dX2_requireId_0 rfl rfl ?_
  refine tg_callS (nA := 1) (As := [.int x]) (rest := []) S hK hN (k_X2_isId hd σ x) (tw_gS ml_RX2_131 st_X2_isId in_RX2 co_X2_isId rfl) rfl (by decide +kernel) ⟨Nat.le_of_ble_eq_true rfl, Nat.le_of_ble_eq_true rfl⟩ rfl rfl (Nat.le_of_ble_eq_true rfl) dX2_requireId_1 ⟨Nat.le_of_ble_eq_true rfl, Nat.le_of_ble_eq_true rfl⟩ ?_
  refine tg_ifnz (tgt := 17) S dX2_requireId_4 (by decide) (fun c_1 => ?_) (fun c_1 => ?_)
  · skip
    refine tx_ends (by simp [tx_orN, tx_orS, fx_id, c_1]) ?_
    exact tg_vret S hr hlk dX2_requireId_17 rfl
  · skip
    exact tx_throw (is := 134) S hl hX hlk hh (tw_TD hd) (by simp [tx_I, tx_J, tx_O]) (by decide +kernel) tx_lI tx_nI tx_aI tx_bI tx_oI (List.mem_of_getElem? (i := 0) rfl) dX2_requireId_7 dX2_requireId_10 dX2_requireId_11 dX2_requireId_13 dX2_requireId_16 (Nat.le_of_ble_eq_true rfl) (Nat.le_of_ble_eq_true rfl) (Nat.le_of_ble_eq_true rfl) (Nat.le_of_ble_eq_true rfl) (by simp [tx_orN, tx_orS, fx_id, c_1])
set_option maxHeartbeats 4000000 in
set_option maxRecDepth 100000 in
theorem k_X2_requireTold {l : Launch} {D : va_G} {h : Nat → Nat} {cI cZ : ClassId} (hd : tw_dis 23 h) (hl : l.stackTraces = false) (σ : tg_Mem) (x : Int32) (y : Int32) : tx_CT l yX2_requireTold wzX2_requireTold (tx_rm 7) (tw_T h cI cZ) (tw_ty cI cZ) tw_nl (tw_A 23 h) D [.int x, .int y] σ (fx_told x y) none σ := by
  refine tx_met (own := RX2) (cc := cX2_requireTold) (maxL := 2) (ret := none) (by decide +kernel) rfl rfl (Nat.le_of_ble_eq_true rfl) ?_
  intro p e s m below meth c S hK hN hX hr hlk hh
  refine tg_sub (L' := [(0, .int x), (1, .int y)]) [0, 1] rfl ?_
  refine tg_iload_n S 0 dX2_requireTold_0 rfl rfl ?_
  refine tg_iconst (v := -1) S dX2_requireTold_1 (by decide) ?_
  refine tg_icmp_eq (tgt := 9) S dX2_requireTold_2 (by decide) (fun c_1 => ?_) (fun c_1 => ?_)
  · skip
    refine tg_iload_n S 1 dX2_requireTold_9 rfl rfl ?_
    refine tg_iconst (v := -1) S dX2_requireTold_10 (by decide) ?_
    refine tg_icmp_eq (tgt := 18) S dX2_requireTold_11 (by decide) (fun c_2 => ?_) (fun c_2 => ?_)
    · skip
      refine tg_iload_n S 0 dX2_requireTold_18 rfl rfl ?_
      refine tg_iconst (v := -1) S dX2_requireTold_19 (by decide) ?_
      refine tg_icmp_eq (tgt := 38) S dX2_requireTold_20 (by decide) (fun _ => ?_) (fun c => absurd c_1 c)
      refine tx_ends (by simp [tx_orN, tx_orS, fx_told, c_1, c_2]) ?_
      exact tg_vret S hr hlk dX2_requireTold_38 rfl
    · skip
      refine tg_iload_n S 1 dX2_requireTold_14 rfl rfl ?_
      refine tx_callS (nA := 1) (As := [.int y]) (rest := []) S hK hN hX hlk hh (k_X2_requireId hd hl σ y) (tw_gS ml_RX2_25 st_X2_requireId in_RX2 co_X2_requireId rfl) rfl (by decide +kernel) ⟨Nat.le_of_ble_eq_true rfl, Nat.le_of_ble_eq_true rfl⟩ rfl rfl (Nat.le_of_ble_eq_true rfl) dX2_requireTold_15 ⟨Nat.le_of_ble_eq_true rfl, Nat.le_of_ble_eq_true rfl⟩ (fun E hE => by simp [tx_orN, tx_orS, fx_told, c_1, c_2, hE]) ?_
      intro c_3
      refine tg_iload_n S 0 dX2_requireTold_18 rfl rfl ?_
      refine tg_iconst (v := -1) S dX2_requireTold_19 (by decide) ?_
      refine tg_icmp_eq (tgt := 38) S dX2_requireTold_20 (by decide) (fun _ => ?_) (fun c => absurd c_1 c)
      refine tx_ends (by simp [tx_orN, tx_orS, fx_told, c_1, c_2, c_3]) ?_
      exact tg_vret S hr hlk dX2_requireTold_38 rfl
  · skip
    refine tg_iload_n S 0 dX2_requireTold_5 rfl rfl ?_
    refine tx_callS (nA := 1) (As := [.int x]) (rest := []) S hK hN hX hlk hh (k_X2_requireId hd hl σ x) (tw_gS ml_RX2_25 st_X2_requireId in_RX2 co_X2_requireId rfl) rfl (by decide +kernel) ⟨Nat.le_of_ble_eq_true rfl, Nat.le_of_ble_eq_true rfl⟩ rfl rfl (Nat.le_of_ble_eq_true rfl) dX2_requireTold_6 ⟨Nat.le_of_ble_eq_true rfl, Nat.le_of_ble_eq_true rfl⟩ (fun E hE => by simp [tx_orN, tx_orS, fx_told, c_1, hE]) ?_
    intro c_4
    refine tg_iload_n S 1 dX2_requireTold_9 rfl rfl ?_
    refine tg_iconst (v := -1) S dX2_requireTold_10 (by decide) ?_
    refine tg_icmp_eq (tgt := 18) S dX2_requireTold_11 (by decide) (fun c_5 => ?_) (fun c_5 => ?_)
    · skip
      refine tg_iload_n S 0 dX2_requireTold_18 rfl rfl ?_
      refine tg_iconst (v := -1) S dX2_requireTold_19 (by decide) ?_
      refine tg_icmp_eq (tgt := 38) S dX2_requireTold_20 (by decide) (fun c => absurd c c_1) (fun _ => ?_)
      refine tg_iload_n S 1 dX2_requireTold_23 rfl rfl ?_
      refine tg_iconst (v := -1) S dX2_requireTold_24 (by decide) ?_
      refine tg_icmp_ne (tgt := 38) S dX2_requireTold_25 (by decide) (fun c => absurd c_5 c) (fun _ => ?_)
      exact tx_throw (is := 136) S hl hX hlk hh (tw_TD hd) (by simp [tx_I, tx_J, tx_O]) (by decide +kernel) tx_lI tx_nI tx_aI tx_bI tx_oI (List.mem_of_getElem? (i := 1) rfl) dX2_requireTold_28 dX2_requireTold_31 dX2_requireTold_32 dX2_requireTold_34 dX2_requireTold_37 (Nat.le_of_ble_eq_true rfl) (Nat.le_of_ble_eq_true rfl) (Nat.le_of_ble_eq_true rfl) (Nat.le_of_ble_eq_true rfl) (by simp [tx_orN, tx_orS, fx_told, c_1, c_4, c_5])
    · skip
      refine tg_iload_n S 1 dX2_requireTold_14 rfl rfl ?_
      refine tx_callS (nA := 1) (As := [.int y]) (rest := []) S hK hN hX hlk hh (k_X2_requireId hd hl σ y) (tw_gS ml_RX2_25 st_X2_requireId in_RX2 co_X2_requireId rfl) rfl (by decide +kernel) ⟨Nat.le_of_ble_eq_true rfl, Nat.le_of_ble_eq_true rfl⟩ rfl rfl (Nat.le_of_ble_eq_true rfl) dX2_requireTold_15 ⟨Nat.le_of_ble_eq_true rfl, Nat.le_of_ble_eq_true rfl⟩ (fun E hE => by simp [tx_orN, tx_orS, fx_told, c_1, c_4, c_5, hE]) ?_
      intro c_6
      refine tg_iload_n S 0 dX2_requireTold_18 rfl rfl ?_
      refine tg_iconst (v := -1) S dX2_requireTold_19 (by decide) ?_
      refine tg_icmp_eq (tgt := 38) S dX2_requireTold_20 (by decide) (fun c => absurd c c_1) (fun _ => ?_)
      refine tg_iload_n S 1 dX2_requireTold_23 rfl rfl ?_
      refine tg_iconst (v := -1) S dX2_requireTold_24 (by decide) ?_
      refine tg_icmp_ne (tgt := 38) S dX2_requireTold_25 (by decide) (fun _ => ?_) (fun c => absurd c c_5)
      refine tx_ends (by simp [tx_orN, tx_orS, fx_told, c_1, c_4, c_5, c_6]) ?_
      exact tg_vret S hr hlk dX2_requireTold_38 rfl
set_option maxHeartbeats 4000000 in
set_option maxRecDepth 100000 in
theorem k_X2_requireBelow {l : Launch} {D : va_G} {h : Nat → Nat} {cI cZ : ClassId} (hd : tw_dis 23 h) (hl : l.stackTraces = false) (σ : tg_Mem) (x : Int32) (y : Int32) : tx_CT l yX2_requireBelow wzX2_requireBelow (tx_rm 6) (tw_T h cI cZ) (tw_ty cI cZ) tw_nl (tw_A 23 h) D [.int x, .int y] σ (fx_below x y) none σ := by
  refine tx_met (own := RX2) (cc := cX2_requireBelow) (maxL := 2) (ret := none) (by decide +kernel) rfl rfl (Nat.le_of_ble_eq_true rfl) ?_
  intro p e s m below meth c S hK hN hX hr hlk hh
  refine tg_sub (L' := [(0, .int x), (1, .int y)]) [0, 1] rfl ?_
  refine tg_iload_n S 0 dX2_requireBelow_0 rfl rfl ?_
  refine tg_if_lt (tgt := 9) S dX2_requireBelow_1 (by decide) (fun c_1 => ?_) (fun c_1 => ?_)
  · skip
    exact tx_throw (is := 138) S hl hX hlk hh (tw_TD hd) (by simp [tx_I, tx_J, tx_O]) (by decide +kernel) tx_lI tx_nI tx_aI tx_bI tx_oI (List.mem_of_getElem? (i := 2) rfl) dX2_requireBelow_9 dX2_requireBelow_12 dX2_requireBelow_13 dX2_requireBelow_15 dX2_requireBelow_18 (Nat.le_of_ble_eq_true rfl) (Nat.le_of_ble_eq_true rfl) (Nat.le_of_ble_eq_true rfl) (Nat.le_of_ble_eq_true rfl) (by simp [tx_orN, tx_orS, fx_below, c_1])
  · skip
    refine tg_iload_n S 0 dX2_requireBelow_4 rfl rfl ?_
    refine tg_iload_n S 1 dX2_requireBelow_5 rfl rfl ?_
    refine tg_icmp_lt (tgt := 19) S dX2_requireBelow_6 (by decide) (fun c_2 => ?_) (fun c_2 => ?_)
    · skip
      refine tx_ends (by simp [tx_orN, tx_orS, fx_below, c_1, c_2]) ?_
      exact tg_vret S hr hlk dX2_requireBelow_19 rfl
    · skip
      exact tx_throw (is := 138) S hl hX hlk hh (tw_TD hd) (by simp [tx_I, tx_J, tx_O]) (by decide +kernel) tx_lI tx_nI tx_aI tx_bI tx_oI (List.mem_of_getElem? (i := 2) rfl) dX2_requireBelow_9 dX2_requireBelow_12 dX2_requireBelow_13 dX2_requireBelow_15 dX2_requireBelow_18 (Nat.le_of_ble_eq_true rfl) (Nat.le_of_ble_eq_true rfl) (Nat.le_of_ble_eq_true rfl) (Nat.le_of_ble_eq_true rfl) (by simp [tx_orN, tx_orS, fx_below, c_1, c_2])
set_option maxHeartbeats 4000000 in
set_option maxRecDepth 100000 in
theorem k_X2_requireLetter {l : Launch} {D : va_G} {h : Nat → Nat} {cI cZ : ClassId} (hd : tw_dis 23 h) (hl : l.stackTraces = false) (σ : tg_Mem) (x : Int32) : tx_CT l yX2_requireLetter wzX2_requireLetter (tx_rm 7) (tw_T h cI cZ) (tw_ty cI cZ) tw_nl (tw_A 23 h) D [.ref (h 0), .int x] σ (fx_letter σ x) none σ := by
  refine tx_met (own := RX2) (cc := cX2_requireLetter) (maxL := 2) (ret := none) (by decide +kernel) rfl rfl (Nat.le_of_ble_eq_true rfl) ?_
  intro p e s m below meth c S hK hN hX hr hlk hh
  refine tg_sub (L' := [(0, .ref (h 0)), (1, .int x)]) [0, 1] rfl ?_
  refine tg_iload_n S 1 dX2_requireLetter_0 rfl rfl ?_
  refine tx_callS (nA := 1) (As := [.int x]) (rest := []) S hK hN hX hlk hh (k_X2_requireId hd hl σ x) (tw_gS ml_RX2_25 st_X2_requireId in_RX2 co_X2_requireId rfl) rfl (by decide +kernel) ⟨Nat.le_of_ble_eq_true rfl, Nat.le_of_ble_eq_true rfl⟩ rfl rfl (Nat.le_of_ble_eq_true rfl) dX2_requireLetter_1 ⟨Nat.le_of_ble_eq_true rfl, Nat.le_of_ble_eq_true rfl⟩ (fun E hE => by simp [tx_orN, tx_orS, fx_letter, hE]) ?_
  intro c_1
  refine tg_aload_n S 0 dX2_requireLetter_4 rfl rfl ?_
  refine tg_get (v := .ref (h 1)) S tw_v2 hK 0 rfl rfl 0 (by decide) (tw_in fl_RX2_10 rfl) dX2_requireLetter_5 rfl ?_
  refine tg_iload_n S 1 dX2_requireLetter_8 rfl rfl ?_
  refine tg_callN (nA := 1) (As := [.int x]) (rest := []) (host := RX2) (q := (RX1, TX1, 9)) S hK hN (k_X1_holds hd σ x) 1 rfl rfl (tw_gW co_X1_holds rfl) (List.mem_of_getElem? (i := 3) rfl) (tw_in in_RX1 rfl) (tw_in im_X1_holds rfl) (tw_in se_X1_holds rfl) rfl (by decide +kernel) ⟨Nat.le_of_ble_eq_true rfl, Nat.le_of_ble_eq_true rfl⟩ rfl rfl (Nat.le_of_ble_eq_true rfl) dX2_requireLetter_9 ⟨Nat.le_of_ble_eq_true rfl, Nat.le_of_ble_eq_true rfl⟩ ?_
  refine tg_ifnz (tgt := 25) S dX2_requireLetter_12 (by decide) (fun c_2 => ?_) (fun c_2 => ?_)
  · skip
    refine tx_ends (by simp [tx_orN, tx_orS, fx_letter, c_1, c_2]) ?_
    exact tg_vret S hr hlk dX2_requireLetter_25 rfl
  · skip
    exact tx_throw (is := 140) S hl hX hlk hh (tw_TD hd) (by simp [tx_I, tx_J, tx_O]) (by decide +kernel) tx_lJ tx_nJ tx_aJ tx_bJ tx_oJ (List.mem_of_getElem? (i := 3) rfl) dX2_requireLetter_15 dX2_requireLetter_18 dX2_requireLetter_19 dX2_requireLetter_21 dX2_requireLetter_24 (Nat.le_of_ble_eq_true rfl) (Nat.le_of_ble_eq_true rfl) (Nat.le_of_ble_eq_true rfl) (Nat.le_of_ble_eq_true rfl) (by simp [tx_orN, tx_orS, fx_letter, c_1, c_2])
set_option maxHeartbeats 4000000 in
set_option maxRecDepth 100000 in
theorem k_X2_requireInForest {l : Launch} {D : va_G} {h : Nat → Nat} {cI cZ : ClassId} (hd : tw_dis 23 h) (hl : l.stackTraces = false) (σ : tg_Mem) (x : Int32) : tx_CT l yX2_requireInForest wzX2_requireInForest (tx_rm 7) (tw_T h cI cZ) (tw_ty cI cZ) tw_nl (tw_A 23 h) D [.ref (h 0), .int x] σ (fx_forest σ x) none σ := by
  refine tx_met (own := RX2) (cc := cX2_requireInForest) (maxL := 2) (ret := none) (by decide +kernel) rfl rfl (Nat.le_of_ble_eq_true rfl) ?_
  intro p e s m below meth c S hK hN hX hr hlk hh
  refine tg_sub (L' := [(0, .ref (h 0)), (1, .int x)]) [0, 1] rfl ?_
  refine tg_iload_n S 1 dX2_requireInForest_0 rfl rfl ?_
  refine tx_callS (nA := 1) (As := [.int x]) (rest := []) S hK hN hX hlk hh (k_X2_requireId hd hl σ x) (tw_gS ml_RX2_25 st_X2_requireId in_RX2 co_X2_requireId rfl) rfl (by decide +kernel) ⟨Nat.le_of_ble_eq_true rfl, Nat.le_of_ble_eq_true rfl⟩ rfl rfl (Nat.le_of_ble_eq_true rfl) dX2_requireInForest_1 ⟨Nat.le_of_ble_eq_true rfl, Nat.le_of_ble_eq_true rfl⟩ (fun E hE => by simp [tx_orN, tx_orS, fx_forest, hE]) ?_
  intro c_1
  refine tg_aload_n S 0 dX2_requireInForest_4 rfl rfl ?_
  refine tg_get (v := .ref (h 2)) S tw_v2 hK 0 rfl rfl 1 (by decide) (tw_in fl_RX2_21 rfl) dX2_requireInForest_5 rfl ?_
  refine tg_iload_n S 1 dX2_requireInForest_8 rfl rfl ?_
  refine tg_callN (nA := 1) (As := [.int x]) (rest := []) (host := RX2) (q := (RX0, TX0, 13)) S hK hN (k_X0_contains hd σ x) 2 rfl rfl (tw_gW co_X0_contains rfl) (List.mem_of_getElem? (i := 21) rfl) (tw_in in_RX0 rfl) (tw_in im_X0_contains rfl) (tw_in se_X0_contains rfl) rfl (by decide +kernel) ⟨Nat.le_of_ble_eq_true rfl, Nat.le_of_ble_eq_true rfl⟩ rfl rfl (Nat.le_of_ble_eq_true rfl) dX2_requireInForest_9 ⟨Nat.le_of_ble_eq_true rfl, Nat.le_of_ble_eq_true rfl⟩ ?_
  refine tg_ifnz (tgt := 25) S dX2_requireInForest_12 (by decide) (fun c_2 => ?_) (fun c_2 => ?_)
  · skip
    refine tx_ends (by simp [tx_orN, tx_orS, fx_forest, c_1, c_2]) ?_
    exact tg_vret S hr hlk dX2_requireInForest_25 rfl
  · skip
    exact tx_throw (is := 142) S hl hX hlk hh (tw_TD hd) (by simp [tx_I, tx_J, tx_O]) (by decide +kernel) tx_lO tx_nO tx_aO tx_bO tx_oO (List.mem_of_getElem? (i := 4) rfl) dX2_requireInForest_15 dX2_requireInForest_18 dX2_requireInForest_19 dX2_requireInForest_21 dX2_requireInForest_24 (Nat.le_of_ble_eq_true rfl) (Nat.le_of_ble_eq_true rfl) (Nat.le_of_ble_eq_true rfl) (Nat.le_of_ble_eq_true rfl) (by simp [tx_orN, tx_orS, fx_forest, c_1, c_2])
set_option maxHeartbeats 4000000 in
set_option maxRecDepth 100000 in
theorem k_X2_letter {l : Launch} {D : va_G} {h : Nat → Nat} {cI cZ : ClassId} (hd : tw_dis 23 h) (hl : l.stackTraces = false) (σ : tg_Mem) (x : Int32) (g : Int32) (q : Int32) (sub : Int32) (d : Int32) (w0 : Int32) : tx_CT l yX2_letter wzX2_letter (tx_rm 8) (tw_T h cI cZ) (tw_ty cI cZ) tw_nl (tw_A 23 h) D [.ref (h 0), .int x, .int g, .int q, .int sub, .int d, .int w0] σ (fx_put σ x g q sub d w0) (some (.int (fa_grow (fa_put σ x g q sub d w0) 20 0))) (fa_grow (fa_put σ x g q sub d w0)) := by
  refine tx_met (own := RX2) (cc := cX2_letter) (maxL := 7) (ret := (some .int)) (by decide +kernel) rfl rfl (Nat.le_of_ble_eq_true rfl) ?_
  intro p e s m below meth c S hK hN hX hr hlk hh
  refine tg_sub (L' := [(0, .ref (h 0)), (1, .int x), (2, .int g), (3, .int q), (4, .int sub), (5, .int d), (6, .int w0)]) [0, 1, 2, 3, 4, 5, 6] rfl ?_
  refine tg_iload_n S 1 dX2_letter_0 rfl rfl ?_
  refine tx_callS (nA := 1) (As := [.int x]) (rest := []) S hK hN hX hlk hh (k_X2_requireId hd hl σ x) (tw_gS ml_RX2_25 st_X2_requireId in_RX2 co_X2_requireId rfl) rfl (by decide +kernel) ⟨Nat.le_of_ble_eq_true rfl, Nat.le_of_ble_eq_true rfl⟩ rfl rfl (Nat.le_of_ble_eq_true rfl) dX2_letter_1 ⟨Nat.le_of_ble_eq_true rfl, Nat.le_of_ble_eq_true rfl⟩ (fun E hE => by simp [tx_orN, tx_orS, fx_put, hE]) ?_
  intro c_1
  refine tg_iload_n S 2 dX2_letter_4 rfl rfl ?_
  refine tg_iload_n S 3 dX2_letter_5 rfl rfl ?_
  refine tx_callS (nA := 2) (As := [.int g, .int q]) (rest := []) S hK hN hX hlk hh (k_X2_requireTold hd hl σ g q) (tw_gS ml_RX2_29 st_X2_requireTold in_RX2 co_X2_requireTold rfl) rfl (by decide +kernel) ⟨Nat.le_of_ble_eq_true rfl, Nat.le_of_ble_eq_true rfl⟩ rfl rfl (Nat.le_of_ble_eq_true rfl) dX2_letter_6 ⟨Nat.le_of_ble_eq_true rfl, Nat.le_of_ble_eq_true rfl⟩ (fun E hE => by simp [tx_orN, tx_orS, fx_put, c_1, hE]) ?_
  intro c_2
  refine tg_iload S 4 dX2_letter_9 rfl ?_
  refine tg_bipush (v := 20) S dX2_letter_11 (by decide) ?_
  refine tx_callS (nA := 2) (As := [.int sub, .int 20]) (rest := []) S hK hN hX hlk hh (k_X2_requireBelow hd hl σ sub 20) (tw_gS ml_RX2_33 st_X2_requireBelow in_RX2 co_X2_requireBelow rfl) rfl (by decide +kernel) ⟨Nat.le_of_ble_eq_true rfl, Nat.le_of_ble_eq_true rfl⟩ rfl rfl (Nat.le_of_ble_eq_true rfl) dX2_letter_13 ⟨Nat.le_of_ble_eq_true rfl, Nat.le_of_ble_eq_true rfl⟩ (fun E hE => by simp [tx_orN, tx_orS, fx_put, c_1, c_2, hE]) ?_
  intro c_3
  refine tg_iload S 5 dX2_letter_16 rfl ?_
  refine tg_sipush (v := 1000) S dX2_letter_18 (by decide) ?_
  refine tx_callS (nA := 2) (As := [.int d, .int 1000]) (rest := []) S hK hN hX hlk hh (k_X2_requireBelow hd hl σ d 1000) (tw_gS ml_RX2_33 st_X2_requireBelow in_RX2 co_X2_requireBelow rfl) rfl (by decide +kernel) ⟨Nat.le_of_ble_eq_true rfl, Nat.le_of_ble_eq_true rfl⟩ rfl rfl (Nat.le_of_ble_eq_true rfl) dX2_letter_21 ⟨Nat.le_of_ble_eq_true rfl, Nat.le_of_ble_eq_true rfl⟩ (fun E hE => by simp [tx_orN, tx_orS, fx_put, c_1, c_2, c_3, hE]) ?_
  intro c_4
  refine tg_iload S 6 dX2_letter_24 rfl ?_
  refine tg_bipush (v := 10) S dX2_letter_26 (by decide) ?_
  refine tx_callS (nA := 2) (As := [.int w0, .int 10]) (rest := []) S hK hN hX hlk hh (k_X2_requireBelow hd hl σ w0 10) (tw_gS ml_RX2_33 st_X2_requireBelow in_RX2 co_X2_requireBelow rfl) rfl (by decide +kernel) ⟨Nat.le_of_ble_eq_true rfl, Nat.le_of_ble_eq_true rfl⟩ rfl rfl (Nat.le_of_ble_eq_true rfl) dX2_letter_28 ⟨Nat.le_of_ble_eq_true rfl, Nat.le_of_ble_eq_true rfl⟩ (fun E hE => by simp [tx_orN, tx_orS, fx_put, c_1, c_2, c_3, c_4, hE]) ?_
  intro c_5
  refine tg_aload_n S 0 dX2_letter_31 rfl rfl ?_
  refine tg_get (v := .ref (h 1)) S tw_v2 hK 0 rfl rfl 0 (by decide) (tw_in fl_RX2_10 rfl) dX2_letter_32 rfl ?_
  refine tg_iload_n S 1 dX2_letter_35 rfl rfl ?_
  refine tg_callN (nA := 1) (As := [.int x]) (rest := []) (host := RX2) (q := (RX1, TX1, 9)) S hK hN (k_X1_holds hd σ x) 1 rfl rfl (tw_gW co_X1_holds rfl) (List.mem_of_getElem? (i := 3) rfl) (tw_in in_RX1 rfl) (tw_in im_X1_holds rfl) (tw_in se_X1_holds rfl) rfl (by decide +kernel) ⟨Nat.le_of_ble_eq_true rfl, Nat.le_of_ble_eq_true rfl⟩ rfl rfl (Nat.le_of_ble_eq_true rfl) dX2_letter_36 ⟨Nat.le_of_ble_eq_true rfl, Nat.le_of_ble_eq_true rfl⟩ ?_
  refine tg_ifz (tgt := 52) S dX2_letter_39 (by decide) (fun c_6 => ?_) (fun c_6 => ?_)
  · skip
    refine tg_aload_n S 0 dX2_letter_52 rfl rfl ?_
    refine tg_get (v := .ref (h 1)) S tw_v2 hK 0 rfl rfl 0 (by decide) (tw_in fl_RX2_10 rfl) dX2_letter_53 rfl ?_
    refine tg_iload_n S 1 dX2_letter_56 rfl rfl ?_
    refine tg_iload_n S 2 dX2_letter_57 rfl rfl ?_
    refine tg_iload_n S 3 dX2_letter_58 rfl rfl ?_
    refine tg_iload S 4 dX2_letter_59 rfl ?_
    refine tg_iload S 5 dX2_letter_61 rfl ?_
    refine tg_iload S 6 dX2_letter_63 rfl ?_
    refine tg_callN (nA := 6) (As := [.int x, .int g, .int q, .int sub, .int d, .int w0]) (rest := []) (host := RX2) (q := (RX1, TX1, 9)) S hK hN (k_X1_put hd σ x g q sub d w0) 1 rfl rfl (tw_gW co_X1_put rfl) (List.mem_of_getElem? (i := 4) rfl) (tw_in in_RX1 rfl) (tw_in im_X1_put rfl) (tw_in se_X1_put rfl) rfl (by decide +kernel) ⟨Nat.le_of_ble_eq_true rfl, Nat.le_of_ble_eq_true rfl⟩ rfl rfl (Nat.le_of_ble_eq_true rfl) dX2_letter_65 ⟨Nat.le_of_ble_eq_true rfl, Nat.le_of_ble_eq_true rfl⟩ ?_
    refine tg_aload_n S 0 dX2_letter_68 rfl rfl ?_
    refine tg_get (v := .ref (h 2)) S tw_v2 hK 0 rfl rfl 1 (by decide) (tw_in fl_RX2_21 rfl) dX2_letter_69 rfl ?_
    refine tg_callN (nA := 0) (As := []) (rest := []) (host := RX2) (q := (RX0, TX0, 13)) S hK hN (k_X0_grow hd (fa_put σ x g q sub d w0) ) 2 rfl rfl (tw_gW co_X0_grow rfl) (List.mem_of_getElem? (i := 6) rfl) (tw_in in_RX0 rfl) (tw_in im_X0_grow rfl) (tw_in se_X0_grow rfl) rfl (by decide +kernel) ⟨Nat.le_of_ble_eq_true rfl, Nat.le_of_ble_eq_true rfl⟩ rfl rfl (Nat.le_of_ble_eq_true rfl) dX2_letter_72 ⟨Nat.le_of_ble_eq_true rfl, Nat.le_of_ble_eq_true rfl⟩ ?_
    refine tg_aload_n S 0 dX2_letter_75 rfl rfl ?_
    refine tg_get (v := .ref (h 2)) S tw_v2 hK 0 rfl rfl 1 (by decide) (tw_in fl_RX2_21 rfl) dX2_letter_76 rfl ?_
    refine tg_callN (nA := 0) (As := []) (rest := []) (host := RX2) (q := (RX0, TX0, 13)) S hK hN (k_X0_countRoots hd (fa_grow (fa_put σ x g q sub d w0)) ) 2 rfl rfl (tw_gW co_X0_countRoots rfl) (List.mem_of_getElem? (i := 2) rfl) (tw_in in_RX0 rfl) (tw_in im_X0_countRoots rfl) (tw_in se_X0_countRoots rfl) rfl (by decide +kernel) ⟨Nat.le_of_ble_eq_true rfl, Nat.le_of_ble_eq_true rfl⟩ rfl rfl (Nat.le_of_ble_eq_true rfl) dX2_letter_79 ⟨Nat.le_of_ble_eq_true rfl, Nat.le_of_ble_eq_true rfl⟩ ?_
    refine tx_ends (by simp [tx_orN, tx_orS, fx_put, c_1, c_2, c_3, c_4, c_5, c_6]) ?_
    exact tg_iret S hr hlk dX2_letter_82 (by simp [c_1, c_2, c_3, c_4, c_5, c_6]) rfl
  · skip
    exact tx_throw (is := 42) S hl hX hlk hh (tw_TD hd) (by simp [tx_I, tx_J, tx_O]) (by decide +kernel) tx_lJ tx_nJ tx_aJ tx_bJ tx_oJ (List.mem_of_getElem? (i := 5) rfl) dX2_letter_42 dX2_letter_45 dX2_letter_46 dX2_letter_48 dX2_letter_51 (Nat.le_of_ble_eq_true rfl) (Nat.le_of_ble_eq_true rfl) (Nat.le_of_ble_eq_true rfl) (Nat.le_of_ble_eq_true rfl) (by simp [tx_orN, tx_orS, fx_put, c_1, c_2, c_3, c_4, c_5, c_6])
set_option maxHeartbeats 4000000 in
set_option maxRecDepth 100000 in
theorem k_X2_delete {l : Launch} {D : va_G} {h : Nat → Nat} {cI cZ : ClassId} (hd : tw_dis 23 h) (hl : l.stackTraces = false) (σ : tg_Mem) (x : Int32) : tx_CT l yX2_delete wzX2_delete (tx_rm 8) (tw_T h cI cZ) (tw_ty cI cZ) tw_nl (tw_A 23 h) D [.ref (h 0), .int x] σ (fx_letter σ x) (some (.int (fa_grow (fa_drop σ x) 20 0))) (fa_grow (fa_drop σ x)) := by
  refine tx_met (own := RX2) (cc := cX2_delete) (maxL := 2) (ret := (some .int)) (by decide +kernel) rfl rfl (Nat.le_of_ble_eq_true rfl) ?_
  intro p e s m below meth c S hK hN hX hr hlk hh
  refine tg_sub (L' := [(0, .ref (h 0)), (1, .int x)]) [0, 1] rfl ?_
  refine tg_aload_n S 0 dX2_delete_0 rfl rfl ?_
  refine tg_iload_n S 1 dX2_delete_1 rfl rfl ?_
  refine tx_callV (nA := 1) (As := [.int x]) (rest := []) (q := (RX2, TX2, 2)) S hK hN hX hlk hh (k_X2_requireLetter hd hl σ x) 0 rfl rfl (tw_gV ml_RX2_58 im_X2_requireLetter se_X2_requireLetter in_RX2 co_X2_requireLetter rfl) rfl (by decide +kernel) ⟨Nat.le_of_ble_eq_true rfl, Nat.le_of_ble_eq_true rfl⟩ rfl rfl (Nat.le_of_ble_eq_true rfl) dX2_delete_2 ⟨Nat.le_of_ble_eq_true rfl, Nat.le_of_ble_eq_true rfl⟩ (fun E hE => by simp [tx_orN, tx_orS, hE]) ?_
  intro c_1
  refine tg_aload_n S 0 dX2_delete_5 rfl rfl ?_
  refine tg_get (v := .ref (h 1)) S tw_v2 hK 0 rfl rfl 0 (by decide) (tw_in fl_RX2_10 rfl) dX2_delete_6 rfl ?_
  refine tg_iload_n S 1 dX2_delete_9 rfl rfl ?_
  refine tg_callN (nA := 1) (As := [.int x]) (rest := []) (host := RX2) (q := (RX1, TX1, 9)) S hK hN (k_X1_drop hd σ x) 1 rfl rfl (tw_gW co_X1_drop rfl) (List.mem_of_getElem? (i := 16) rfl) (tw_in in_RX1 rfl) (tw_in im_X1_drop rfl) (tw_in se_X1_drop rfl) rfl (by decide +kernel) ⟨Nat.le_of_ble_eq_true rfl, Nat.le_of_ble_eq_true rfl⟩ rfl rfl (Nat.le_of_ble_eq_true rfl) dX2_delete_10 ⟨Nat.le_of_ble_eq_true rfl, Nat.le_of_ble_eq_true rfl⟩ ?_
  refine tg_aload_n S 0 dX2_delete_13 rfl rfl ?_
  refine tg_get (v := .ref (h 2)) S tw_v2 hK 0 rfl rfl 1 (by decide) (tw_in fl_RX2_21 rfl) dX2_delete_14 rfl ?_
  refine tg_callN (nA := 0) (As := []) (rest := []) (host := RX2) (q := (RX0, TX0, 13)) S hK hN (k_X0_grow hd (fa_drop σ x) ) 2 rfl rfl (tw_gW co_X0_grow rfl) (List.mem_of_getElem? (i := 6) rfl) (tw_in in_RX0 rfl) (tw_in im_X0_grow rfl) (tw_in se_X0_grow rfl) rfl (by decide +kernel) ⟨Nat.le_of_ble_eq_true rfl, Nat.le_of_ble_eq_true rfl⟩ rfl rfl (Nat.le_of_ble_eq_true rfl) dX2_delete_17 ⟨Nat.le_of_ble_eq_true rfl, Nat.le_of_ble_eq_true rfl⟩ ?_
  refine tg_aload_n S 0 dX2_delete_20 rfl rfl ?_
  refine tg_get (v := .ref (h 2)) S tw_v2 hK 0 rfl rfl 1 (by decide) (tw_in fl_RX2_21 rfl) dX2_delete_21 rfl ?_
  refine tg_callN (nA := 0) (As := []) (rest := []) (host := RX2) (q := (RX0, TX0, 13)) S hK hN (k_X0_countRoots hd (fa_grow (fa_drop σ x)) ) 2 rfl rfl (tw_gW co_X0_countRoots rfl) (List.mem_of_getElem? (i := 2) rfl) (tw_in in_RX0 rfl) (tw_in im_X0_countRoots rfl) (tw_in se_X0_countRoots rfl) rfl (by decide +kernel) ⟨Nat.le_of_ble_eq_true rfl, Nat.le_of_ble_eq_true rfl⟩ rfl rfl (Nat.le_of_ble_eq_true rfl) dX2_delete_24 ⟨Nat.le_of_ble_eq_true rfl, Nat.le_of_ble_eq_true rfl⟩ ?_
  refine tx_ends (by simp [tx_orN, tx_orS, c_1]) ?_
  exact tg_iret S hr hlk dX2_delete_27 (by simp [c_1]) rfl
set_option maxHeartbeats 4000000 in
set_option maxRecDepth 100000 in
theorem k_X2_split {l : Launch} {D : va_G} {h : Nat → Nat} {cI cZ : ClassId} (hd : tw_dis 23 h) (hl : l.stackTraces = false) (σ : tg_Mem) (x : Int32) : tx_CT l yX2_split wzX2_split (tx_rm 8) (tw_T h cI cZ) (tw_ty cI cZ) tw_nl (tw_A 23 h) D [.ref (h 0), .int x] σ (fx_letter σ x) (some (.int (fa_par σ x))) (fa_grow (fa_setHand σ x (-2))) := by
  refine tx_met (own := RX2) (cc := cX2_split) (maxL := 3) (ret := (some .int)) (by decide +kernel) rfl rfl (Nat.le_of_ble_eq_true rfl) ?_
  intro p e s m below meth c S hK hN hX hr hlk hh
  refine tg_sub (L' := [(0, .ref (h 0)), (1, .int x)]) [0, 1] rfl ?_
  refine tg_aload_n S 0 dX2_split_0 rfl rfl ?_
  refine tg_iload_n S 1 dX2_split_1 rfl rfl ?_
  refine tx_callV (nA := 1) (As := [.int x]) (rest := []) (q := (RX2, TX2, 2)) S hK hN hX hlk hh (k_X2_requireLetter hd hl σ x) 0 rfl rfl (tw_gV ml_RX2_58 im_X2_requireLetter se_X2_requireLetter in_RX2 co_X2_requireLetter rfl) rfl (by decide +kernel) ⟨Nat.le_of_ble_eq_true rfl, Nat.le_of_ble_eq_true rfl⟩ rfl rfl (Nat.le_of_ble_eq_true rfl) dX2_split_2 ⟨Nat.le_of_ble_eq_true rfl, Nat.le_of_ble_eq_true rfl⟩ (fun E hE => by simp [tx_orN, tx_orS, hE]) ?_
  intro c_1
  refine tg_aload_n S 0 dX2_split_5 rfl rfl ?_
  refine tg_get (v := .ref (h 2)) S tw_v2 hK 0 rfl rfl 1 (by decide) (tw_in fl_RX2_21 rfl) dX2_split_6 rfl ?_
  refine tg_iload_n S 1 dX2_split_9 rfl rfl ?_
  refine tg_callN (nA := 1) (As := [.int x]) (rest := []) (host := RX2) (q := (RX0, TX0, 13)) S hK hN (k_X0_parentIn hd σ x) 2 rfl rfl (tw_gW co_X0_parentIn rfl) (List.mem_of_getElem? (i := 17) rfl) (tw_in in_RX0 rfl) (tw_in im_X0_parentIn rfl) (tw_in se_X0_parentIn rfl) rfl (by decide +kernel) ⟨Nat.le_of_ble_eq_true rfl, Nat.le_of_ble_eq_true rfl⟩ rfl rfl (Nat.le_of_ble_eq_true rfl) dX2_split_10 ⟨Nat.le_of_ble_eq_true rfl, Nat.le_of_ble_eq_true rfl⟩ ?_
  refine tg_istore_n (L' := [(0, .ref (h 0)), (1, .int x), (2, .int (fa_par σ x))]) [1, 2, 0] S dX2_split_13 rfl (by decide) rfl ?_
  refine tg_aload_n S 0 dX2_split_14 rfl rfl ?_
  refine tg_get (v := .ref (h 1)) S tw_v2 hK 0 rfl rfl 0 (by decide) (tw_in fl_RX2_10 rfl) dX2_split_15 rfl ?_
  refine tg_iload_n S 1 dX2_split_18 rfl rfl ?_
  refine tg_bipush (v := -2) S dX2_split_19 (by decide) ?_
  refine tg_callN (nA := 2) (As := [.int x, .int (-2)]) (rest := []) (host := RX2) (q := (RX1, TX1, 9)) S hK hN (k_X1_setHand hd σ x (-2)) 1 rfl rfl (tw_gW co_X1_setHand rfl) (List.mem_of_getElem? (i := 18) rfl) (tw_in in_RX1 rfl) (tw_in im_X1_setHand rfl) (tw_in se_X1_setHand rfl) rfl (by decide +kernel) ⟨Nat.le_of_ble_eq_true rfl, Nat.le_of_ble_eq_true rfl⟩ rfl rfl (Nat.le_of_ble_eq_true rfl) dX2_split_21 ⟨Nat.le_of_ble_eq_true rfl, Nat.le_of_ble_eq_true rfl⟩ ?_
  refine tg_aload_n S 0 dX2_split_24 rfl rfl ?_
  refine tg_get (v := .ref (h 2)) S tw_v2 hK 0 rfl rfl 1 (by decide) (tw_in fl_RX2_21 rfl) dX2_split_25 rfl ?_
  refine tg_callN (nA := 0) (As := []) (rest := []) (host := RX2) (q := (RX0, TX0, 13)) S hK hN (k_X0_grow hd (fa_setHand σ x (-2)) ) 2 rfl rfl (tw_gW co_X0_grow rfl) (List.mem_of_getElem? (i := 6) rfl) (tw_in in_RX0 rfl) (tw_in im_X0_grow rfl) (tw_in se_X0_grow rfl) rfl (by decide +kernel) ⟨Nat.le_of_ble_eq_true rfl, Nat.le_of_ble_eq_true rfl⟩ rfl rfl (Nat.le_of_ble_eq_true rfl) dX2_split_28 ⟨Nat.le_of_ble_eq_true rfl, Nat.le_of_ble_eq_true rfl⟩ ?_
  refine tg_iload_n S 2 dX2_split_31 rfl rfl ?_
  refine tx_ends (by simp [tx_orN, tx_orS, c_1]) ?_
  exact tg_iret S hr hlk dX2_split_32 rfl rfl
set_option maxHeartbeats 4000000 in
set_option maxRecDepth 100000 in
theorem k_X2_join {l : Launch} {D : va_G} {h : Nat → Nat} {cI cZ : ClassId} (hd : tw_dis 23 h) (hl : l.stackTraces = false) (σ : tg_Mem) (x : Int32) (y : Int32) : tx_CT l yX2_join wzX2_join (tx_rm 8) (tw_T h cI cZ) (tw_ty cI cZ) tw_nl (tw_A 23 h) D [.ref (h 0), .int x, .int y] σ (fx_join σ x y) (some (.int (fa_par (fa_grow (fa_setHand σ x y)) x))) (fa_grow (fa_setHand σ x y)) := by
  refine tx_met (own := RX2) (cc := cX2_join) (maxL := 3) (ret := (some .int)) (by decide +kernel) rfl rfl (Nat.le_of_ble_eq_true rfl) ?_
  intro p e s m below meth c S hK hN hX hr hlk hh
  refine tg_sub (L' := [(0, .ref (h 0)), (1, .int x), (2, .int y)]) [0, 1, 2] rfl ?_
  refine tg_iload_n S 1 dX2_join_0 rfl rfl ?_
  refine tx_callS (nA := 1) (As := [.int x]) (rest := []) S hK hN hX hlk hh (k_X2_requireId hd hl σ x) (tw_gS ml_RX2_25 st_X2_requireId in_RX2 co_X2_requireId rfl) rfl (by decide +kernel) ⟨Nat.le_of_ble_eq_true rfl, Nat.le_of_ble_eq_true rfl⟩ rfl rfl (Nat.le_of_ble_eq_true rfl) dX2_join_1 ⟨Nat.le_of_ble_eq_true rfl, Nat.le_of_ble_eq_true rfl⟩ (fun E hE => by simp [tx_orN, tx_orS, fx_join, hE]) ?_
  intro c_1
  refine tg_iload_n S 2 dX2_join_4 rfl rfl ?_
  refine tx_callS (nA := 1) (As := [.int y]) (rest := []) S hK hN hX hlk hh (k_X2_requireId hd hl σ y) (tw_gS ml_RX2_25 st_X2_requireId in_RX2 co_X2_requireId rfl) rfl (by decide +kernel) ⟨Nat.le_of_ble_eq_true rfl, Nat.le_of_ble_eq_true rfl⟩ rfl rfl (Nat.le_of_ble_eq_true rfl) dX2_join_5 ⟨Nat.le_of_ble_eq_true rfl, Nat.le_of_ble_eq_true rfl⟩ (fun E hE => by simp [tx_orN, tx_orS, fx_join, c_1, hE]) ?_
  intro c_2
  refine tg_iload_n S 1 dX2_join_8 rfl rfl ?_
  refine tg_iload_n S 2 dX2_join_9 rfl rfl ?_
  refine tg_icmp_ne (tgt := 23) S dX2_join_10 (by decide) (fun c_3 => ?_) (fun c_3 => ?_)
  · skip
    refine tg_aload_n S 0 dX2_join_23 rfl rfl ?_
    refine tg_iload_n S 1 dX2_join_24 rfl rfl ?_
    refine tx_callV (nA := 1) (As := [.int x]) (rest := []) (q := (RX2, TX2, 2)) S hK hN hX hlk hh (k_X2_requireLetter hd hl σ x) 0 rfl rfl (tw_gV ml_RX2_58 im_X2_requireLetter se_X2_requireLetter in_RX2 co_X2_requireLetter rfl) rfl (by decide +kernel) ⟨Nat.le_of_ble_eq_true rfl, Nat.le_of_ble_eq_true rfl⟩ rfl rfl (Nat.le_of_ble_eq_true rfl) dX2_join_25 ⟨Nat.le_of_ble_eq_true rfl, Nat.le_of_ble_eq_true rfl⟩ (fun E hE => by simp [tx_orN, tx_orS, fx_join, c_1, c_2, c_3, hE]) ?_
    intro c_4
    refine tg_aload_n S 0 dX2_join_28 rfl rfl ?_
    refine tg_iload_n S 2 dX2_join_29 rfl rfl ?_
    refine tx_callV (nA := 1) (As := [.int y]) (rest := []) (q := (RX2, TX2, 2)) S hK hN hX hlk hh (k_X2_requireLetter hd hl σ y) 0 rfl rfl (tw_gV ml_RX2_58 im_X2_requireLetter se_X2_requireLetter in_RX2 co_X2_requireLetter rfl) rfl (by decide +kernel) ⟨Nat.le_of_ble_eq_true rfl, Nat.le_of_ble_eq_true rfl⟩ rfl rfl (Nat.le_of_ble_eq_true rfl) dX2_join_30 ⟨Nat.le_of_ble_eq_true rfl, Nat.le_of_ble_eq_true rfl⟩ (fun E hE => by simp [tx_orN, tx_orS, fx_join, c_1, c_2, c_3, c_4, hE]) ?_
    intro c_5
    refine tg_aload_n S 0 dX2_join_33 rfl rfl ?_
    refine tg_get (v := .ref (h 2)) S tw_v2 hK 0 rfl rfl 1 (by decide) (tw_in fl_RX2_21 rfl) dX2_join_34 rfl ?_
    refine tg_iload_n S 2 dX2_join_37 rfl rfl ?_
    refine tg_iload_n S 1 dX2_join_38 rfl rfl ?_
    refine tg_callN (nA := 2) (As := [.int y, .int x]) (rest := []) (host := RX2) (q := (RX0, TX0, 13)) S hK hN (k_X0_isInTree hd σ y x) 2 rfl rfl (tw_gW co_X0_isInTree rfl) (List.mem_of_getElem? (i := 19) rfl) (tw_in in_RX0 rfl) (tw_in im_X0_isInTree rfl) (tw_in se_X0_isInTree rfl) rfl (by decide +kernel) ⟨Nat.le_of_ble_eq_true rfl, Nat.le_of_ble_eq_true rfl⟩ rfl rfl (Nat.le_of_ble_eq_true rfl) dX2_join_39 ⟨Nat.le_of_ble_eq_true rfl, Nat.le_of_ble_eq_true rfl⟩ ?_
    refine tg_ifz (tgt := 55) S dX2_join_42 (by decide) (fun c_6 => ?_) (fun c_6 => ?_)
    · skip
      refine tg_aload_n S 0 dX2_join_55 rfl rfl ?_
      refine tg_get (v := .ref (h 1)) S tw_v2 hK 0 rfl rfl 0 (by decide) (tw_in fl_RX2_10 rfl) dX2_join_56 rfl ?_
      refine tg_iload_n S 1 dX2_join_59 rfl rfl ?_
      refine tg_iload_n S 2 dX2_join_60 rfl rfl ?_
      refine tg_callN (nA := 2) (As := [.int x, .int y]) (rest := []) (host := RX2) (q := (RX1, TX1, 9)) S hK hN (k_X1_setHand hd σ x y) 1 rfl rfl (tw_gW co_X1_setHand rfl) (List.mem_of_getElem? (i := 18) rfl) (tw_in in_RX1 rfl) (tw_in im_X1_setHand rfl) (tw_in se_X1_setHand rfl) rfl (by decide +kernel) ⟨Nat.le_of_ble_eq_true rfl, Nat.le_of_ble_eq_true rfl⟩ rfl rfl (Nat.le_of_ble_eq_true rfl) dX2_join_61 ⟨Nat.le_of_ble_eq_true rfl, Nat.le_of_ble_eq_true rfl⟩ ?_
      refine tg_aload_n S 0 dX2_join_64 rfl rfl ?_
      refine tg_get (v := .ref (h 2)) S tw_v2 hK 0 rfl rfl 1 (by decide) (tw_in fl_RX2_21 rfl) dX2_join_65 rfl ?_
      refine tg_callN (nA := 0) (As := []) (rest := []) (host := RX2) (q := (RX0, TX0, 13)) S hK hN (k_X0_grow hd (fa_setHand σ x y) ) 2 rfl rfl (tw_gW co_X0_grow rfl) (List.mem_of_getElem? (i := 6) rfl) (tw_in in_RX0 rfl) (tw_in im_X0_grow rfl) (tw_in se_X0_grow rfl) rfl (by decide +kernel) ⟨Nat.le_of_ble_eq_true rfl, Nat.le_of_ble_eq_true rfl⟩ rfl rfl (Nat.le_of_ble_eq_true rfl) dX2_join_68 ⟨Nat.le_of_ble_eq_true rfl, Nat.le_of_ble_eq_true rfl⟩ ?_
      refine tg_aload_n S 0 dX2_join_71 rfl rfl ?_
      refine tg_get (v := .ref (h 2)) S tw_v2 hK 0 rfl rfl 1 (by decide) (tw_in fl_RX2_21 rfl) dX2_join_72 rfl ?_
      refine tg_iload_n S 1 dX2_join_75 rfl rfl ?_
      refine tg_callN (nA := 1) (As := [.int x]) (rest := []) (host := RX2) (q := (RX0, TX0, 13)) S hK hN (k_X0_parentIn hd (fa_grow (fa_setHand σ x y)) x) 2 rfl rfl (tw_gW co_X0_parentIn rfl) (List.mem_of_getElem? (i := 17) rfl) (tw_in in_RX0 rfl) (tw_in im_X0_parentIn rfl) (tw_in se_X0_parentIn rfl) rfl (by decide +kernel) ⟨Nat.le_of_ble_eq_true rfl, Nat.le_of_ble_eq_true rfl⟩ rfl rfl (Nat.le_of_ble_eq_true rfl) dX2_join_76 ⟨Nat.le_of_ble_eq_true rfl, Nat.le_of_ble_eq_true rfl⟩ ?_
      refine tx_ends (by simp [tx_orN, tx_orS, fx_join, c_1, c_2, c_3, c_4, c_5, c_6]) ?_
      exact tg_iret S hr hlk dX2_join_79 rfl rfl
    · skip
      exact tx_throw (is := 80) S hl hX hlk hh (tw_TD hd) (by simp [tx_I, tx_J, tx_O]) (by decide +kernel) tx_lJ tx_nJ tx_aJ tx_bJ tx_oJ (List.mem_of_getElem? (i := 7) rfl) dX2_join_45 dX2_join_48 dX2_join_49 dX2_join_51 dX2_join_54 (Nat.le_of_ble_eq_true rfl) (Nat.le_of_ble_eq_true rfl) (Nat.le_of_ble_eq_true rfl) (Nat.le_of_ble_eq_true rfl) (by simp [tx_orN, tx_orS, fx_join, c_1, c_2, c_3, c_4, c_5, c_6])
  · skip
    exact tx_throw (is := 73) S hl hX hlk hh (tw_TD hd) (by simp [tx_I, tx_J, tx_O]) (by decide +kernel) tx_lI tx_nI tx_aI tx_bI tx_oI (List.mem_of_getElem? (i := 6) rfl) dX2_join_13 dX2_join_16 dX2_join_17 dX2_join_19 dX2_join_22 (Nat.le_of_ble_eq_true rfl) (Nat.le_of_ble_eq_true rfl) (Nat.le_of_ble_eq_true rfl) (Nat.le_of_ble_eq_true rfl) (by simp [tx_orN, tx_orS, fx_join, c_1, c_2, c_3])
set_option maxHeartbeats 4000000 in
set_option maxRecDepth 100000 in
theorem k_X2_release {l : Launch} {D : va_G} {h : Nat → Nat} {cI cZ : ClassId} (hd : tw_dis 23 h) (hl : l.stackTraces = false) (σ : tg_Mem) (x : Int32) : tx_CT l yX2_release wzX2_release (tx_rm 8) (tw_T h cI cZ) (tw_ty cI cZ) tw_nl (tw_A 23 h) D [.ref (h 0), .int x] σ (fx_letter σ x) (some (.int (tg_b (fx_touched σ x)))) (fa_grow (fa_setHand σ x (-1))) := by
  refine tx_met (own := RX2) (cc := cX2_release) (maxL := 3) (ret := (some .boolean)) (by decide +kernel) rfl rfl (Nat.le_of_ble_eq_true rfl) ?_
  intro p e s m below meth c S hK hN hX hr hlk hh
  refine tg_sub (L' := [(0, .ref (h 0)), (1, .int x)]) [0, 1] rfl ?_
  refine tg_aload_n S 0 dX2_release_0 rfl rfl ?_
  refine tg_iload_n S 1 dX2_release_1 rfl rfl ?_
  refine tx_callV (nA := 1) (As := [.int x]) (rest := []) (q := (RX2, TX2, 2)) S hK hN hX hlk hh (k_X2_requireLetter hd hl σ x) 0 rfl rfl (tw_gV ml_RX2_58 im_X2_requireLetter se_X2_requireLetter in_RX2 co_X2_requireLetter rfl) rfl (by decide +kernel) ⟨Nat.le_of_ble_eq_true rfl, Nat.le_of_ble_eq_true rfl⟩ rfl rfl (Nat.le_of_ble_eq_true rfl) dX2_release_2 ⟨Nat.le_of_ble_eq_true rfl, Nat.le_of_ble_eq_true rfl⟩ (fun E hE => by simp [tx_orN, tx_orS, hE]) ?_
  intro c_1
  refine tg_aload_n S 0 dX2_release_5 rfl rfl ?_
  refine tg_get (v := .ref (h 1)) S tw_v2 hK 0 rfl rfl 0 (by decide) (tw_in fl_RX2_10 rfl) dX2_release_6 rfl ?_
  refine tg_iload_n S 1 dX2_release_9 rfl rfl ?_
  refine tg_callN (nA := 1) (As := [.int x]) (rest := []) (host := RX2) (q := (RX1, TX1, 9)) S hK hN (k_X1_handOf hd σ x) 1 rfl rfl (tw_gW co_X1_handOf rfl) (List.mem_of_getElem? (i := 20) rfl) (tw_in in_RX1 rfl) (tw_in im_X1_handOf rfl) (tw_in se_X1_handOf rfl) rfl (by decide +kernel) ⟨Nat.le_of_ble_eq_true rfl, Nat.le_of_ble_eq_true rfl⟩ rfl rfl (Nat.le_of_ble_eq_true rfl) dX2_release_10 ⟨Nat.le_of_ble_eq_true rfl, Nat.le_of_ble_eq_true rfl⟩ ?_
  refine tg_iconst (v := -1) S dX2_release_13 (by decide) ?_
  refine tg_icmp_eq (tgt := 21) S dX2_release_14 (by decide) (fun c_2 => ?_) (fun c_2 => ?_)
  · skip
    refine tg_iconst (v := 0) S dX2_release_21 (by decide) ?_
    refine tg_istore_n (L' := [(0, .ref (h 0)), (1, .int x), (2, .int 0)]) [1, 2, 0] S dX2_release_22 rfl (by decide) rfl ?_
    refine tg_aload_n S 0 dX2_release_23 rfl rfl ?_
    refine tg_get (v := .ref (h 1)) S tw_v2 hK 0 rfl rfl 0 (by decide) (tw_in fl_RX2_10 rfl) dX2_release_24 rfl ?_
    refine tg_iload_n S 1 dX2_release_27 rfl rfl ?_
    refine tg_iconst (v := -1) S dX2_release_28 (by decide) ?_
    refine tg_callN (nA := 2) (As := [.int x, .int (-1)]) (rest := []) (host := RX2) (q := (RX1, TX1, 9)) S hK hN (k_X1_setHand hd σ x (-1)) 1 rfl rfl (tw_gW co_X1_setHand rfl) (List.mem_of_getElem? (i := 18) rfl) (tw_in in_RX1 rfl) (tw_in im_X1_setHand rfl) (tw_in se_X1_setHand rfl) rfl (by decide +kernel) ⟨Nat.le_of_ble_eq_true rfl, Nat.le_of_ble_eq_true rfl⟩ rfl rfl (Nat.le_of_ble_eq_true rfl) dX2_release_29 ⟨Nat.le_of_ble_eq_true rfl, Nat.le_of_ble_eq_true rfl⟩ ?_
    refine tg_aload_n S 0 dX2_release_32 rfl rfl ?_
    refine tg_get (v := .ref (h 2)) S tw_v2 hK 0 rfl rfl 1 (by decide) (tw_in fl_RX2_21 rfl) dX2_release_33 rfl ?_
    refine tg_callN (nA := 0) (As := []) (rest := []) (host := RX2) (q := (RX0, TX0, 13)) S hK hN (k_X0_grow hd (fa_setHand σ x (-1)) ) 2 rfl rfl (tw_gW co_X0_grow rfl) (List.mem_of_getElem? (i := 6) rfl) (tw_in in_RX0 rfl) (tw_in im_X0_grow rfl) (tw_in se_X0_grow rfl) rfl (by decide +kernel) ⟨Nat.le_of_ble_eq_true rfl, Nat.le_of_ble_eq_true rfl⟩ rfl rfl (Nat.le_of_ble_eq_true rfl) dX2_release_36 ⟨Nat.le_of_ble_eq_true rfl, Nat.le_of_ble_eq_true rfl⟩ ?_
    refine tg_iload_n S 2 dX2_release_39 rfl rfl ?_
    refine tx_ends (by simp [tx_orN, tx_orS, c_1, c_2]) ?_
    exact tg_zret (b := false) S hr hlk dX2_release_40 (congrArg tg_b (by simp [fx_touched, c_1, c_2])) rfl
  · skip
    refine tg_iconst (v := 1) S dX2_release_17 (by decide) ?_
    refine tg_goto (tgt := 22) S dX2_release_18 (by decide) ?_
    refine tg_istore_n (L' := [(0, .ref (h 0)), (1, .int x), (2, .int 1)]) [1, 2, 0] S dX2_release_22 rfl (by decide) rfl ?_
    refine tg_aload_n S 0 dX2_release_23 rfl rfl ?_
    refine tg_get (v := .ref (h 1)) S tw_v2 hK 0 rfl rfl 0 (by decide) (tw_in fl_RX2_10 rfl) dX2_release_24 rfl ?_
    refine tg_iload_n S 1 dX2_release_27 rfl rfl ?_
    refine tg_iconst (v := -1) S dX2_release_28 (by decide) ?_
    refine tg_callN (nA := 2) (As := [.int x, .int (-1)]) (rest := []) (host := RX2) (q := (RX1, TX1, 9)) S hK hN (k_X1_setHand hd σ x (-1)) 1 rfl rfl (tw_gW co_X1_setHand rfl) (List.mem_of_getElem? (i := 18) rfl) (tw_in in_RX1 rfl) (tw_in im_X1_setHand rfl) (tw_in se_X1_setHand rfl) rfl (by decide +kernel) ⟨Nat.le_of_ble_eq_true rfl, Nat.le_of_ble_eq_true rfl⟩ rfl rfl (Nat.le_of_ble_eq_true rfl) dX2_release_29 ⟨Nat.le_of_ble_eq_true rfl, Nat.le_of_ble_eq_true rfl⟩ ?_
    refine tg_aload_n S 0 dX2_release_32 rfl rfl ?_
    refine tg_get (v := .ref (h 2)) S tw_v2 hK 0 rfl rfl 1 (by decide) (tw_in fl_RX2_21 rfl) dX2_release_33 rfl ?_
    refine tg_callN (nA := 0) (As := []) (rest := []) (host := RX2) (q := (RX0, TX0, 13)) S hK hN (k_X0_grow hd (fa_setHand σ x (-1)) ) 2 rfl rfl (tw_gW co_X0_grow rfl) (List.mem_of_getElem? (i := 6) rfl) (tw_in in_RX0 rfl) (tw_in im_X0_grow rfl) (tw_in se_X0_grow rfl) rfl (by decide +kernel) ⟨Nat.le_of_ble_eq_true rfl, Nat.le_of_ble_eq_true rfl⟩ rfl rfl (Nat.le_of_ble_eq_true rfl) dX2_release_36 ⟨Nat.le_of_ble_eq_true rfl, Nat.le_of_ble_eq_true rfl⟩ ?_
    refine tg_iload_n S 2 dX2_release_39 rfl rfl ?_
    refine tx_ends (by simp [tx_orN, tx_orS, c_1, c_2]) ?_
    exact tg_zret (b := true) S hr hlk dX2_release_40 (congrArg tg_b (by simp [fx_touched, c_1, c_2])) rfl
set_option maxHeartbeats 4000000 in
set_option maxRecDepth 100000 in
theorem k_X2_state {l : Launch} {D : va_G} {h : Nat → Nat} {cI cZ : ClassId} (hd : tw_dis 23 h) (hl : l.stackTraces = false) (σ : tg_Mem) (x : Int32) : tx_CT l yX2_state wzX2_state (tx_rm 7) (tw_T h cI cZ) (tw_ty cI cZ) tw_nl (tw_A 23 h) D [.ref (h 0), .int x] σ (fx_id x) (some (.int (fx_state σ x))) σ := by
  refine tx_met (own := RX2) (cc := cX2_state) (maxL := 2) (ret := (some .int)) (by decide +kernel) rfl rfl (Nat.le_of_ble_eq_true rfl) ?_
  intro p e s m below meth c S hK hN hX hr hlk hh
  refine tg_sub (L' := [(0, .ref (h 0)), (1, .int x)]) [0, 1] rfl ?_
  refine tg_iload_n S 1 dX2_state_0 rfl rfl ?_
  refine tx_callS (nA := 1) (As := [.int x]) (rest := []) S hK hN hX hlk hh (k_X2_requireId hd hl σ x) (tw_gS ml_RX2_25 st_X2_requireId in_RX2 co_X2_requireId rfl) rfl (by decide +kernel) ⟨Nat.le_of_ble_eq_true rfl, Nat.le_of_ble_eq_true rfl⟩ rfl rfl (Nat.le_of_ble_eq_true rfl) dX2_state_1 ⟨Nat.le_of_ble_eq_true rfl, Nat.le_of_ble_eq_true rfl⟩ (fun E hE => by simp [tx_orN, tx_orS, hE]) ?_
  intro c_1
  refine tg_aload_n S 0 dX2_state_4 rfl rfl ?_
  refine tg_get (v := .ref (h 1)) S tw_v2 hK 0 rfl rfl 0 (by decide) (tw_in fl_RX2_10 rfl) dX2_state_5 rfl ?_
  refine tg_iload_n S 1 dX2_state_8 rfl rfl ?_
  refine tg_callN (nA := 1) (As := [.int x]) (rest := []) (host := RX2) (q := (RX1, TX1, 9)) S hK hN (k_X1_holds hd σ x) 1 rfl rfl (tw_gW co_X1_holds rfl) (List.mem_of_getElem? (i := 3) rfl) (tw_in in_RX1 rfl) (tw_in im_X1_holds rfl) (tw_in se_X1_holds rfl) rfl (by decide +kernel) ⟨Nat.le_of_ble_eq_true rfl, Nat.le_of_ble_eq_true rfl⟩ rfl rfl (Nat.le_of_ble_eq_true rfl) dX2_state_9 ⟨Nat.le_of_ble_eq_true rfl, Nat.le_of_ble_eq_true rfl⟩ ?_
  refine tg_ifz (tgt := 17) S dX2_state_12 (by decide) (fun c_2 => ?_) (fun c_2 => ?_)
  · skip
    refine tg_aload_n S 0 dX2_state_17 rfl rfl ?_
    refine tg_get (v := .ref (h 2)) S tw_v2 hK 0 rfl rfl 1 (by decide) (tw_in fl_RX2_21 rfl) dX2_state_18 rfl ?_
    refine tg_iload_n S 1 dX2_state_21 rfl rfl ?_
    refine tg_callN (nA := 1) (As := [.int x]) (rest := []) (host := RX2) (q := (RX0, TX0, 13)) S hK hN (k_X0_contains hd σ x) 2 rfl rfl (tw_gW co_X0_contains rfl) (List.mem_of_getElem? (i := 21) rfl) (tw_in in_RX0 rfl) (tw_in im_X0_contains rfl) (tw_in se_X0_contains rfl) rfl (by decide +kernel) ⟨Nat.le_of_ble_eq_true rfl, Nat.le_of_ble_eq_true rfl⟩ rfl rfl (Nat.le_of_ble_eq_true rfl) dX2_state_22 ⟨Nat.le_of_ble_eq_true rfl, Nat.le_of_ble_eq_true rfl⟩ ?_
    refine tg_ifz (tgt := 30) S dX2_state_25 (by decide) (fun c_3 => ?_) (fun c_3 => ?_)
    · skip
      refine tg_aload_n S 0 dX2_state_30 rfl rfl ?_
      refine tg_get (v := .ref (h 2)) S tw_v2 hK 0 rfl rfl 1 (by decide) (tw_in fl_RX2_21 rfl) dX2_state_31 rfl ?_
      refine tg_iload_n S 1 dX2_state_34 rfl rfl ?_
      refine tg_callN (nA := 1) (As := [.int x]) (rest := []) (host := RX2) (q := (RX0, TX0, 13)) S hK hN (k_X0_knows hd σ x) 2 rfl rfl (tw_gW co_X0_knows rfl) (List.mem_of_getElem? (i := 23) rfl) (tw_in in_RX0 rfl) (tw_in im_X0_knows rfl) (tw_in se_X0_knows rfl) rfl (by decide +kernel) ⟨Nat.le_of_ble_eq_true rfl, Nat.le_of_ble_eq_true rfl⟩ rfl rfl (Nat.le_of_ble_eq_true rfl) dX2_state_35 ⟨Nat.le_of_ble_eq_true rfl, Nat.le_of_ble_eq_true rfl⟩ ?_
      refine tg_ifz (tgt := 45) S dX2_state_38 (by decide) (fun c_4 => ?_) (fun c_4 => ?_)
      · skip
        refine tg_iconst (v := 0) S dX2_state_45 (by decide) ?_
        refine tx_ends (by simp [tx_orN, tx_orS, c_1, c_2, c_3, c_4]) ?_
        exact tg_iret S hr hlk dX2_state_46 (by simp [fx_state, c_1, c_2, c_3, c_4]) rfl
      · skip
        refine tg_iconst (v := 1) S dX2_state_41 (by decide) ?_
        refine tg_goto (tgt := 46) S dX2_state_42 (by decide) ?_
        refine tx_ends (by simp [tx_orN, tx_orS, c_1, c_2, c_3, c_4]) ?_
        exact tg_iret S hr hlk dX2_state_46 (by simp [fx_state, c_1, c_2, c_3, c_4]) rfl
    · skip
      refine tg_iconst (v := 2) S dX2_state_28 (by decide) ?_
      refine tx_ends (by simp [tx_orN, tx_orS, c_1, c_2, c_3]) ?_
      exact tg_iret S hr hlk dX2_state_29 (by simp [fx_state, c_1, c_2, c_3]) rfl
  · skip
    refine tg_iconst (v := 3) S dX2_state_15 (by decide) ?_
    refine tx_ends (by simp [tx_orN, tx_orS, c_1, c_2]) ?_
    exact tg_iret S hr hlk dX2_state_16 (by simp [fx_state, c_1, c_2]) rfl
set_option maxHeartbeats 4000000 in
set_option maxRecDepth 100000 in
theorem k_X2_parent {l : Launch} {D : va_G} {h : Nat → Nat} {cI cZ : ClassId} (hd : tw_dis 23 h) (hl : l.stackTraces = false) (σ : tg_Mem) (x : Int32) : tx_CT l yX2_parent wzX2_parent (tx_rm 8) (tw_T h cI cZ) (tw_ty cI cZ) tw_nl (tw_A 23 h) D [.ref (h 0), .int x] σ (fx_forest σ x) (some (.int (fa_par σ x))) σ := by
  refine tx_met (own := RX2) (cc := cX2_parent) (maxL := 2) (ret := (some .int)) (by decide +kernel) rfl rfl (Nat.le_of_ble_eq_true rfl) ?_
  intro p e s m below meth c S hK hN hX hr hlk hh
  refine tg_sub (L' := [(0, .ref (h 0)), (1, .int x)]) [0, 1] rfl ?_
  refine tg_aload_n S 0 dX2_parent_0 rfl rfl ?_
  refine tg_iload_n S 1 dX2_parent_1 rfl rfl ?_
  refine tx_callV (nA := 1) (As := [.int x]) (rest := []) (q := (RX2, TX2, 2)) S hK hN hX hlk hh (k_X2_requireInForest hd hl σ x) 0 rfl rfl (tw_gV ml_RX2_85 im_X2_requireInForest se_X2_requireInForest in_RX2 co_X2_requireInForest rfl) rfl (by decide +kernel) ⟨Nat.le_of_ble_eq_true rfl, Nat.le_of_ble_eq_true rfl⟩ rfl rfl (Nat.le_of_ble_eq_true rfl) dX2_parent_2 ⟨Nat.le_of_ble_eq_true rfl, Nat.le_of_ble_eq_true rfl⟩ (fun E hE => by simp [tx_orN, tx_orS, hE]) ?_
  intro c_1
  refine tg_aload_n S 0 dX2_parent_5 rfl rfl ?_
  refine tg_get (v := .ref (h 2)) S tw_v2 hK 0 rfl rfl 1 (by decide) (tw_in fl_RX2_21 rfl) dX2_parent_6 rfl ?_
  refine tg_iload_n S 1 dX2_parent_9 rfl rfl ?_
  refine tg_callN (nA := 1) (As := [.int x]) (rest := []) (host := RX2) (q := (RX0, TX0, 13)) S hK hN (k_X0_parentIn hd σ x) 2 rfl rfl (tw_gW co_X0_parentIn rfl) (List.mem_of_getElem? (i := 17) rfl) (tw_in in_RX0 rfl) (tw_in im_X0_parentIn rfl) (tw_in se_X0_parentIn rfl) rfl (by decide +kernel) ⟨Nat.le_of_ble_eq_true rfl, Nat.le_of_ble_eq_true rfl⟩ rfl rfl (Nat.le_of_ble_eq_true rfl) dX2_parent_10 ⟨Nat.le_of_ble_eq_true rfl, Nat.le_of_ble_eq_true rfl⟩ ?_
  refine tx_ends (by simp [tx_orN, tx_orS, c_1]) ?_
  exact tg_iret S hr hlk dX2_parent_13 rfl rfl
set_option maxHeartbeats 4000000 in
set_option maxRecDepth 100000 in
theorem k_X2_roots {l : Launch} {D : va_G} {h : Nat → Nat} {cI cZ : ClassId} (hd : tw_dis 23 h) (σ : tg_Mem)  : tg_CT l yX2_roots wzX2_roots (tg_rm 1) (tw_T h cI cZ) (tw_ty cI cZ) tw_nl (tw_A 23 h) D [.ref (h 0)] σ (some (.int (σ 20 0))) σ := by
  refine tg_met (own := RX2) (cc := cX2_roots) (maxL := 1) (ret := (some .int)) (by decide +kernel) rfl rfl (Nat.le_of_ble_eq_true rfl) ?_
  intro p e s m below meth c S hK hN hr hlk
  refine tg_sub (L' := [(0, .ref (h 0))]) [0] rfl ?_
  refine tg_aload_n S 0 dX2_roots_0 rfl rfl ?_
  refine tg_get (v := .ref (h 2)) S tw_v2 hK 0 rfl rfl 1 (by decide) (tw_in fl_RX2_21 rfl) dX2_roots_1 rfl ?_
  refine tg_callN (nA := 0) (As := []) (rest := []) (host := RX2) (q := (RX0, TX0, 13)) S hK hN (k_X0_countRoots hd σ ) 2 rfl rfl (tw_gW co_X0_countRoots rfl) (List.mem_of_getElem? (i := 2) rfl) (tw_in in_RX0 rfl) (tw_in im_X0_countRoots rfl) (tw_in se_X0_countRoots rfl) rfl (by decide +kernel) ⟨Nat.le_of_ble_eq_true rfl, Nat.le_of_ble_eq_true rfl⟩ rfl rfl (Nat.le_of_ble_eq_true rfl) dX2_roots_4 ⟨Nat.le_of_ble_eq_true rfl, Nat.le_of_ble_eq_true rfl⟩ ?_
  exact tg_iret S hr hlk dX2_roots_7 rfl rfl
set_option maxHeartbeats 4000000 in
set_option maxRecDepth 100000 in
theorem k_X2_root {l : Launch} {D : va_G} {h : Nat → Nat} {cI cZ : ClassId} (hd : tw_dis 23 h) (hl : l.stackTraces = false) (σ : tg_Mem) (x : Int32) : tx_CT l yX2_root wzX2_root (tx_rm 6) (tw_T h cI cZ) (tw_ty cI cZ) tw_nl (tw_A 23 h) D [.ref (h 0), .int x] σ (fx_root σ x) (some (.int (fa_rootAt σ x))) σ := by
  refine tx_met (own := RX2) (cc := cX2_root) (maxL := 3) (ret := (some .int)) (by decide +kernel) rfl rfl (Nat.le_of_ble_eq_true rfl) ?_
  intro p e s m below meth c S hK hN hX hr hlk hh
  refine tg_sub (L' := [(0, .ref (h 0)), (1, .int x)]) [0, 1] rfl ?_
  refine tg_aload_n S 0 dX2_root_0 rfl rfl ?_
  refine tg_get (v := .ref (h 2)) S tw_v2 hK 0 rfl rfl 1 (by decide) (tw_in fl_RX2_21 rfl) dX2_root_1 rfl ?_
  refine tg_iload_n S 1 dX2_root_4 rfl rfl ?_
  refine tg_callN (nA := 1) (As := [.int x]) (rest := []) (host := RX2) (q := (RX0, TX0, 13)) S hK hN (k_X0_rootIdAt hd σ x) 2 rfl rfl (tw_gW co_X0_rootIdAt rfl) (List.mem_of_getElem? (i := 24) rfl) (tw_in in_RX0 rfl) (tw_in im_X0_rootIdAt rfl) (tw_in se_X0_rootIdAt rfl) rfl (by decide +kernel) ⟨Nat.le_of_ble_eq_true rfl, Nat.le_of_ble_eq_true rfl⟩ rfl rfl (Nat.le_of_ble_eq_true rfl) dX2_root_5 ⟨Nat.le_of_ble_eq_true rfl, Nat.le_of_ble_eq_true rfl⟩ ?_
  refine tg_istore_n (L' := [(0, .ref (h 0)), (1, .int x), (2, .int (fa_rootAt σ x))]) [1, 2, 0] S dX2_root_8 rfl (by decide) rfl ?_
  refine tg_iload_n S 2 dX2_root_9 rfl rfl ?_
  refine tg_iconst (v := -1) S dX2_root_10 (by decide) ?_
  refine tg_icmp_ne (tgt := 24) S dX2_root_11 (by decide) (fun c_1 => ?_) (fun c_1 => ?_)
  · skip
    refine tg_iload_n S 2 dX2_root_24 rfl rfl ?_
    refine tx_ends (by simp [tx_orN, tx_orS, fx_root, c_1]) ?_
    exact tg_iret S hr hlk dX2_root_25 rfl rfl
  · skip
    exact tx_throw (is := 109) S hl hX hlk hh (tw_TD hd) (by simp [tx_I, tx_J, tx_O]) (by decide +kernel) tx_lO tx_nO tx_aO tx_bO tx_oO (List.mem_of_getElem? (i := 8) rfl) dX2_root_14 dX2_root_17 dX2_root_18 dX2_root_20 dX2_root_23 (Nat.le_of_ble_eq_true rfl) (Nat.le_of_ble_eq_true rfl) (Nat.le_of_ble_eq_true rfl) (Nat.le_of_ble_eq_true rfl) (by simp [tx_orN, tx_orS, fx_root, c_1])
set_option maxHeartbeats 4000000 in
set_option maxRecDepth 100000 in
theorem k_X2_inTree {l : Launch} {D : va_G} {h : Nat → Nat} {cI cZ : ClassId} (hd : tw_dis 23 h) (hl : l.stackTraces = false) (σ : tg_Mem) (x : Int32) (y : Int32) : tx_CT l yX2_inTree wzX2_inTree (tx_rm 8) (tw_T h cI cZ) (tw_ty cI cZ) tw_nl (tw_A 23 h) D [.ref (h 0), .int x, .int y] σ (fx_inTree σ x y) (some (.int (fa_idAt σ x y))) σ := by
  refine tx_met (own := RX2) (cc := cX2_inTree) (maxL := 4) (ret := (some .int)) (by decide +kernel) rfl rfl (Nat.le_of_ble_eq_true rfl) ?_
  intro p e s m below meth c S hK hN hX hr hlk hh
  refine tg_sub (L' := [(0, .ref (h 0)), (1, .int x), (2, .int y)]) [0, 1, 2] rfl ?_
  refine tg_aload_n S 0 dX2_inTree_0 rfl rfl ?_
  refine tg_iload_n S 1 dX2_inTree_1 rfl rfl ?_
  refine tx_callV (nA := 1) (As := [.int x]) (rest := []) (q := (RX2, TX2, 2)) S hK hN hX hlk hh (k_X2_requireInForest hd hl σ x) 0 rfl rfl (tw_gV ml_RX2_85 im_X2_requireInForest se_X2_requireInForest in_RX2 co_X2_requireInForest rfl) rfl (by decide +kernel) ⟨Nat.le_of_ble_eq_true rfl, Nat.le_of_ble_eq_true rfl⟩ rfl rfl (Nat.le_of_ble_eq_true rfl) dX2_inTree_2 ⟨Nat.le_of_ble_eq_true rfl, Nat.le_of_ble_eq_true rfl⟩ (fun E hE => by simp [tx_orN, tx_orS, fx_inTree, hE]) ?_
  intro c_1
  refine tg_aload_n S 0 dX2_inTree_5 rfl rfl ?_
  refine tg_get (v := .ref (h 2)) S tw_v2 hK 0 rfl rfl 1 (by decide) (tw_in fl_RX2_21 rfl) dX2_inTree_6 rfl ?_
  refine tg_iload_n S 1 dX2_inTree_9 rfl rfl ?_
  refine tg_iload_n S 2 dX2_inTree_10 rfl rfl ?_
  refine tg_callN (nA := 2) (As := [.int x, .int y]) (rest := []) (host := RX2) (q := (RX0, TX0, 13)) S hK hN (k_X0_idAt hd σ x y) 2 rfl rfl (tw_gW co_X0_idAt rfl) (List.mem_of_getElem? (i := 22) rfl) (tw_in in_RX0 rfl) (tw_in im_X0_idAt rfl) (tw_in se_X0_idAt rfl) rfl (by decide +kernel) ⟨Nat.le_of_ble_eq_true rfl, Nat.le_of_ble_eq_true rfl⟩ rfl rfl (Nat.le_of_ble_eq_true rfl) dX2_inTree_11 ⟨Nat.le_of_ble_eq_true rfl, Nat.le_of_ble_eq_true rfl⟩ ?_
  refine tg_istore_n (L' := [(0, .ref (h 0)), (1, .int x), (2, .int y), (3, .int (fa_idAt σ x y))]) [1, 2, 3, 0] S dX2_inTree_14 rfl (by decide) rfl ?_
  refine tg_iload_n S 3 dX2_inTree_15 rfl rfl ?_
  refine tg_iconst (v := -1) S dX2_inTree_16 (by decide) ?_
  refine tg_icmp_ne (tgt := 30) S dX2_inTree_17 (by decide) (fun c_2 => ?_) (fun c_2 => ?_)
  · skip
    refine tg_iload_n S 3 dX2_inTree_30 rfl rfl ?_
    refine tx_ends (by simp [tx_orN, tx_orS, fx_inTree, c_1, c_2]) ?_
    exact tg_iret S hr hlk dX2_inTree_31 rfl rfl
  · skip
    exact tx_throw (is := 112) S hl hX hlk hh (tw_TD hd) (by simp [tx_I, tx_J, tx_O]) (by decide +kernel) tx_lO tx_nO tx_aO tx_bO tx_oO (List.mem_of_getElem? (i := 9) rfl) dX2_inTree_20 dX2_inTree_23 dX2_inTree_24 dX2_inTree_26 dX2_inTree_29 (Nat.le_of_ble_eq_true rfl) (Nat.le_of_ble_eq_true rfl) (Nat.le_of_ble_eq_true rfl) (Nat.le_of_ble_eq_true rfl) (by simp [tx_orN, tx_orS, fx_inTree, c_1, c_2])
set_option maxHeartbeats 4000000 in
set_option maxRecDepth 100000 in
theorem k_X2_letters {l : Launch} {D : va_G} {h : Nat → Nat} {cI cZ : ClassId} (hd : tw_dis 23 h) (hl : l.stackTraces = false) (σ : tg_Mem) (x : Int32) : tx_CT l yX2_letters wzX2_letters (tx_rm 8) (tw_T h cI cZ) (tw_ty cI cZ) tw_nl (tw_A 23 h) D [.ref (h 0), .int x] σ (fx_forest σ x) (some (.int (fx_letters σ x))) σ := by
  refine tx_met (own := RX2) (cc := cX2_letters) (maxL := 4) (ret := (some .int)) (by decide +kernel) rfl rfl (Nat.le_of_ble_eq_true rfl) ?_
  intro p e s m below meth c S hK hN hX hr hlk hh
  refine tg_sub (L' := [(0, .ref (h 0)), (1, .int x)]) [0, 1] rfl ?_
  refine tg_aload_n S 0 dX2_letters_0 rfl rfl ?_
  refine tg_iload_n S 1 dX2_letters_1 rfl rfl ?_
  refine tx_callV (nA := 1) (As := [.int x]) (rest := []) (q := (RX2, TX2, 2)) S hK hN hX hlk hh (k_X2_requireInForest hd hl σ x) 0 rfl rfl (tw_gV ml_RX2_85 im_X2_requireInForest se_X2_requireInForest in_RX2 co_X2_requireInForest rfl) rfl (by decide +kernel) ⟨Nat.le_of_ble_eq_true rfl, Nat.le_of_ble_eq_true rfl⟩ rfl rfl (Nat.le_of_ble_eq_true rfl) dX2_letters_2 ⟨Nat.le_of_ble_eq_true rfl, Nat.le_of_ble_eq_true rfl⟩ (fun E hE => by simp [tx_orN, tx_orS, hE]) ?_
  intro c_1
  refine tg_iconst (v := 0) S dX2_letters_5 (by decide) ?_
  refine tg_istore_n (L' := [(0, .ref (h 0)), (1, .int x), (2, .int 0)]) [1, 2, 0] S dX2_letters_6 rfl (by decide) rfl ?_
  refine tg_iconst (v := nI 0) S dX2_letters_7 (by decide) ?_
  refine tg_istore_n (L' := [(0, .ref (h 0)), (1, .int x), (2, .int 0), (3, .int (nI 0))]) [1, 2, 3, 0] S dX2_letters_8 rfl (by decide) rfl ?_
  refine tg_loop (X := Int32) (fx_lettersS σ x) 30 0 (fun b => σ) (fun i b => [(0, .ref (h 0)), (1, .int x), (2, .int b), (3, .int (nI i))]) ?_ ?_
  · skip
    intro i b hi_i hk_i
    refine tg_iload_n S 3 dX2_letters_9 rfl rfl ?_
    refine tg_bipush (v := 30) S dX2_letters_10 (by decide) ?_
    refine tg_icmp_ge (tgt := 43) S dX2_letters_12 (by decide) (fun c => absurd c (tg_nge hi_i)) (fun _ => ?_)
    refine tg_aload_n S 0 dX2_letters_15 rfl rfl ?_
    refine tg_get (v := .ref (h 1)) S tw_v2 hK 0 rfl rfl 0 (by decide) (tw_in fl_RX2_10 rfl) dX2_letters_16 rfl ?_
    refine tg_aload_n S 0 dX2_letters_19 rfl rfl ?_
    refine tg_get (v := .ref (h 2)) S tw_v2 hK 0 rfl rfl 1 (by decide) (tw_in fl_RX2_21 rfl) dX2_letters_20 rfl ?_
    refine tg_iload_n S 1 dX2_letters_23 rfl rfl ?_
    refine tg_iload_n S 3 dX2_letters_24 rfl rfl ?_
    refine tg_callN (nA := 2) (As := [.int x, .int (nI i)]) (rest := [.ref (h 1)]) (host := RX2) (q := (RX0, TX0, 13)) S hK hN (k_X0_idAt hd σ x (nI i)) 2 rfl rfl (tw_gW co_X0_idAt rfl) (List.mem_of_getElem? (i := 22) rfl) (tw_in in_RX0 rfl) (tw_in im_X0_idAt rfl) (tw_in se_X0_idAt rfl) rfl (by decide +kernel) ⟨Nat.le_of_ble_eq_true rfl, Nat.le_of_ble_eq_true rfl⟩ rfl rfl (Nat.le_of_ble_eq_true rfl) dX2_letters_25 ⟨Nat.le_of_ble_eq_true rfl, Nat.le_of_ble_eq_true rfl⟩ ?_
    refine tg_callN (nA := 1) (As := [.int (fa_idAt σ x (nI i))]) (rest := []) (host := RX2) (q := (RX1, TX1, 9)) S hK hN (k_X1_holds hd σ (fa_idAt σ x (nI i))) 1 rfl rfl (tw_gW co_X1_holds rfl) (List.mem_of_getElem? (i := 3) rfl) (tw_in in_RX1 rfl) (tw_in im_X1_holds rfl) (tw_in se_X1_holds rfl) rfl (by decide +kernel) ⟨Nat.le_of_ble_eq_true rfl, Nat.le_of_ble_eq_true rfl⟩ rfl rfl (Nat.le_of_ble_eq_true rfl) dX2_letters_28 ⟨Nat.le_of_ble_eq_true rfl, Nat.le_of_ble_eq_true rfl⟩ ?_
    refine tg_ifz (tgt := 37) S dX2_letters_31 (by decide) (fun c_2 => ?_) (fun c_2 => ?_)
    · skip
      refine tg_iinc (v := nI (i + 1)) (L' := [(0, .ref (h 0)), (1, .int x), (2, .int b), (3, .int (nI (i + 1)))]) [1, 2, 3, 0] S 3 dX2_letters_37 rfl (tg_inc _) (by decide) rfl ?_
      refine tg_goto (tgt := 9) S dX2_letters_40 (by decide) ?_
      have e_1 : fx_lettersS σ x i b = b := (by first | (simp [fx_lettersS, c_1, c_2]; done) | (simp only [fx_lettersS, if_neg (ne_true_of_eq_false c_2)]; done))
      rw [e_1] at hk_i
      exact hk_i
    · skip
      refine tg_iinc (v := b + 1) (L' := [(0, .ref (h 0)), (1, .int x), (2, .int (b + 1)), (3, .int (nI i))]) [1, 2, 0, 3] S 2 dX2_letters_34 rfl rfl (by decide) rfl ?_
      refine tg_iinc (v := nI (i + 1)) (L' := [(0, .ref (h 0)), (1, .int x), (2, .int (b + 1)), (3, .int (nI (i + 1)))]) [1, 2, 3, 0] S 3 dX2_letters_37 rfl (tg_inc _) (by decide) rfl ?_
      refine tg_goto (tgt := 9) S dX2_letters_40 (by decide) ?_
      have e_2 : fx_lettersS σ x i b = b + 1 := (by first | (simp [fx_lettersS, c_1, c_2]; done) | (simp only [fx_lettersS, if_pos c_2]; done))
      rw [e_2] at hk_i
      exact hk_i
  · skip
    refine tg_iload_n S 3 dX2_letters_9 rfl rfl ?_
    refine tg_bipush (v := 30) S dX2_letters_10 (by decide) ?_
    refine tg_icmp_ge (tgt := 43) S dX2_letters_12 (by decide) (fun _ => ?_) (fun c => absurd tg_ge c)
    refine tg_iload_n S 2 dX2_letters_43 rfl rfl ?_
    refine tx_ends (by simp [tx_orN, tx_orS, c_1]) ?_
    exact tg_iret S hr hlk dX2_letters_44 (by simp [fx_letters, c_1]) rfl
set_option maxHeartbeats 4000000 in
set_option maxRecDepth 100000 in
theorem k_X2_people {l : Launch} {D : va_G} {h : Nat → Nat} {cI cZ : ClassId} (hd : tw_dis 23 h) (hl : l.stackTraces = false) (σ : tg_Mem) (x : Int32) : tx_CT l yX2_people wzX2_people (tx_rm 8) (tw_T h cI cZ) (tw_ty cI cZ) tw_nl (tw_A 23 h) D [.ref (h 0), .int x] σ (fx_forest σ x) (some (.int (fx_people σ x))) σ := by
  refine tx_met (own := RX2) (cc := cX2_people) (maxL := 4) (ret := (some .int)) (by decide +kernel) rfl rfl (Nat.le_of_ble_eq_true rfl) ?_
  intro p e s m below meth c S hK hN hX hr hlk hh
  refine tg_sub (L' := [(0, .ref (h 0)), (1, .int x)]) [0, 1] rfl ?_
  refine tg_aload_n S 0 dX2_people_0 rfl rfl ?_
  refine tg_iload_n S 1 dX2_people_1 rfl rfl ?_
  refine tx_callV (nA := 1) (As := [.int x]) (rest := []) (q := (RX2, TX2, 2)) S hK hN hX hlk hh (k_X2_requireInForest hd hl σ x) 0 rfl rfl (tw_gV ml_RX2_85 im_X2_requireInForest se_X2_requireInForest in_RX2 co_X2_requireInForest rfl) rfl (by decide +kernel) ⟨Nat.le_of_ble_eq_true rfl, Nat.le_of_ble_eq_true rfl⟩ rfl rfl (Nat.le_of_ble_eq_true rfl) dX2_people_2 ⟨Nat.le_of_ble_eq_true rfl, Nat.le_of_ble_eq_true rfl⟩ (fun E hE => by simp [tx_orN, tx_orS, hE]) ?_
  intro c_1
  refine tg_iconst (v := 0) S dX2_people_5 (by decide) ?_
  refine tg_istore_n (L' := [(0, .ref (h 0)), (1, .int x), (2, .int 0)]) [1, 2, 0] S dX2_people_6 rfl (by decide) rfl ?_
  refine tg_iconst (v := nI 0) S dX2_people_7 (by decide) ?_
  refine tg_istore_n (L' := [(0, .ref (h 0)), (1, .int x), (2, .int 0), (3, .int (nI 0))]) [1, 2, 3, 0] S dX2_people_8 rfl (by decide) rfl ?_
  refine tg_loop (X := Int32) (fx_peopleS σ x) 30 0 (fun b => σ) (fun i b => [(0, .ref (h 0)), (1, .int x), (2, .int b), (3, .int (nI i))]) ?_ ?_
  · skip
    intro i b hi_i hk_i
    refine tg_iload_n S 3 dX2_people_9 rfl rfl ?_
    refine tg_bipush (v := 30) S dX2_people_10 (by decide) ?_
    refine tg_icmp_ge (tgt := 40) S dX2_people_12 (by decide) (fun c => absurd c (tg_nge hi_i)) (fun _ => ?_)
    refine tg_iload_n S 2 dX2_people_15 rfl rfl ?_
    refine tg_aload_n S 0 dX2_people_16 rfl rfl ?_
    refine tg_get (v := .ref (h 1)) S tw_v2 hK 0 rfl rfl 0 (by decide) (tw_in fl_RX2_10 rfl) dX2_people_17 rfl ?_
    refine tg_aload_n S 0 dX2_people_20 rfl rfl ?_
    refine tg_get (v := .ref (h 2)) S tw_v2 hK 0 rfl rfl 1 (by decide) (tw_in fl_RX2_21 rfl) dX2_people_21 rfl ?_
    refine tg_iload_n S 1 dX2_people_24 rfl rfl ?_
    refine tg_iload_n S 3 dX2_people_25 rfl rfl ?_
    refine tg_callN (nA := 2) (As := [.int x, .int (nI i)]) (rest := [.ref (h 1), .int b]) (host := RX2) (q := (RX0, TX0, 13)) S hK hN (k_X0_idAt hd σ x (nI i)) 2 rfl rfl (tw_gW co_X0_idAt rfl) (List.mem_of_getElem? (i := 22) rfl) (tw_in in_RX0 rfl) (tw_in im_X0_idAt rfl) (tw_in se_X0_idAt rfl) rfl (by decide +kernel) ⟨Nat.le_of_ble_eq_true rfl, Nat.le_of_ble_eq_true rfl⟩ rfl rfl (Nat.le_of_ble_eq_true rfl) dX2_people_26 ⟨Nat.le_of_ble_eq_true rfl, Nat.le_of_ble_eq_true rfl⟩ ?_
    refine tg_callN (nA := 1) (As := [.int (fa_idAt σ x (nI i))]) (rest := [.int b]) (host := RX2) (q := (RX1, TX1, 9)) S hK hN (k_X1_writerBit hd σ (fa_idAt σ x (nI i))) 1 rfl rfl (tw_gW co_X1_writerBit rfl) (List.mem_of_getElem? (i := 25) rfl) (tw_in in_RX1 rfl) (tw_in im_X1_writerBit rfl) (tw_in se_X1_writerBit rfl) rfl (by decide +kernel) ⟨Nat.le_of_ble_eq_true rfl, Nat.le_of_ble_eq_true rfl⟩ rfl rfl (Nat.le_of_ble_eq_true rfl) dX2_people_29 ⟨Nat.le_of_ble_eq_true rfl, Nat.le_of_ble_eq_true rfl⟩ ?_
    refine tg_ior S dX2_people_32 ?_
    refine tg_istore_n (L' := [(0, .ref (h 0)), (1, .int x), (2, .int (b ||| (fa_writerBit σ (fa_idAt σ x (nI i))))), (3, .int (nI i))]) [1, 2, 0, 3] S dX2_people_33 rfl (by decide) rfl ?_
    refine tg_iinc (v := nI (i + 1)) (L' := [(0, .ref (h 0)), (1, .int x), (2, .int (b ||| (fa_writerBit σ (fa_idAt σ x (nI i))))), (3, .int (nI (i + 1)))]) [1, 2, 3, 0] S 3 dX2_people_34 rfl (tg_inc _) (by decide) rfl ?_
    refine tg_goto (tgt := 9) S dX2_people_37 (by decide) ?_
    have e_1 : fx_peopleS σ x i b = b ||| (fa_writerBit σ (fa_idAt σ x (nI i))) := (by first | (simp [fx_peopleS, c_1]; done))
    rw [e_1] at hk_i
    exact hk_i
  · skip
    refine tg_iload_n S 3 dX2_people_9 rfl rfl ?_
    refine tg_bipush (v := 30) S dX2_people_10 (by decide) ?_
    refine tg_icmp_ge (tgt := 40) S dX2_people_12 (by decide) (fun _ => ?_) (fun c => absurd tg_ge c)
    refine tg_iload_n S 2 dX2_people_40 rfl rfl ?_
    refine tx_ends (by simp [tx_orN, tx_orS, c_1]) ?_
    exact tg_iret S hr hlk dX2_people_41 (by simp [fx_people, c_1]) rfl
set_option maxHeartbeats 4000000 in
set_option maxRecDepth 100000 in
theorem k_X2_latest {l : Launch} {D : va_G} {h : Nat → Nat} {cI cZ : ClassId} (hd : tw_dis 23 h) (hl : l.stackTraces = false) (σ : tg_Mem) (x : Int32) : tx_CT l yX2_latest wzX2_latest (tx_rm 8) (tw_T h cI cZ) (tw_ty cI cZ) tw_nl (tw_A 23 h) D [.ref (h 0), .int x] σ (fx_forest σ x) (some (.int (fx_latest σ x))) σ := by
  refine tx_met (own := RX2) (cc := cX2_latest) (maxL := 5) (ret := (some .int)) (by decide +kernel) rfl rfl (Nat.le_of_ble_eq_true rfl) ?_
  intro p e s m below meth c S hK hN hX hr hlk hh
  refine tg_sub (L' := [(0, .ref (h 0)), (1, .int x)]) [0, 1] rfl ?_
  refine tg_aload_n S 0 dX2_latest_0 rfl rfl ?_
  refine tg_iload_n S 1 dX2_latest_1 rfl rfl ?_
  refine tx_callV (nA := 1) (As := [.int x]) (rest := []) (q := (RX2, TX2, 2)) S hK hN hX hlk hh (k_X2_requireInForest hd hl σ x) 0 rfl rfl (tw_gV ml_RX2_85 im_X2_requireInForest se_X2_requireInForest in_RX2 co_X2_requireInForest rfl) rfl (by decide +kernel) ⟨Nat.le_of_ble_eq_true rfl, Nat.le_of_ble_eq_true rfl⟩ rfl rfl (Nat.le_of_ble_eq_true rfl) dX2_latest_2 ⟨Nat.le_of_ble_eq_true rfl, Nat.le_of_ble_eq_true rfl⟩ (fun E hE => by simp [tx_orN, tx_orS, hE]) ?_
  intro c_1
  refine tg_iconst (v := -1) S dX2_latest_5 (by decide) ?_
  refine tg_istore_n (L' := [(0, .ref (h 0)), (1, .int x), (2, .int (-1))]) [1, 2, 0] S dX2_latest_6 rfl (by decide) rfl ?_
  refine tg_iconst (v := nI 0) S dX2_latest_7 (by decide) ?_
  refine tg_istore_n (L' := [(0, .ref (h 0)), (1, .int x), (2, .int (-1)), (3, .int (nI 0))]) [1, 2, 3, 0] S dX2_latest_8 rfl (by decide) rfl ?_
  refine tg_loop (X := Int32) (fx_latestS σ x) 30 (-1) (fun b => σ) (fun i b => [(0, .ref (h 0)), (1, .int x), (2, .int b), (3, .int (nI i))]) ?_ ?_
  · skip
    intro i b hi_i hk_i
    refine tg_iload_n S 3 dX2_latest_9 rfl rfl ?_
    refine tg_bipush (v := 30) S dX2_latest_10 (by decide) ?_
    refine tg_icmp_ge (tgt := 58) S dX2_latest_12 (by decide) (fun c => absurd c (tg_nge hi_i)) (fun _ => ?_)
    refine tg_aload_n S 0 dX2_latest_15 rfl rfl ?_
    refine tg_get (v := .ref (h 2)) S tw_v2 hK 0 rfl rfl 1 (by decide) (tw_in fl_RX2_21 rfl) dX2_latest_16 rfl ?_
    refine tg_iload_n S 1 dX2_latest_19 rfl rfl ?_
    refine tg_iload_n S 3 dX2_latest_20 rfl rfl ?_
    refine tg_callN (nA := 2) (As := [.int x, .int (nI i)]) (rest := []) (host := RX2) (q := (RX0, TX0, 13)) S hK hN (k_X0_idAt hd σ x (nI i)) 2 rfl rfl (tw_gW co_X0_idAt rfl) (List.mem_of_getElem? (i := 22) rfl) (tw_in in_RX0 rfl) (tw_in im_X0_idAt rfl) (tw_in se_X0_idAt rfl) rfl (by decide +kernel) ⟨Nat.le_of_ble_eq_true rfl, Nat.le_of_ble_eq_true rfl⟩ rfl rfl (Nat.le_of_ble_eq_true rfl) dX2_latest_21 ⟨Nat.le_of_ble_eq_true rfl, Nat.le_of_ble_eq_true rfl⟩ ?_
    refine tg_istore (L' := [(0, .ref (h 0)), (1, .int x), (2, .int b), (3, .int (nI i)), (4, .int (fa_idAt σ x (nI i)))]) [1, 2, 3, 4, 0] S dX2_latest_24 (by decide) rfl ?_
    refine tg_aload_n S 0 dX2_latest_26 rfl rfl ?_
    refine tg_get (v := .ref (h 1)) S tw_v2 hK 0 rfl rfl 0 (by decide) (tw_in fl_RX2_10 rfl) dX2_latest_27 rfl ?_
    refine tg_iload S 4 dX2_latest_30 rfl ?_
    refine tg_callN (nA := 1) (As := [.int (fa_idAt σ x (nI i))]) (rest := []) (host := RX2) (q := (RX1, TX1, 9)) S hK hN (k_X1_holds hd σ (fa_idAt σ x (nI i))) 1 rfl rfl (tw_gW co_X1_holds rfl) (List.mem_of_getElem? (i := 3) rfl) (tw_in in_RX1 rfl) (tw_in im_X1_holds rfl) (tw_in se_X1_holds rfl) rfl (by decide +kernel) ⟨Nat.le_of_ble_eq_true rfl, Nat.le_of_ble_eq_true rfl⟩ rfl rfl (Nat.le_of_ble_eq_true rfl) dX2_latest_32 ⟨Nat.le_of_ble_eq_true rfl, Nat.le_of_ble_eq_true rfl⟩ ?_
    refine tg_ifz (tgt := 52) S dX2_latest_35 (by decide) (fun c_2 => ?_) (fun c_2 => ?_)
    · skip
      refine tg_iinc (v := nI (i + 1)) (L' := [(0, .ref (h 0)), (1, .int x), (2, .int b), (3, .int (nI (i + 1))), (4, .int (fa_idAt σ x (nI i)))]) [1, 2, 3, 0, 4] S 3 dX2_latest_52 rfl (tg_inc _) (by decide) rfl ?_
      refine tg_goto (tgt := 9) S dX2_latest_55 (by decide) ?_
      refine tg_sub (L' := [(0, .ref (h 0)), (1, .int x), (2, .int b), (3, .int (nI (i + 1)))]) [0, 1, 2, 3] rfl ?_
      have e_1 : fx_latestS σ x i b = b := (by first | (simp [fx_latestS, c_1, c_2]; done) | (simp only [fx_latestS, if_neg (ne_true_of_eq_false c_2)]; done))
      rw [e_1] at hk_i
      exact hk_i
    · skip
      refine tg_iload_n S 2 dX2_latest_38 rfl rfl ?_
      refine tg_aload_n S 0 dX2_latest_39 rfl rfl ?_
      refine tg_get (v := .ref (h 1)) S tw_v2 hK 0 rfl rfl 0 (by decide) (tw_in fl_RX2_10 rfl) dX2_latest_40 rfl ?_
      refine tg_iload S 4 dX2_latest_43 rfl ?_
      refine tg_callN (nA := 1) (As := [.int (fa_idAt σ x (nI i))]) (rest := [.int b]) (host := RX2) (q := (RX1, TX1, 9)) S hK hN (k_X1_dayOf hd σ (fa_idAt σ x (nI i))) 1 rfl rfl (tw_gW co_X1_dayOf rfl) (List.mem_of_getElem? (i := 26) rfl) (tw_in in_RX1 rfl) (tw_in im_X1_dayOf rfl) (tw_in se_X1_dayOf rfl) rfl (by decide +kernel) ⟨Nat.le_of_ble_eq_true rfl, Nat.le_of_ble_eq_true rfl⟩ rfl rfl (Nat.le_of_ble_eq_true rfl) dX2_latest_45 ⟨Nat.le_of_ble_eq_true rfl, Nat.le_of_ble_eq_true rfl⟩ ?_
      refine tg_max S (tw_in ml_RX2_126 rfl) (tw_in st_Math_max rfl) (tw_in in_Math rfl) (tw_in co_Math_max rfl) (Nat.le_of_ble_eq_true rfl) (Nat.le_of_ble_eq_true rfl) ⟨Nat.le_of_ble_eq_true rfl, Nat.le_of_ble_eq_true rfl⟩ dX2_latest_48 ?_
      refine tg_istore_n (L' := [(0, .ref (h 0)), (1, .int x), (2, .int (if b < fa_dayOf σ (fa_idAt σ x (nI i)) then fa_dayOf σ (fa_idAt σ x (nI i)) else b)), (3, .int (nI i)), (4, .int (fa_idAt σ x (nI i)))]) [1, 2, 0, 3, 4] S dX2_latest_51 rfl (by decide) rfl ?_
      refine tg_iinc (v := nI (i + 1)) (L' := [(0, .ref (h 0)), (1, .int x), (2, .int (if b < fa_dayOf σ (fa_idAt σ x (nI i)) then fa_dayOf σ (fa_idAt σ x (nI i)) else b)), (3, .int (nI (i + 1))), (4, .int (fa_idAt σ x (nI i)))]) [1, 2, 3, 0, 4] S 3 dX2_latest_52 rfl (tg_inc _) (by decide) rfl ?_
      refine tg_goto (tgt := 9) S dX2_latest_55 (by decide) ?_
      refine tg_sub (L' := [(0, .ref (h 0)), (1, .int x), (2, .int (if b < fa_dayOf σ (fa_idAt σ x (nI i)) then fa_dayOf σ (fa_idAt σ x (nI i)) else b)), (3, .int (nI (i + 1)))]) [0, 1, 2, 3] rfl ?_
      have e_2 : fx_latestS σ x i b = if b < fa_dayOf σ (fa_idAt σ x (nI i)) then fa_dayOf σ (fa_idAt σ x (nI i)) else b := (by first | (simp [fx_latestS, c_1, c_2]; done) | (simp only [fx_latestS, if_pos c_2]; done))
      rw [e_2] at hk_i
      exact hk_i
  · skip
    refine tg_iload_n S 3 dX2_latest_9 rfl rfl ?_
    refine tg_bipush (v := 30) S dX2_latest_10 (by decide) ?_
    refine tg_icmp_ge (tgt := 58) S dX2_latest_12 (by decide) (fun _ => ?_) (fun c => absurd tg_ge c)
    refine tg_iload_n S 2 dX2_latest_58 rfl rfl ?_
    refine tx_ends (by simp [tx_orN, tx_orS, c_1]) ?_
    exact tg_iret S hr hlk dX2_latest_59 (by simp [fx_latest, c_1]) rfl
end
section
/-! ===== constructors ===== -/
abbrev tn_e (q : Nat) (cT : ClassId) (N : Nat) : Nat × va_E := (q, .inl (cT, N, .inl (fun _ => 0)))
abbrev tn_o (h ci : Nat) (fs : List Value) : Nat × va_E := (h, .inr (ci, fs))
theorem tn_cI {n : Nat} : ∀ cA : ClassId, vp_cell cA (n, .inl (fun _ => 0)) = arrV cA n (fun _ => defaultValue .int) := fun _ => rfl
theorem tn_cZ {n : Nat} : ∀ cA : ClassId, vp_cell cA (n, .inl (fun _ => 0)) = arrV cA n (fun _ => defaultValue .boolean) := fun _ => rfl
set_option maxRecDepth 100000 in
theorem tn_aI : Cond.arrayClass (newarray.typeOf .int) ∈ lw_tbl := by decide +kernel
set_option maxRecDepth 100000 in
theorem tn_aZ : Cond.arrayClass (newarray.typeOf .boolean) ∈ lw_tbl := by decide +kernel
theorem tn_rI {s : State} {c1 c2 : ClassId} (h1 : va_RA s c1 .int) (h2 : va_RA s c2 .int) : c1 = c2 := Option.some.inj ((show s.vm.findClass _ = some c1 from h1).symm.trans (show s.vm.findClass _ = some c2 from h2))
theorem tn_rZ {s : State} {c1 c2 : ClassId} (h1 : va_RA s c1 .boolean) (h2 : va_RA s c2 .boolean) : c1 = c2 := Option.some.inj ((show s.vm.findClass _ = some c1 from h1).symm.trans (show s.vm.findClass _ = some c2 from h2))
section TN
variable {p : Program} {l : Launch} {e : Env} {R : Room} {s : State} {m : MethodId} {args : Array Value} {below : List Frame} {meth : Method} {c : Code} {D : va_G} {A : Nat → Prop} {n k z : Nat} {Q : State → Prop}
variable {cc : ByteArray} {x : Cond} {own : String} {pc : Nat} {L : List (Nat × Value)} {st : List Value} {cI cZ : ClassId} {H : Heap} {locs : List Loc} {ls : Array Slot} {ws : va_W}
/-- an array made and kept in a final field of this -/
theorem tn_arr {atype : ArrayType} {ty : FieldType} {cT : ClassId} {N h0 ci index : Nat} {fs : List Value} {C : String} {T : u_T} {NF : Nat} {b : Int} (t0 : Nat) (ht : (tw_ty cI cZ)[t0]? = some (cT, ty)) (hr : ∀ c1 c2 : ClassId, va_RA s c1 ty → va_RA s c2 ty → c1 = c2) (hty : newarray.typeOf atype = ty)
    (ha : ∀ cA : ClassId, vp_cell cA (N, .inl (fun _ => 0)) = arrV cA N (fun _ => defaultValue ty)) (har : Cond.arrayClass (newarray.typeOf atype) ∈ lw_tbl) (hbytes : N * componentBytes ty ≤ 536870912)
    (S : CallFix p m c cc n s args (x :: tw_G) own) (hin2 : meth.name = "<init>") (hK : va_K D vwCl (tw_ty cI cZ) s) (hP : va_P D vwCl ws H) (hD : va_D A ws) (hS : va_S A s.heap H locs) (hA : ∀ q, s.heap.size ≤ q → A q) (hl : lv_has ls n L) (hL : L[0]? = some (0, .ref h0))
    (he : ws[0]? = some (h0, .inr (ci, fs))) (hc : vwCl[ci]? = some (C, T, NF)) (hin : ∀ w ∈ u_ws C T NF, w ∈ x :: tw_G) (ty0 : Nat → FieldType) (htyf : ∀ k, k < NF → parseFieldDescriptor (T k).2.2.1 = some (ty0 k)) (hnm : ∀ a, a < NF → ∀ b, b < NF → a ≠ b → (T a).2.1 ≠ (T b).2.1)
    (f : Nat) (hf : f < NF) (hlink : Cond.fieldLink own index C (T f).2.1 (T f).2.2.1 ∈ lw_tbl) (hT : (T f).1 = C) (hfin : (T f).2.2.2 = true) (hdecl : (T f).1 = own) (hd : parseFieldDescriptor (T f).2.2.1 = some (.array ty)) (hfl : f < fs.length)
    (hN : (Int8.ofInt b).toInt32.toNatClampNeg = N) (hn0 : ¬ (Int8.ofInt b).toInt32 < 0) (hR : k + 1 ≤ R.cells ∧ z + N ≤ R.slots)
    (d0 : decode cc pc = .ok (.aload_n 0, 1)) (d1 : decode cc (pc + 1) = .ok (.bipush b, 2)) (d3 : decode cc (pc + 3) = .ok (.newarray atype, 2)) (d5 : decode cc (pc + 5) = .ok (.putfield index, 3))
    (kk : ∀ (q : Nat) (H1 : Heap) (locs1 : List Loc), va_P D vwCl ((ws ++ [tn_e q cT N]).set 0 (tn_o h0 ci (fs.set f (.ref q)))) H1 → va_D A ((ws ++ [tn_e q cT N]).set 0 (tn_o h0 ci (fs.set f (.ref q)))) → va_S A s.heap H1 locs1 →
      W p l e R s m args below meth c H1 locs1 (k + 1) (z + N) Q (F0 m (pc + 8) ls st)) : W p l e R s m args below meth c H locs k z Q (F0 m pc ls st) := by
  refine lv_aload_n S.1 S.2.1 d0 rfl (lv_at hl 0 hL) ?_
  refine lv_bipush S.1 S.2.1 d1 rfl ?_
  refine va_newa (N' := N) (a0 := (N, .inl (fun _ => 0))) S.1 S.2.1 (S.2.2.2.2 _ (tw_in har rfl)) hty hK hP hD hS hA ha hn0 hN hbytes hR.1 hR.2 d3 (fun q cA H1 hK1 hP1 hD1 hS1 => ?_)
  have e : cA = cT := hr _ _ (hK1.2 2 _ rfl).2 (hK.2 t0 _ ht).2
  subst e
  have he1 : (ws ++ [tn_e q cA N])[0]? = some (tn_o h0 ci fs) := by
    rw [List.getElem?_append_left (List.getElem?_eq_some_iff.mp he).1]
    exact he
  refine va_putF (ref := C) (C := C) (T := T) (N := NF) (v := .ref q) (ty := .array ty) S.1 S.2.1 S.2.2.2.2 hin ty0 htyf hnm S.2.2.2.1 hK1 hP1 hD1 hS1 0 he1 hc f hf (S.2.2.2.2 _ (tw_in hlink rfl)) (fun _ h9 => by rw [hT] at h9; exact h9) hfin hin2 hdecl hd rfl rfl hfl d5 (fun H2 l2 hP2 hD2 hS2 => kk q H2 l2 hP2 hD2 hS2)
end TN

def tn_w1 (h0 : Nat) (cI cZ : ClassId) (g : Nat → Nat) : va_W := [tn_o h0 1 [.ref (g 0), .ref (g 1), .ref (g 2), .ref (g 3), .ref (g 4), .ref (g 5), .ref (g 6), .ref (g 7), .ref (g 8)], tn_e (g 0) cZ 30, tn_e (g 1) cI 30, tn_e (g 2) cI 30, tn_e (g 3) cI 30, tn_e (g 4) cZ 30, tn_e (g 5) cI 30, tn_e (g 6) cI 30, tn_e (g 7) cZ 30, tn_e (g 8) cI 30]
set_option maxHeartbeats 4000000 in
set_option maxRecDepth 100000 in
theorem k_X1_init (l : Launch) (D : va_G) (cI cZ : ClassId) (h0 sz : Nat) : Met l yX1_init wzX1_init ({ frames := 2, cells := 9, slots := 270, locals := 56 }) (va_Pc [.ref h0] (fun U => U.heap.size = sz ∧ va_P D vwCl [tn_o h0 1 [.null, .null, .null, .null, .null, .null, .null, .null, .null]] U.heap ∧ va_K D vwCl (tw_ty cI cZ) U ∧ va_D (fun _ => True) [tn_o h0 1 [.null, .null, .null, .null, .null, .null, .null, .null, .null]])) (va_Qv (fun _ : Nat → Nat => True) (fun g t => va_P D vwCl (tn_w1 h0 cI cZ g) t.heap ∧ va_D (va_A [tn_o h0 1 [.null, .null, .null, .null, .null, .null, .null, .null, .null]] sz) (tn_w1 h0 cI cZ g)) (va_A [tn_o h0 1 [.null, .null, .null, .null, .null, .null, .null, .null, .null]] sz)) 9 270 (va_A [tn_o h0 1 [.null, .null, .null, .null, .null, .null, .null, .null, .null]] sz) := by
  refine Met.ofW (cc := cX1_init) (maxL := 1) (ret := none) (by decide +kernel) rfl ?_
  intro p e s m args below meth c s₁ B hml hv
  obtain ⟨rfl, hsz, hP, hK, hD0⟩ := hv
  have hts := atoms_spec (ws := wzX1_init) B.pre
  have S : CallFix p m c cX1_init 1 s ([.ref h0] : List Value).toArray wzX1_init RX1 := ⟨B.exec, B.bytes, hml, findClass_of_methodNamed B.named, hts⟩
  have hr := B.returns
  have hlocks := B.notSynchronized
  have hin : meth.name = "<init>" := (name_of_methodNamed B.named B.method).1
  subst hsz
  have hD := hD0.self (sz := s.heap.size)
  generalize hAe : va_A [tn_o h0 1 [.null, .null, .null, .null, .null, .null, .null, .null, .null]] s.heap.size = A at hD ⊢
  have hA : ∀ q : Nat, s.heap.size ≤ q → A q := fun q h => by rw [← hAe]; exact Or.inr h
  have hS : va_S A s.heap s.heap [] := va_S.rf
  have hP : va_P D vwCl [tn_o h0 1 [.null, .null, .null, .null, .null, .null, .null, .null, .null]] s.heap := hP
  have hl := lv_entry ([.ref h0]) (n := 1) (Nat.le_of_ble_eq_true rfl)
  rw [lg_entry_eq]
  generalize (lg_sl ([.ref h0]) ++ List.replicate (1 - (lg_sl ([.ref h0])).length) Slot.unset).toArray = ls at hl ⊢
  have hl : lv_has ls 1 (lv_args 0 [.ref h0]) := hl
  refine lv_aload_n S.1 S.2.1 dX1_init_0 rfl (lv_at hl 0 rfl) ?_
  refine W.objInit S.1 S.2.1 S.2.2.2.1 (hts _ (tw_in ml_RX1_3 rfl)) (hts _ (tw_in im_objectInit rfl)) (hts _ (tw_in co_objectInit rfl)) rfl (by rw [hml]; exact hl.1) rfl dX1_init_1 (Nat.le_of_ble_eq_true rfl) (Nat.le_of_ble_eq_true rfl) ?_
  refine W.eq (g2 := F0 m 4 ls []) rfl ?_
  refine tn_arr (N := 30) (C := RX1) (T := TX1) (NF := 9) 1 rfl (fun _ _ => tn_rZ) rfl tn_cZ tn_aZ (Nat.le_of_ble_eq_true rfl) S hin hK hP hD hS hA hl rfl rfl rfl tw_v1 tyX1 tyX1_ok nmX1 0 (by decide) fl_RX1_9 rfl rfl rfl (by decide +kernel) (Nat.le_of_ble_eq_true rfl) (by decide) (by decide) ⟨Nat.le_of_ble_eq_true rfl, Nat.le_of_ble_eq_true rfl⟩ dX1_init_4 dX1_init_5 dX1_init_7 dX1_init_9 (fun q0 H locs hP hD hS => ?_)
  have hP : va_P D vwCl [tn_o h0 1 [.ref q0, .null, .null, .null, .null, .null, .null, .null, .null], tn_e q0 cZ 30] H := hP
  have hD : va_D A [tn_o h0 1 [.ref q0, .null, .null, .null, .null, .null, .null, .null, .null], tn_e q0 cZ 30] := hD
  refine tn_arr (N := 30) (C := RX1) (T := TX1) (NF := 9) 0 rfl (fun _ _ => tn_rI) rfl tn_cI tn_aI (Nat.le_of_ble_eq_true rfl) S hin hK hP hD hS hA hl rfl rfl rfl tw_v1 tyX1 tyX1_ok nmX1 1 (by decide) fl_RX1_15 rfl rfl rfl (by decide +kernel) (Nat.le_of_ble_eq_true rfl) (by decide) (by decide) ⟨Nat.le_of_ble_eq_true rfl, Nat.le_of_ble_eq_true rfl⟩ dX1_init_12 dX1_init_13 dX1_init_15 dX1_init_17 (fun q1 H locs hP hD hS => ?_)
  have hP : va_P D vwCl [tn_o h0 1 [.ref q0, .ref q1, .null, .null, .null, .null, .null, .null, .null], tn_e q0 cZ 30, tn_e q1 cI 30] H := hP
  have hD : va_D A [tn_o h0 1 [.ref q0, .ref q1, .null, .null, .null, .null, .null, .null, .null], tn_e q0 cZ 30, tn_e q1 cI 30] := hD
  refine tn_arr (N := 30) (C := RX1) (T := TX1) (NF := 9) 0 rfl (fun _ _ => tn_rI) rfl tn_cI tn_aI (Nat.le_of_ble_eq_true rfl) S hin hK hP hD hS hA hl rfl rfl rfl tw_v1 tyX1 tyX1_ok nmX1 2 (by decide) fl_RX1_19 rfl rfl rfl (by decide +kernel) (Nat.le_of_ble_eq_true rfl) (by decide) (by decide) ⟨Nat.le_of_ble_eq_true rfl, Nat.le_of_ble_eq_true rfl⟩ dX1_init_20 dX1_init_21 dX1_init_23 dX1_init_25 (fun q2 H locs hP hD hS => ?_)
  have hP : va_P D vwCl [tn_o h0 1 [.ref q0, .ref q1, .ref q2, .null, .null, .null, .null, .null, .null], tn_e q0 cZ 30, tn_e q1 cI 30, tn_e q2 cI 30] H := hP
  have hD : va_D A [tn_o h0 1 [.ref q0, .ref q1, .ref q2, .null, .null, .null, .null, .null, .null], tn_e q0 cZ 30, tn_e q1 cI 30, tn_e q2 cI 30] := hD
  refine tn_arr (N := 30) (C := RX1) (T := TX1) (NF := 9) 0 rfl (fun _ _ => tn_rI) rfl tn_cI tn_aI (Nat.le_of_ble_eq_true rfl) S hin hK hP hD hS hA hl rfl rfl rfl tw_v1 tyX1 tyX1_ok nmX1 3 (by decide) fl_RX1_22 rfl rfl rfl (by decide +kernel) (Nat.le_of_ble_eq_true rfl) (by decide) (by decide) ⟨Nat.le_of_ble_eq_true rfl, Nat.le_of_ble_eq_true rfl⟩ dX1_init_28 dX1_init_29 dX1_init_31 dX1_init_33 (fun q3 H locs hP hD hS => ?_)
  have hP : va_P D vwCl [tn_o h0 1 [.ref q0, .ref q1, .ref q2, .ref q3, .null, .null, .null, .null, .null], tn_e q0 cZ 30, tn_e q1 cI 30, tn_e q2 cI 30, tn_e q3 cI 30] H := hP
  have hD : va_D A [tn_o h0 1 [.ref q0, .ref q1, .ref q2, .ref q3, .null, .null, .null, .null, .null], tn_e q0 cZ 30, tn_e q1 cI 30, tn_e q2 cI 30, tn_e q3 cI 30] := hD
  refine tn_arr (N := 30) (C := RX1) (T := TX1) (NF := 9) 1 rfl (fun _ _ => tn_rZ) rfl tn_cZ tn_aZ (Nat.le_of_ble_eq_true rfl) S hin hK hP hD hS hA hl rfl rfl rfl tw_v1 tyX1 tyX1_ok nmX1 4 (by decide) fl_RX1_25 rfl rfl rfl (by decide +kernel) (Nat.le_of_ble_eq_true rfl) (by decide) (by decide) ⟨Nat.le_of_ble_eq_true rfl, Nat.le_of_ble_eq_true rfl⟩ dX1_init_36 dX1_init_37 dX1_init_39 dX1_init_41 (fun q4 H locs hP hD hS => ?_)
  have hP : va_P D vwCl [tn_o h0 1 [.ref q0, .ref q1, .ref q2, .ref q3, .ref q4, .null, .null, .null, .null], tn_e q0 cZ 30, tn_e q1 cI 30, tn_e q2 cI 30, tn_e q3 cI 30, tn_e q4 cZ 30] H := hP
  have hD : va_D A [tn_o h0 1 [.ref q0, .ref q1, .ref q2, .ref q3, .ref q4, .null, .null, .null, .null], tn_e q0 cZ 30, tn_e q1 cI 30, tn_e q2 cI 30, tn_e q3 cI 30, tn_e q4 cZ 30] := hD
  refine tn_arr (N := 30) (C := RX1) (T := TX1) (NF := 9) 0 rfl (fun _ _ => tn_rI) rfl tn_cI tn_aI (Nat.le_of_ble_eq_true rfl) S hin hK hP hD hS hA hl rfl rfl rfl tw_v1 tyX1 tyX1_ok nmX1 5 (by decide) fl_RX1_28 rfl rfl rfl (by decide +kernel) (Nat.le_of_ble_eq_true rfl) (by decide) (by decide) ⟨Nat.le_of_ble_eq_true rfl, Nat.le_of_ble_eq_true rfl⟩ dX1_init_44 dX1_init_45 dX1_init_47 dX1_init_49 (fun q5 H locs hP hD hS => ?_)
  have hP : va_P D vwCl [tn_o h0 1 [.ref q0, .ref q1, .ref q2, .ref q3, .ref q4, .ref q5, .null, .null, .null], tn_e q0 cZ 30, tn_e q1 cI 30, tn_e q2 cI 30, tn_e q3 cI 30, tn_e q4 cZ 30, tn_e q5 cI 30] H := hP
  have hD : va_D A [tn_o h0 1 [.ref q0, .ref q1, .ref q2, .ref q3, .ref q4, .ref q5, .null, .null, .null], tn_e q0 cZ 30, tn_e q1 cI 30, tn_e q2 cI 30, tn_e q3 cI 30, tn_e q4 cZ 30, tn_e q5 cI 30] := hD
  refine tn_arr (N := 30) (C := RX1) (T := TX1) (NF := 9) 0 rfl (fun _ _ => tn_rI) rfl tn_cI tn_aI (Nat.le_of_ble_eq_true rfl) S hin hK hP hD hS hA hl rfl rfl rfl tw_v1 tyX1 tyX1_ok nmX1 6 (by decide) fl_RX1_31 rfl rfl rfl (by decide +kernel) (Nat.le_of_ble_eq_true rfl) (by decide) (by decide) ⟨Nat.le_of_ble_eq_true rfl, Nat.le_of_ble_eq_true rfl⟩ dX1_init_52 dX1_init_53 dX1_init_55 dX1_init_57 (fun q6 H locs hP hD hS => ?_)
  have hP : va_P D vwCl [tn_o h0 1 [.ref q0, .ref q1, .ref q2, .ref q3, .ref q4, .ref q5, .ref q6, .null, .null], tn_e q0 cZ 30, tn_e q1 cI 30, tn_e q2 cI 30, tn_e q3 cI 30, tn_e q4 cZ 30, tn_e q5 cI 30, tn_e q6 cI 30] H := hP
  have hD : va_D A [tn_o h0 1 [.ref q0, .ref q1, .ref q2, .ref q3, .ref q4, .ref q5, .ref q6, .null, .null], tn_e q0 cZ 30, tn_e q1 cI 30, tn_e q2 cI 30, tn_e q3 cI 30, tn_e q4 cZ 30, tn_e q5 cI 30, tn_e q6 cI 30] := hD
  refine tn_arr (N := 30) (C := RX1) (T := TX1) (NF := 9) 1 rfl (fun _ _ => tn_rZ) rfl tn_cZ tn_aZ (Nat.le_of_ble_eq_true rfl) S hin hK hP hD hS hA hl rfl rfl rfl tw_v1 tyX1 tyX1_ok nmX1 7 (by decide) fl_RX1_34 rfl rfl rfl (by decide +kernel) (Nat.le_of_ble_eq_true rfl) (by decide) (by decide) ⟨Nat.le_of_ble_eq_true rfl, Nat.le_of_ble_eq_true rfl⟩ dX1_init_60 dX1_init_61 dX1_init_63 dX1_init_65 (fun q7 H locs hP hD hS => ?_)
  have hP : va_P D vwCl [tn_o h0 1 [.ref q0, .ref q1, .ref q2, .ref q3, .ref q4, .ref q5, .ref q6, .ref q7, .null], tn_e q0 cZ 30, tn_e q1 cI 30, tn_e q2 cI 30, tn_e q3 cI 30, tn_e q4 cZ 30, tn_e q5 cI 30, tn_e q6 cI 30, tn_e q7 cZ 30] H := hP
  have hD : va_D A [tn_o h0 1 [.ref q0, .ref q1, .ref q2, .ref q3, .ref q4, .ref q5, .ref q6, .ref q7, .null], tn_e q0 cZ 30, tn_e q1 cI 30, tn_e q2 cI 30, tn_e q3 cI 30, tn_e q4 cZ 30, tn_e q5 cI 30, tn_e q6 cI 30, tn_e q7 cZ 30] := hD
  refine tn_arr (N := 30) (C := RX1) (T := TX1) (NF := 9) 0 rfl (fun _ _ => tn_rI) rfl tn_cI tn_aI (Nat.le_of_ble_eq_true rfl) S hin hK hP hD hS hA hl rfl rfl rfl tw_v1 tyX1 tyX1_ok nmX1 8 (by decide) fl_RX1_37 rfl rfl rfl (by decide +kernel) (Nat.le_of_ble_eq_true rfl) (by decide) (by decide) ⟨Nat.le_of_ble_eq_true rfl, Nat.le_of_ble_eq_true rfl⟩ dX1_init_68 dX1_init_69 dX1_init_71 dX1_init_73 (fun q8 H locs hP hD hS => ?_)
  have hP : va_P D vwCl [tn_o h0 1 [.ref q0, .ref q1, .ref q2, .ref q3, .ref q4, .ref q5, .ref q6, .ref q7, .ref q8], tn_e q0 cZ 30, tn_e q1 cI 30, tn_e q2 cI 30, tn_e q3 cI 30, tn_e q4 cZ 30, tn_e q5 cI 30, tn_e q6 cI 30, tn_e q7 cZ 30, tn_e q8 cI 30] H := hP
  have hD : va_D A [tn_o h0 1 [.ref q0, .ref q1, .ref q2, .ref q3, .ref q4, .ref q5, .ref q6, .ref q7, .ref q8], tn_e q0 cZ 30, tn_e q1 cI 30, tn_e q2 cI 30, tn_e q3 cI 30, tn_e q4 cZ 30, tn_e q5 cI 30, tn_e q6 cI 30, tn_e q7 cZ 30, tn_e q8 cI 30] := hD
  exact W.vret S.1 S.2.1 hr (fun t ht hW => ⟨⟨(fun j => match j with | 0 => q0 | 1 => q1 | 2 => q2 | 3 => q3 | 4 => q4 | 5 => q5 | 6 => q6 | 7 => q7 | _ => q8), rfl, trivial, by rw [ht]; exact hP, hD⟩, hS.F ht⟩) hS.2.2 dX1_init_76 hlocks
def tn_w0 (h0 mm : Nat) (cI cZ : ClassId) (g : Nat → Nat) : va_W := [tn_o h0 0 [.ref mm, .ref (g 0), .ref (g 1), .ref (g 2), .ref (g 3), .ref (g 4), .ref (g 5), .ref (g 6), .ref (g 7), .ref (g 8), .ref (g 9), .ref (g 10), .int 0], tn_e (g 0) cZ 30, tn_e (g 1) cI 30, tn_e (g 2) cI 30, tn_e (g 3) cZ 30, tn_e (g 4) cI 30, tn_e (g 5) cI 30, tn_e (g 6) cI 30, tn_e (g 7) cI 30, tn_e (g 8) cI 30, tn_e (g 9) cI 30, tn_e (g 10) cI 30]
set_option maxHeartbeats 4000000 in
set_option maxRecDepth 100000 in
theorem k_X0_init (l : Launch) (D : va_G) (cI cZ : ClassId) (h0 mm sz : Nat) : Met l yX0_init wzX0_init ({ frames := 2, cells := 11, slots := 330, locals := 56 }) (va_Pc [.ref h0, .ref mm] (fun U => U.heap.size = sz ∧ va_P D vwCl [tn_o h0 0 [.null, .null, .null, .null, .null, .null, .null, .null, .null, .null, .null, .null, .int 0]] U.heap ∧ va_K D vwCl (tw_ty cI cZ) U ∧ va_D (fun _ => True) [tn_o h0 0 [.null, .null, .null, .null, .null, .null, .null, .null, .null, .null, .null, .null, .int 0]])) (va_Qv (fun _ : Nat → Nat => True) (fun g t => va_P D vwCl (tn_w0 h0 mm cI cZ g) t.heap ∧ va_D (va_A [tn_o h0 0 [.null, .null, .null, .null, .null, .null, .null, .null, .null, .null, .null, .null, .int 0]] sz) (tn_w0 h0 mm cI cZ g)) (va_A [tn_o h0 0 [.null, .null, .null, .null, .null, .null, .null, .null, .null, .null, .null, .null, .int 0]] sz)) 11 330 (va_A [tn_o h0 0 [.null, .null, .null, .null, .null, .null, .null, .null, .null, .null, .null, .null, .int 0]] sz) := by
  refine Met.ofW (cc := cX0_init) (maxL := 2) (ret := none) (by decide +kernel) rfl ?_
  intro p e s m args below meth c s₁ B hml hv
  obtain ⟨rfl, hsz, hP, hK, hD0⟩ := hv
  have hts := atoms_spec (ws := wzX0_init) B.pre
  have S : CallFix p m c cX0_init 2 s ([.ref h0, .ref mm] : List Value).toArray wzX0_init RX0 := ⟨B.exec, B.bytes, hml, findClass_of_methodNamed B.named, hts⟩
  have hr := B.returns
  have hlocks := B.notSynchronized
  have hin : meth.name = "<init>" := (name_of_methodNamed B.named B.method).1
  subst hsz
  have hD := hD0.self (sz := s.heap.size)
  generalize hAe : va_A [tn_o h0 0 [.null, .null, .null, .null, .null, .null, .null, .null, .null, .null, .null, .null, .int 0]] s.heap.size = A at hD ⊢
  have hA : ∀ q : Nat, s.heap.size ≤ q → A q := fun q h => by rw [← hAe]; exact Or.inr h
  have hS : va_S A s.heap s.heap [] := va_S.rf
  have hP : va_P D vwCl [tn_o h0 0 [.null, .null, .null, .null, .null, .null, .null, .null, .null, .null, .null, .null, .int 0]] s.heap := hP
  have hl := lv_entry ([.ref h0, .ref mm]) (n := 2) (Nat.le_of_ble_eq_true rfl)
  rw [lg_entry_eq]
  generalize (lg_sl ([.ref h0, .ref mm]) ++ List.replicate (2 - (lg_sl ([.ref h0, .ref mm])).length) Slot.unset).toArray = ls at hl ⊢
  have hl : lv_has ls 2 (lv_args 0 [.ref h0, .ref mm]) := hl
  refine lv_aload_n S.1 S.2.1 dX0_init_0 rfl (lv_at hl 0 rfl) ?_
  refine W.objInit S.1 S.2.1 S.2.2.2.1 (hts _ (tw_in ml_RX0_3 rfl)) (hts _ (tw_in im_objectInit rfl)) (hts _ (tw_in co_objectInit rfl)) rfl (by rw [hml]; exact hl.1) rfl dX0_init_1 (Nat.le_of_ble_eq_true rfl) (Nat.le_of_ble_eq_true rfl) ?_
  refine W.eq (g2 := F0 m 4 ls []) rfl ?_
  refine tn_arr (N := 30) (C := RX0) (T := TX0) (NF := 13) 1 rfl (fun _ _ => tn_rZ) rfl tn_cZ tn_aZ (Nat.le_of_ble_eq_true rfl) S hin hK hP hD hS hA hl rfl rfl rfl tw_v0 tyX0 tyX0_ok nmX0 1 (by decide) fl_RX0_9 rfl rfl rfl (by decide +kernel) (Nat.le_of_ble_eq_true rfl) (by decide) (by decide) ⟨Nat.le_of_ble_eq_true rfl, Nat.le_of_ble_eq_true rfl⟩ dX0_init_4 dX0_init_5 dX0_init_7 dX0_init_9 (fun q0 H locs hP hD hS => ?_)
  have hP : va_P D vwCl [tn_o h0 0 [.null, .ref q0, .null, .null, .null, .null, .null, .null, .null, .null, .null, .null, .int 0], tn_e q0 cZ 30] H := hP
  have hD : va_D A [tn_o h0 0 [.null, .ref q0, .null, .null, .null, .null, .null, .null, .null, .null, .null, .null, .int 0], tn_e q0 cZ 30] := hD
  refine tn_arr (N := 30) (C := RX0) (T := TX0) (NF := 13) 0 rfl (fun _ _ => tn_rI) rfl tn_cI tn_aI (Nat.le_of_ble_eq_true rfl) S hin hK hP hD hS hA hl rfl rfl rfl tw_v0 tyX0 tyX0_ok nmX0 2 (by decide) fl_RX0_15 rfl rfl rfl (by decide +kernel) (Nat.le_of_ble_eq_true rfl) (by decide) (by decide) ⟨Nat.le_of_ble_eq_true rfl, Nat.le_of_ble_eq_true rfl⟩ dX0_init_12 dX0_init_13 dX0_init_15 dX0_init_17 (fun q1 H locs hP hD hS => ?_)
  have hP : va_P D vwCl [tn_o h0 0 [.null, .ref q0, .ref q1, .null, .null, .null, .null, .null, .null, .null, .null, .null, .int 0], tn_e q0 cZ 30, tn_e q1 cI 30] H := hP
  have hD : va_D A [tn_o h0 0 [.null, .ref q0, .ref q1, .null, .null, .null, .null, .null, .null, .null, .null, .null, .int 0], tn_e q0 cZ 30, tn_e q1 cI 30] := hD
  refine tn_arr (N := 30) (C := RX0) (T := TX0) (NF := 13) 0 rfl (fun _ _ => tn_rI) rfl tn_cI tn_aI (Nat.le_of_ble_eq_true rfl) S hin hK hP hD hS hA hl rfl rfl rfl tw_v0 tyX0 tyX0_ok nmX0 3 (by decide) fl_RX0_19 rfl rfl rfl (by decide +kernel) (Nat.le_of_ble_eq_true rfl) (by decide) (by decide) ⟨Nat.le_of_ble_eq_true rfl, Nat.le_of_ble_eq_true rfl⟩ dX0_init_20 dX0_init_21 dX0_init_23 dX0_init_25 (fun q2 H locs hP hD hS => ?_)
  have hP : va_P D vwCl [tn_o h0 0 [.null, .ref q0, .ref q1, .ref q2, .null, .null, .null, .null, .null, .null, .null, .null, .int 0], tn_e q0 cZ 30, tn_e q1 cI 30, tn_e q2 cI 30] H := hP
  have hD : va_D A [tn_o h0 0 [.null, .ref q0, .ref q1, .ref q2, .null, .null, .null, .null, .null, .null, .null, .null, .int 0], tn_e q0 cZ 30, tn_e q1 cI 30, tn_e q2 cI 30] := hD
  refine tn_arr (N := 30) (C := RX0) (T := TX0) (NF := 13) 1 rfl (fun _ _ => tn_rZ) rfl tn_cZ tn_aZ (Nat.le_of_ble_eq_true rfl) S hin hK hP hD hS hA hl rfl rfl rfl tw_v0 tyX0 tyX0_ok nmX0 4 (by decide) fl_RX0_22 rfl rfl rfl (by decide +kernel) (Nat.le_of_ble_eq_true rfl) (by decide) (by decide) ⟨Nat.le_of_ble_eq_true rfl, Nat.le_of_ble_eq_true rfl⟩ dX0_init_28 dX0_init_29 dX0_init_31 dX0_init_33 (fun q3 H locs hP hD hS => ?_)
  have hP : va_P D vwCl [tn_o h0 0 [.null, .ref q0, .ref q1, .ref q2, .ref q3, .null, .null, .null, .null, .null, .null, .null, .int 0], tn_e q0 cZ 30, tn_e q1 cI 30, tn_e q2 cI 30, tn_e q3 cZ 30] H := hP
  have hD : va_D A [tn_o h0 0 [.null, .ref q0, .ref q1, .ref q2, .ref q3, .null, .null, .null, .null, .null, .null, .null, .int 0], tn_e q0 cZ 30, tn_e q1 cI 30, tn_e q2 cI 30, tn_e q3 cZ 30] := hD
  refine tn_arr (N := 30) (C := RX0) (T := TX0) (NF := 13) 0 rfl (fun _ _ => tn_rI) rfl tn_cI tn_aI (Nat.le_of_ble_eq_true rfl) S hin hK hP hD hS hA hl rfl rfl rfl tw_v0 tyX0 tyX0_ok nmX0 5 (by decide) fl_RX0_25 rfl rfl rfl (by decide +kernel) (Nat.le_of_ble_eq_true rfl) (by decide) (by decide) ⟨Nat.le_of_ble_eq_true rfl, Nat.le_of_ble_eq_true rfl⟩ dX0_init_36 dX0_init_37 dX0_init_39 dX0_init_41 (fun q4 H locs hP hD hS => ?_)
  have hP : va_P D vwCl [tn_o h0 0 [.null, .ref q0, .ref q1, .ref q2, .ref q3, .ref q4, .null, .null, .null, .null, .null, .null, .int 0], tn_e q0 cZ 30, tn_e q1 cI 30, tn_e q2 cI 30, tn_e q3 cZ 30, tn_e q4 cI 30] H := hP
  have hD : va_D A [tn_o h0 0 [.null, .ref q0, .ref q1, .ref q2, .ref q3, .ref q4, .null, .null, .null, .null, .null, .null, .int 0], tn_e q0 cZ 30, tn_e q1 cI 30, tn_e q2 cI 30, tn_e q3 cZ 30, tn_e q4 cI 30] := hD
  refine tn_arr (N := 30) (C := RX0) (T := TX0) (NF := 13) 0 rfl (fun _ _ => tn_rI) rfl tn_cI tn_aI (Nat.le_of_ble_eq_true rfl) S hin hK hP hD hS hA hl rfl rfl rfl tw_v0 tyX0 tyX0_ok nmX0 6 (by decide) fl_RX0_28 rfl rfl rfl (by decide +kernel) (Nat.le_of_ble_eq_true rfl) (by decide) (by decide) ⟨Nat.le_of_ble_eq_true rfl, Nat.le_of_ble_eq_true rfl⟩ dX0_init_44 dX0_init_45 dX0_init_47 dX0_init_49 (fun q5 H locs hP hD hS => ?_)
  have hP : va_P D vwCl [tn_o h0 0 [.null, .ref q0, .ref q1, .ref q2, .ref q3, .ref q4, .ref q5, .null, .null, .null, .null, .null, .int 0], tn_e q0 cZ 30, tn_e q1 cI 30, tn_e q2 cI 30, tn_e q3 cZ 30, tn_e q4 cI 30, tn_e q5 cI 30] H := hP
  have hD : va_D A [tn_o h0 0 [.null, .ref q0, .ref q1, .ref q2, .ref q3, .ref q4, .ref q5, .null, .null, .null, .null, .null, .int 0], tn_e q0 cZ 30, tn_e q1 cI 30, tn_e q2 cI 30, tn_e q3 cZ 30, tn_e q4 cI 30, tn_e q5 cI 30] := hD
  refine tn_arr (N := 30) (C := RX0) (T := TX0) (NF := 13) 0 rfl (fun _ _ => tn_rI) rfl tn_cI tn_aI (Nat.le_of_ble_eq_true rfl) S hin hK hP hD hS hA hl rfl rfl rfl tw_v0 tyX0 tyX0_ok nmX0 7 (by decide) fl_RX0_31 rfl rfl rfl (by decide +kernel) (Nat.le_of_ble_eq_true rfl) (by decide) (by decide) ⟨Nat.le_of_ble_eq_true rfl, Nat.le_of_ble_eq_true rfl⟩ dX0_init_52 dX0_init_53 dX0_init_55 dX0_init_57 (fun q6 H locs hP hD hS => ?_)
  have hP : va_P D vwCl [tn_o h0 0 [.null, .ref q0, .ref q1, .ref q2, .ref q3, .ref q4, .ref q5, .ref q6, .null, .null, .null, .null, .int 0], tn_e q0 cZ 30, tn_e q1 cI 30, tn_e q2 cI 30, tn_e q3 cZ 30, tn_e q4 cI 30, tn_e q5 cI 30, tn_e q6 cI 30] H := hP
  have hD : va_D A [tn_o h0 0 [.null, .ref q0, .ref q1, .ref q2, .ref q3, .ref q4, .ref q5, .ref q6, .null, .null, .null, .null, .int 0], tn_e q0 cZ 30, tn_e q1 cI 30, tn_e q2 cI 30, tn_e q3 cZ 30, tn_e q4 cI 30, tn_e q5 cI 30, tn_e q6 cI 30] := hD
  refine tn_arr (N := 30) (C := RX0) (T := TX0) (NF := 13) 0 rfl (fun _ _ => tn_rI) rfl tn_cI tn_aI (Nat.le_of_ble_eq_true rfl) S hin hK hP hD hS hA hl rfl rfl rfl tw_v0 tyX0 tyX0_ok nmX0 8 (by decide) fl_RX0_34 rfl rfl rfl (by decide +kernel) (Nat.le_of_ble_eq_true rfl) (by decide) (by decide) ⟨Nat.le_of_ble_eq_true rfl, Nat.le_of_ble_eq_true rfl⟩ dX0_init_60 dX0_init_61 dX0_init_63 dX0_init_65 (fun q7 H locs hP hD hS => ?_)
  have hP : va_P D vwCl [tn_o h0 0 [.null, .ref q0, .ref q1, .ref q2, .ref q3, .ref q4, .ref q5, .ref q6, .ref q7, .null, .null, .null, .int 0], tn_e q0 cZ 30, tn_e q1 cI 30, tn_e q2 cI 30, tn_e q3 cZ 30, tn_e q4 cI 30, tn_e q5 cI 30, tn_e q6 cI 30, tn_e q7 cI 30] H := hP
  have hD : va_D A [tn_o h0 0 [.null, .ref q0, .ref q1, .ref q2, .ref q3, .ref q4, .ref q5, .ref q6, .ref q7, .null, .null, .null, .int 0], tn_e q0 cZ 30, tn_e q1 cI 30, tn_e q2 cI 30, tn_e q3 cZ 30, tn_e q4 cI 30, tn_e q5 cI 30, tn_e q6 cI 30, tn_e q7 cI 30] := hD
  refine tn_arr (N := 30) (C := RX0) (T := TX0) (NF := 13) 0 rfl (fun _ _ => tn_rI) rfl tn_cI tn_aI (Nat.le_of_ble_eq_true rfl) S hin hK hP hD hS hA hl rfl rfl rfl tw_v0 tyX0 tyX0_ok nmX0 9 (by decide) fl_RX0_37 rfl rfl rfl (by decide +kernel) (Nat.le_of_ble_eq_true rfl) (by decide) (by decide) ⟨Nat.le_of_ble_eq_true rfl, Nat.le_of_ble_eq_true rfl⟩ dX0_init_68 dX0_init_69 dX0_init_71 dX0_init_73 (fun q8 H locs hP hD hS => ?_)
  have hP : va_P D vwCl [tn_o h0 0 [.null, .ref q0, .ref q1, .ref q2, .ref q3, .ref q4, .ref q5, .ref q6, .ref q7, .ref q8, .null, .null, .int 0], tn_e q0 cZ 30, tn_e q1 cI 30, tn_e q2 cI 30, tn_e q3 cZ 30, tn_e q4 cI 30, tn_e q5 cI 30, tn_e q6 cI 30, tn_e q7 cI 30, tn_e q8 cI 30] H := hP
  have hD : va_D A [tn_o h0 0 [.null, .ref q0, .ref q1, .ref q2, .ref q3, .ref q4, .ref q5, .ref q6, .ref q7, .ref q8, .null, .null, .int 0], tn_e q0 cZ 30, tn_e q1 cI 30, tn_e q2 cI 30, tn_e q3 cZ 30, tn_e q4 cI 30, tn_e q5 cI 30, tn_e q6 cI 30, tn_e q7 cI 30, tn_e q8 cI 30] := hD
  refine tn_arr (N := 30) (C := RX0) (T := TX0) (NF := 13) 0 rfl (fun _ _ => tn_rI) rfl tn_cI tn_aI (Nat.le_of_ble_eq_true rfl) S hin hK hP hD hS hA hl rfl rfl rfl tw_v0 tyX0 tyX0_ok nmX0 10 (by decide) fl_RX0_40 rfl rfl rfl (by decide +kernel) (Nat.le_of_ble_eq_true rfl) (by decide) (by decide) ⟨Nat.le_of_ble_eq_true rfl, Nat.le_of_ble_eq_true rfl⟩ dX0_init_76 dX0_init_77 dX0_init_79 dX0_init_81 (fun q9 H locs hP hD hS => ?_)
  have hP : va_P D vwCl [tn_o h0 0 [.null, .ref q0, .ref q1, .ref q2, .ref q3, .ref q4, .ref q5, .ref q6, .ref q7, .ref q8, .ref q9, .null, .int 0], tn_e q0 cZ 30, tn_e q1 cI 30, tn_e q2 cI 30, tn_e q3 cZ 30, tn_e q4 cI 30, tn_e q5 cI 30, tn_e q6 cI 30, tn_e q7 cI 30, tn_e q8 cI 30, tn_e q9 cI 30] H := hP
  have hD : va_D A [tn_o h0 0 [.null, .ref q0, .ref q1, .ref q2, .ref q3, .ref q4, .ref q5, .ref q6, .ref q7, .ref q8, .ref q9, .null, .int 0], tn_e q0 cZ 30, tn_e q1 cI 30, tn_e q2 cI 30, tn_e q3 cZ 30, tn_e q4 cI 30, tn_e q5 cI 30, tn_e q6 cI 30, tn_e q7 cI 30, tn_e q8 cI 30, tn_e q9 cI 30] := hD
  refine tn_arr (N := 30) (C := RX0) (T := TX0) (NF := 13) 0 rfl (fun _ _ => tn_rI) rfl tn_cI tn_aI (Nat.le_of_ble_eq_true rfl) S hin hK hP hD hS hA hl rfl rfl rfl tw_v0 tyX0 tyX0_ok nmX0 11 (by decide) fl_RX0_43 rfl rfl rfl (by decide +kernel) (Nat.le_of_ble_eq_true rfl) (by decide) (by decide) ⟨Nat.le_of_ble_eq_true rfl, Nat.le_of_ble_eq_true rfl⟩ dX0_init_84 dX0_init_85 dX0_init_87 dX0_init_89 (fun q10 H locs hP hD hS => ?_)
  have hP : va_P D vwCl [tn_o h0 0 [.null, .ref q0, .ref q1, .ref q2, .ref q3, .ref q4, .ref q5, .ref q6, .ref q7, .ref q8, .ref q9, .ref q10, .int 0], tn_e q0 cZ 30, tn_e q1 cI 30, tn_e q2 cI 30, tn_e q3 cZ 30, tn_e q4 cI 30, tn_e q5 cI 30, tn_e q6 cI 30, tn_e q7 cI 30, tn_e q8 cI 30, tn_e q9 cI 30, tn_e q10 cI 30] H := hP
  have hD : va_D A [tn_o h0 0 [.null, .ref q0, .ref q1, .ref q2, .ref q3, .ref q4, .ref q5, .ref q6, .ref q7, .ref q8, .ref q9, .ref q10, .int 0], tn_e q0 cZ 30, tn_e q1 cI 30, tn_e q2 cI 30, tn_e q3 cZ 30, tn_e q4 cI 30, tn_e q5 cI 30, tn_e q6 cI 30, tn_e q7 cI 30, tn_e q8 cI 30, tn_e q9 cI 30, tn_e q10 cI 30] := hD
  refine lv_aload_n S.1 S.2.1 dX0_init_92 rfl (lv_at hl 0 rfl) ?_
  refine lv_aload_n S.1 S.2.1 dX0_init_93 rfl (lv_at hl 1 rfl) ?_
  refine va_putF (ref := RX0) (C := RX0) (T := TX0) (N := 13) (v := .ref mm) (ty := .object "Threadline$Mail") S.1 S.2.1 S.2.2.2.2 tw_v0 tyX0 tyX0_ok nmX0 S.2.2.2.1 hK hP hD hS 0 rfl rfl 0 (by decide) (hts _ (tw_in fl_RX0_46 rfl)) (fun _ h9 => h9) rfl hin rfl (by decide +kernel) rfl rfl (Nat.le_of_ble_eq_true rfl) dX0_init_94 (fun H locs hP hD hS => ?_)
  have hP : va_P D vwCl [tn_o h0 0 [.ref mm, .ref q0, .ref q1, .ref q2, .ref q3, .ref q4, .ref q5, .ref q6, .ref q7, .ref q8, .ref q9, .ref q10, .int 0], tn_e q0 cZ 30, tn_e q1 cI 30, tn_e q2 cI 30, tn_e q3 cZ 30, tn_e q4 cI 30, tn_e q5 cI 30, tn_e q6 cI 30, tn_e q7 cI 30, tn_e q8 cI 30, tn_e q9 cI 30, tn_e q10 cI 30] H := hP
  have hD : va_D A [tn_o h0 0 [.ref mm, .ref q0, .ref q1, .ref q2, .ref q3, .ref q4, .ref q5, .ref q6, .ref q7, .ref q8, .ref q9, .ref q10, .int 0], tn_e q0 cZ 30, tn_e q1 cI 30, tn_e q2 cI 30, tn_e q3 cZ 30, tn_e q4 cI 30, tn_e q5 cI 30, tn_e q6 cI 30, tn_e q7 cI 30, tn_e q8 cI 30, tn_e q9 cI 30, tn_e q10 cI 30] := hD
  exact W.vret S.1 S.2.1 hr (fun t ht hW => ⟨⟨(fun j => match j with | 0 => q0 | 1 => q1 | 2 => q2 | 3 => q3 | 4 => q4 | 5 => q5 | 6 => q6 | 7 => q7 | 8 => q8 | 9 => q9 | _ => q10), rfl, trivial, by rw [ht]; exact hP, hD⟩, hS.F ht⟩) hS.2.2 dX0_init_97 hlocks
end
section
/-! ===== constructors: the class ===== -/
theorem tn_Dmap {A : Nat → Prop} {ws ws' : va_W} (h : va_D A ws) (e : ws.map Prod.fst = ws'.map Prod.fst) : va_D A ws' := by
  have key : ∀ (i : Nat) (p : Nat × va_E), ws'[i]? = some p → ∃ p0 : Nat × va_E, ws[i]? = some p0 ∧ p0.1 = p.1 := by
    intro i p hp
    have h1 : (ws'.map Prod.fst)[i]? = some p.1 := by rw [List.getElem?_map, hp]; rfl
    rw [← e, List.getElem?_map] at h1
    cases h2 : ws[i]? with
    | none => rw [h2] at h1; cases h1
    | some p0 =>
      rw [h2] at h1
      exact ⟨p0, rfl, Option.some.inj h1⟩
  refine ⟨fun i j p q hp hq hpq => ?_, fun k q hk => ?_⟩
  · obtain ⟨p0, a1, a2⟩ := key i p hp
    obtain ⟨q0, b1, b2⟩ := key j q hq
    exact h.1 i j p0 q0 a1 b1 (by rw [a2, b2]; exact hpq)
  · obtain ⟨p0, a1, a2⟩ := key k q hk
    rw [← a2]
    exact h.2 k p0 a1
set_option maxRecDepth 100000 in
theorem tn_c7 : Cond.classLink RX2 7 RX1 ∈ lw_tbl := by decide +kernel
set_option maxRecDepth 100000 in
theorem tn_c16 : Cond.classLink RX2 16 RX0 ∈ lw_tbl := by decide +kernel
set_option maxRecDepth 100000 in
theorem tn_i1 : Cond.instantiable RX1 9 ∈ lw_tbl := by decide +kernel
set_option maxRecDepth 100000 in
theorem tn_i0 : Cond.instantiable RX0 13 ∈ lw_tbl := by decide +kernel
set_option maxHeartbeats 4000000 in
set_option maxRecDepth 100000 in
theorem k_X2_init (l : Launch) (D : va_G) (cI cZ : ClassId) (h0 sz : Nat) : Met l yX2_init wzX2_init ({ frames := 3, cells := 22, slots := 622, locals := 112 }) (va_Pc [.ref h0] (fun U => U.heap.size = sz ∧ va_P D vwCl [tn_o h0 2 [.null, .null]] U.heap ∧ va_K D vwCl (tw_ty cI cZ) U ∧ tg_NU tw_nl U ∧ va_D (fun _ => True) [tn_o h0 2 [.null, .null]])) (va_Qv (fun h : Nat → Nat => h 0 = h0) (fun h t => va_P D vwCl (tw_T h cI cZ (fun _ _ => 0)) t.heap ∧ va_D (va_A [tn_o h0 2 [.null, .null]] sz) (tw_T h cI cZ (fun _ _ => 0))) (va_A [tn_o h0 2 [.null, .null]] sz)) 22 622 (va_A [tn_o h0 2 [.null, .null]] sz) := by
  refine Met.ofW (cc := cX2_init) (maxL := 1) (ret := none) (by decide +kernel) rfl ?_
  intro p e s m args below meth c s₁ B hml hv
  obtain ⟨rfl, hsz, hP, hK, hN, hD0⟩ := hv
  have hts := atoms_spec (ws := wzX2_init) B.pre
  have S : CallFix p m c cX2_init 1 s ([.ref h0] : List Value).toArray wzX2_init RX2 := ⟨B.exec, B.bytes, hml, findClass_of_methodNamed B.named, hts⟩
  have hr := B.returns
  have hlocks := B.notSynchronized
  have hin : meth.name = "<init>" := (name_of_methodNamed B.named B.method).1
  subst hsz
  have hD := hD0.self (sz := s.heap.size)
  generalize hAe : va_A [tn_o h0 2 [.null, .null]] s.heap.size = A at hD ⊢
  have hA : ∀ q : Nat, s.heap.size ≤ q → A q := fun q h => by rw [← hAe]; exact Or.inr h
  have hS : va_S A s.heap s.heap [] := va_S.rf
  have hP : va_P D vwCl [tn_o h0 2 [.null, .null]] s.heap := hP
  have hl := lv_entry ([.ref h0]) (n := 1) (Nat.le_of_ble_eq_true rfl)
  rw [lg_entry_eq]
  generalize (lg_sl ([.ref h0]) ++ List.replicate (1 - (lg_sl ([.ref h0])).length) Slot.unset).toArray = ls at hl ⊢
  have hl : lv_has ls 1 [(0, .ref h0)] := hl
  refine lv_aload_n S.1 S.2.1 dX2_init_0 rfl (lv_at hl 0 rfl) ?_
  refine W.objInit S.1 S.2.1 S.2.2.2.1 (hts _ (tw_in ml_RX2_1 rfl)) (hts _ (tw_in im_objectInit rfl)) (hts _ (tw_in co_objectInit rfl)) rfl (by rw [hml]; exact hl.1) rfl dX2_init_1 (Nat.le_of_ble_eq_true rfl) (Nat.le_of_ble_eq_true rfl) ?_
  refine W.eq (g2 := F0 m 4 ls []) rfl ?_
  refine lv_aload_n S.1 S.2.1 dX2_init_4 rfl (lv_at hl 0 rfl) ?_
  refine va_new (ci := 1) (fs := [.null, .null, .null, .null, .null, .null, .null, .null, .null]) (C := RX1) (T := TX1) (N := 9) S.1 S.2.1 hts tw_v1 tyX1 tyX1_ok S.2.2.2.1 (hts _ (tw_in tn_c7 rfl)) (hts _ (tw_in tn_i1 rfl)) (hts _ (tw_in in_RX1 rfl)) hK hP hD hS hA rfl (fun j hj => by rcases (show j = 0 ∨ j = 1 ∨ j = 2 ∨ j = 3 ∨ j = 4 ∨ j = 5 ∨ j = 6 ∨ j = 7 ∨ j = 8 by omega) with rfl | rfl | rfl | rfl | rfl | rfl | rfl | rfl | rfl <;> rfl) (Nat.le_of_ble_eq_true rfl) (Nat.le_of_ble_eq_true rfl) dX2_init_5 (fun q5 H hP hD hS => ?_)
  have hP : va_P D vwCl [tn_o h0 2 [.null, .null], tn_o q5 1 [.null, .null, .null, .null, .null, .null, .null, .null, .null]] H := hP
  have hD : va_D A [tn_o h0 2 [.null, .null], tn_o q5 1 [.null, .null, .null, .null, .null, .null, .null, .null, .null]] := hD
  refine lv_dup S.1 S.2.1 dX2_init_8 rfl ?_
  have hPc := hP.sub (ws' := [tn_o q5 1 [.null, .null, .null, .null, .null, .null, .null, .null, .null]]) [1] rfl
  have hDc := hD.sub (ws' := [tn_o q5 1 [.null, .null, .null, .null, .null, .null, .null, .null, .null]]) [1] (by decide) rfl
  have hFc := va_free (wc := [tn_o q5 1 [.null, .null, .null, .null, .null, .null, .null, .null, .null]]) hD hS hA [1] rfl
  refine va_callv (va_runIN (host := RX2) (As := []) (rest := [.ref q5, .ref h0]) S (k_X1_init l D cI cZ q5 H.size) ⟨va_cnB 0 hts (tw_gW co_X1_init rfl) rfl rfl rfl (hN _ (List.mem_of_getElem? (i := 0) rfl)) (hts _ (tw_in in_RX1 rfl)) (by decide +kernel) ⟨Nat.le_of_ble_eq_true rfl, Nat.le_of_ble_eq_true rfl⟩, rfl, hts _ (tw_in im_X1_init rfl)⟩ ⟨fun a U g mk q => by obtain ⟨b0, b1, bP, bK, bD⟩ := q; exact ⟨b0, b1, bP, va_K.moved (u := U) (U := U.calling g mk a) (Vm.Alike.refl U.vm) bK, bD⟩, fun U hU hW => ⟨rfl, by rw [hU], by rw [hU]; exact hPc, va_K.moved hW.alike hK, hDc.weaken (fun _ _ _ _ => trivial)⟩⟩ rfl rfl hl.1 rfl (lv_room (Nat.le_of_ble_eq_true rfl)) dX2_init_9 ⟨Nat.le_of_ble_eq_true rfl, Nat.le_of_ble_eq_true rfl⟩) hS (fun q _ h => hFc q h) hFc (fun u t H1 locs ht hvm h5 hB hz1 hk1 hS => ?_)
  obtain ⟨hP1, hD1⟩ := hB
  rw [ht] at hP1
  obtain ⟨hP, hD⟩ := va_join (wr := [tn_o h0 2 [.null, .null]]) (w1 := tn_w1 q5 cI cZ u) hP hD [1] [0] rfl rfl (by decide) (by decide) hk1 hFc hP1 hD1
  generalize H1 = H at hP hS ⊢
  refine va_putF (ref := RX2) (C := RX2) (T := TX2) (N := 2) (v := .ref q5) (ty := .object "Threadline$Mail") S.1 S.2.1 hts tw_v2 tyX2 tyX2_ok nmX2 S.2.2.2.1 hK hP hD hS 0 rfl rfl 0 (by decide) (hts _ (tw_in fl_RX2_10 rfl)) (fun _ h9 => h9) rfl hin rfl (by decide +kernel) rfl rfl (Nat.le_of_ble_eq_true rfl) dX2_init_12 (fun H locs hP hD hS => ?_)
  have hP : va_P D vwCl (tn_o h0 2 [.ref q5, .null] :: tn_w1 q5 cI cZ u) H := hP
  have hD : va_D A (tn_o h0 2 [.ref q5, .null] :: tn_w1 q5 cI cZ u) := hD
  refine lv_aload_n S.1 S.2.1 dX2_init_15 rfl (lv_at hl 0 rfl) ?_
  refine va_new (ci := 0) (fs := [.null, .null, .null, .null, .null, .null, .null, .null, .null, .null, .null, .null, .int 0]) (C := RX0) (T := TX0) (N := 13) S.1 S.2.1 hts tw_v0 tyX0 tyX0_ok S.2.2.2.1 (hts _ (tw_in tn_c16 rfl)) (hts _ (tw_in tn_i0 rfl)) (hts _ (tw_in in_RX0 rfl)) hK hP hD hS hA rfl (fun j hj => by rcases (show j = 0 ∨ j = 1 ∨ j = 2 ∨ j = 3 ∨ j = 4 ∨ j = 5 ∨ j = 6 ∨ j = 7 ∨ j = 8 ∨ j = 9 ∨ j = 10 ∨ j = 11 ∨ j = 12 by omega) with rfl | rfl | rfl | rfl | rfl | rfl | rfl | rfl | rfl | rfl | rfl | rfl | rfl <;> rfl) (Nat.le_of_ble_eq_true rfl) (Nat.le_of_ble_eq_true rfl) dX2_init_16 (fun q16 H hP hD hS => ?_)
  refine lv_dup S.1 S.2.1 dX2_init_19 rfl ?_
  refine lv_aload_n S.1 S.2.1 dX2_init_20 rfl (lv_at hl 0 rfl) ?_
  refine va_get (D := D) (ci := 2) (v := .ref q5) (C := RX2) (T := TX2) (N := 2) S.1 S.2.1 hts tw_v2 S.2.2.2.1 hK hP 0 rfl rfl 0 (by decide) (hts _ (tw_in fl_RX2_10 rfl)) (fun _ h9 => h9) rfl dX2_init_21 ?_
  have hPc := hP.sub (ws' := [tn_o q16 0 [.null, .null, .null, .null, .null, .null, .null, .null, .null, .null, .null, .null, .int 0]]) [11] rfl
  have hDc := hD.sub (ws' := [tn_o q16 0 [.null, .null, .null, .null, .null, .null, .null, .null, .null, .null, .null, .null, .int 0]]) [11] (by decide) rfl
  have hFc := va_free (wc := [tn_o q16 0 [.null, .null, .null, .null, .null, .null, .null, .null, .null, .null, .null, .null, .int 0]]) hD hS hA [11] rfl
  refine va_callv (va_runIN (host := RX2) (As := [.ref q5]) (rest := [.ref q16, .ref h0]) S (k_X0_init l D cI cZ q16 q5 H.size) ⟨va_cnB 1 hts (tw_gW co_X0_init rfl) rfl rfl rfl (hN _ (List.mem_of_getElem? (i := 1) rfl)) (hts _ (tw_in in_RX0 rfl)) (by decide +kernel) ⟨Nat.le_of_ble_eq_true rfl, Nat.le_of_ble_eq_true rfl⟩, rfl, hts _ (tw_in im_X0_init rfl)⟩ ⟨fun a U g mk q => by obtain ⟨b0, b1, bP, bK, bD⟩ := q; exact ⟨b0, b1, bP, va_K.moved (u := U) (U := U.calling g mk a) (Vm.Alike.refl U.vm) bK, bD⟩, fun U hU hW => ⟨rfl, by rw [hU], by rw [hU]; exact hPc, va_K.moved hW.alike hK, hDc.weaken (fun _ _ _ _ => trivial)⟩⟩ rfl rfl hl.1 rfl (lv_room (Nat.le_of_ble_eq_true rfl)) dX2_init_24 ⟨Nat.le_of_ble_eq_true rfl, Nat.le_of_ble_eq_true rfl⟩) hS (fun q _ h => hFc q h) hFc (fun u2 t H1 locs ht hvm h5 hB hz1 hk1 hS => ?_)
  obtain ⟨hP1, hD1⟩ := hB
  rw [ht] at hP1
  obtain ⟨hP, hD⟩ := va_join (wr := tn_o h0 2 [.ref q5, .null] :: tn_w1 q5 cI cZ u) (w1 := tn_w0 q16 q5 cI cZ u2) hP hD [11] [0, 1, 2, 3, 4, 5, 6, 7, 8, 9, 10] rfl rfl (by decide) (by decide) hk1 hFc hP1 hD1
  generalize H1 = H at hP hS ⊢
  refine va_putF (ref := RX2) (C := RX2) (T := TX2) (N := 2) (v := .ref q16) (ty := .object "Threadline$Forest") S.1 S.2.1 hts tw_v2 tyX2 tyX2_ok nmX2 S.2.2.2.1 hK hP hD hS 0 rfl rfl 1 (by decide) (hts _ (tw_in fl_RX2_21 rfl)) (fun _ h9 => h9) rfl hin rfl (by decide +kernel) rfl rfl (Nat.le_of_ble_eq_true rfl) dX2_init_27 (fun H locs hP hD hS => ?_)
  have hP : va_P D vwCl ((tn_o h0 2 [.ref q5, .ref q16] :: tn_w1 q5 cI cZ u) ++ tn_w0 q16 q5 cI cZ u2) H := hP
  have hD : va_D A ((tn_o h0 2 [.ref q5, .ref q16] :: tn_w1 q5 cI cZ u) ++ tn_w0 q16 q5 cI cZ u2) := hD
  obtain ⟨h, hh⟩ : ∃ h : Nat → Nat, h = (fun j => match j with | 0 => h0 | 1 => q5 | 2 => q16 | 3 => u 0 | 4 => u 1 | 5 => u 2 | 6 => u 3 | 7 => u 4 | 8 => u 5 | 9 => u 6 | 10 => u 7 | 11 => u 8 | 12 => u2 0 | 13 => u2 1 | 14 => u2 2 | 15 => u2 3 | 16 => u2 4 | 17 => u2 5 | 18 => u2 6 | 19 => u2 7 | 20 => u2 8 | 21 => u2 9 | _ => u2 10) := ⟨_, rfl⟩
  have hP9 := hP.sub (ws' := tw_T h cI cZ (fun _ _ => 0)) [0, 1, 11, 2, 3, 4, 5, 6, 7, 8, 9, 10, 12, 13, 14, 15, 16, 17, 18, 19, 20, 21, 22] (by rw [hh]; rfl)
  have hD9 := hD.sub (ws' := tw_T h cI cZ (fun _ _ => 0)) [0, 1, 11, 2, 3, 4, 5, 6, 7, 8, 9, 10, 12, 13, 14, 15, 16, 17, 18, 19, 20, 21, 22] (by decide) (by rw [hh]; rfl)
  have e0 : h 0 = h0 := by subst hh; rfl
  exact W.vret S.1 S.2.1 hr (fun t ht hW => ⟨⟨h, rfl, e0, by rw [ht]; exact hP9, hD9⟩, hS.F ht⟩) hS.2.2 dX2_init_30 hlocks
end
section
/-! ===== 13: the law's helpers: rows ===== -/
def tl_TX (A : Nat → Prop) (U : State) : Prop := tx_TX A U ∧ va_Nc tx_J tx_I U ∧ va_Nc tx_O tx_I U
theorem tx_TX.narrow {A B : Nat → Prop} {U : State} (h : tx_TX A U) (hAB : ∀ q, B q → A q) : tx_TX B U := ⟨h.1, h.2.1, h.2.2.1, h.2.2.2.1.narrow hAB, h.2.2.2.2.narrow hAB⟩
def tl_Pre (w : tg_Mem → va_W) (D : va_G) (tys : List (ClassId × FieldType)) (nl : List (String × Nat × MethodName × String)) (A : Nat → Prop) (As : List Value) (σ : tg_Mem) : Array Value → State → Prop :=
  va_Pc As (fun U => va_P D vwCl (w σ) U.heap ∧ va_K D vwCl tys U ∧ tg_NU nl U ∧ tl_TX A U)

theorem tl_ofX {l : Launch} {y : MethodName} {ws : List Cond} {rm : Room} {Pc : Array Value → State → Prop} {Qc : Array Value → State → Outcome → State → Prop} {mc ms : Nat} {free : Addr → Prop} (h : vx_Met l y ws rm Pc Qc (fun _ _ _ => False) mc ms free) : Met l y ws rm Pc Qc mc ms free := by
  intro p e a1 a2 a3 s m args below a4 a5 a6 a7
  obtain ⟨n, o, b1, b2, b3, b4⟩ := h p e a1 a2 a3 s m args below a4 a5 a6 a7
  refine ⟨n, o, b1, b2, b3, ?_⟩
  rcases b4 with h | ⟨q, -, E, ce, L, hx, -⟩
  · exact h
  · exact hx.elim

def vl_k (ex : Option String) (v : Int32) : Int32 := match ex with | none => v | some _ => -9
theorem vl_kN {ex : Option String} {v : Int32} (h : ex = none) : v = vl_k ex v := by subst h; rfl
theorem vl_kS {ex : Option String} {v : Int32} {E : String} (h : ex = some E) : -9 = vl_k ex v := by subst h; rfl
def tl_s {X : Type} (ex : Option String) (a b : X) : X := match ex with | none => a | some _ => b
theorem vl_sN {X : Type} {ex : Option String} {a b : X} (h : ex = none) : a = tl_s ex a b := by subst h; rfl
theorem vl_sS {X : Type} {ex : Option String} {a b : X} {E : String} (h : ex = some E) : b = tl_s ex a b := by subst h; rfl
def vl_Q (ex : Option String) (w : tg_Mem → va_W) (D : va_G) (A : Nat → Prop) (k : Int32) (σ' : tg_Mem) : Array Value → State → Outcome → State → Prop := fun a st o t => (ex = none ∨ st.heap.size < t.heap.size) ∧ tg_PT w D A (some (.int k)) σ' a st o t
/-- a helper's contract: it returns k and leaves σ'; where the class has thrown, a cell is new -/
def vl_CT (l : Launch) (y : MethodName) (ws : List Cond) (rm : Room) (w : tg_Mem → va_W) (tys : List (ClassId × FieldType)) (nl : List (String × Nat × MethodName × String)) (A : Nat → Prop) (D : va_G) (As : List Value) (σ : tg_Mem) (ex : Option String) (k : Int32) (σ' : tg_Mem) : Prop :=
  Met l y ws rm (tl_Pre w D tys nl A As σ) (vl_Q ex w D A k σ') 1 6 A
section TL
variable {p : Program} {l : Launch} {e : Env} {R : Room} {s : State} {m : MethodId} {args : Array Value} {below : List Frame} {meth : Method} {c : Code} {D : va_G} {w w2 : tg_Mem → va_W} {A : Nat → Prop} {n k z : Nat} {Q : State → Prop}
variable {cc : ByteArray} {Ts : List Cond} {own : String} {σ : tg_Mem} {pc : Nat} {L L' : List (Nat × Value)} {st : List Value}

theorem tl_astore_n (ps : List Nat) (S : CallFix p m c cc n s args Ts own) {j : Fin 4} {x i : Nat} (d : decode cc pc = .ok (.astore_n j, 1)) (hj : (j : Nat) = i) (hi : i < n) (hL : lv_pick ((i, Value.ref x) :: L.filter (fun q => !(q.1 == i) && !(q.1 + 1 == i && q.2.category == 2))) ps = L') (kk : tg_G p l e R s m args below meth c D w A n k z Q σ (pc + 1) L' st) : tg_G p l e R s m args below meth c D w A n k z Q σ pc L (.ref x :: st) :=
  fun H locs ls hP hS hl => lv_astore_n S.1 S.2.1 d hj hl hi rfl (fun ls2 hl2 => kk H locs ls2 hP hS (hL ▸ lv_sub hl2 ps rfl))
theorem tl_astore (ps : List Nat) (S : CallFix p m c cc n s args Ts own) {x i : Nat} (d : decode cc pc = .ok (.astore i, 2)) (hi : i < n) (hL : lv_pick ((i, Value.ref x) :: L.filter (fun q => !(q.1 == i) && !(q.1 + 1 == i && q.2.category == 2))) ps = L') (kk : tg_G p l e R s m args below meth c D w A n k z Q σ (pc + 2) L' st) : tg_G p l e R s m args below meth c D w A n k z Q σ pc L (.ref x :: st) :=
  fun H locs ls hP hS hl => lv_astore S.1 S.2.1 d hl hi rfl (fun ls2 hl2 => kk H locs ls2 hP hS (hL ▸ lv_sub hl2 ps rfl))

theorem vl_irem {x y v : Int32} (S : CallFix p m c cc n s args Ts own) (d : decode cc pc = .ok (.irem, 1)) (hne : ¬ y = 0) (hv : x - x / y * y = v) (kk : tg_G p l e R s m args below meth c D w A n k z Q σ (pc + 1) L (.int v :: st)) : tg_G p l e R s m args below meth c D w A n k z Q σ pc L (.int y :: .int x :: st) := by
  subst hv
  exact fun H locs ls hP hS hl => lv_irem S.1 S.2.1 d hne (kk H locs ls hP hS hl)
theorem vl_idiv {x y v : Int32} (S : CallFix p m c cc n s args Ts own) (d : decode cc pc = .ok (.idiv, 1)) (hne : ¬ y = 0) (hv : x / y = v) (kk : tg_G p l e R s m args below meth c D w A n k z Q σ (pc + 1) L (.int v :: st)) : tg_G p l e R s m args below meth c D w A n k z Q σ pc L (.int y :: .int x :: st) := by
  subst hv
  exact fun H locs ls hP hS hl => lv_idiv S.1 S.2.1 d hne (kk H locs ls hP hS hl)
theorem vl_imul {x y v : Int32} (S : CallFix p m c cc n s args Ts own) (d : decode cc pc = .ok (.imul, 1)) (hv : x * y = v) (kk : tg_G p l e R s m args below meth c D w A n k z Q σ (pc + 1) L (.int v :: st)) : tg_G p l e R s m args below meth c D w A n k z Q σ pc L (.int y :: .int x :: st) := by
  subst hv
  exact fun H locs ls hP hS hl => lv_imul S.1 S.2.1 d (kk H locs ls hP hS hl)
theorem vl_iadd {x y v : Int32} (S : CallFix p m c cc n s args Ts own) (d : decode cc pc = .ok (.iadd, 1)) (hv : x + y = v) (kk : tg_G p l e R s m args below meth c D w A n k z Q σ (pc + 1) L (.int v :: st)) : tg_G p l e R s m args below meth c D w A n k z Q σ pc L (.int y :: .int x :: st) := by
  subst hv
  exact fun H locs ls hP hS hl => lv_iadd S.1 S.2.1 d (kk H locs ls hP hS hl)
theorem vl_isub {x y v : Int32} (S : CallFix p m c cc n s args Ts own) (d : decode cc pc = .ok (.isub, 1)) (hv : x - y = v) (kk : tg_G p l e R s m args below meth c D w A n k z Q σ (pc + 1) L (.int v :: st)) : tg_G p l e R s m args below meth c D w A n k z Q σ pc L (.int y :: .int x :: st) := by
  subst hv
  exact fun H locs ls hP hS hl => lv_isub S.1 S.2.1 d (kk H locs ls hP hS hl)
/-- the class's method called: it returns, or what it throws goes on, and a cell is new -/
theorem vl_call {h : Nat → Nat} {cI cZ : ClassId} {y : MethodName} {bytes : ByteArray} {maxL index fr nA : Nat} {ret : Option FieldType} {ws ws' : List Cond} {As rest : List Value} {r : Option Value} {ex : Option String} {σ2 : tg_Mem}
    (S : CallFix p m c cc n s args Ts own) (hK : va_K D vwCl (tw_ty cI cZ) s) (hN : tg_NU tw_nl s) (hX : tx_TX (tw_A 23 h) s) (hM : tx_CT l y ws (tx_rm fr) (tw_T h cI cZ) (tw_ty cI cZ) tw_nl (tw_A 23 h) D (.ref (h 0) :: As) σ ex r σ2)
    (hG : GoodIn Ts (wsV own index RX2 y ws)) (hw : ws = Cond.code y bytes maxL ret :: ws') (hdd : y.cls = RX2 ∧ y.cls ≠ "java/lang/invoke/MethodHandle" ∧ y.cls ≠ "java/lang/invoke/VarHandle" ∧ (parseMethodDescriptor y.desc).map (fun d => d.parameters.length) = some nA) (hR : fr + 1 ≤ R.frames ∧ 8 + (maxL + 11) + 28 * fr ≤ R.locals)
    (hnA : As.length = nA) (hst : st = As.reverse ++ .ref (h 0) :: rest) (hcat : (rest.map fun v => v.category).sum ≤ 8) (d : decode cc pc = .ok (.invokevirtual index, 3)) (hf : 1 ≤ R.cells ∧ 6 ≤ R.slots)
    (kx : ∀ E, ex = some E → ∀ (H : Heap) (locs : List Loc) (ls : Array Slot) (q : Addr) (ce : Cell), va_P D vwCl (tw_T h cI cZ σ) H → va_S (tw_A 23 h) s.heap H locs → s.heap.size < H.size → lv_has ls n L → H[q]? = some ce → ce.vm = .none → s.vm.findClass E = some ce.cls → vx_W p l e R s m args below meth c H locs 1 6 Q (F0 m pc ls rest) q)
    (kk : ex = none → tg_G p l e R s m args below meth c D (tw_T h cI cZ) (tw_A 23 h) n 1 6 Q σ2 (pc + 3) L (r.toList ++ rest)) :
    tg_G p l e R s m args below meth c D (tw_T h cI cZ) (tw_A 23 h) n 0 0 Q σ pc L st := by
  intro H locs ls hP hS hl T hT X
  have hst2 : ∀ (H1 : Heap) (Lc : List Loc), H.size ≤ H1.size → (∀ q : Nat, q < H.size → ¬ tw_A 23 h q → H1[q]? = H[q]?) → (∀ q ∈ Lc, tw_A 23 h q.base) → va_S (tw_A 23 h) s.heap H1 (locs ++ Lc) := by
    intro H1 Lc hz hk hL
    exact ⟨Nat.le_trans hS.1 hz, fun q h1 h2 => by rw [hk q (Nat.lt_of_lt_of_le h1 hS.1) h2]; exact hS.2.1 q h1 h2, fun q hq => by
      rcases List.mem_append.mp hq with h | h
      · exact hS.2.2 q h
      · exact hL q h⟩
  have hpre : PreV s H RX2 (h 0) (tx_Pre (tw_T h cI cZ) D (tw_ty cI cZ) tw_nl (tw_A 23 h) (.ref (h 0) :: As) σ) As :=
    ⟨tx_blind, va_recv (q := (RX2, TX2, 2)) (ci := 2) (q0 := 0) hK hP rfl rfl, fun U hU hW => ⟨rfl, by rw [hU]; exact hP, va_K.moved hW.alike hK, hN.warm hW, hX.call hW hU hS⟩⟩
  rcases vx_runV (As := As) (rest := rest) S hM (cwV nA S.2.2.2.2 hG hw rfl rfl hdd hR) hpre rfl hnA hl.1 hst (lv_room hcat) d hf T hT X with ⟨v, st₀, t, T', Lc, h0, X', hL, e1, e2, ⟨hx, hsz, hv, hPt2, hz, hk⟩, sg⟩ | ⟨q, st₀, t, T', Lc, E, ce, h0, X', hL, e1, e2, ⟨hx, hlt, hPt2, hz, hk⟩, hce, hcv, hcl, sg⟩
  · cases hv
    rw [h0] at hz hk
    obtain ⟨t2, a1, b1⟩ := kk hx T'.heap (locs ++ Lc) ls (by rw [e1]; exact hPt2) (by rw [e1]; exact hst2 _ _ hz hk hL) hl T' rfl X'
    exact ⟨t2, sg t2 a1, b1⟩
  · rw [h0] at hlt hz hk
    obtain ⟨t2, a1, b1⟩ := kx E hx T'.heap (locs ++ Lc) ls q ce (by rw [e1]; exact hPt2) (by rw [e1]; exact hst2 _ _ hz hk hL) (by rw [e1]; exact Nat.lt_of_le_of_lt hS.1 hlt) hl (by rw [e1]; exact hce) hcv hcl T' rfl X'
    exact ⟨t2, sg.trans a1, b1⟩
/-- a helper's end, without a throw -/
theorem vl_ret {v v' : Int32} {σ' : tg_Mem} {ex : Option String} {XC : String → State → State → Prop} (S : CallFix p m c cc n s args Ts own) (hr : meth.sig.returnType = some .int) (hlk : meth.locks = false) (d : decode cc pc = .ok (.ireturn, 1)) (hx : ex = none) (hv : v = v') (hσ : σ = σ') : tg_G p l e R s m args below meth c D w A n 1 6 (vx_MQ below (vl_Q ex w D A v' σ') XC args s 1 6 A) σ pc L [.int v] := by
  subst hv
  subst hσ
  exact fun H locs ls hP hS hl => vx_ret (W.iret S.1 S.2.1 hr (fun t ht hW => ⟨Or.inl hx, rfl, by rw [ht]; exact hP, hS.F ht⟩) hS.2.2 d hlk)
/-- behind a catch: -9 -/
theorem vl_hand {v' : Int32} {σ' : tg_Mem} {ex : Option String} {XC : String → State → State → Prop} {H : Heap} {locs : List Loc} {ls : Array Slot} (S : CallFix p m c cc n s args Ts own) (hr : meth.sig.returnType = some .int) (hlk : meth.locks = false) (hP : va_P D vwCl (w σ) H) (hS : va_S A s.heap H locs) (hlt : s.heap.size < H.size) (hl : ls.size = n) (d1 : decode cc pc = .ok (.bipush (-9), 2)) (d2 : decode cc (pc + 2) = .ok (.ireturn, 1)) (hv : -9 = v') (hσ : σ = σ') : W p l e R s m args below meth c H locs 1 6 (vx_MQ below (vl_Q ex w D A v' σ') XC args s 1 6 A) (F0 m pc ls []) := by
  subst hv
  subst hσ
  refine lv_bipush (v := -9) S.1 S.2.1 d1 (by decide) ?_
  exact vx_ret (W.iret S.1 S.2.1 hr (fun t ht hW => ⟨Or.inr (by rw [ht]; exact hlt), rfl, by rw [ht]; exact hP, hS.F ht⟩) hS.2.2 d2 hlk)

/-- caught by the first handler; by the second -/
theorem tl_catch1 {E : String} {q : Addr} {ce : Cell} {H : Heap} {locs : List Loc} {ls : Array Slot} {rest : List Value} {x : Cond} {x1 : ExceptionTableEntry} {suf : List ExceptionTableEntry} (S : CallFix p m c cc n s args (x :: tw_G) own) (ht : c.exceptionTable.toList = x1 :: suf) (hx : covers x1 pc = true) (h0 : x1.catchType ≠ 0) (hlink : Cond.classLink own x1.catchType E ∈ lw_tbl) (hcast : va_Nw (.castable E E) s)
    (hce : H[q]? = some ce) (hcv : ce.vm = .none) (hcl : s.vm.findClass E = some ce.cls) (kk : W p l e R s m args below meth c H locs k z Q (F0 m x1.handlerPc ls [.ref q])) : vx_W p l e R s m args below meth c H locs k z Q (F0 m pc ls rest) q :=
  vx_catch S.2.2.2.1 [] x1 suf ht (fun _ h => nomatch h) hx h0 (S.2.2.2.2 _ (tw_in hlink rfl)) (va_Nw.use rfl hcast) hce hcv hcl kk
theorem tl_catch2 {E E1 : String} {q : Addr} {ce : Cell} {H : Heap} {locs : List Loc} {ls : Array Slot} {rest : List Value} {x : Cond} {x1 x2 : ExceptionTableEntry} {suf : List ExceptionTableEntry} (S : CallFix p m c cc n s args (x :: tw_G) own) (ht : c.exceptionTable.toList = x1 :: x2 :: suf) (h1 : x1.catchType ≠ 0) (hl1 : Cond.classLink own x1.catchType E1 ∈ lw_tbl) (hn : va_Nc E E1 s) (hx : covers x2 pc = true) (h0 : x2.catchType ≠ 0) (hlink : Cond.classLink own x2.catchType E ∈ lw_tbl) (hcast : va_Nw (.castable E E) s)
    (hce : H[q]? = some ce) (hcv : ce.vm = .none) (hcl : s.vm.findClass E = some ce.cls) (kk : W p l e R s m args below meth c H locs k z Q (F0 m x2.handlerPc ls [.ref q])) : vx_W p l e R s m args below meth c H locs k z Q (F0 m pc ls rest) q :=
  vx_catch S.2.2.2.1 [x1] x2 suf ht (fun v hv => by
    rw [List.mem_singleton.mp hv]
    exact Or.inr ⟨h1, E1, S.2.2.2.2 _ (tw_in hl1 rfl), hn⟩) hx h0 (S.2.2.2.2 _ (tw_in hlink rfl)) (va_Nw.use rfl hcast) hce hcv hcl kk

end TL

/-- a helper's contract out of the walk of its body -/
theorem vl_met {l : Launch} {y : MethodName} {ws ws' : List Cond} {cc : ByteArray} {maxL fr : Nat} {hh : List (Nat × Nat × Nat × Nat)} {w : tg_Mem → va_W} {ex : Option String} {tys : List (ClassId × FieldType)} {nl : List (String × Nat × MethodName × String)} {A : Nat → Prop} {D : va_G} {As : List Value} {σ σ' : tg_Mem} {k : Int32} {own : String} (hy : plainName y.cls = true) (hown : y.cls = own) (hw : ws = Cond.codeWith y cc maxL (some .int) hh :: ws') (hlen : (lg_sl As).length ≤ maxL)
    (body : ∀ (p : Program) (e : Env) (s : State) (m : MethodId) (below : List Frame) (meth : Method) (c : Code), CallFix p m c cc maxL s As.toArray ws own → va_K D vwCl tys s → tg_NU nl s → tl_TX A s → meth.sig.returnType = some .int → meth.locks = false → c.exceptionTable.toList = tableOf hh →
      tg_G p l e (tx_rm fr) s m As.toArray below meth c D w A maxL 0 0 (vx_MQ below (vl_Q ex w D A k σ') (fun _ _ _ => False) As.toArray s 1 6 A) σ 0 (lv_args 0 As) []) : vl_CT l y ws (tx_rm fr) w tys nl A D As σ ex k σ' := by
  refine tl_ofX (vx_ofWH (cc := cc) (maxL := maxL) (ret := some .int) (hh := hh) hy hw ?_)
  intro p e s m args below meth c s₁ B hml hv
  obtain ⟨rfl, hP, hK, hN, hT⟩ := hv
  have hts := atoms_spec (ws := ws) B.pre
  rw [lg_entry_eq]
  exact body p e s m below meth c ⟨B.exec, B.bytes, hml, by rw [← hown]; exact findClass_of_methodNamed B.named, hts⟩ hK hN hT B.returns B.notSynchronized (vx_table (x := y) B (hts _ (by rw [hw]; exact List.mem_cons_self))) s.heap [] _ hP va_S.rf (lv_entry As hlen)

set_option maxRecDepth 100000 in
theorem tl_lI : Cond.classLink RL 14 tx_I ∈ lw_tbl := by decide +kernel
set_option maxRecDepth 100000 in
theorem tl_lJ : Cond.classLink RL 16 tx_J ∈ lw_tbl := by decide +kernel
set_option maxRecDepth 100000 in
theorem tl_lO : Cond.classLink RL 51 tx_O ∈ lw_tbl := by decide +kernel

theorem tx_orE {a b : Option String} {E : String} (h : tx_or a b = some E) : a = some E ∨ b = some E := by
  cases a with
  | none => exact Or.inr h
  | some x => exact Or.inl h
theorem tl_eI {x : Int32} {E : String} (h : fx_id x = some E) : E = tx_I := by
  unfold fx_id at h; split at h
  · cases h
  · exact (Option.some.inj h).symm
theorem tl_eT {x y : Int32} {E : String} (h : fx_told x y = some E) : E = tx_I := by
  rcases tx_orE h with h | h
  · split at h
    · cases h
    · exact tl_eI h
  · rcases tx_orE h with h | h
    · split at h
      · cases h
      · exact tl_eI h
    · split at h
      · cases h
      · split at h
        · exact (Option.some.inj h).symm
        · cases h
theorem tl_eB {x y : Int32} {E : String} (h : fx_below x y = some E) : E = tx_I := by
  unfold fx_below at h; split at h
  · exact (Option.some.inj h).symm
  · split at h
    · cases h
    · exact (Option.some.inj h).symm
theorem tl_eL {σ : tg_Mem} {x : Int32} {E : String} (h : fx_letter σ x = some E) : E = tx_I ∨ E = tx_J := by
  rcases tx_orE h with h | h
  · exact Or.inl (tl_eI h)
  · split at h
    · cases h
    · exact Or.inr (Option.some.inj h).symm
theorem tl_eF {σ : tg_Mem} {x : Int32} {E : String} (h : fx_forest σ x = some E) : E = tx_I ∨ E = tx_O := by
  rcases tx_orE h with h | h
  · exact Or.inl (tl_eI h)
  · split at h
    · cases h
    · exact Or.inr (Option.some.inj h).symm
theorem tl_eP {σ : tg_Mem} {x g q sub d w0 : Int32} {E : String} (h : fx_put σ x g q sub d w0 = some E) : E = tx_I ∨ E = tx_J := by
  rcases tx_orE h with h | h
  · exact Or.inl (tl_eI h)
  rcases tx_orE h with h | h
  · exact Or.inl (tl_eT h)
  rcases tx_orE h with h | h
  · exact Or.inl (tl_eB h)
  rcases tx_orE h with h | h
  · exact Or.inl (tl_eB h)
  rcases tx_orE h with h | h
  · exact Or.inl (tl_eB h)
  split at h
  · exact Or.inr (Option.some.inj h).symm
  · cases h
theorem tl_eJ {σ : tg_Mem} {x y : Int32} {E : String} (h : fx_join σ x y = some E) : E = tx_I ∨ E = tx_J := by
  rcases tx_orE h with h | h
  · exact Or.inl (tl_eI h)
  rcases tx_orE h with h | h
  · exact Or.inl (tl_eI h)
  rcases tx_orE h with h | h
  · split at h
    · exact Or.inl (Option.some.inj h).symm
    · cases h
  rcases tx_orE h with h | h
  · exact tl_eL h
  rcases tx_orE h with h | h
  · exact tl_eL h
  split at h
  · exact Or.inr (Option.some.inj h).symm
  · cases h
theorem tl_eR {σ : tg_Mem} {x : Int32} {E : String} (h : fx_root σ x = some E) : E = tx_O := by
  unfold fx_root at h; split at h
  · exact (Option.some.inj h).symm
  · cases h
theorem tl_eN {σ : tg_Mem} {x y : Int32} {E : String} (h : fx_inTree σ x y = some E) : E = tx_I ∨ E = tx_O := by
  rcases tx_orE h with h | h
  · exact tl_eF h
  · split at h
    · exact Or.inr (Option.some.inj h).symm
    · cases h
end
section
/-! ===== 13b: the law's helpers by contract (printed by wip/p20/genP.py) ===== -/
set_option maxHeartbeats 4000000 in
set_option maxRecDepth 100000 in
theorem k_L_come {l : Launch} {D : va_G} {h : Nat → Nat} {cI cZ : ClassId} (hd : tw_dis 23 h) (hl : l.stackTraces = false) (σ : tg_Mem) (x : Int32) : vl_CT l yL_come wzL_come (tx_rm 9) (tw_T h cI cZ) (tw_ty cI cZ) tw_nl (tw_A 23 h) D [.ref (h 0), .int x, .int 0] σ (fx_put σ x (-1) (-1) 0 0 0) (vl_k (fx_put σ x (-1) (-1) 0 0 0) (fa_grow (fa_put σ x (-1) (-1) 0 0 0) 20 0)) (tl_s (fx_put σ x (-1) (-1) 0 0 0) (fa_grow (fa_put σ x (-1) (-1) 0 0 0)) σ) := by
  refine vl_met (own := RL) (hh := [(45, 86, 87, 14), (45, 86, 92, 16)]) (by decide +kernel) rfl rfl (Nat.le_of_ble_eq_true rfl) ?_
  intro p e s m below meth c S hK hN hX hr hlk ht
  refine tg_sub (L' := [(0, .ref (h 0)), (1, .int x), (2, .int 0)]) [0, 1, 2] rfl ?_
  refine tg_iload_n S 2 dL_come_0 rfl rfl ?_
  refine tg_iconst (v := 4) S dL_come_1 (by decide) ?_
  refine vl_irem (v := 0) S dL_come_2 (by decide) (by decide) ?_
  refine tg_if_ne (tgt := 10) S dL_come_3 (by decide) (fun c => absurd rfl c) (fun _ => ?_)
  refine tg_iconst (v := -1) S dL_come_6 (by decide) ?_
  refine tg_goto (tgt := 16) S dL_come_7 (by decide) ?_
  refine tg_istore_n (L' := [(0, .ref (h 0)), (1, .int x), (2, .int 0), (3, .int (-1))]) [1, 2, 3, 0] S dL_come_16 rfl (by decide) rfl ?_
  refine tg_iload_n S 3 dL_come_17 rfl rfl ?_
  refine tg_iconst (v := -1) S dL_come_18 (by decide) ?_
  refine tg_icmp_eq (tgt := 31) S dL_come_19 (by decide) (fun _ => ?_) (fun c => absurd rfl c)
  refine tg_iconst (v := -1) S dL_come_31 (by decide) ?_
  refine tg_goto (tgt := 43) S dL_come_32 (by decide) ?_
  refine tg_istore (L' := [(0, .ref (h 0)), (1, .int x), (2, .int 0), (3, .int (-1)), (4, .int (-1))]) [1, 2, 3, 4, 0] S dL_come_43 (by decide) rfl ?_
  refine tg_aload_n S 0 dL_come_45 rfl rfl ?_
  refine tg_iload_n S 1 dL_come_46 rfl rfl ?_
  refine tg_iload S 4 dL_come_47 rfl ?_
  refine tg_iload_n S 3 dL_come_49 rfl rfl ?_
  refine tg_iload_n S 2 dL_come_50 rfl rfl ?_
  refine tg_sipush (v := 2048) S dL_come_51 (by decide) ?_
  refine vl_idiv (v := 0) S dL_come_54 (by decide) (by decide) ?_
  refine tg_iconst (v := 2) S dL_come_55 (by decide) ?_
  refine vl_irem (v := 0) S dL_come_56 (by decide) (by decide) ?_
  refine tg_bipush (v := 10) S dL_come_57 (by decide) ?_
  refine vl_imul (v := 0) S dL_come_59 (by decide) ?_
  refine tg_iload_n S 2 dL_come_60 rfl rfl ?_
  refine tg_sipush (v := 4096) S dL_come_61 (by decide) ?_
  refine vl_idiv (v := 0) S dL_come_64 (by decide) (by decide) ?_
  refine tg_iconst (v := 2) S dL_come_65 (by decide) ?_
  refine vl_irem (v := 0) S dL_come_66 (by decide) (by decide) ?_
  refine vl_iadd (v := 0) S dL_come_67 (by decide) ?_
  refine tg_iload_n S 2 dL_come_68 rfl rfl ?_
  refine tg_sipush (v := 8192) S dL_come_69 (by decide) ?_
  refine vl_idiv (v := 0) S dL_come_72 (by decide) (by decide) ?_
  refine tg_bipush (v := 50) S dL_come_73 (by decide) ?_
  refine vl_irem (v := 0) S dL_come_75 (by decide) (by decide) ?_
  refine tg_iload_n S 2 dL_come_76 rfl rfl ?_
  refine tg_bipush (v := 11) S dL_come_77 (by decide) ?_
  refine vl_idiv (v := 0) S dL_come_79 (by decide) (by decide) ?_
  refine tg_bipush (v := 10) S dL_come_80 (by decide) ?_
  refine vl_irem (v := 0) S dL_come_82 (by decide) (by decide) ?_
  refine vl_call (nA := 6) (As := [.int x, .int (-1), .int (-1), .int 0, .int 0, .int 0]) (rest := []) S hK hN hX.1 (k_X2_letter hd hl σ x (-1) (-1) 0 0 0) (tw_gV ml_RL_8 im_X2_letter se_X2_letter in_RX2 co_X2_letter rfl) rfl (by decide +kernel) ⟨Nat.le_of_ble_eq_true rfl, Nat.le_of_ble_eq_true rfl⟩ rfl rfl (Nat.le_of_ble_eq_true rfl) dL_come_83 ⟨Nat.le_of_ble_eq_true rfl, Nat.le_of_ble_eq_true rfl⟩ ?_ (fun hx => ?_)
  · intro E hE H locs ls qa ce hP hS hlt hlv hce hcv hcl
    rcases tl_eP hE with rfl | rfl
    · refine tl_catch1 (x1 := ⟨45, 86, 87, 14⟩) S ht rfl (by decide) tl_lI (hX.1.1 _ (by simp [tx_I, tx_J, tx_O])) hce hcv hcl ?_
      refine lv_astore S.1 S.2.1 dL_come_87 hlv (by decide) rfl (fun ls2 hl2 => ?_)
      exact vl_hand S hr hlk hP hS hlt hl2.1 dL_come_89 dL_come_91 (vl_kS hE) (vl_sS hE)
    · refine tl_catch2 (E1 := tx_I) (x1 := ⟨45, 86, 87, 14⟩) (x2 := ⟨45, 86, 92, 16⟩) S ht (by decide) tl_lI hX.2.1 rfl (by decide) tl_lJ (hX.1.1 _ (by simp [tx_I, tx_J, tx_O])) hce hcv hcl ?_
      refine lv_astore S.1 S.2.1 dL_come_92 hlv (by decide) rfl (fun ls2 hl2 => ?_)
      exact vl_hand S hr hlk hP hS hlt hl2.1 dL_come_94 dL_come_96 (vl_kS hE) (vl_sS hE)
  · skip
    exact vl_ret S hr hlk dL_come_86 hx (vl_kN hx) (vl_sN hx)
set_option maxHeartbeats 4000000 in
set_option maxRecDepth 100000 in
theorem k_L_does0 {l : Launch} {D : va_G} {h : Nat → Nat} {cI cZ : ClassId} (hd : tw_dis 23 h) (hl : l.stackTraces = false) (σ : tg_Mem) (x : Int32) : vl_CT l yL_does wzL_does (tx_rm 9) (tw_T h cI cZ) (tw_ty cI cZ) tw_nl (tw_A 23 h) D [.ref (h 0), .int 0, .int x] σ (fx_letter σ x) (vl_k (fx_letter σ x) (fa_grow (fa_drop σ x) 20 0)) (tl_s (fx_letter σ x) (fa_grow (fa_drop σ x)) σ) := by
  refine vl_met (own := RL) (hh := [(0, 54, 55, 14), (0, 54, 59, 16)]) (by decide +kernel) rfl rfl (Nat.le_of_ble_eq_true rfl) ?_
  intro p e s m below meth c S hK hN hX hr hlk ht
  refine tg_sub (L' := [(0, .ref (h 0)), (1, .int 0), (2, .int x)]) [0, 1, 2] rfl ?_
  refine tg_iload_n S 1 dL_does_0 rfl rfl ?_
  refine tg_if_ne (tgt := 12) S dL_does_1 (by decide) (fun c => absurd rfl c) (fun _ => ?_)
  refine tg_aload_n S 0 dL_does_4 rfl rfl ?_
  refine tg_iload_n S 2 dL_does_5 rfl rfl ?_
  refine vl_call (nA := 1) (As := [.int x]) (rest := []) S hK hN hX.1 (k_X2_delete hd hl σ x) (tw_gV ml_RL_18 im_X2_delete se_X2_delete in_RX2 co_X2_delete rfl) rfl (by decide +kernel) ⟨Nat.le_of_ble_eq_true rfl, Nat.le_of_ble_eq_true rfl⟩ rfl rfl (Nat.le_of_ble_eq_true rfl) dL_does_6 ⟨Nat.le_of_ble_eq_true rfl, Nat.le_of_ble_eq_true rfl⟩ ?_ (fun hx => ?_)
  · intro E hE H locs ls qa ce hP hS hlt hlv hce hcv hcl
    rcases tl_eL hE with rfl | rfl
    · refine tl_catch1 (x1 := ⟨0, 54, 55, 14⟩) S ht rfl (by decide) tl_lI (hX.1.1 _ (by simp [tx_I, tx_J, tx_O])) hce hcv hcl ?_
      refine lv_astore_n S.1 S.2.1 dL_does_55 rfl hlv (by decide) rfl (fun ls2 hl2 => ?_)
      exact vl_hand S hr hlk hP hS hlt hl2.1 dL_does_56 dL_does_58 (vl_kS hE) (vl_sS hE)
    · refine tl_catch2 (E1 := tx_I) (x1 := ⟨0, 54, 55, 14⟩) (x2 := ⟨0, 54, 59, 16⟩) S ht (by decide) tl_lI hX.2.1 rfl (by decide) tl_lJ (hX.1.1 _ (by simp [tx_I, tx_J, tx_O])) hce hcv hcl ?_
      refine lv_astore_n S.1 S.2.1 dL_does_59 rfl hlv (by decide) rfl (fun ls2 hl2 => ?_)
      exact vl_hand S hr hlk hP hS hlt hl2.1 dL_does_60 dL_does_62 (vl_kS hE) (vl_sS hE)
  · skip
    refine tg_goto (tgt := 54) S dL_does_9 (by decide) ?_
    exact vl_ret S hr hlk dL_does_54 hx (vl_kN hx) (vl_sN hx)
set_option maxHeartbeats 4000000 in
set_option maxRecDepth 100000 in
theorem k_L_does3 {l : Launch} {D : va_G} {h : Nat → Nat} {cI cZ : ClassId} (hd : tw_dis 23 h) (hl : l.stackTraces = false) (σ : tg_Mem) (x : Int32) : vl_CT l yL_does wzL_does (tx_rm 9) (tw_T h cI cZ) (tw_ty cI cZ) tw_nl (tw_A 23 h) D [.ref (h 0), .int 3, .int x] σ (fx_join σ x 0) (vl_k (fx_join σ x 0) (fa_par (fa_grow (fa_setHand σ x 0)) x)) (tl_s (fx_join σ x 0) (fa_grow (fa_setHand σ x 0)) σ) := by
  refine vl_met (own := RL) (hh := [(0, 54, 55, 14), (0, 54, 59, 16)]) (by decide +kernel) rfl rfl (Nat.le_of_ble_eq_true rfl) ?_
  intro p e s m below meth c S hK hN hX hr hlk ht
  refine tg_sub (L' := [(0, .ref (h 0)), (1, .int 3), (2, .int x)]) [0, 1, 2] rfl ?_
  refine tg_iload_n S 1 dL_does_0 rfl rfl ?_
  refine tg_if_ne (tgt := 12) S dL_does_1 (by decide) (fun _ => ?_) (fun c => absurd c (by decide))
  refine tg_iload_n S 1 dL_does_12 rfl rfl ?_
  refine tg_iconst (v := 1) S dL_does_13 (by decide) ?_
  refine tg_icmp_ne (tgt := 25) S dL_does_14 (by decide) (fun _ => ?_) (fun c => absurd c (by decide))
  refine tg_iload_n S 1 dL_does_25 rfl rfl ?_
  refine tg_iconst (v := 2) S dL_does_26 (by decide) ?_
  refine tg_icmp_ne (tgt := 46) S dL_does_27 (by decide) (fun _ => ?_) (fun c => absurd c (by decide))
  refine tg_aload_n S 0 dL_does_46 rfl rfl ?_
  refine tg_iload_n S 2 dL_does_47 rfl rfl ?_
  refine tg_iload_n S 1 dL_does_48 rfl rfl ?_
  refine tg_iconst (v := 3) S dL_does_49 (by decide) ?_
  refine vl_isub (v := 0) S dL_does_50 (by decide) ?_
  refine vl_call (nA := 2) (As := [.int x, .int 0]) (rest := []) S hK hN hX.1 (k_X2_join hd hl σ x 0) (tw_gV ml_RL_29 im_X2_join se_X2_join in_RX2 co_X2_join rfl) rfl (by decide +kernel) ⟨Nat.le_of_ble_eq_true rfl, Nat.le_of_ble_eq_true rfl⟩ rfl rfl (Nat.le_of_ble_eq_true rfl) dL_does_51 ⟨Nat.le_of_ble_eq_true rfl, Nat.le_of_ble_eq_true rfl⟩ ?_ (fun hx => ?_)
  · intro E hE H locs ls qa ce hP hS hlt hlv hce hcv hcl
    rcases tl_eJ hE with rfl | rfl
    · refine tl_catch1 (x1 := ⟨0, 54, 55, 14⟩) S ht rfl (by decide) tl_lI (hX.1.1 _ (by simp [tx_I, tx_J, tx_O])) hce hcv hcl ?_
      refine lv_astore_n S.1 S.2.1 dL_does_55 rfl hlv (by decide) rfl (fun ls2 hl2 => ?_)
      exact vl_hand S hr hlk hP hS hlt hl2.1 dL_does_56 dL_does_58 (vl_kS hE) (vl_sS hE)
    · refine tl_catch2 (E1 := tx_I) (x1 := ⟨0, 54, 55, 14⟩) (x2 := ⟨0, 54, 59, 16⟩) S ht (by decide) tl_lI hX.2.1 rfl (by decide) tl_lJ (hX.1.1 _ (by simp [tx_I, tx_J, tx_O])) hce hcv hcl ?_
      refine lv_astore_n S.1 S.2.1 dL_does_59 rfl hlv (by decide) rfl (fun ls2 hl2 => ?_)
      exact vl_hand S hr hlk hP hS hlt hl2.1 dL_does_60 dL_does_62 (vl_kS hE) (vl_sS hE)
  · skip
    exact vl_ret S hr hlk dL_does_54 hx (vl_kN hx) (vl_sN hx)
set_option maxHeartbeats 4000000 in
set_option maxRecDepth 100000 in
theorem k_L_of0 {l : Launch} {D : va_G} {h : Nat → Nat} {cI cZ : ClassId} (hd : tw_dis 23 h) (hl : l.stackTraces = false) (σ : tg_Mem) (x : Int32) : vl_CT l yL_of wzL_of (tx_rm 9) (tw_T h cI cZ) (tw_ty cI cZ) tw_nl (tw_A 23 h) D [.ref (h 0), .int 0, .int x] σ (fx_id x) (vl_k (fx_id x) (fx_state σ x)) σ := by
  refine vl_met (own := RL) (hh := [(0, 69, 70, 14), (0, 69, 74, 51)]) (by decide +kernel) rfl rfl (Nat.le_of_ble_eq_true rfl) ?_
  intro p e s m below meth c S hK hN hX hr hlk ht
  refine tg_sub (L' := [(0, .ref (h 0)), (1, .int 0), (2, .int x)]) [0, 1, 2] rfl ?_
  refine tg_iload_n S 1 dL_of_0 rfl rfl ?_
  refine tg_if_ne (tgt := 12) S dL_of_1 (by decide) (fun c => absurd rfl c) (fun _ => ?_)
  refine tg_aload_n S 0 dL_of_4 rfl rfl ?_
  refine tg_iload_n S 2 dL_of_5 rfl rfl ?_
  refine vl_call (nA := 1) (As := [.int x]) (rest := []) S hK hN hX.1 (k_X2_state hd hl σ x) (tw_gV ml_RL_33 im_X2_state se_X2_state in_RX2 co_X2_state rfl) rfl (by decide +kernel) ⟨Nat.le_of_ble_eq_true rfl, Nat.le_of_ble_eq_true rfl⟩ rfl rfl (Nat.le_of_ble_eq_true rfl) dL_of_6 ⟨Nat.le_of_ble_eq_true rfl, Nat.le_of_ble_eq_true rfl⟩ ?_ (fun hx => ?_)
  · intro E hE H locs ls qa ce hP hS hlt hlv hce hcv hcl
    obtain rfl := tl_eI hE
    refine tl_catch1 (x1 := ⟨0, 69, 70, 14⟩) S ht rfl (by decide) tl_lI (hX.1.1 _ (by simp [tx_I, tx_J, tx_O])) hce hcv hcl ?_
    refine lv_astore_n S.1 S.2.1 dL_of_70 rfl hlv (by decide) rfl (fun ls2 hl2 => ?_)
    exact vl_hand S hr hlk hP hS hlt hl2.1 dL_of_71 dL_of_73 (vl_kS hE) rfl
  · skip
    refine tg_goto (tgt := 69) S dL_of_9 (by decide) ?_
    exact vl_ret S hr hlk dL_of_69 hx (vl_kN hx) rfl
set_option maxHeartbeats 4000000 in
set_option maxRecDepth 100000 in
theorem k_L_of1 {l : Launch} {D : va_G} {h : Nat → Nat} {cI cZ : ClassId} (hd : tw_dis 23 h) (hl : l.stackTraces = false) (σ : tg_Mem) (x : Int32) : vl_CT l yL_of wzL_of (tx_rm 9) (tw_T h cI cZ) (tw_ty cI cZ) tw_nl (tw_A 23 h) D [.ref (h 0), .int 1, .int x] σ (fx_forest σ x) (vl_k (fx_forest σ x) (fa_par σ x)) σ := by
  refine vl_met (own := RL) (hh := [(0, 69, 70, 14), (0, 69, 74, 51)]) (by decide +kernel) rfl rfl (Nat.le_of_ble_eq_true rfl) ?_
  intro p e s m below meth c S hK hN hX hr hlk ht
  refine tg_sub (L' := [(0, .ref (h 0)), (1, .int 1), (2, .int x)]) [0, 1, 2] rfl ?_
  refine tg_iload_n S 1 dL_of_0 rfl rfl ?_
  refine tg_if_ne (tgt := 12) S dL_of_1 (by decide) (fun _ => ?_) (fun c => absurd c (by decide))
  refine tg_iload_n S 1 dL_of_12 rfl rfl ?_
  refine tg_iconst (v := 1) S dL_of_13 (by decide) ?_
  refine tg_icmp_ne (tgt := 25) S dL_of_14 (by decide) (fun c => absurd rfl c) (fun _ => ?_)
  refine tg_aload_n S 0 dL_of_17 rfl rfl ?_
  refine tg_iload_n S 2 dL_of_18 rfl rfl ?_
  refine vl_call (nA := 1) (As := [.int x]) (rest := []) S hK hN hX.1 (k_X2_parent hd hl σ x) (tw_gV ml_RL_36 im_X2_parent se_X2_parent in_RX2 co_X2_parent rfl) rfl (by decide +kernel) ⟨Nat.le_of_ble_eq_true rfl, Nat.le_of_ble_eq_true rfl⟩ rfl rfl (Nat.le_of_ble_eq_true rfl) dL_of_19 ⟨Nat.le_of_ble_eq_true rfl, Nat.le_of_ble_eq_true rfl⟩ ?_ (fun hx => ?_)
  · intro E hE H locs ls qa ce hP hS hlt hlv hce hcv hcl
    rcases tl_eF hE with rfl | rfl
    · refine tl_catch1 (x1 := ⟨0, 69, 70, 14⟩) S ht rfl (by decide) tl_lI (hX.1.1 _ (by simp [tx_I, tx_J, tx_O])) hce hcv hcl ?_
      refine lv_astore_n S.1 S.2.1 dL_of_70 rfl hlv (by decide) rfl (fun ls2 hl2 => ?_)
      exact vl_hand S hr hlk hP hS hlt hl2.1 dL_of_71 dL_of_73 (vl_kS hE) rfl
    · refine tl_catch2 (E1 := tx_I) (x1 := ⟨0, 69, 70, 14⟩) (x2 := ⟨0, 69, 74, 51⟩) S ht (by decide) tl_lI hX.2.2 rfl (by decide) tl_lO (hX.1.1 _ (by simp [tx_I, tx_J, tx_O])) hce hcv hcl ?_
      refine lv_astore_n S.1 S.2.1 dL_of_74 rfl hlv (by decide) rfl (fun ls2 hl2 => ?_)
      exact vl_hand S hr hlk hP hS hlt hl2.1 dL_of_75 dL_of_77 (vl_kS hE) rfl
  · skip
    refine tg_goto (tgt := 69) S dL_of_22 (by decide) ?_
    exact vl_ret S hr hlk dL_of_69 hx (vl_kN hx) rfl
set_option maxHeartbeats 4000000 in
set_option maxRecDepth 100000 in
theorem k_L_of2 {l : Launch} {D : va_G} {h : Nat → Nat} {cI cZ : ClassId} (hd : tw_dis 23 h) (hl : l.stackTraces = false) (σ : tg_Mem) (x : Int32) : vl_CT l yL_of wzL_of (tx_rm 9) (tw_T h cI cZ) (tw_ty cI cZ) tw_nl (tw_A 23 h) D [.ref (h 0), .int 2, .int x] σ (fx_root σ x) (vl_k (fx_root σ x) (fa_rootAt σ x)) σ := by
  refine vl_met (own := RL) (hh := [(0, 69, 70, 14), (0, 69, 74, 51)]) (by decide +kernel) rfl rfl (Nat.le_of_ble_eq_true rfl) ?_
  intro p e s m below meth c S hK hN hX hr hlk ht
  refine tg_sub (L' := [(0, .ref (h 0)), (1, .int 2), (2, .int x)]) [0, 1, 2] rfl ?_
  refine tg_iload_n S 1 dL_of_0 rfl rfl ?_
  refine tg_if_ne (tgt := 12) S dL_of_1 (by decide) (fun _ => ?_) (fun c => absurd c (by decide))
  refine tg_iload_n S 1 dL_of_12 rfl rfl ?_
  refine tg_iconst (v := 1) S dL_of_13 (by decide) ?_
  refine tg_icmp_ne (tgt := 25) S dL_of_14 (by decide) (fun _ => ?_) (fun c => absurd c (by decide))
  refine tg_iload_n S 1 dL_of_25 rfl rfl ?_
  refine tg_iconst (v := 2) S dL_of_26 (by decide) ?_
  refine tg_icmp_ne (tgt := 38) S dL_of_27 (by decide) (fun c => absurd rfl c) (fun _ => ?_)
  refine tg_aload_n S 0 dL_of_30 rfl rfl ?_
  refine tg_iload_n S 2 dL_of_31 rfl rfl ?_
  refine vl_call (nA := 1) (As := [.int x]) (rest := []) S hK hN hX.1 (k_X2_root hd hl σ x) (tw_gV ml_RL_39 im_X2_root se_X2_root in_RX2 co_X2_root rfl) rfl (by decide +kernel) ⟨Nat.le_of_ble_eq_true rfl, Nat.le_of_ble_eq_true rfl⟩ rfl rfl (Nat.le_of_ble_eq_true rfl) dL_of_32 ⟨Nat.le_of_ble_eq_true rfl, Nat.le_of_ble_eq_true rfl⟩ ?_ (fun hx => ?_)
  · intro E hE H locs ls qa ce hP hS hlt hlv hce hcv hcl
    obtain rfl := tl_eR hE
    refine tl_catch2 (E1 := tx_I) (x1 := ⟨0, 69, 70, 14⟩) (x2 := ⟨0, 69, 74, 51⟩) S ht (by decide) tl_lI hX.2.2 rfl (by decide) tl_lO (hX.1.1 _ (by simp [tx_I, tx_J, tx_O])) hce hcv hcl ?_
    refine lv_astore_n S.1 S.2.1 dL_of_74 rfl hlv (by decide) rfl (fun ls2 hl2 => ?_)
    exact vl_hand S hr hlk hP hS hlt hl2.1 dL_of_75 dL_of_77 (vl_kS hE) rfl
  · skip
    refine tg_goto (tgt := 69) S dL_of_35 (by decide) ?_
    exact vl_ret S hr hlk dL_of_69 hx (vl_kN hx) rfl
set_option maxHeartbeats 4000000 in
set_option maxRecDepth 100000 in
theorem k_L_of3 {l : Launch} {D : va_G} {h : Nat → Nat} {cI cZ : ClassId} (hd : tw_dis 23 h) (hl : l.stackTraces = false) (σ : tg_Mem) (x : Int32) : vl_CT l yL_of wzL_of (tx_rm 9) (tw_T h cI cZ) (tw_ty cI cZ) tw_nl (tw_A 23 h) D [.ref (h 0), .int 3, .int x] σ (fx_forest σ x) (vl_k (fx_forest σ x) (fx_letters σ x)) σ := by
  refine vl_met (own := RL) (hh := [(0, 69, 70, 14), (0, 69, 74, 51)]) (by decide +kernel) rfl rfl (Nat.le_of_ble_eq_true rfl) ?_
  intro p e s m below meth c S hK hN hX hr hlk ht
  refine tg_sub (L' := [(0, .ref (h 0)), (1, .int 3), (2, .int x)]) [0, 1, 2] rfl ?_
  refine tg_iload_n S 1 dL_of_0 rfl rfl ?_
  refine tg_if_ne (tgt := 12) S dL_of_1 (by decide) (fun _ => ?_) (fun c => absurd c (by decide))
  refine tg_iload_n S 1 dL_of_12 rfl rfl ?_
  refine tg_iconst (v := 1) S dL_of_13 (by decide) ?_
  refine tg_icmp_ne (tgt := 25) S dL_of_14 (by decide) (fun _ => ?_) (fun c => absurd c (by decide))
  refine tg_iload_n S 1 dL_of_25 rfl rfl ?_
  refine tg_iconst (v := 2) S dL_of_26 (by decide) ?_
  refine tg_icmp_ne (tgt := 38) S dL_of_27 (by decide) (fun _ => ?_) (fun c => absurd c (by decide))
  refine tg_iload_n S 1 dL_of_38 rfl rfl ?_
  refine tg_iconst (v := 3) S dL_of_39 (by decide) ?_
  refine tg_icmp_ne (tgt := 51) S dL_of_40 (by decide) (fun c => absurd rfl c) (fun _ => ?_)
  refine tg_aload_n S 0 dL_of_43 rfl rfl ?_
  refine tg_iload_n S 2 dL_of_44 rfl rfl ?_
  refine vl_call (nA := 1) (As := [.int x]) (rest := []) S hK hN hX.1 (k_X2_letters hd hl σ x) (tw_gV ml_RL_42 im_X2_letters se_X2_letters in_RX2 co_X2_letters rfl) rfl (by decide +kernel) ⟨Nat.le_of_ble_eq_true rfl, Nat.le_of_ble_eq_true rfl⟩ rfl rfl (Nat.le_of_ble_eq_true rfl) dL_of_45 ⟨Nat.le_of_ble_eq_true rfl, Nat.le_of_ble_eq_true rfl⟩ ?_ (fun hx => ?_)
  · intro E hE H locs ls qa ce hP hS hlt hlv hce hcv hcl
    rcases tl_eF hE with rfl | rfl
    · refine tl_catch1 (x1 := ⟨0, 69, 70, 14⟩) S ht rfl (by decide) tl_lI (hX.1.1 _ (by simp [tx_I, tx_J, tx_O])) hce hcv hcl ?_
      refine lv_astore_n S.1 S.2.1 dL_of_70 rfl hlv (by decide) rfl (fun ls2 hl2 => ?_)
      exact vl_hand S hr hlk hP hS hlt hl2.1 dL_of_71 dL_of_73 (vl_kS hE) rfl
    · refine tl_catch2 (E1 := tx_I) (x1 := ⟨0, 69, 70, 14⟩) (x2 := ⟨0, 69, 74, 51⟩) S ht (by decide) tl_lI hX.2.2 rfl (by decide) tl_lO (hX.1.1 _ (by simp [tx_I, tx_J, tx_O])) hce hcv hcl ?_
      refine lv_astore_n S.1 S.2.1 dL_of_74 rfl hlv (by decide) rfl (fun ls2 hl2 => ?_)
      exact vl_hand S hr hlk hP hS hlt hl2.1 dL_of_75 dL_of_77 (vl_kS hE) rfl
  · skip
    refine tg_goto (tgt := 69) S dL_of_48 (by decide) ?_
    exact vl_ret S hr hlk dL_of_69 hx (vl_kN hx) rfl
set_option maxHeartbeats 4000000 in
set_option maxRecDepth 100000 in
theorem k_L_of4 {l : Launch} {D : va_G} {h : Nat → Nat} {cI cZ : ClassId} (hd : tw_dis 23 h) (hl : l.stackTraces = false) (σ : tg_Mem) (x : Int32) : vl_CT l yL_of wzL_of (tx_rm 9) (tw_T h cI cZ) (tw_ty cI cZ) tw_nl (tw_A 23 h) D [.ref (h 0), .int 4, .int x] σ (fx_forest σ x) (vl_k (fx_forest σ x) (fx_people σ x)) σ := by
  refine vl_met (own := RL) (hh := [(0, 69, 70, 14), (0, 69, 74, 51)]) (by decide +kernel) rfl rfl (Nat.le_of_ble_eq_true rfl) ?_
  intro p e s m below meth c S hK hN hX hr hlk ht
  refine tg_sub (L' := [(0, .ref (h 0)), (1, .int 4), (2, .int x)]) [0, 1, 2] rfl ?_
  refine tg_iload_n S 1 dL_of_0 rfl rfl ?_
  refine tg_if_ne (tgt := 12) S dL_of_1 (by decide) (fun _ => ?_) (fun c => absurd c (by decide))
  refine tg_iload_n S 1 dL_of_12 rfl rfl ?_
  refine tg_iconst (v := 1) S dL_of_13 (by decide) ?_
  refine tg_icmp_ne (tgt := 25) S dL_of_14 (by decide) (fun _ => ?_) (fun c => absurd c (by decide))
  refine tg_iload_n S 1 dL_of_25 rfl rfl ?_
  refine tg_iconst (v := 2) S dL_of_26 (by decide) ?_
  refine tg_icmp_ne (tgt := 38) S dL_of_27 (by decide) (fun _ => ?_) (fun c => absurd c (by decide))
  refine tg_iload_n S 1 dL_of_38 rfl rfl ?_
  refine tg_iconst (v := 3) S dL_of_39 (by decide) ?_
  refine tg_icmp_ne (tgt := 51) S dL_of_40 (by decide) (fun _ => ?_) (fun c => absurd c (by decide))
  refine tg_iload_n S 1 dL_of_51 rfl rfl ?_
  refine tg_iconst (v := 4) S dL_of_52 (by decide) ?_
  refine tg_icmp_ne (tgt := 64) S dL_of_53 (by decide) (fun c => absurd rfl c) (fun _ => ?_)
  refine tg_aload_n S 0 dL_of_56 rfl rfl ?_
  refine tg_iload_n S 2 dL_of_57 rfl rfl ?_
  refine vl_call (nA := 1) (As := [.int x]) (rest := []) S hK hN hX.1 (k_X2_people hd hl σ x) (tw_gV ml_RL_45 im_X2_people se_X2_people in_RX2 co_X2_people rfl) rfl (by decide +kernel) ⟨Nat.le_of_ble_eq_true rfl, Nat.le_of_ble_eq_true rfl⟩ rfl rfl (Nat.le_of_ble_eq_true rfl) dL_of_58 ⟨Nat.le_of_ble_eq_true rfl, Nat.le_of_ble_eq_true rfl⟩ ?_ (fun hx => ?_)
  · intro E hE H locs ls qa ce hP hS hlt hlv hce hcv hcl
    rcases tl_eF hE with rfl | rfl
    · refine tl_catch1 (x1 := ⟨0, 69, 70, 14⟩) S ht rfl (by decide) tl_lI (hX.1.1 _ (by simp [tx_I, tx_J, tx_O])) hce hcv hcl ?_
      refine lv_astore_n S.1 S.2.1 dL_of_70 rfl hlv (by decide) rfl (fun ls2 hl2 => ?_)
      exact vl_hand S hr hlk hP hS hlt hl2.1 dL_of_71 dL_of_73 (vl_kS hE) rfl
    · refine tl_catch2 (E1 := tx_I) (x1 := ⟨0, 69, 70, 14⟩) (x2 := ⟨0, 69, 74, 51⟩) S ht (by decide) tl_lI hX.2.2 rfl (by decide) tl_lO (hX.1.1 _ (by simp [tx_I, tx_J, tx_O])) hce hcv hcl ?_
      refine lv_astore_n S.1 S.2.1 dL_of_74 rfl hlv (by decide) rfl (fun ls2 hl2 => ?_)
      exact vl_hand S hr hlk hP hS hlt hl2.1 dL_of_75 dL_of_77 (vl_kS hE) rfl
  · skip
    refine tg_goto (tgt := 69) S dL_of_61 (by decide) ?_
    exact vl_ret S hr hlk dL_of_69 hx (vl_kN hx) rfl
set_option maxHeartbeats 4000000 in
set_option maxRecDepth 100000 in
theorem k_L_of5 {l : Launch} {D : va_G} {h : Nat → Nat} {cI cZ : ClassId} (hd : tw_dis 23 h) (hl : l.stackTraces = false) (σ : tg_Mem) (x : Int32) : vl_CT l yL_of wzL_of (tx_rm 9) (tw_T h cI cZ) (tw_ty cI cZ) tw_nl (tw_A 23 h) D [.ref (h 0), .int 5, .int x] σ (fx_forest σ x) (vl_k (fx_forest σ x) (fx_latest σ x)) σ := by
  refine vl_met (own := RL) (hh := [(0, 69, 70, 14), (0, 69, 74, 51)]) (by decide +kernel) rfl rfl (Nat.le_of_ble_eq_true rfl) ?_
  intro p e s m below meth c S hK hN hX hr hlk ht
  refine tg_sub (L' := [(0, .ref (h 0)), (1, .int 5), (2, .int x)]) [0, 1, 2] rfl ?_
  refine tg_iload_n S 1 dL_of_0 rfl rfl ?_
  refine tg_if_ne (tgt := 12) S dL_of_1 (by decide) (fun _ => ?_) (fun c => absurd c (by decide))
  refine tg_iload_n S 1 dL_of_12 rfl rfl ?_
  refine tg_iconst (v := 1) S dL_of_13 (by decide) ?_
  refine tg_icmp_ne (tgt := 25) S dL_of_14 (by decide) (fun _ => ?_) (fun c => absurd c (by decide))
  refine tg_iload_n S 1 dL_of_25 rfl rfl ?_
  refine tg_iconst (v := 2) S dL_of_26 (by decide) ?_
  refine tg_icmp_ne (tgt := 38) S dL_of_27 (by decide) (fun _ => ?_) (fun c => absurd c (by decide))
  refine tg_iload_n S 1 dL_of_38 rfl rfl ?_
  refine tg_iconst (v := 3) S dL_of_39 (by decide) ?_
  refine tg_icmp_ne (tgt := 51) S dL_of_40 (by decide) (fun _ => ?_) (fun c => absurd c (by decide))
  refine tg_iload_n S 1 dL_of_51 rfl rfl ?_
  refine tg_iconst (v := 4) S dL_of_52 (by decide) ?_
  refine tg_icmp_ne (tgt := 64) S dL_of_53 (by decide) (fun _ => ?_) (fun c => absurd c (by decide))
  refine tg_aload_n S 0 dL_of_64 rfl rfl ?_
  refine tg_iload_n S 2 dL_of_65 rfl rfl ?_
  refine vl_call (nA := 1) (As := [.int x]) (rest := []) S hK hN hX.1 (k_X2_latest hd hl σ x) (tw_gV ml_RL_48 im_X2_latest se_X2_latest in_RX2 co_X2_latest rfl) rfl (by decide +kernel) ⟨Nat.le_of_ble_eq_true rfl, Nat.le_of_ble_eq_true rfl⟩ rfl rfl (Nat.le_of_ble_eq_true rfl) dL_of_66 ⟨Nat.le_of_ble_eq_true rfl, Nat.le_of_ble_eq_true rfl⟩ ?_ (fun hx => ?_)
  · intro E hE H locs ls qa ce hP hS hlt hlv hce hcv hcl
    rcases tl_eF hE with rfl | rfl
    · refine tl_catch1 (x1 := ⟨0, 69, 70, 14⟩) S ht rfl (by decide) tl_lI (hX.1.1 _ (by simp [tx_I, tx_J, tx_O])) hce hcv hcl ?_
      refine lv_astore_n S.1 S.2.1 dL_of_70 rfl hlv (by decide) rfl (fun ls2 hl2 => ?_)
      exact vl_hand S hr hlk hP hS hlt hl2.1 dL_of_71 dL_of_73 (vl_kS hE) rfl
    · refine tl_catch2 (E1 := tx_I) (x1 := ⟨0, 69, 70, 14⟩) (x2 := ⟨0, 69, 74, 51⟩) S ht (by decide) tl_lI hX.2.2 rfl (by decide) tl_lO (hX.1.1 _ (by simp [tx_I, tx_J, tx_O])) hce hcv hcl ?_
      refine lv_astore_n S.1 S.2.1 dL_of_74 rfl hlv (by decide) rfl (fun ls2 hl2 => ?_)
      exact vl_hand S hr hlk hP hS hlt hl2.1 dL_of_75 dL_of_77 (vl_kS hE) rfl
  · skip
    exact vl_ret S hr hlk dL_of_69 hx (vl_kN hx) rfl
set_option maxHeartbeats 4000000 in
set_option maxRecDepth 100000 in
theorem k_L_inTree {l : Launch} {D : va_G} {h : Nat → Nat} {cI cZ : ClassId} (hd : tw_dis 23 h) (hl : l.stackTraces = false) (σ : tg_Mem) (x : Int32) (y : Int32) : vl_CT l yL_inTree wzL_inTree (tx_rm 9) (tw_T h cI cZ) (tw_ty cI cZ) tw_nl (tw_A 23 h) D [.ref (h 0), .int x, .int y] σ (fx_inTree σ x y) (vl_k (fx_inTree σ x y) (fa_idAt σ x y)) σ := by
  refine vl_met (own := RL) (hh := [(0, 6, 7, 14), (0, 6, 11, 51)]) (by decide +kernel) rfl rfl (Nat.le_of_ble_eq_true rfl) ?_
  intro p e s m below meth c S hK hN hX hr hlk ht
  refine tg_sub (L' := [(0, .ref (h 0)), (1, .int x), (2, .int y)]) [0, 1, 2] rfl ?_
  refine tg_aload_n S 0 dL_inTree_0 rfl rfl ?_
  refine tg_iload_n S 1 dL_inTree_1 rfl rfl ?_
  refine tg_iload_n S 2 dL_inTree_2 rfl rfl ?_
  refine vl_call (nA := 2) (As := [.int x, .int y]) (rest := []) S hK hN hX.1 (k_X2_inTree hd hl σ x y) (tw_gV ml_RL_53 im_X2_inTree se_X2_inTree in_RX2 co_X2_inTree rfl) rfl (by decide +kernel) ⟨Nat.le_of_ble_eq_true rfl, Nat.le_of_ble_eq_true rfl⟩ rfl rfl (Nat.le_of_ble_eq_true rfl) dL_inTree_3 ⟨Nat.le_of_ble_eq_true rfl, Nat.le_of_ble_eq_true rfl⟩ ?_ (fun hx => ?_)
  · intro E hE H locs ls qa ce hP hS hlt hlv hce hcv hcl
    rcases tl_eN hE with rfl | rfl
    · refine tl_catch1 (x1 := ⟨0, 6, 7, 14⟩) S ht rfl (by decide) tl_lI (hX.1.1 _ (by simp [tx_I, tx_J, tx_O])) hce hcv hcl ?_
      refine lv_astore_n S.1 S.2.1 dL_inTree_7 rfl hlv (by decide) rfl (fun ls2 hl2 => ?_)
      exact vl_hand S hr hlk hP hS hlt hl2.1 dL_inTree_8 dL_inTree_10 (vl_kS hE) rfl
    · refine tl_catch2 (E1 := tx_I) (x1 := ⟨0, 6, 7, 14⟩) (x2 := ⟨0, 6, 11, 51⟩) S ht (by decide) tl_lI hX.2.2 rfl (by decide) tl_lO (hX.1.1 _ (by simp [tx_I, tx_J, tx_O])) hce hcv hcl ?_
      refine lv_astore_n S.1 S.2.1 dL_inTree_11 rfl hlv (by decide) rfl (fun ls2 hl2 => ?_)
      exact vl_hand S hr hlk hP hS hlt hl2.1 dL_inTree_12 dL_inTree_14 (vl_kS hE) rfl
  · skip
    exact vl_ret S hr hlk dL_inTree_6 hx (vl_kN hx) rfl
end
section
/-! ===== 14: rows of a goal that counts the new cells from below (the rows themselves turned out of part 02 by wip/p20/lay14.py) ===== -/
section VG
variable {p : Program} {l : Launch} {e : Env} {R : Room} {s : State} {m : MethodId} {args : Array Value} {below : List Frame} {meth : Method} {c : Code} {D : va_G} {ww : va_W} {A : Nat → Prop} {n k zc jj : Nat} {Q : State → Prop}
/-- the machine at pc, with k new cells and 6 k + zc new slots at the most, and jj new cells at the least -/
def vg_G (p : Program) (l : Launch) (e : Env) (R : Room) (s : State) (m : MethodId) (args : Array Value) (below : List Frame) (meth : Method) (c : Code) (D : va_G) (ww : va_W) (A : Nat → Prop) (n k zc : Nat) (Q : State → Prop) (jj : Nat) (pc : Nat) (L : List (Nat × Value)) (st : List Value) : Prop :=
  ∀ (H : Heap) (locs : List Loc) (ls : Array Slot), va_P D vwCl ww H → va_S A s.heap H locs → lv_has ls n L → s.heap.size + jj ≤ H.size → W p l e R s m args below meth c H locs k (6 * k + zc) Q (F0 m pc ls st)
variable {cc : ByteArray} {Ts : List Cond} {own : String} {pc : Nat} {L L' : List (Nat × Value)} {st : List Value}
theorem vg_mono {j0 : Nat} (h : j0 ≤ jj) (kk : vg_G p l e R s m args below meth c D ww A n k zc Q j0 pc L st) : vg_G p l e R s m args below meth c D ww A n k zc Q jj pc L st := fun H locs ls hP hS hl hj => kk H locs ls hP hS hl (by omega)
theorem vg_widen {k1 : Nat} (h : k ≤ k1) (kk : vg_G p l e R s m args below meth c D ww A n k1 zc Q jj pc L st) : vg_G p l e R s m args below meth c D ww A n k zc Q jj pc L st := fun H locs ls hP hS hl hj => W.widen h (by omega) (kk H locs ls hP hS hl hj)
theorem vg_iconst (S : CallFix p m c cc n s args Ts own) {j : Int} {v : Int32} (d : decode cc pc = .ok (.iconst j, 1)) (hv : Int32.ofInt j = v) (kk : vg_G p l e R s m args below meth c D ww A n k zc Q jj (pc + 1) L (.int v :: st)) : vg_G p l e R s m args below meth c D ww A n k zc Q jj pc L st := fun H locs ls hP hS hl h9 => lv_iconst S.1 S.2.1 d hv (kk H locs ls hP hS hl h9)
theorem vg_bipush (S : CallFix p m c cc n s args Ts own) {j : Int} {v : Int32} (d : decode cc pc = .ok (.bipush j, 2)) (hv : (Int8.ofInt j).toInt32 = v) (kk : vg_G p l e R s m args below meth c D ww A n k zc Q jj (pc + 2) L (.int v :: st)) : vg_G p l e R s m args below meth c D ww A n k zc Q jj pc L st := fun H locs ls hP hS hl h9 => lv_bipush S.1 S.2.1 d hv (kk H locs ls hP hS hl h9)
theorem vg_sipush (S : CallFix p m c cc n s args Ts own) {j : Int} {v : Int32} (d : decode cc pc = .ok (.sipush j, 3)) (hv : (Int16.ofInt j).toInt32 = v) (kk : vg_G p l e R s m args below meth c D ww A n k zc Q jj (pc + 3) L (.int v :: st)) : vg_G p l e R s m args below meth c D ww A n k zc Q jj pc L st := fun H locs ls hP hS hl h9 => lv_sipush S.1 S.2.1 d hv (kk H locs ls hP hS hl h9)
theorem vg_iload_n (S : CallFix p m c cc n s args Ts own) {j : Fin 4} {x : Int32} {i : Nat} (q : Nat) (d : decode cc pc = .ok (.iload_n j, 1)) (hj : (j : Nat) = i) (hq : L[q]? = some (i, .int x)) (kk : vg_G p l e R s m args below meth c D ww A n k zc Q jj (pc + 1) L (.int x :: st)) : vg_G p l e R s m args below meth c D ww A n k zc Q jj pc L st := fun H locs ls hP hS hl h9 => lv_iload_n S.1 S.2.1 d hj (lv_at hl q hq) (kk H locs ls hP hS hl h9)
theorem vg_iload (S : CallFix p m c cc n s args Ts own) {x : Int32} {i : Nat} (q : Nat) (d : decode cc pc = .ok (.iload i, 2)) (hq : L[q]? = some (i, .int x)) (kk : vg_G p l e R s m args below meth c D ww A n k zc Q jj (pc + 2) L (.int x :: st)) : vg_G p l e R s m args below meth c D ww A n k zc Q jj pc L st := fun H locs ls hP hS hl h9 => lv_iload S.1 S.2.1 d (lv_at hl q hq) (kk H locs ls hP hS hl h9)
theorem vg_aload_n (S : CallFix p m c cc n s args Ts own) {j : Fin 4} {x : Nat} {i : Nat} (q : Nat) (d : decode cc pc = .ok (.aload_n j, 1)) (hj : (j : Nat) = i) (hq : L[q]? = some (i, .ref x)) (kk : vg_G p l e R s m args below meth c D ww A n k zc Q jj (pc + 1) L (.ref x :: st)) : vg_G p l e R s m args below meth c D ww A n k zc Q jj pc L st := fun H locs ls hP hS hl h9 => lv_aload_n S.1 S.2.1 d hj (lv_at hl q hq) (kk H locs ls hP hS hl h9)
theorem vg_aload (S : CallFix p m c cc n s args Ts own) {x : Nat} {i : Nat} (q : Nat) (d : decode cc pc = .ok (.aload i, 2)) (hq : L[q]? = some (i, .ref x)) (kk : vg_G p l e R s m args below meth c D ww A n k zc Q jj (pc + 2) L (.ref x :: st)) : vg_G p l e R s m args below meth c D ww A n k zc Q jj pc L st := fun H locs ls hP hS hl h9 => lv_aload S.1 S.2.1 d (lv_at hl q hq) (kk H locs ls hP hS hl h9)
theorem vg_istore_n (ps : List Nat) (S : CallFix p m c cc n s args Ts own) {j : Fin 4} {x : Int32} {i : Nat} (d : decode cc pc = .ok (.istore_n j, 1)) (hj : (j : Nat) = i) (hi : i < n) (hL : lv_pick ((i, Value.int x) :: L.filter (fun q => !(q.1 == i) && !(q.1 + 1 == i && q.2.category == 2))) ps = L') (kk : vg_G p l e R s m args below meth c D ww A n k zc Q jj (pc + 1) L' st) : vg_G p l e R s m args below meth c D ww A n k zc Q jj pc L (.int x :: st) := fun H locs ls hP hS hl h9 => lv_istore_n S.1 S.2.1 d hj hl hi rfl (fun ls' hl' => kk H locs ls' hP hS (lv_sub hl' ps hL) h9)
theorem vg_istore (ps : List Nat) (S : CallFix p m c cc n s args Ts own) {x : Int32} {i : Nat} (d : decode cc pc = .ok (.istore i, 2)) (hi : i < n) (hL : lv_pick ((i, Value.int x) :: L.filter (fun q => !(q.1 == i) && !(q.1 + 1 == i && q.2.category == 2))) ps = L') (kk : vg_G p l e R s m args below meth c D ww A n k zc Q jj (pc + 2) L' st) : vg_G p l e R s m args below meth c D ww A n k zc Q jj pc L (.int x :: st) := fun H locs ls hP hS hl h9 => lv_istore S.1 S.2.1 d hl hi rfl (fun ls' hl' => kk H locs ls' hP hS (lv_sub hl' ps hL) h9)
theorem vg_iinc (ps : List Nat) (S : CallFix p m c cc n s args Ts own) {x v : Int32} {i : Nat} {j : Int} (q : Nat) (d : decode cc pc = .ok (.iinc i j, 3)) (hq : L[q]? = some (i, .int x)) (hv : x + Int32.ofInt j = v) (hi : i < n) (hL : lv_pick ((i, Value.int v) :: L.filter (fun q => !(q.1 == i) && !(q.1 + 1 == i && q.2.category == 2))) ps = L') (kk : vg_G p l e R s m args below meth c D ww A n k zc Q jj (pc + 3) L' st) : vg_G p l e R s m args below meth c D ww A n k zc Q jj pc L st := fun H locs ls hP hS hl h9 => lv_iinc S.1 S.2.1 d hl hq hv hi rfl (fun ls' hl' => kk H locs ls' hP hS (lv_sub hl' ps hL) h9)
theorem vg_goto (S : CallFix p m c cc n s args Ts own) {off : Int} {tgt : Nat} (d : decode cc pc = .ok (.goto off, 3)) (ht : (pc : Int) + off = (tgt : Int)) (kk : vg_G p l e R s m args below meth c D ww A n k zc Q jj tgt L st) : vg_G p l e R s m args below meth c D ww A n k zc Q jj pc L st := fun H locs ls hP hS hl h9 => lv_goto S.1 S.2.1 d ht (kk H locs ls hP hS hl h9)
theorem vg_icmp_eq (S : CallFix p m c cc n s args Ts own) {x y : Int32} {off : Int} {tgt : Nat} (d : decode cc pc = .ok (.if_icmp .eq off, 3)) (ht : (pc : Int) + off = (tgt : Int)) (kt : x = y → vg_G p l e R s m args below meth c D ww A n k zc Q jj tgt L st) (kf : ¬ x = y → vg_G p l e R s m args below meth c D ww A n k zc Q jj (pc + 3) L st) : vg_G p l e R s m args below meth c D ww A n k zc Q jj pc L (.int y :: .int x :: st) := fun H locs ls hP hS hl h9 => lv_icmp_eq S.1 S.2.1 d ht (fun h => kt h H locs ls hP hS hl h9) (fun h => kf h H locs ls hP hS hl h9)
theorem vg_if_eq (S : CallFix p m c cc n s args Ts own) {x : Int32} {off : Int} {tgt : Nat} (d : decode cc pc = .ok (.ifCond .eq off, 3)) (ht : (pc : Int) + off = (tgt : Int)) (kt : x = 0 → vg_G p l e R s m args below meth c D ww A n k zc Q jj tgt L st) (kf : ¬ x = 0 → vg_G p l e R s m args below meth c D ww A n k zc Q jj (pc + 3) L st) : vg_G p l e R s m args below meth c D ww A n k zc Q jj pc L (.int x :: st) := fun H locs ls hP hS hl h9 => lv_if_eq S.1 S.2.1 d ht (fun h => kt h H locs ls hP hS hl h9) (fun h => kf h H locs ls hP hS hl h9)
theorem vg_icmp_ne (S : CallFix p m c cc n s args Ts own) {x y : Int32} {off : Int} {tgt : Nat} (d : decode cc pc = .ok (.if_icmp .ne off, 3)) (ht : (pc : Int) + off = (tgt : Int)) (kt : ¬ x = y → vg_G p l e R s m args below meth c D ww A n k zc Q jj tgt L st) (kf : x = y → vg_G p l e R s m args below meth c D ww A n k zc Q jj (pc + 3) L st) : vg_G p l e R s m args below meth c D ww A n k zc Q jj pc L (.int y :: .int x :: st) := fun H locs ls hP hS hl h9 => lv_icmp_ne S.1 S.2.1 d ht (fun h => kt h H locs ls hP hS hl h9) (fun h => kf h H locs ls hP hS hl h9)
theorem vg_if_ne (S : CallFix p m c cc n s args Ts own) {x : Int32} {off : Int} {tgt : Nat} (d : decode cc pc = .ok (.ifCond .ne off, 3)) (ht : (pc : Int) + off = (tgt : Int)) (kt : ¬ x = 0 → vg_G p l e R s m args below meth c D ww A n k zc Q jj tgt L st) (kf : x = 0 → vg_G p l e R s m args below meth c D ww A n k zc Q jj (pc + 3) L st) : vg_G p l e R s m args below meth c D ww A n k zc Q jj pc L (.int x :: st) := fun H locs ls hP hS hl h9 => lv_if_ne S.1 S.2.1 d ht (fun h => kt h H locs ls hP hS hl h9) (fun h => kf h H locs ls hP hS hl h9)
theorem vg_icmp_lt (S : CallFix p m c cc n s args Ts own) {x y : Int32} {off : Int} {tgt : Nat} (d : decode cc pc = .ok (.if_icmp .lt off, 3)) (ht : (pc : Int) + off = (tgt : Int)) (kt : x < y → vg_G p l e R s m args below meth c D ww A n k zc Q jj tgt L st) (kf : ¬ x < y → vg_G p l e R s m args below meth c D ww A n k zc Q jj (pc + 3) L st) : vg_G p l e R s m args below meth c D ww A n k zc Q jj pc L (.int y :: .int x :: st) := fun H locs ls hP hS hl h9 => lv_icmp_lt S.1 S.2.1 d ht (fun h => kt h H locs ls hP hS hl h9) (fun h => kf h H locs ls hP hS hl h9)
theorem vg_if_lt (S : CallFix p m c cc n s args Ts own) {x : Int32} {off : Int} {tgt : Nat} (d : decode cc pc = .ok (.ifCond .lt off, 3)) (ht : (pc : Int) + off = (tgt : Int)) (kt : x < 0 → vg_G p l e R s m args below meth c D ww A n k zc Q jj tgt L st) (kf : ¬ x < 0 → vg_G p l e R s m args below meth c D ww A n k zc Q jj (pc + 3) L st) : vg_G p l e R s m args below meth c D ww A n k zc Q jj pc L (.int x :: st) := fun H locs ls hP hS hl h9 => lv_if_lt S.1 S.2.1 d ht (fun h => kt h H locs ls hP hS hl h9) (fun h => kf h H locs ls hP hS hl h9)
theorem vg_icmp_ge (S : CallFix p m c cc n s args Ts own) {x y : Int32} {off : Int} {tgt : Nat} (d : decode cc pc = .ok (.if_icmp .ge off, 3)) (ht : (pc : Int) + off = (tgt : Int)) (kt : y ≤ x → vg_G p l e R s m args below meth c D ww A n k zc Q jj tgt L st) (kf : ¬ y ≤ x → vg_G p l e R s m args below meth c D ww A n k zc Q jj (pc + 3) L st) : vg_G p l e R s m args below meth c D ww A n k zc Q jj pc L (.int y :: .int x :: st) := fun H locs ls hP hS hl h9 => lv_icmp_ge S.1 S.2.1 d ht (fun h => kt h H locs ls hP hS hl h9) (fun h => kf h H locs ls hP hS hl h9)
theorem vg_if_ge (S : CallFix p m c cc n s args Ts own) {x : Int32} {off : Int} {tgt : Nat} (d : decode cc pc = .ok (.ifCond .ge off, 3)) (ht : (pc : Int) + off = (tgt : Int)) (kt : 0 ≤ x → vg_G p l e R s m args below meth c D ww A n k zc Q jj tgt L st) (kf : ¬ 0 ≤ x → vg_G p l e R s m args below meth c D ww A n k zc Q jj (pc + 3) L st) : vg_G p l e R s m args below meth c D ww A n k zc Q jj pc L (.int x :: st) := fun H locs ls hP hS hl h9 => lv_if_ge S.1 S.2.1 d ht (fun h => kt h H locs ls hP hS hl h9) (fun h => kf h H locs ls hP hS hl h9)
theorem vg_icmp_gt (S : CallFix p m c cc n s args Ts own) {x y : Int32} {off : Int} {tgt : Nat} (d : decode cc pc = .ok (.if_icmp .gt off, 3)) (ht : (pc : Int) + off = (tgt : Int)) (kt : y < x → vg_G p l e R s m args below meth c D ww A n k zc Q jj tgt L st) (kf : ¬ y < x → vg_G p l e R s m args below meth c D ww A n k zc Q jj (pc + 3) L st) : vg_G p l e R s m args below meth c D ww A n k zc Q jj pc L (.int y :: .int x :: st) := fun H locs ls hP hS hl h9 => lv_icmp_gt S.1 S.2.1 d ht (fun h => kt h H locs ls hP hS hl h9) (fun h => kf h H locs ls hP hS hl h9)
theorem vg_if_gt (S : CallFix p m c cc n s args Ts own) {x : Int32} {off : Int} {tgt : Nat} (d : decode cc pc = .ok (.ifCond .gt off, 3)) (ht : (pc : Int) + off = (tgt : Int)) (kt : 0 < x → vg_G p l e R s m args below meth c D ww A n k zc Q jj tgt L st) (kf : ¬ 0 < x → vg_G p l e R s m args below meth c D ww A n k zc Q jj (pc + 3) L st) : vg_G p l e R s m args below meth c D ww A n k zc Q jj pc L (.int x :: st) := fun H locs ls hP hS hl h9 => lv_if_gt S.1 S.2.1 d ht (fun h => kt h H locs ls hP hS hl h9) (fun h => kf h H locs ls hP hS hl h9)
theorem vg_icmp_le (S : CallFix p m c cc n s args Ts own) {x y : Int32} {off : Int} {tgt : Nat} (d : decode cc pc = .ok (.if_icmp .le off, 3)) (ht : (pc : Int) + off = (tgt : Int)) (kt : x ≤ y → vg_G p l e R s m args below meth c D ww A n k zc Q jj tgt L st) (kf : ¬ x ≤ y → vg_G p l e R s m args below meth c D ww A n k zc Q jj (pc + 3) L st) : vg_G p l e R s m args below meth c D ww A n k zc Q jj pc L (.int y :: .int x :: st) := fun H locs ls hP hS hl h9 => lv_icmp_le S.1 S.2.1 d ht (fun h => kt h H locs ls hP hS hl h9) (fun h => kf h H locs ls hP hS hl h9)
theorem vg_if_le (S : CallFix p m c cc n s args Ts own) {x : Int32} {off : Int} {tgt : Nat} (d : decode cc pc = .ok (.ifCond .le off, 3)) (ht : (pc : Int) + off = (tgt : Int)) (kt : x ≤ 0 → vg_G p l e R s m args below meth c D ww A n k zc Q jj tgt L st) (kf : ¬ x ≤ 0 → vg_G p l e R s m args below meth c D ww A n k zc Q jj (pc + 3) L st) : vg_G p l e R s m args below meth c D ww A n k zc Q jj pc L (.int x :: st) := fun H locs ls hP hS hl h9 => lv_if_le S.1 S.2.1 d ht (fun h => kt h H locs ls hP hS hl h9) (fun h => kf h H locs ls hP hS hl h9)
theorem vg_sub (ps : List Nat) (hL : lv_pick L ps = L') (kk : vg_G p l e R s m args below meth c D ww A n k zc Q jj pc L' st) : vg_G p l e R s m args below meth c D ww A n k zc Q jj pc L st := fun H locs ls hP hS hl h9 => kk H locs ls hP hS (lv_sub hl ps hL) h9
theorem vg_irem {x y v : Int32} (S : CallFix p m c cc n s args Ts own) (d : decode cc pc = .ok (.irem, 1)) (hne : ¬ y = 0) (hv : x - x / y * y = v) (kk : vg_G p l e R s m args below meth c D ww A n k zc Q jj (pc + 1) L (.int v :: st)) : vg_G p l e R s m args below meth c D ww A n k zc Q jj pc L (.int y :: .int x :: st) := by
  subst hv
  exact fun H locs ls hP hS hl hj => lv_irem S.1 S.2.1 d hne (kk H locs ls hP hS hl hj)
theorem vg_idiv {x y v : Int32} (S : CallFix p m c cc n s args Ts own) (d : decode cc pc = .ok (.idiv, 1)) (hne : ¬ y = 0) (hv : x / y = v) (kk : vg_G p l e R s m args below meth c D ww A n k zc Q jj (pc + 1) L (.int v :: st)) : vg_G p l e R s m args below meth c D ww A n k zc Q jj pc L (.int y :: .int x :: st) := by
  subst hv
  exact fun H locs ls hP hS hl hj => lv_idiv S.1 S.2.1 d hne (kk H locs ls hP hS hl hj)
theorem vg_imul {x y v : Int32} (S : CallFix p m c cc n s args Ts own) (d : decode cc pc = .ok (.imul, 1)) (hv : x * y = v) (kk : vg_G p l e R s m args below meth c D ww A n k zc Q jj (pc + 1) L (.int v :: st)) : vg_G p l e R s m args below meth c D ww A n k zc Q jj pc L (.int y :: .int x :: st) := by
  subst hv
  exact fun H locs ls hP hS hl hj => lv_imul S.1 S.2.1 d (kk H locs ls hP hS hl hj)
theorem vg_iadd {x y v : Int32} (S : CallFix p m c cc n s args Ts own) (d : decode cc pc = .ok (.iadd, 1)) (hv : x + y = v) (kk : vg_G p l e R s m args below meth c D ww A n k zc Q jj (pc + 1) L (.int v :: st)) : vg_G p l e R s m args below meth c D ww A n k zc Q jj pc L (.int y :: .int x :: st) := by
  subst hv
  exact fun H locs ls hP hS hl hj => lv_iadd S.1 S.2.1 d (kk H locs ls hP hS hl hj)
theorem vg_isub {x y v : Int32} (S : CallFix p m c cc n s args Ts own) (d : decode cc pc = .ok (.isub, 1)) (hv : x - y = v) (kk : vg_G p l e R s m args below meth c D ww A n k zc Q jj (pc + 1) L (.int v :: st)) : vg_G p l e R s m args below meth c D ww A n k zc Q jj pc L (.int y :: .int x :: st) := by
  subst hv
  exact fun H locs ls hP hS hl hj => lv_isub S.1 S.2.1 d (kk H locs ls hP hS hl hj)
theorem tl_blind {w : tg_Mem → va_W} {D : va_G} {tys : List (ClassId × FieldType)} {nl : List (String × Nat × MethodName × String)} {A : Nat → Prop} {As : List Value} {σ : tg_Mem} : FrameBlind (tl_Pre w D tys nl A As σ) := fun a U g mk h => by
  obtain ⟨h1, h2, h3, h4, h5, h6, h7⟩ := h
  exact ⟨h1, h2, va_K.moved (u := U) (U := U.calling g mk a) (Vm.Alike.refl U.vm) h3, tg_NU.same (u := U) (U := U.calling g mk a) rfl h4, tx_TX.same (u := U) (U := U.calling g mk a) rfl rfl h5, va_Nc.moved (u := U) (U := U.calling g mk a) (Vm.Alike.refl U.vm) h6, va_Nc.moved (u := U) (U := U.calling g mk a) (Vm.Alike.refl U.vm) h7⟩
/-- two objects of the class, apart -/
def vg_ap (h g : Nat → Nat) : Prop := tw_dis 23 h ∧ tw_dis 23 g ∧ ∀ i j, i < 23 → j < 23 → h i ≠ g j
/-- the world: both objects -/
def vg_W (h g : Nat → Nat) (cI cZ : ClassId) (σ τ : tg_Mem) : va_W := tw_T h cI cZ σ ++ tw_T g cI cZ τ
/-- what stays so on the way of a method that knows both -/
def vg_E (s : State) (D : va_G) (h g : Nat → Nat) (cI cZ : ClassId) (A : Nat → Prop) : Prop :=
  va_K D vwCl (tw_ty cI cZ) s ∧ tg_NU tw_nl s ∧ tl_TX A s ∧ vg_ap h g ∧ (∀ q, tw_A 23 h q → A q) ∧ (∀ q, tw_A 23 g q → A q)
variable {h g : Nat → Nat} {cI cZ : ClassId} {σ τ σ2 : tg_Mem}
theorem vg_Pa {H : Heap} (hP : va_P D vwCl (vg_W h g cI cZ σ τ) H) : va_P D vwCl (tw_T h cI cZ σ) H := hP.sub [0, 1, 2, 3, 4, 5, 6, 7, 8, 9, 10, 11, 12, 13, 14, 15, 16, 17, 18, 19, 20, 21, 22] rfl
theorem vg_Pb {H : Heap} (hP : va_P D vwCl (vg_W h g cI cZ σ τ) H) : va_P D vwCl (tw_T g cI cZ τ) H := hP.sub [23, 24, 25, 26, 27, 28, 29, 30, 31, 32, 33, 34, 35, 36, 37, 38, 39, 40, 41, 42, 43, 44, 45] rfl
theorem vg_keep {H H1 : Heap} {P : Nat → Prop} (hg : tw_dis 23 g) (hP : va_P D vwCl (tw_T g cI cZ τ) H) (hk : ∀ q : Nat, q < H.size → ¬ P q → H1[q]? = H[q]?) (hn : ∀ i, i < 23 → ¬ P (g i)) : va_P D vwCl (tw_T g cI cZ τ) H1 :=
  hP.kept (fun k q hq => hk q.1 (vx_lt hP hq) (by
    obtain ⟨i, hi, e⟩ := (tw_TD (cI := cI) (cZ := cZ) hg τ).2 k q hq
    rw [e]
    exact hn i hi))
theorem vg_nA (hap : vg_ap h g) : ∀ i, i < 23 → ¬ tw_A 23 h (g i) := fun i hi ⟨j, hj, e⟩ => hap.2.2 j i hj hi e.symm
theorem vg_nB (hap : vg_ap h g) : ∀ i, i < 23 → ¬ tw_A 23 g (h i) := fun i hi ⟨j, hj, e⟩ => hap.2.2 i j hi hj e
theorem vg_Sk {H H1 : Heap} {locs Lc : List Loc} {P : Nat → Prop} (hS : va_S A s.heap H locs) (hz : H.size ≤ H1.size) (hk : ∀ q : Nat, q < H.size → ¬ P q → H1[q]? = H[q]?) (hPA : ∀ q, P q → A q) (hL : ∀ q ∈ Lc, P q.base) : va_S A s.heap H1 (locs ++ Lc) :=
  ⟨Nat.le_trans hS.1 hz, fun q h1 h2 => by rw [hk q (Nat.lt_of_lt_of_le h1 hS.1) (fun h3 => h2 (hPA q h3))]; exact hS.2.1 q h1 h2, fun q hq => by
    rcases List.mem_append.mp hq with h | h
    · exact hS.2.2 q h
    · exact hPA _ (hL q h)⟩
/-- a helper of the law is called on the first -/
theorem vg_callA (E : vg_E s D h g cI cZ A) (S : CallFix p m c cc n s args Ts RL) {y : MethodName} {bytes : ByteArray} {maxL index nA : Nat} {hh : List (Nat × Nat × Nat × Nat)} {ws ws' : List Cond} {kv : Int32} {ex : Option String} {As rest : List Value}
    (hM : vl_CT l y ws (tx_rm 9) (tw_T h cI cZ) (tw_ty cI cZ) tw_nl (tw_A 23 h) D As σ ex kv σ2) (hG : GoodIn Ts (va_wsS RL index y ws)) (hw : ws = Cond.codeWith y bytes maxL (some .int) hh :: ws')
    (hdd : y.cls ≠ "java/lang/invoke/MethodHandle" ∧ y.cls ≠ "java/lang/invoke/VarHandle" ∧ (parseMethodDescriptor y.desc).map (fun d => d.parameters.length) = some nA) (hR : (tx_rm 9).frames + 1 ≤ R.frames ∧ 8 + (maxL + 11) + (tx_rm 9).locals ≤ R.locals)
    (hnA : As.length = nA) (hst : st = As.reverse ++ rest) (hcat : (rest.map fun v => v.category).sum ≤ 8) (d : decode cc pc = .ok (.invokestatic index, 3)) (hf : k + 1 ≤ R.cells ∧ 6 * k + zc + 6 ≤ R.slots)
    (kn : ∀ j2, (ex = none ∧ j2 = jj) ∨ (ex ≠ none ∧ j2 = jj + 1) → vg_G p l e R s m args below meth c D (vg_W h g cI cZ σ2 τ) A n (k + 1) zc Q j2 (pc + 3) L (.int kv :: rest)) : vg_G p l e R s m args below meth c D (vg_W h g cI cZ σ τ) A n k zc Q jj pc L st := by
  obtain ⟨hK, hN, hX, hap, hAh, hAg⟩ := E
  intro H locs ls hP hS hl hj T hT X
  have hPt := vg_Pa hP
  have hpre : PreS s H (tl_Pre (tw_T h cI cZ) D (tw_ty cI cZ) tw_nl (tw_A 23 h) As σ) As :=
    ⟨tl_blind, fun U hU hW => ⟨rfl, by rw [hU]; exact hPt, va_K.moved hW.alike hK, hN.warm hW, (hX.1.call hW hU hS).narrow hAh, hX.2.1.moved hW.alike, hX.2.2.moved hW.alike⟩⟩
  obtain ⟨v, st₀, t, T', Lc, h0, X', hL, e1, e2, ⟨hlt, hv, hPt2, hz, hk⟩, sg⟩ := vx_runSW (As := As) (rest := rest) S hM (vx_cwSW nA S.2.2.2.2 hG hw rfl rfl hdd hR) hpre rfl hnA hl.1 hst (lv_room hcat) d hf T hT X
  cases hv
  rw [h0] at hlt hz hk
  have ez : 6 * k + zc + 6 = 6 * (k + 1) + zc := by omega
  rw [ez] at X'
  have hPn : va_P D vwCl (vg_W h g cI cZ σ2 τ) T'.heap := by
    rw [e1]
    exact hPt2.app (vg_keep hap.2.1 (vg_Pb hP) hk (vg_nA hap))
  have hSn : va_S A s.heap T'.heap (locs ++ Lc) := by
    rw [e1]
    exact vg_Sk hS hz hk hAh hL
  rcases hlt with hx | hx
  · by_cases hex : ex = none
    · obtain ⟨t2, a1, b1⟩ := kn jj (Or.inl ⟨hex, rfl⟩) T'.heap (locs ++ Lc) ls hPn hSn hl (by rw [e1]; exact Nat.le_trans hj hz) T' rfl X'
      exact ⟨t2, sg t2 a1, b1⟩
    · exact absurd hx hex
  · by_cases hex : ex = none
    · obtain ⟨t2, a1, b1⟩ := kn jj (Or.inl ⟨hex, rfl⟩) T'.heap (locs ++ Lc) ls hPn hSn hl (by rw [e1]; exact Nat.le_trans hj hz) T' rfl X'
      exact ⟨t2, sg t2 a1, b1⟩
    · obtain ⟨t2, a1, b1⟩ := kn (jj + 1) (Or.inr ⟨hex, rfl⟩) T'.heap (locs ++ Lc) ls hPn hSn hl (by rw [e1]; exact Nat.lt_of_le_of_lt hj hx) T' rfl X'
      exact ⟨t2, sg t2 a1, b1⟩
/-- a helper of the law is called on the second -/
theorem vg_callB (E : vg_E s D h g cI cZ A) (S : CallFix p m c cc n s args Ts RL) {y : MethodName} {bytes : ByteArray} {maxL index nA : Nat} {hh : List (Nat × Nat × Nat × Nat)} {ws ws' : List Cond} {kv : Int32} {ex : Option String} {As rest : List Value}
    (hM : vl_CT l y ws (tx_rm 9) (tw_T g cI cZ) (tw_ty cI cZ) tw_nl (tw_A 23 g) D As τ ex kv σ2) (hG : GoodIn Ts (va_wsS RL index y ws)) (hw : ws = Cond.codeWith y bytes maxL (some .int) hh :: ws')
    (hdd : y.cls ≠ "java/lang/invoke/MethodHandle" ∧ y.cls ≠ "java/lang/invoke/VarHandle" ∧ (parseMethodDescriptor y.desc).map (fun d => d.parameters.length) = some nA) (hR : (tx_rm 9).frames + 1 ≤ R.frames ∧ 8 + (maxL + 11) + (tx_rm 9).locals ≤ R.locals)
    (hnA : As.length = nA) (hst : st = As.reverse ++ rest) (hcat : (rest.map fun v => v.category).sum ≤ 8) (d : decode cc pc = .ok (.invokestatic index, 3)) (hf : k + 1 ≤ R.cells ∧ 6 * k + zc + 6 ≤ R.slots)
    (kn : ∀ j2, (ex = none ∧ j2 = jj) ∨ (ex ≠ none ∧ j2 = jj + 1) → vg_G p l e R s m args below meth c D (vg_W h g cI cZ σ σ2) A n (k + 1) zc Q j2 (pc + 3) L (.int kv :: rest)) : vg_G p l e R s m args below meth c D (vg_W h g cI cZ σ τ) A n k zc Q jj pc L st := by
  obtain ⟨hK, hN, hX, hap, hAh, hAg⟩ := E
  intro H locs ls hP hS hl hj T hT X
  have hPt := vg_Pb hP
  have hpre : PreS s H (tl_Pre (tw_T g cI cZ) D (tw_ty cI cZ) tw_nl (tw_A 23 g) As τ) As :=
    ⟨tl_blind, fun U hU hW => ⟨rfl, by rw [hU]; exact hPt, va_K.moved hW.alike hK, hN.warm hW, (hX.1.call hW hU hS).narrow hAg, hX.2.1.moved hW.alike, hX.2.2.moved hW.alike⟩⟩
  obtain ⟨v, st₀, t, T', Lc, h0, X', hL, e1, e2, ⟨hlt, hv, hPt2, hz, hk⟩, sg⟩ := vx_runSW (As := As) (rest := rest) S hM (vx_cwSW nA S.2.2.2.2 hG hw rfl rfl hdd hR) hpre rfl hnA hl.1 hst (lv_room hcat) d hf T hT X
  cases hv
  rw [h0] at hlt hz hk
  have ez : 6 * k + zc + 6 = 6 * (k + 1) + zc := by omega
  rw [ez] at X'
  have hPn : va_P D vwCl (vg_W h g cI cZ σ σ2) T'.heap := by
    rw [e1]
    exact (vg_keep hap.1 (vg_Pa hP) hk (vg_nB hap)).app hPt2
  have hSn : va_S A s.heap T'.heap (locs ++ Lc) := by
    rw [e1]
    exact vg_Sk hS hz hk hAg hL
  rcases hlt with hx | hx
  · by_cases hex : ex = none
    · obtain ⟨t2, a1, b1⟩ := kn jj (Or.inl ⟨hex, rfl⟩) T'.heap (locs ++ Lc) ls hPn hSn hl (by rw [e1]; exact Nat.le_trans hj hz) T' rfl X'
      exact ⟨t2, sg t2 a1, b1⟩
    · exact absurd hx hex
  · by_cases hex : ex = none
    · obtain ⟨t2, a1, b1⟩ := kn jj (Or.inl ⟨hex, rfl⟩) T'.heap (locs ++ Lc) ls hPn hSn hl (by rw [e1]; exact Nat.le_trans hj hz) T' rfl X'
      exact ⟨t2, sg t2 a1, b1⟩
    · obtain ⟨t2, a1, b1⟩ := kn (jj + 1) (Or.inr ⟨hex, rfl⟩) T'.heap (locs ++ Lc) ls hPn hSn hl (by rw [e1]; exact Nat.lt_of_le_of_lt hj hx) T' rfl X'
      exact ⟨t2, sg t2 a1, b1⟩
/-- a method of the first that throws nothing is called -/
theorem vg_callTA (E : vg_E s D h g cI cZ A) (S : CallFix p m c cc n s args Ts RL) {y : MethodName} {bytes : ByteArray} {maxL index nA fr : Nat} {ret : Option FieldType} {ws ws' : List Cond} {r : Option Value} {As rest : List Value}
    (hM : tg_CT l y ws (tg_rm fr) (tw_T h cI cZ) (tw_ty cI cZ) tw_nl (tw_A 23 h) D (.ref (h 0) :: As) σ r σ2) (hG : GoodIn Ts (wsV RL index RX2 y ws)) (hw : ws = Cond.code y bytes maxL ret :: ws')
    (hdd : y.cls = RX2 ∧ y.cls ≠ "java/lang/invoke/MethodHandle" ∧ y.cls ≠ "java/lang/invoke/VarHandle" ∧ (parseMethodDescriptor y.desc).map (fun d => d.parameters.length) = some nA) (hR : fr + 1 ≤ R.frames ∧ 8 + (maxL + 11) + 28 * fr ≤ R.locals)
    (hnA : As.length = nA) (hst : st = As.reverse ++ .ref (h 0) :: rest) (hcat : (rest.map fun v => v.category).sum ≤ 8) (d : decode cc pc = .ok (.invokevirtual index, 3)) (hf : k ≤ R.cells ∧ 6 * k + zc ≤ R.slots)
    (kn : vg_G p l e R s m args below meth c D (vg_W h g cI cZ σ2 τ) A n k zc Q jj (pc + 3) L (r.toList ++ rest)) : vg_G p l e R s m args below meth c D (vg_W h g cI cZ σ τ) A n k zc Q jj pc L st := by
  obtain ⟨hK, hN, hX, hap, hAh, hAg⟩ := E
  intro H locs ls hP hS hl hj T hT X
  have hPt := vg_Pa hP
  have hpre := tg_preV (As := As) hK hN hPt (ci := 2) (q0 := 0) (q := (RX2, TX2, 2)) rfl rfl
  obtain ⟨v, st₀, t, T', Lc, h0, X', hL, e1, e2, ⟨hv, hPt2, hz, hk⟩, sg⟩ := va_runV (As := As) (rest := rest) S hM (cwV nA S.2.2.2.2 hG hw rfl rfl hdd hR) hpre rfl hnA hl.1 hst (lv_room hcat) d hf T hT X
  cases hv
  rw [h0] at hz hk
  obtain ⟨t2, a1, b1⟩ := kn T'.heap (locs ++ Lc) ls (by
      rw [e1]
      exact hPt2.app (vg_keep hap.2.1 (vg_Pb hP) hk (vg_nA hap))) (by
      rw [e1]
      exact vg_Sk hS hz hk hAh hL) hl (by rw [e1]; exact Nat.le_trans hj hz) T' rfl X'
  exact ⟨t2, sg t2 a1, b1⟩
/-- a method of the second that throws nothing is called -/
theorem vg_callTB (E : vg_E s D h g cI cZ A) (S : CallFix p m c cc n s args Ts RL) {y : MethodName} {bytes : ByteArray} {maxL index nA fr : Nat} {ret : Option FieldType} {ws ws' : List Cond} {r : Option Value} {As rest : List Value}
    (hM : tg_CT l y ws (tg_rm fr) (tw_T g cI cZ) (tw_ty cI cZ) tw_nl (tw_A 23 g) D (.ref (g 0) :: As) τ r σ2) (hG : GoodIn Ts (wsV RL index RX2 y ws)) (hw : ws = Cond.code y bytes maxL ret :: ws')
    (hdd : y.cls = RX2 ∧ y.cls ≠ "java/lang/invoke/MethodHandle" ∧ y.cls ≠ "java/lang/invoke/VarHandle" ∧ (parseMethodDescriptor y.desc).map (fun d => d.parameters.length) = some nA) (hR : fr + 1 ≤ R.frames ∧ 8 + (maxL + 11) + 28 * fr ≤ R.locals)
    (hnA : As.length = nA) (hst : st = As.reverse ++ .ref (g 0) :: rest) (hcat : (rest.map fun v => v.category).sum ≤ 8) (d : decode cc pc = .ok (.invokevirtual index, 3)) (hf : k ≤ R.cells ∧ 6 * k + zc ≤ R.slots)
    (kn : vg_G p l e R s m args below meth c D (vg_W h g cI cZ σ σ2) A n k zc Q jj (pc + 3) L (r.toList ++ rest)) : vg_G p l e R s m args below meth c D (vg_W h g cI cZ σ τ) A n k zc Q jj pc L st := by
  obtain ⟨hK, hN, hX, hap, hAh, hAg⟩ := E
  intro H locs ls hP hS hl hj T hT X
  have hPt := vg_Pb hP
  have hpre := tg_preV (As := As) hK hN hPt (ci := 2) (q0 := 0) (q := (RX2, TX2, 2)) rfl rfl
  obtain ⟨v, st₀, t, T', Lc, h0, X', hL, e1, e2, ⟨hv, hPt2, hz, hk⟩, sg⟩ := va_runV (As := As) (rest := rest) S hM (cwV nA S.2.2.2.2 hG hw rfl rfl hdd hR) hpre rfl hnA hl.1 hst (lv_room hcat) d hf T hT X
  cases hv
  rw [h0] at hz hk
  obtain ⟨t2, a1, b1⟩ := kn T'.heap (locs ++ Lc) ls (by
      rw [e1]
      exact (vg_keep hap.1 (vg_Pa hP) hk (vg_nB hap)).app hPt2) (by
      rw [e1]
      exact vg_Sk hS hz hk hAg hL) hl (by rw [e1]; exact Nat.le_trans hj hz) T' rfl X'
  exact ⟨t2, sg t2 a1, b1⟩
end VG
end
section
/-! ===== 15: what the class answers to areAlike: never less than 0 without a throw ===== -/
def vn_N (σ : tg_Mem) : Prop := (∀ i, i < 30 → 0 ≤ σ 18 i) ∧ ∀ i, i < 30 → 0 ≤ σ 19 i
theorem vn_nn {x : Int32} (h : 0 ≤ x) : ¬ x < 0 := by
  rw [Int32.le_iff_toInt_le] at h
  rw [Int32.lt_iff_toInt_lt]
  omega
theorem vn_neg {ex : Option String} {v : Int32} (h : vl_k ex v < 0) (hv : ex = none → 0 ≤ v) : ex ≠ none := by
  intro e
  have h1 := hv e
  subst e
  exact vn_nn h1 h
theorem vn_pos {ex : Option String} {v : Int32} (h : ¬ vl_k ex v < 0) : ex = none := by
  cases ex with
  | none => rfl
  | some E => exact absurd (show vl_k (some E) v < 0 from by show (-9 : Int32) < 0; decide) h
theorem vn_root {σ : tg_Mem} {x : Int32} (hN : vn_N σ) (h : fx_root σ x = none) : 0 ≤ fa_rootAt σ x := by
  unfold fx_root at h
  by_cases h1 : fa_rootAt σ x = -1
  · rw [if_pos h1] at h; cases h
  · unfold fa_rootAt at h1 ⊢
    by_cases h2 : fa_id x = true
    · rw [if_pos h2] at h1 ⊢
      by_cases h3 : σ 20 0 ≤ x
      · rw [if_pos h3] at h1; exact absurd rfl h1
      · rw [if_neg h3]
        obtain ⟨j, hj, rfl⟩ := tr_idx h2
        rw [tr_cl hj]
        exact hN.2 j hj
    · rw [if_neg h2] at h1; exact absurd rfl h1
theorem vn_at {σ : tg_Mem} {x k : Int32} (h : fa_idAt σ x k ≠ -1) : fa_id (σ 17 x.toNatClampNeg + k) = true ∧ fa_idAt σ x k = σ 18 (σ 17 x.toNatClampNeg + k).toNatClampNeg := by
  unfold fa_idAt at h ⊢
  by_cases h1 : fa_cont σ x = true
  · rw [if_pos h1] at h ⊢
    by_cases h2 : k < 0
    · rw [if_pos h2] at h; exact absurd rfl h
    · rw [if_neg h2] at h ⊢
      by_cases h3 : k < σ 15 x.toNatClampNeg
      · rw [if_pos h3] at h ⊢
        by_cases h4 : fa_id (σ 17 x.toNatClampNeg + k) = true
        · rw [if_pos h4]; exact ⟨h4, rfl⟩
        · rw [if_neg h4] at h; exact absurd rfl h
      · rw [if_neg h3] at h; exact absurd rfl h
  · rw [if_neg h1] at h; exact absurd rfl h
theorem vn_ex {σ : tg_Mem} {x k : Int32} (h : fx_inTree σ x k = none) : fa_idAt σ x k ≠ -1 := by
  intro e
  unfold fx_inTree at h
  rw [if_pos e] at h
  cases h1 : fx_forest σ x with
  | none => rw [h1] at h; cases h
  | some E => rw [h1] at h; cases h
theorem vn_inTree {σ : tg_Mem} {x k : Int32} (hN : vn_N σ) (h : fx_inTree σ x k = none) : 0 ≤ fa_idAt σ x k := by
  obtain ⟨h1, h2⟩ := vn_at (vn_ex h)
  rw [h2]
  obtain ⟨j, hj, e⟩ := tr_idx h1
  rw [e, tr_cl hj]
  exact hN.1 j hj
/-- a walk through a tree ends behind 30 places -/
theorem vn_end {σ : tg_Mem} {x : Int32} {q : Nat} (h0 : fx_inTree σ x (nI 0) = none) (h : fx_inTree σ x (nI q) = none) (hq : q ≤ 30) : q < 30 := by
  obtain ⟨a1, -⟩ := vn_at (vn_ex h0)
  obtain ⟨b1, -⟩ := vn_at (vn_ex h)
  obtain ⟨j, hj, e⟩ := tr_idx a1
  rw [show nI 0 = 0 from nI_0, Int32.add_zero] at e
  rw [e, nI_add] at b1
  obtain ⟨i, hi, e2⟩ := tr_idx b1
  have h3 := (nI_eq (a := j + q) (b := i) (by omega) (by omega)).mp e2
  omega
end
section
/-! ===== 16: areAlike: it returns, and where it answers true it has made 32 new cells (printed by wip/p20/genQ.py) ===== -/
def al_A (h g : Nat → Nat) : Nat → Prop := fun q => tw_A 23 h q ∨ tw_A 23 g q
def al_rm : Room := { frames := 10, cells := 2112, slots := 12672, locals := 280 }
def al_Q (h g : Nat → Nat) (cI cZ : ClassId) (D : va_G) (σ τ : tg_Mem) : Array Value → State → Outcome → State → Prop := fun _ st o t => ∃ b : Bool, o = .returned (some (.int (tg_b b))) ∧ (b = true → st.heap.size + 32 ≤ t.heap.size) ∧ va_P D vwCl (vg_W h g cI cZ σ τ) t.heap ∧ va_F (al_A h g) st t
section AL
variable {p : Program} {l : Launch} {e : Env} {s : State} {m : MethodId} {below : List Frame} {meth : Method} {c : Code} {D : va_G} {h g : Nat → Nat} {cI cZ : ClassId} {σ τ : tg_Mem} {k jj : Nat}
abbrev al_G (p : Program) (l : Launch) (e : Env) (s : State) (m : MethodId) (below : List Frame) (meth : Method) (c : Code) (D : va_G) (h g : Nat → Nat) (cI cZ : ClassId) (σ τ : tg_Mem) (k jj pc : Nat) (L : List (Nat × Value)) (st : List Value) : Prop :=
  vg_G p l e al_rm s m ([.ref (h 0), .ref (g 0)] : List Value).toArray below meth c D (vg_W h g cI cZ σ τ) (al_A h g) 8 k 0 (MQ below (al_Q h g cI cZ D σ τ) ([.ref (h 0), .ref (g 0)] : List Value).toArray s 2112 12672 (al_A h g)) jj pc L st
def al_E (p : Program) (l : Launch) (s : State) (m : MethodId) (meth : Method) (c : Code) (D : va_G) (h g : Nat → Nat) (cI cZ : ClassId) : Prop :=
  vg_E s D h g cI cZ (al_A h g) ∧ CallFix p m c cL_areAlike 8 s ([.ref (h 0), .ref (g 0)] : List Value).toArray wzL_areAlike RL ∧ meth.sig.returnType = some .boolean ∧ meth.locks = false ∧ l.stackTraces = false
theorem al_ret (E : al_E p l s m meth c D h g cI cZ) {b : Bool} {L : List (Nat × Value)} (hb : b = true → 32 ≤ jj) : al_G p l e s m below meth c D h g cI cZ σ τ 2112 jj 184 L [.int (tg_b b)] := by
  have S := E.2.1
  exact fun H locs ls hP hS hl hj => W.zret S.1 S.2.1 E.2.2.1 (by cases b <;> rfl) (fun t ht hW => ⟨b, rfl, fun h1 => by rw [ht]; have := hb h1; omega, by rw [ht]; exact hP, hS.F ht⟩) hS.2.2 dL_areAlike_184 E.2.2.2.1
set_option maxHeartbeats 4000000 in
theorem al_F22 (E : al_E p l s m meth c D h g cI cZ) {v : Int32} (hk : k ≤ 2112) : al_G p l e s m below meth c D h g cI cZ σ τ k jj 22 [(0, .ref (h 0)), (1, .ref (g 0)), (2, .int (nI 16)), (3, .int 0), (4, .int v)] [] := by
  have S := E.2.1
  refine vg_widen hk ?_
  refine vg_iload S 4 dL_areAlike_22 rfl ?_
  refine vg_iload_n S 2 dL_areAlike_24 rfl rfl ?_
  have k183 : al_G p l e s m below meth c D h g cI cZ σ τ 2112 jj 183 [(0, .ref (h 0)), (1, .ref (g 0)), (2, .int (nI 16)), (3, .int 0), (4, .int v)] [] := by
    refine vg_iload_n S 3 dL_areAlike_183 rfl rfl ?_
    exact al_ret (b := false) E (fun c => absurd c (by decide))
  refine vg_icmp_ge (tgt := 183) S dL_areAlike_25 (by decide) (fun _ => k183) (fun _ => ?_)
  refine vg_iload_n S 3 dL_areAlike_28 rfl rfl ?_
  refine vg_if_eq (tgt := 183) S dL_areAlike_29 (by decide) (fun _ => k183) (fun c => absurd rfl c)
set_option maxHeartbeats 4000000 in
theorem al_F177 (E : al_E p l s m meth c D h g cI cZ) {v : Int32} (hk : k ≤ 2112) : al_G p l e s m below meth c D h g cI cZ σ τ k jj 177 [(0, .ref (h 0)), (1, .ref (g 0)), (2, .int (nI 16)), (3, .int 0), (4, .int v)] [] := by
  have S := E.2.1
  refine vg_iinc (v := v + Int32.ofInt 1) (L' := [(0, .ref (h 0)), (1, .ref (g 0)), (2, .int (nI 16)), (3, .int 0), (4, .int (v + Int32.ofInt 1))]) [1, 2, 3, 4, 0] S 4 dL_areAlike_177 rfl rfl (by decide) rfl ?_
  refine vg_goto (tgt := 22) S dL_areAlike_180 (by decide) ?_
  exact al_F22 E hk
set_option maxHeartbeats 4000000 in
theorem al_F111 (E : al_E p l s m meth c D h g cI cZ) {v r pl x : Int32} (hk : k ≤ 2112) : al_G p l e s m below meth c D h g cI cZ σ τ k jj 111 [(0, .ref (h 0)), (1, .ref (g 0)), (2, .int (nI 16)), (3, .int 0), (4, .int v), (5, .int r), (6, .int pl), (7, .int x)] [] := by
  have S := E.2.1
  have k177 : al_G p l e s m below meth c D h g cI cZ σ τ k jj 177 [(0, .ref (h 0)), (1, .ref (g 0)), (2, .int (nI 16)), (3, .int 0), (4, .int v), (5, .int r), (6, .int pl), (7, .int x)] [] := vg_sub [0, 1, 2, 3, 4] rfl (al_F177 E hk)
  refine vg_iload S 7 dL_areAlike_111 rfl ?_
  refine vg_if_lt (tgt := 177) S dL_areAlike_113 (by decide) (fun _ => k177) (fun _ => ?_)
  refine vg_iload_n S 3 dL_areAlike_116 rfl rfl ?_
  refine vg_if_eq (tgt := 177) S dL_areAlike_117 (by decide) (fun _ => k177) (fun c => absurd rfl c)
set_option maxHeartbeats 4000000 in
theorem al_F104 (E : al_E p l s m meth c D h g cI cZ) {v r pl : Int32} (hk : k ≤ 2112) : al_G p l e s m below meth c D h g cI cZ σ τ k jj 104 [(0, .ref (h 0)), (1, .ref (g 0)), (2, .int (nI 16)), (3, .int 0), (4, .int v), (5, .int r), (6, .int pl)] [] := by
  have S := E.2.1
  refine vg_iconst (v := 0) S dL_areAlike_104 (by decide) ?_
  refine vg_istore (L' := [(0, .ref (h 0)), (1, .ref (g 0)), (2, .int (nI 16)), (3, .int 0), (4, .int v), (5, .int r), (6, .int 0)]) [1, 2, 3, 4, 5, 6, 0] S dL_areAlike_105 (by decide) rfl ?_
  refine vg_iload S 5 dL_areAlike_107 rfl ?_
  refine vg_istore (L' := [(0, .ref (h 0)), (1, .ref (g 0)), (2, .int (nI 16)), (3, .int 0), (4, .int v), (5, .int r), (6, .int 0), (7, .int r)]) [1, 2, 3, 4, 5, 6, 7, 0] S dL_areAlike_109 (by decide) rfl ?_
  exact al_F111 E hk
set_option maxHeartbeats 4000000 in
theorem al_F62 (E : al_E p l s m meth c D h g cI cZ) {v r pl : Int32} (hk : k ≤ 2112) : al_G p l e s m below meth c D h g cI cZ σ τ k jj 62 [(0, .ref (h 0)), (1, .ref (g 0)), (2, .int (nI 16)), (3, .int 0), (4, .int v), (5, .int r), (6, .int pl)] [] := by
  have S := E.2.1
  refine vg_iload S 6 dL_areAlike_62 rfl ?_
  refine vg_bipush (v := 6) S dL_areAlike_64 (by decide) ?_
  refine vg_icmp_ge (tgt := 104) S dL_areAlike_66 (by decide) (fun _ => al_F104 E hk) (fun _ => ?_)
  refine vg_iload_n S 3 dL_areAlike_69 rfl rfl ?_
  refine vg_if_eq (tgt := 104) S dL_areAlike_70 (by decide) (fun _ => al_F104 E hk) (fun c => absurd rfl c)
set_option maxHeartbeats 4000000 in
theorem al_T177 (E : al_E p l s m meth c D h g cI cZ) {i : Nat} (hk : k ≤ 132 * (i + 1)) (hj : 2 * (i + 1) ≤ jj) (next : ∀ j2, 2 * (i + 1) ≤ j2 → al_G p l e s m below meth c D h g cI cZ σ τ (132 * (i + 1)) j2 22 [(0, .ref (h 0)), (1, .ref (g 0)), (2, .int (nI 16)), (3, .int 1), (4, .int (nI (i + 1)))] []) : al_G p l e s m below meth c D h g cI cZ σ τ k jj 177 [(0, .ref (h 0)), (1, .ref (g 0)), (2, .int (nI 16)), (3, .int 1), (4, .int (nI i))] [] := by
  have S := E.2.1
  refine vg_iinc (v := nI (i + 1)) (L' := [(0, .ref (h 0)), (1, .ref (g 0)), (2, .int (nI 16)), (3, .int 1), (4, .int (nI (i + 1)))]) [1, 2, 3, 4, 0] S 4 dL_areAlike_177 rfl (tg_inc _) (by decide) rfl ?_
  refine vg_goto (tgt := 22) S dL_areAlike_180 (by decide) ?_
  exact vg_widen hk (next jj hj)
set_option maxHeartbeats 4000000 in
theorem al_W (E : al_E p l s m meth c D h g cI cZ) {i : Nat} {r : Int32} (hi : i < 16) (hNs : vn_N σ) (hNt : vn_N τ) (next : ∀ j2, 2 * (i + 1) ≤ j2 → al_G p l e s m below meth c D h g cI cZ σ τ (132 * (i + 1)) j2 22 [(0, .ref (h 0)), (1, .ref (g 0)), (2, .int (nI 16)), (3, .int 1), (4, .int (nI (i + 1)))] []) : ∀ (f q : Nat) (x : Int32) (jj : Nat), q + f = 31 → q ≤ 30 → (q = 0 ∨ fx_inTree σ r (nI 0) = none) → ¬ x < 0 → 2 * i ≤ jj → al_G p l e s m below meth c D h g cI cZ σ τ (132 * i + 8 + 4 * q) jj 116 [(0, .ref (h 0)), (1, .ref (g 0)), (2, .int (nI 16)), (3, .int 1), (4, .int (nI i)), (5, .int r), (6, .int (nI q)), (7, .int x)] [] := by
  have S := E.2.1
  intro f
  induction f with
  | zero => intro q x jj hf hq; omega
  | succ f ih =>
    intro q x jj hf hq ht hx hj
    refine vg_iload_n S 3 dL_areAlike_116 rfl rfl ?_
    refine vg_if_eq (tgt := 177) S dL_areAlike_117 (by decide) (fun c => absurd c (by decide)) (fun _ => ?_)
    refine vg_aload_n S 0 dL_areAlike_120 rfl rfl ?_
    refine vg_iload S 5 dL_areAlike_121 rfl ?_
    refine vg_iload S 6 dL_areAlike_123 rfl ?_
    refine vg_callA (nA := 3) (As := [.ref (h 0), .int r, .int (nI q)]) (rest := []) E.1 S (k_L_inTree E.1.2.2.2.1.1 E.2.2.2.2 σ r (nI q)) (tw_gS ml_RL_66 st_L_inTree in_RL co_L_inTree rfl) rfl (by decide +kernel) ⟨Nat.le_of_ble_eq_true rfl, Nat.le_of_ble_eq_true rfl⟩ rfl rfl (Nat.le_of_ble_eq_true rfl) dL_areAlike_125 ⟨by show _ ≤ 2112; omega, by show _ ≤ 12672; omega⟩ (fun j2 hj2 => ?_)
    refine vg_istore (L' := [(0, .ref (h 0)), (1, .ref (g 0)), (2, .int (nI 16)), (3, .int 1), (4, .int (nI i)), (5, .int r), (6, .int (nI q)), (7, .int (vl_k (fx_inTree σ r (nI q)) (fa_idAt σ r (nI q))))]) [1, 2, 3, 4, 5, 6, 7, 0] S dL_areAlike_128 (by decide) rfl ?_
    refine vg_aload_n S 1 dL_areAlike_130 rfl rfl ?_
    refine vg_iload S 5 dL_areAlike_131 rfl ?_
    refine vg_iload S 6 dL_areAlike_133 rfl ?_
    refine vg_callB (nA := 3) (As := [.ref (g 0), .int r, .int (nI q)]) (rest := []) E.1 S (k_L_inTree E.1.2.2.2.1.2.1 E.2.2.2.2 τ r (nI q)) (tw_gS ml_RL_66 st_L_inTree in_RL co_L_inTree rfl) rfl (by decide +kernel) ⟨Nat.le_of_ble_eq_true rfl, Nat.le_of_ble_eq_true rfl⟩ rfl rfl (Nat.le_of_ble_eq_true rfl) dL_areAlike_135 ⟨by show _ ≤ 2112; omega, by show _ ≤ 12672; omega⟩ (fun j3 hj3 => ?_)
    refine vg_iload S 7 dL_areAlike_138 rfl ?_
    refine vg_icmp_ne (tgt := 169) S dL_areAlike_140 (by decide) (fun _ => ?_) (fun e => ?_)
    · skip
      refine vg_iconst (v := 0) S dL_areAlike_169 (by decide) ?_
      refine vg_istore_n (L' := [(0, .ref (h 0)), (1, .ref (g 0)), (2, .int (nI 16)), (3, .int 0), (4, .int (nI i)), (5, .int r), (6, .int (nI q)), (7, .int (vl_k (fx_inTree σ r (nI q)) (fa_idAt σ r (nI q))))]) [1, 2, 3, 0, 4, 5, 6, 7] S dL_areAlike_170 rfl (by decide) rfl ?_
      refine vg_iinc (v := nI (q + 1)) (L' := [(0, .ref (h 0)), (1, .ref (g 0)), (2, .int (nI 16)), (3, .int 0), (4, .int (nI i)), (5, .int r), (6, .int (nI (q + 1))), (7, .int (vl_k (fx_inTree σ r (nI q)) (fa_idAt σ r (nI q))))]) [1, 2, 3, 4, 5, 6, 0, 7] S 6 dL_areAlike_171 rfl (tg_inc _) (by decide) rfl ?_
      refine vg_goto (tgt := 111) S dL_areAlike_174 (by decide) ?_
      exact al_F111 E (by omega)
    · skip
      refine vg_iload S 7 dL_areAlike_143 rfl ?_
      refine vg_if_lt (tgt := 165) S dL_areAlike_145 (by decide) (fun hlt => ?_) (fun hge => ?_)
      · skip
        refine vg_iconst (v := 1) S dL_areAlike_165 (by decide) ?_
        refine vg_goto (tgt := 170) S dL_areAlike_166 (by decide) ?_
        refine vg_istore_n (L' := [(0, .ref (h 0)), (1, .ref (g 0)), (2, .int (nI 16)), (3, .int 1), (4, .int (nI i)), (5, .int r), (6, .int (nI q)), (7, .int (vl_k (fx_inTree σ r (nI q)) (fa_idAt σ r (nI q))))]) [1, 2, 3, 0, 4, 5, 6, 7] S dL_areAlike_170 rfl (by decide) rfl ?_
        refine vg_iinc (v := nI (q + 1)) (L' := [(0, .ref (h 0)), (1, .ref (g 0)), (2, .int (nI 16)), (3, .int 1), (4, .int (nI i)), (5, .int r), (6, .int (nI (q + 1))), (7, .int (vl_k (fx_inTree σ r (nI q)) (fa_idAt σ r (nI q))))]) [1, 2, 3, 4, 5, 6, 0, 7] S 6 dL_areAlike_171 rfl (tg_inc _) (by decide) rfl ?_
        refine vg_goto (tgt := 111) S dL_areAlike_174 (by decide) ?_
        refine vg_iload S 7 dL_areAlike_111 rfl ?_
        refine vg_if_lt (tgt := 177) S dL_areAlike_113 (by decide) (fun _ => ?_) (fun c => absurd hlt c)
        refine vg_sub (L' := [(0, .ref (h 0)), (1, .ref (g 0)), (2, .int (nI 16)), (3, .int 1), (4, .int (nI i))]) [0, 1, 2, 3, 4] rfl ?_
        have ha := vn_neg hlt (fun he => vn_inTree hNs he)
        have hb := vn_neg (by rw [e]; exact hlt) (fun he => vn_inTree hNt he)
        have h2 : j2 = jj + 1 := hj2.elim (fun q => absurd q.1 ha) (fun q => q.2)
        have h3 : j3 = j2 + 1 := hj3.elim (fun q => absurd q.1 hb) (fun q => q.2)
        exact al_T177 E (by omega) (by omega) next
      · skip
        refine vg_aload_n S 0 dL_areAlike_148 rfl rfl ?_
        refine vg_iconst (v := 1) S dL_areAlike_149 (by decide) ?_
        refine vg_iload S 7 dL_areAlike_150 rfl ?_
        refine vg_callA (nA := 3) (As := [.ref (h 0), .int 1, .int (vl_k (fx_inTree σ r (nI q)) (fa_idAt σ r (nI q)))]) (rest := []) E.1 S (k_L_of1 E.1.2.2.2.1.1 E.2.2.2.2 σ (vl_k (fx_inTree σ r (nI q)) (fa_idAt σ r (nI q)))) (tw_gS ml_RL_60 st_L_of in_RL co_L_of rfl) rfl (by decide +kernel) ⟨Nat.le_of_ble_eq_true rfl, Nat.le_of_ble_eq_true rfl⟩ rfl rfl (Nat.le_of_ble_eq_true rfl) dL_areAlike_152 ⟨by show _ ≤ 2112; omega, by show _ ≤ 12672; omega⟩ (fun j4 hj4 => ?_)
        refine vg_aload_n S 1 dL_areAlike_155 rfl rfl ?_
        refine vg_iconst (v := 1) S dL_areAlike_156 (by decide) ?_
        refine vg_iload S 7 dL_areAlike_157 rfl ?_
        refine vg_callB (nA := 3) (As := [.ref (g 0), .int 1, .int (vl_k (fx_inTree σ r (nI q)) (fa_idAt σ r (nI q)))]) (rest := [_]) E.1 S (k_L_of1 E.1.2.2.2.1.2.1 E.2.2.2.2 τ (vl_k (fx_inTree σ r (nI q)) (fa_idAt σ r (nI q)))) (tw_gS ml_RL_60 st_L_of in_RL co_L_of rfl) rfl (by decide +kernel) ⟨Nat.le_of_ble_eq_true rfl, Nat.le_of_ble_eq_true rfl⟩ rfl rfl (Nat.le_of_ble_eq_true rfl) dL_areAlike_159 ⟨by show _ ≤ 2112; omega, by show _ ≤ 12672; omega⟩ (fun j5 hj5 => ?_)
        refine vg_icmp_ne (tgt := 169) S dL_areAlike_162 (by decide) (fun _ => ?_) (fun _ => ?_)
        · skip
          refine vg_iconst (v := 0) S dL_areAlike_169 (by decide) ?_
          refine vg_istore_n (L' := [(0, .ref (h 0)), (1, .ref (g 0)), (2, .int (nI 16)), (3, .int 0), (4, .int (nI i)), (5, .int r), (6, .int (nI q)), (7, .int (vl_k (fx_inTree σ r (nI q)) (fa_idAt σ r (nI q))))]) [1, 2, 3, 0, 4, 5, 6, 7] S dL_areAlike_170 rfl (by decide) rfl ?_
          refine vg_iinc (v := nI (q + 1)) (L' := [(0, .ref (h 0)), (1, .ref (g 0)), (2, .int (nI 16)), (3, .int 0), (4, .int (nI i)), (5, .int r), (6, .int (nI (q + 1))), (7, .int (vl_k (fx_inTree σ r (nI q)) (fa_idAt σ r (nI q))))]) [1, 2, 3, 4, 5, 6, 0, 7] S 6 dL_areAlike_171 rfl (tg_inc _) (by decide) rfl ?_
          refine vg_goto (tgt := 111) S dL_areAlike_174 (by decide) ?_
          exact al_F111 E (by omega)
        · skip
          refine vg_iconst (v := 1) S dL_areAlike_165 (by decide) ?_
          refine vg_goto (tgt := 170) S dL_areAlike_166 (by decide) ?_
          refine vg_istore_n (L' := [(0, .ref (h 0)), (1, .ref (g 0)), (2, .int (nI 16)), (3, .int 1), (4, .int (nI i)), (5, .int r), (6, .int (nI q)), (7, .int (vl_k (fx_inTree σ r (nI q)) (fa_idAt σ r (nI q))))]) [1, 2, 3, 0, 4, 5, 6, 7] S dL_areAlike_170 rfl (by decide) rfl ?_
          refine vg_iinc (v := nI (q + 1)) (L' := [(0, .ref (h 0)), (1, .ref (g 0)), (2, .int (nI 16)), (3, .int 1), (4, .int (nI i)), (5, .int r), (6, .int (nI (q + 1))), (7, .int (vl_k (fx_inTree σ r (nI q)) (fa_idAt σ r (nI q))))]) [1, 2, 3, 4, 5, 6, 0, 7] S 6 dL_areAlike_171 rfl (tg_inc _) (by decide) rfl ?_
          refine vg_goto (tgt := 111) S dL_areAlike_174 (by decide) ?_
          refine vg_iload S 7 dL_areAlike_111 rfl ?_
          refine vg_if_lt (tgt := 177) S dL_areAlike_113 (by decide) (fun c => absurd c hge) (fun _ => ?_)
          have hn := vn_pos hge
          have h0 : fx_inTree σ r (nI 0) = none := ht.elim (fun e0 => by rw [← e0]; exact hn) id
          have hq2 := vn_end h0 hn hq
          have h2 : jj ≤ j2 := by rcases hj2 with ⟨-, h⟩ | ⟨-, h⟩ <;> omega
          have h3 : j2 ≤ j3 := by rcases hj3 with ⟨-, h⟩ | ⟨-, h⟩ <;> omega
          have h4 : j3 ≤ j4 := by rcases hj4 with ⟨-, h⟩ | ⟨-, h⟩ <;> omega
          have h5 : j4 ≤ j5 := by rcases hj5 with ⟨-, h⟩ | ⟨-, h⟩ <;> omega
          exact vg_widen (k1 := 132 * i + 8 + 4 * (q + 1)) (by omega) (ih (q + 1) _ j5 (by omega) (by omega) (Or.inr h0) hge (by omega))
set_option maxHeartbeats 4000000 in
theorem al_M62 (E : al_E p l s m meth c D h g cI cZ) {i : Nat} {r : Int32} (hi : i < 16) (hNs : vn_N σ) (hNt : vn_N τ) (h1 : 2 * i ≤ jj) (h2 : r < 0 → 2 * i + 2 ≤ jj) (next : ∀ j2, 2 * (i + 1) ≤ j2 → al_G p l e s m below meth c D h g cI cZ σ τ (132 * (i + 1)) j2 22 [(0, .ref (h 0)), (1, .ref (g 0)), (2, .int (nI 16)), (3, .int 1), (4, .int (nI (i + 1)))] []) : al_G p l e s m below meth c D h g cI cZ σ τ (132 * i + 2) jj 62 [(0, .ref (h 0)), (1, .ref (g 0)), (2, .int (nI 16)), (3, .int 1), (4, .int (nI i)), (5, .int r), (6, .int 3)] [] := by
  have S := E.2.1
  refine vg_iload S 6 dL_areAlike_62 rfl ?_
  refine vg_bipush (v := 6) S dL_areAlike_64 (by decide) ?_
  refine vg_icmp_ge (tgt := 104) S dL_areAlike_66 (by decide) (fun c => absurd c (by decide)) (fun _ => ?_)
  refine vg_iload_n S 3 dL_areAlike_69 rfl rfl ?_
  refine vg_if_eq (tgt := 104) S dL_areAlike_70 (by decide) (fun c => absurd c (by decide)) (fun _ => ?_)
  refine vg_aload_n S 0 dL_areAlike_73 rfl rfl ?_
  refine vg_iload S 6 dL_areAlike_74 rfl ?_
  refine vg_iload S 5 dL_areAlike_76 rfl ?_
  refine vg_callA (nA := 3) (As := [.ref (h 0), .int 3, .int r]) (rest := []) E.1 S (k_L_of3 E.1.2.2.2.1.1 E.2.2.2.2 σ r) (tw_gS ml_RL_60 st_L_of in_RL co_L_of rfl) rfl (by decide +kernel) ⟨Nat.le_of_ble_eq_true rfl, Nat.le_of_ble_eq_true rfl⟩ rfl rfl (Nat.le_of_ble_eq_true rfl) dL_areAlike_78 ⟨by show _ ≤ 2112; omega, by show _ ≤ 12672; omega⟩ (fun a3 ha3 => ?_)
  refine vg_aload_n S 1 dL_areAlike_81 rfl rfl ?_
  refine vg_iload S 6 dL_areAlike_82 rfl ?_
  refine vg_iload S 5 dL_areAlike_84 rfl ?_
  refine vg_callB (nA := 3) (As := [.ref (g 0), .int 3, .int r]) (rest := [_]) E.1 S (k_L_of3 E.1.2.2.2.1.2.1 E.2.2.2.2 τ r) (tw_gS ml_RL_60 st_L_of in_RL co_L_of rfl) rfl (by decide +kernel) ⟨Nat.le_of_ble_eq_true rfl, Nat.le_of_ble_eq_true rfl⟩ rfl rfl (Nat.le_of_ble_eq_true rfl) dL_areAlike_86 ⟨by show _ ≤ 2112; omega, by show _ ≤ 12672; omega⟩ (fun b3 hb3 => ?_)
  refine vg_icmp_ne (tgt := 96) S dL_areAlike_89 (by decide) (fun _ => ?_) (fun _ => ?_)
  · skip
    refine vg_iconst (v := 0) S dL_areAlike_96 (by decide) ?_
    refine vg_istore_n (L' := [(0, .ref (h 0)), (1, .ref (g 0)), (2, .int (nI 16)), (3, .int 0), (4, .int (nI i)), (5, .int r), (6, .int 3)]) [1, 2, 3, 0, 4, 5, 6] S dL_areAlike_97 rfl (by decide) rfl ?_
    refine vg_iinc (v := 4) (L' := [(0, .ref (h 0)), (1, .ref (g 0)), (2, .int (nI 16)), (3, .int 0), (4, .int (nI i)), (5, .int r), (6, .int 4)]) [1, 2, 3, 4, 5, 6, 0] S 6 dL_areAlike_98 rfl (by decide) (by decide) rfl ?_
    refine vg_goto (tgt := 62) S dL_areAlike_101 (by decide) ?_
    exact al_F62 E (by omega)
  · skip
    refine vg_iconst (v := 1) S dL_areAlike_92 (by decide) ?_
    refine vg_goto (tgt := 97) S dL_areAlike_93 (by decide) ?_
    refine vg_istore_n (L' := [(0, .ref (h 0)), (1, .ref (g 0)), (2, .int (nI 16)), (3, .int 1), (4, .int (nI i)), (5, .int r), (6, .int 3)]) [1, 2, 3, 0, 4, 5, 6] S dL_areAlike_97 rfl (by decide) rfl ?_
    refine vg_iinc (v := 4) (L' := [(0, .ref (h 0)), (1, .ref (g 0)), (2, .int (nI 16)), (3, .int 1), (4, .int (nI i)), (5, .int r), (6, .int 4)]) [1, 2, 3, 4, 5, 6, 0] S 6 dL_areAlike_98 rfl (by decide) (by decide) rfl ?_
    refine vg_goto (tgt := 62) S dL_areAlike_101 (by decide) ?_
    refine vg_iload S 6 dL_areAlike_62 rfl ?_
    refine vg_bipush (v := 6) S dL_areAlike_64 (by decide) ?_
    refine vg_icmp_ge (tgt := 104) S dL_areAlike_66 (by decide) (fun c => absurd c (by decide)) (fun _ => ?_)
    refine vg_iload_n S 3 dL_areAlike_69 rfl rfl ?_
    refine vg_if_eq (tgt := 104) S dL_areAlike_70 (by decide) (fun c => absurd c (by decide)) (fun _ => ?_)
    refine vg_aload_n S 0 dL_areAlike_73 rfl rfl ?_
    refine vg_iload S 6 dL_areAlike_74 rfl ?_
    refine vg_iload S 5 dL_areAlike_76 rfl ?_
    refine vg_callA (nA := 3) (As := [.ref (h 0), .int 4, .int r]) (rest := []) E.1 S (k_L_of4 E.1.2.2.2.1.1 E.2.2.2.2 σ r) (tw_gS ml_RL_60 st_L_of in_RL co_L_of rfl) rfl (by decide +kernel) ⟨Nat.le_of_ble_eq_true rfl, Nat.le_of_ble_eq_true rfl⟩ rfl rfl (Nat.le_of_ble_eq_true rfl) dL_areAlike_78 ⟨by show _ ≤ 2112; omega, by show _ ≤ 12672; omega⟩ (fun a4 ha4 => ?_)
    refine vg_aload_n S 1 dL_areAlike_81 rfl rfl ?_
    refine vg_iload S 6 dL_areAlike_82 rfl ?_
    refine vg_iload S 5 dL_areAlike_84 rfl ?_
    refine vg_callB (nA := 3) (As := [.ref (g 0), .int 4, .int r]) (rest := [_]) E.1 S (k_L_of4 E.1.2.2.2.1.2.1 E.2.2.2.2 τ r) (tw_gS ml_RL_60 st_L_of in_RL co_L_of rfl) rfl (by decide +kernel) ⟨Nat.le_of_ble_eq_true rfl, Nat.le_of_ble_eq_true rfl⟩ rfl rfl (Nat.le_of_ble_eq_true rfl) dL_areAlike_86 ⟨by show _ ≤ 2112; omega, by show _ ≤ 12672; omega⟩ (fun b4 hb4 => ?_)
    refine vg_icmp_ne (tgt := 96) S dL_areAlike_89 (by decide) (fun _ => ?_) (fun _ => ?_)
    · skip
      refine vg_iconst (v := 0) S dL_areAlike_96 (by decide) ?_
      refine vg_istore_n (L' := [(0, .ref (h 0)), (1, .ref (g 0)), (2, .int (nI 16)), (3, .int 0), (4, .int (nI i)), (5, .int r), (6, .int 4)]) [1, 2, 3, 0, 4, 5, 6] S dL_areAlike_97 rfl (by decide) rfl ?_
      refine vg_iinc (v := 5) (L' := [(0, .ref (h 0)), (1, .ref (g 0)), (2, .int (nI 16)), (3, .int 0), (4, .int (nI i)), (5, .int r), (6, .int 5)]) [1, 2, 3, 4, 5, 6, 0] S 6 dL_areAlike_98 rfl (by decide) (by decide) rfl ?_
      refine vg_goto (tgt := 62) S dL_areAlike_101 (by decide) ?_
      exact al_F62 E (by omega)
    · skip
      refine vg_iconst (v := 1) S dL_areAlike_92 (by decide) ?_
      refine vg_goto (tgt := 97) S dL_areAlike_93 (by decide) ?_
      refine vg_istore_n (L' := [(0, .ref (h 0)), (1, .ref (g 0)), (2, .int (nI 16)), (3, .int 1), (4, .int (nI i)), (5, .int r), (6, .int 4)]) [1, 2, 3, 0, 4, 5, 6] S dL_areAlike_97 rfl (by decide) rfl ?_
      refine vg_iinc (v := 5) (L' := [(0, .ref (h 0)), (1, .ref (g 0)), (2, .int (nI 16)), (3, .int 1), (4, .int (nI i)), (5, .int r), (6, .int 5)]) [1, 2, 3, 4, 5, 6, 0] S 6 dL_areAlike_98 rfl (by decide) (by decide) rfl ?_
      refine vg_goto (tgt := 62) S dL_areAlike_101 (by decide) ?_
      refine vg_iload S 6 dL_areAlike_62 rfl ?_
      refine vg_bipush (v := 6) S dL_areAlike_64 (by decide) ?_
      refine vg_icmp_ge (tgt := 104) S dL_areAlike_66 (by decide) (fun c => absurd c (by decide)) (fun _ => ?_)
      refine vg_iload_n S 3 dL_areAlike_69 rfl rfl ?_
      refine vg_if_eq (tgt := 104) S dL_areAlike_70 (by decide) (fun c => absurd c (by decide)) (fun _ => ?_)
      refine vg_aload_n S 0 dL_areAlike_73 rfl rfl ?_
      refine vg_iload S 6 dL_areAlike_74 rfl ?_
      refine vg_iload S 5 dL_areAlike_76 rfl ?_
      refine vg_callA (nA := 3) (As := [.ref (h 0), .int 5, .int r]) (rest := []) E.1 S (k_L_of5 E.1.2.2.2.1.1 E.2.2.2.2 σ r) (tw_gS ml_RL_60 st_L_of in_RL co_L_of rfl) rfl (by decide +kernel) ⟨Nat.le_of_ble_eq_true rfl, Nat.le_of_ble_eq_true rfl⟩ rfl rfl (Nat.le_of_ble_eq_true rfl) dL_areAlike_78 ⟨by show _ ≤ 2112; omega, by show _ ≤ 12672; omega⟩ (fun a5 ha5 => ?_)
      refine vg_aload_n S 1 dL_areAlike_81 rfl rfl ?_
      refine vg_iload S 6 dL_areAlike_82 rfl ?_
      refine vg_iload S 5 dL_areAlike_84 rfl ?_
      refine vg_callB (nA := 3) (As := [.ref (g 0), .int 5, .int r]) (rest := [_]) E.1 S (k_L_of5 E.1.2.2.2.1.2.1 E.2.2.2.2 τ r) (tw_gS ml_RL_60 st_L_of in_RL co_L_of rfl) rfl (by decide +kernel) ⟨Nat.le_of_ble_eq_true rfl, Nat.le_of_ble_eq_true rfl⟩ rfl rfl (Nat.le_of_ble_eq_true rfl) dL_areAlike_86 ⟨by show _ ≤ 2112; omega, by show _ ≤ 12672; omega⟩ (fun b5 hb5 => ?_)
      refine vg_icmp_ne (tgt := 96) S dL_areAlike_89 (by decide) (fun _ => ?_) (fun _ => ?_)
      · skip
        refine vg_iconst (v := 0) S dL_areAlike_96 (by decide) ?_
        refine vg_istore_n (L' := [(0, .ref (h 0)), (1, .ref (g 0)), (2, .int (nI 16)), (3, .int 0), (4, .int (nI i)), (5, .int r), (6, .int 5)]) [1, 2, 3, 0, 4, 5, 6] S dL_areAlike_97 rfl (by decide) rfl ?_
        refine vg_iinc (v := 6) (L' := [(0, .ref (h 0)), (1, .ref (g 0)), (2, .int (nI 16)), (3, .int 0), (4, .int (nI i)), (5, .int r), (6, .int 6)]) [1, 2, 3, 4, 5, 6, 0] S 6 dL_areAlike_98 rfl (by decide) (by decide) rfl ?_
        refine vg_goto (tgt := 62) S dL_areAlike_101 (by decide) ?_
        exact al_F62 E (by omega)
      · skip
        refine vg_iconst (v := 1) S dL_areAlike_92 (by decide) ?_
        refine vg_goto (tgt := 97) S dL_areAlike_93 (by decide) ?_
        refine vg_istore_n (L' := [(0, .ref (h 0)), (1, .ref (g 0)), (2, .int (nI 16)), (3, .int 1), (4, .int (nI i)), (5, .int r), (6, .int 5)]) [1, 2, 3, 0, 4, 5, 6] S dL_areAlike_97 rfl (by decide) rfl ?_
        refine vg_iinc (v := 6) (L' := [(0, .ref (h 0)), (1, .ref (g 0)), (2, .int (nI 16)), (3, .int 1), (4, .int (nI i)), (5, .int r), (6, .int 6)]) [1, 2, 3, 4, 5, 6, 0] S 6 dL_areAlike_98 rfl (by decide) (by decide) rfl ?_
        refine vg_goto (tgt := 62) S dL_areAlike_101 (by decide) ?_
        refine vg_iload S 6 dL_areAlike_62 rfl ?_
        refine vg_bipush (v := 6) S dL_areAlike_64 (by decide) ?_
        refine vg_icmp_ge (tgt := 104) S dL_areAlike_66 (by decide) (fun _ => ?_) (fun c => absurd (by decide) c)
        refine vg_iconst (v := nI 0) S dL_areAlike_104 (by decide) ?_
        refine vg_istore (L' := [(0, .ref (h 0)), (1, .ref (g 0)), (2, .int (nI 16)), (3, .int 1), (4, .int (nI i)), (5, .int r), (6, .int (nI 0))]) [1, 2, 3, 4, 5, 6, 0] S dL_areAlike_105 (by decide) rfl ?_
        refine vg_iload S 5 dL_areAlike_107 rfl ?_
        refine vg_istore (L' := [(0, .ref (h 0)), (1, .ref (g 0)), (2, .int (nI 16)), (3, .int 1), (4, .int (nI i)), (5, .int r), (6, .int (nI 0)), (7, .int r)]) [1, 2, 3, 4, 5, 6, 7, 0] S dL_areAlike_109 (by decide) rfl ?_
        refine vg_iload S 7 dL_areAlike_111 rfl ?_
        have qa3 : jj ≤ a3 := by rcases ha3 with ⟨-, h⟩ | ⟨-, h⟩ <;> omega
        have qb3 : a3 ≤ b3 := by rcases hb3 with ⟨-, h⟩ | ⟨-, h⟩ <;> omega
        have qa4 : b3 ≤ a4 := by rcases ha4 with ⟨-, h⟩ | ⟨-, h⟩ <;> omega
        have qb4 : a4 ≤ b4 := by rcases hb4 with ⟨-, h⟩ | ⟨-, h⟩ <;> omega
        have qa5 : b4 ≤ a5 := by rcases ha5 with ⟨-, h⟩ | ⟨-, h⟩ <;> omega
        have qb5 : a5 ≤ b5 := by rcases hb5 with ⟨-, h⟩ | ⟨-, h⟩ <;> omega
        refine vg_if_lt (tgt := 177) S dL_areAlike_113 (by decide) (fun hlt => ?_) (fun hge => ?_)
        · skip
          refine vg_sub (L' := [(0, .ref (h 0)), (1, .ref (g 0)), (2, .int (nI 16)), (3, .int 1), (4, .int (nI i))]) [0, 1, 2, 3, 4] rfl ?_
          have := h2 hlt
          exact al_T177 E (by omega) (by omega) next
        · exact vg_widen (k1 := 132 * i + 8 + 4 * 0) (by omega) (al_W E hi hNs hNt next 31 0 r b5 rfl (by omega) (Or.inl rfl) hge (by omega))
set_option maxHeartbeats 4000000 in
theorem al_M22 (E : al_E p l s m meth c D h g cI cZ) (hNs : vn_N σ) (hNt : vn_N τ) : ∀ (n i jj : Nat), i + n = 16 → 2 * i ≤ jj → al_G p l e s m below meth c D h g cI cZ σ τ (132 * i) jj 22 [(0, .ref (h 0)), (1, .ref (g 0)), (2, .int (nI 16)), (3, .int 1), (4, .int (nI i))] [] := by
  have S := E.2.1
  intro n
  induction n with
  | zero =>
    intro i jj hi hj
    have hi2 : i = 16 := by omega
    subst hi2
    refine vg_widen (k1 := 2112) (Nat.le_refl _) ?_
    refine vg_iload S 4 dL_areAlike_22 rfl ?_
    refine vg_iload_n S 2 dL_areAlike_24 rfl rfl ?_
    refine vg_icmp_ge (tgt := 183) S dL_areAlike_25 (by decide) (fun _ => ?_) (fun c => absurd (nI_le (Nat.le_refl 16) (by decide)) c)
    refine vg_iload_n S 3 dL_areAlike_183 rfl rfl ?_
    exact al_ret (b := true) E (fun _ => by omega)
  | succ n ih =>
    intro i jj hi hj
    have hi2 : i < 16 := by omega
    refine vg_iload S 4 dL_areAlike_22 rfl ?_
    refine vg_iload_n S 2 dL_areAlike_24 rfl rfl ?_
    refine vg_icmp_ge (tgt := 183) S dL_areAlike_25 (by decide) (fun c => absurd c (nI_ge hi2 (by decide))) (fun _ => ?_)
    refine vg_iload_n S 3 dL_areAlike_28 rfl rfl ?_
    refine vg_if_eq (tgt := 183) S dL_areAlike_29 (by decide) (fun c => absurd c (by decide)) (fun _ => ?_)
    refine vg_aload_n S 0 dL_areAlike_32 rfl rfl ?_
    refine vg_iconst (v := 2) S dL_areAlike_33 (by decide) ?_
    refine vg_iload S 4 dL_areAlike_34 rfl ?_
    refine vg_callA (nA := 3) (As := [.ref (h 0), .int 2, .int (nI i)]) (rest := []) E.1 S (k_L_of2 E.1.2.2.2.1.1 E.2.2.2.2 σ (nI i)) (tw_gS ml_RL_60 st_L_of in_RL co_L_of rfl) rfl (by decide +kernel) ⟨Nat.le_of_ble_eq_true rfl, Nat.le_of_ble_eq_true rfl⟩ rfl rfl (Nat.le_of_ble_eq_true rfl) dL_areAlike_36 ⟨by show _ ≤ 2112; omega, by show _ ≤ 12672; omega⟩ (fun j2 hj2 => ?_)
    refine vg_istore (L' := [(0, .ref (h 0)), (1, .ref (g 0)), (2, .int (nI 16)), (3, .int 1), (4, .int (nI i)), (5, .int (vl_k (fx_root σ (nI i)) (fa_rootAt σ (nI i))))]) [1, 2, 3, 4, 5, 0] S dL_areAlike_39 (by decide) rfl ?_
    refine vg_aload_n S 1 dL_areAlike_41 rfl rfl ?_
    refine vg_iconst (v := 2) S dL_areAlike_42 (by decide) ?_
    refine vg_iload S 4 dL_areAlike_43 rfl ?_
    refine vg_callB (nA := 3) (As := [.ref (g 0), .int 2, .int (nI i)]) (rest := []) E.1 S (k_L_of2 E.1.2.2.2.1.2.1 E.2.2.2.2 τ (nI i)) (tw_gS ml_RL_60 st_L_of in_RL co_L_of rfl) rfl (by decide +kernel) ⟨Nat.le_of_ble_eq_true rfl, Nat.le_of_ble_eq_true rfl⟩ rfl rfl (Nat.le_of_ble_eq_true rfl) dL_areAlike_45 ⟨by show _ ≤ 2112; omega, by show _ ≤ 12672; omega⟩ (fun j3 hj3 => ?_)
    refine vg_iload S 5 dL_areAlike_48 rfl ?_
    refine vg_icmp_ne (tgt := 57) S dL_areAlike_50 (by decide) (fun _ => ?_) (fun e => ?_)
    · skip
      refine vg_iconst (v := 0) S dL_areAlike_57 (by decide) ?_
      refine vg_istore_n (L' := [(0, .ref (h 0)), (1, .ref (g 0)), (2, .int (nI 16)), (3, .int 0), (4, .int (nI i)), (5, .int (vl_k (fx_root σ (nI i)) (fa_rootAt σ (nI i))))]) [1, 2, 3, 0, 4, 5] S dL_areAlike_58 rfl (by decide) rfl ?_
      refine vg_iconst (v := 3) S dL_areAlike_59 (by decide) ?_
      refine vg_istore (L' := [(0, .ref (h 0)), (1, .ref (g 0)), (2, .int (nI 16)), (3, .int 0), (4, .int (nI i)), (5, .int (vl_k (fx_root σ (nI i)) (fa_rootAt σ (nI i)))), (6, .int 3)]) [1, 2, 3, 4, 5, 6, 0] S dL_areAlike_60 (by decide) rfl ?_
      exact al_F62 E (by omega)
    · skip
      refine vg_iconst (v := 1) S dL_areAlike_53 (by decide) ?_
      refine vg_goto (tgt := 58) S dL_areAlike_54 (by decide) ?_
      refine vg_istore_n (L' := [(0, .ref (h 0)), (1, .ref (g 0)), (2, .int (nI 16)), (3, .int 1), (4, .int (nI i)), (5, .int (vl_k (fx_root σ (nI i)) (fa_rootAt σ (nI i))))]) [1, 2, 3, 0, 4, 5] S dL_areAlike_58 rfl (by decide) rfl ?_
      refine vg_iconst (v := 3) S dL_areAlike_59 (by decide) ?_
      refine vg_istore (L' := [(0, .ref (h 0)), (1, .ref (g 0)), (2, .int (nI 16)), (3, .int 1), (4, .int (nI i)), (5, .int (vl_k (fx_root σ (nI i)) (fa_rootAt σ (nI i)))), (6, .int 3)]) [1, 2, 3, 4, 5, 6, 0] S dL_areAlike_60 (by decide) rfl ?_
      have q2 : jj ≤ j2 := by rcases hj2 with ⟨-, h⟩ | ⟨-, h⟩ <;> omega
      have q3 : j2 ≤ j3 := by rcases hj3 with ⟨-, h⟩ | ⟨-, h⟩ <;> omega
      refine al_M62 E hi2 hNs hNt (by omega) (fun hlt => ?_) (fun j4 h4 => ih (i + 1) j4 (by omega) h4)
      have ha := vn_neg hlt (fun he => vn_root hNs he)
      have hb := vn_neg (by rw [e]; exact hlt) (fun he => vn_root hNt he)
      have h2 : j2 = jj + 1 := hj2.elim (fun q => absurd q.1 ha) (fun q => q.2)
      have h3 : j3 = j2 + 1 := hj3.elim (fun q => absurd q.1 hb) (fun q => q.2)
      omega
set_option maxHeartbeats 4000000 in
theorem al_body (E : al_E p l s m meth c D h g cI cZ) (hNs : vn_N σ) (hNt : vn_N τ) (hroots : σ 20 0 = nI 16) : al_G p l e s m below meth c D h g cI cZ σ τ 0 0 0 [(0, .ref (h 0)), (1, .ref (g 0))] [] := by
  have S := E.2.1
  refine vg_aload_n S 0 dL_areAlike_0 rfl rfl ?_
  refine vg_callTA (nA := 0) (As := []) (rest := []) E.1 S (k_X2_roots E.1.2.2.2.1.1 σ) (tw_gV ml_RL_56 im_X2_roots se_X2_roots in_RX2 co_X2_roots rfl) rfl (by decide +kernel) ⟨Nat.le_of_ble_eq_true rfl, Nat.le_of_ble_eq_true rfl⟩ rfl rfl (Nat.le_of_ble_eq_true rfl) dL_areAlike_1 ⟨Nat.zero_le _, Nat.zero_le _⟩ ?_
  rw [hroots]
  refine vg_istore_n (L' := [(0, .ref (h 0)), (1, .ref (g 0)), (2, .int (nI 16))]) [1, 2, 0] S dL_areAlike_4 rfl (by decide) rfl ?_
  refine vg_aload_n S 1 dL_areAlike_5 rfl rfl ?_
  refine vg_callTB (nA := 0) (As := []) (rest := []) E.1 S (k_X2_roots E.1.2.2.2.1.2.1 τ) (tw_gV ml_RL_56 im_X2_roots se_X2_roots in_RX2 co_X2_roots rfl) rfl (by decide +kernel) ⟨Nat.le_of_ble_eq_true rfl, Nat.le_of_ble_eq_true rfl⟩ rfl rfl (Nat.le_of_ble_eq_true rfl) dL_areAlike_6 ⟨Nat.zero_le _, Nat.zero_le _⟩ ?_
  refine vg_iload_n S 2 dL_areAlike_9 rfl rfl ?_
  refine vg_icmp_ne (tgt := 17) S dL_areAlike_10 (by decide) (fun _ => ?_) (fun _ => ?_)
  · skip
    refine vg_iconst (v := 0) S dL_areAlike_17 (by decide) ?_
    refine vg_istore_n (L' := [(0, .ref (h 0)), (1, .ref (g 0)), (2, .int (nI 16)), (3, .int 0)]) [1, 2, 3, 0] S dL_areAlike_18 rfl (by decide) rfl ?_
    refine vg_iconst (v := nI 0) S dL_areAlike_19 (by decide) ?_
    refine vg_istore (L' := [(0, .ref (h 0)), (1, .ref (g 0)), (2, .int (nI 16)), (3, .int 0), (4, .int (nI 0))]) [1, 2, 3, 4, 0] S dL_areAlike_20 (by decide) rfl ?_
    exact al_F22 E (Nat.zero_le _)
  · skip
    refine vg_iconst (v := 1) S dL_areAlike_13 (by decide) ?_
    refine vg_goto (tgt := 18) S dL_areAlike_14 (by decide) ?_
    refine vg_istore_n (L' := [(0, .ref (h 0)), (1, .ref (g 0)), (2, .int (nI 16)), (3, .int 1)]) [1, 2, 3, 0] S dL_areAlike_18 rfl (by decide) rfl ?_
    refine vg_iconst (v := nI 0) S dL_areAlike_19 (by decide) ?_
    refine vg_istore (L' := [(0, .ref (h 0)), (1, .ref (g 0)), (2, .int (nI 16)), (3, .int 1), (4, .int (nI 0))]) [1, 2, 3, 4, 0] S dL_areAlike_20 (by decide) rfl ?_
    exact al_M22 E hNs hNt 16 0 0 rfl (Nat.le_refl _)
end AL
set_option maxHeartbeats 4000000 in
set_option maxRecDepth 100000 in
/-- areAlike by contract -/
theorem k_L_areAlike {l : Launch} {D : va_G} {h g : Nat → Nat} {cI cZ : ClassId} {σ τ : tg_Mem} (hap : vg_ap h g) (hl : l.stackTraces = false) (hNs : vn_N σ) (hNt : vn_N τ) (hroots : σ 20 0 = nI 16) :
    Met l yL_areAlike wzL_areAlike al_rm (va_Pc [.ref (h 0), .ref (g 0)] (fun U => va_P D vwCl (vg_W h g cI cZ σ τ) U.heap ∧ va_K D vwCl (tw_ty cI cZ) U ∧ tg_NU tw_nl U ∧ tl_TX (al_A h g) U)) (al_Q h g cI cZ D σ τ) 2112 12672 (al_A h g) := by
  refine Met.ofW (cc := cL_areAlike) (maxL := 8) (ret := some .boolean) (by decide +kernel) rfl ?_
  intro p e s m args below meth c s₁ B hml hv
  obtain ⟨rfl, hP, hK, hN, hX⟩ := hv
  have S : CallFix p m c cL_areAlike 8 s ([.ref (h 0), .ref (g 0)] : List Value).toArray wzL_areAlike RL := ⟨B.exec, B.bytes, hml, findClass_of_methodNamed B.named, atoms_spec (ws := wzL_areAlike) B.pre⟩
  have E : al_E p l s m meth c D h g cI cZ := ⟨⟨hK, hN, hX, hap, fun q h => Or.inl h, fun q h => Or.inr h⟩, S, B.returns, B.notSynchronized, hl⟩
  rw [lg_entry_eq]
  exact al_body E hNs hNt hroots s.heap [] _ hP va_S.rf (lv_entry [.ref (h 0), .ref (g 0)] (n := 8) (Nat.le_of_ble_eq_true rfl)) (Nat.le_refl _)
end
section
/-! ===== 17: letters without references: each is a root ===== -/
theorem vq_it {f : Nat → tg_Mem → tg_Mem} {a : Nat} (h : ∀ i τ, f i τ a = τ a) (σ : tg_Mem) : ∀ n, tg_it f σ n a = σ a := by
  intro n
  induction n with
  | zero => rfl
  | succ n ih =>
    show f n (tg_it f σ n) a = σ a
    rw [h, ih]
theorem vq_put {σ : tg_Mem} {x g q sub d w0 : Int32} {a : Nat} (h : 9 ≤ a) : fa_put σ x g q sub d w0 a = σ a := by
  unfold fa_put
  split
  · split
    · rw [pu_set_o (by omega), pu_set_o (by omega), pu_set_o (by omega), pu_set_o (by omega), pu_set_o (by omega), pu_set_o (by omega), pu_set_o (by omega), pu_set_o (by omega), pu_set_o (by omega)]
    · rw [pu_set_o (by omega), pu_set_o (by omega), pu_set_o (by omega), pu_set_o (by omega), pu_set_o (by omega), pu_set_o (by omega), pu_set_o (by omega), pu_set_o (by omega), pu_set_o (by omega)]
  · rfl
theorem vq_drop {σ : tg_Mem} {x : Int32} {a : Nat} (h : 9 ≤ a) : fa_drop σ x a = σ a := by
  unfold fa_drop
  split
  · rw [pu_set_o (by omega)]
  · rfl
theorem vq_link {σ : tg_Mem} {a : Nat} (h : a ≠ 10) : fa_linkKnown σ a = σ a := by
  unfold fa_linkKnown
  rw [vq_it (fun i τ => by unfold fa_lk2; split <;> first | rfl | exact pu_set_o h), vq_it (fun i τ => by unfold fa_lk1; exact pu_set_o h)]
theorem vq_hb {σ : tg_Mem} {a : Nat} (h : a ≠ 11) : fa_hangByLinks σ a = σ a := vq_it (fun i τ => by unfold fa_hb; exact pu_set_o h) σ 30
theorem vq_free {σ : tg_Mem} {x : Int32} {a : Nat} (h : a ≠ 11) : fa_free σ x a = σ a := vq_it (fun i τ => by unfold fa_fr; split <;> first | rfl | exact pu_set_o h) σ 30
theorem vq_km {σ : tg_Mem} {a : Nat} (h : a ≠ 11) (h2 : a ≠ 12) : fa_keepMissing σ a = σ a := vq_it (fun i τ => by
  unfold fa_km
  split
  · exact pu_set_o h2
  · split
    · rw [vq_free h]; exact pu_set_o h2
    · exact pu_set_o h2) σ 30
theorem vq_hr {σ : tg_Mem} {a : Nat} (h : a ≠ 11) : fa_hangReplies σ a = σ a := vq_it (fun i τ => by
  unfold fa_hr
  split
  · split
    · split
      · rfl
      · exact pu_set_o h
    · rfl
  · rfl) σ 30
theorem vq_upF {sent : Int32} {a : Nat} (h1 : a ≠ 13) (h2 : a ≠ 15) : ∀ (n i : Nat) (q : Int32 × tg_Mem), fa_upF sent n i q a = q.2 a := by
  intro n
  induction n with
  | zero => intro i q; rfl
  | succ n ih =>
    intro i q
    unfold fa_upF
    split
    · rw [ih]
      show fa_upS sent q.1.toNatClampNeg q.2 a = q.2 a
      unfold fa_upS
      rw [pu_set_o h1, pu_set_o h2]
    · rfl
theorem vq_me {σ : tg_Mem} {a : Nat} (h1 : a ≠ 13) (h2 : a ≠ 14) (h3 : a ≠ 15) : fa_measure σ a = σ a := by
  unfold fa_measure
  rw [vq_it (fun i τ => by unfold fa_mt3; exact pu_set_o h2), vq_it (fun i τ => by unfold fa_mt2; split <;> first | rfl | exact vq_upF h1 h3 _ _ _), vq_it (fun i τ => by unfold fa_mt1; rw [pu_set_o h1, pu_set_o h3])]
theorem vq_pr1 {σ : tg_Mem} {x : Int32} {a : Nat} (h : a ≠ 19) : fa_placeRoot σ x a = σ a := by
  unfold fa_placeRoot
  split
  · exact pu_set_o h
  · rfl
theorem vq_pr {σ : tg_Mem} {a : Nat} (h : a ≠ 19) (h2 : a ≠ 20) : fa_placeRoots σ a = σ a := by
  unfold fa_placeRoots
  rw [vq_it (fun i τ => by
    unfold fa_pr
    split
    · rfl
    · split
      · rw [pu_set_o h2, vq_pr1 h]
      · rfl)]
  exact pu_set_o h2
theorem vq_pt {σ : tg_Mem} {a : Nat} (h1 : a ≠ 16) (h2 : a ≠ 17) (h3 : a ≠ 18) : fa_placeTrees σ a = σ a := by
  unfold fa_placeTrees
  rw [vq_it (fun i τ => by
    unfold fa_pt2
    split
    · exact pu_set_o h2
    · split
      · rw [pu_set_o h3, pu_set_o h2]
      · exact pu_set_o h2), vq_it (fun i τ => by unfold fa_pt1; exact pu_set_o h1)]
theorem vq_nIp {i : Nat} (h : i < 30) : 0 ≤ nI i := nI_pos' (by omega)
theorem vq_upd {f : tb_A} {k : Nat} {x : Int32} (hf : ∀ i, i < 30 → 0 ≤ f i) (hx : 0 ≤ x) : ∀ i, i < 30 → 0 ≤ upd f k x i := by
  intro i hi
  by_cases e : i = k
  · subst e; rw [pu_upd_s]; exact hx
  · rw [pu_upd_o e]; exact hf i hi
theorem vq_18 {σ : tg_Mem} (h : ∀ i, i < 30 → 0 ≤ σ 18 i) : ∀ i, i < 30 → 0 ≤ fa_placeTrees σ 18 i := by
  have h0 : ∀ i, i < 30 → 0 ≤ tg_it fa_pt1 σ 30 18 i := by
    rw [vq_it (fun i τ => by unfold fa_pt1; exact pu_set_o (by decide))]; exact h
  have h1 := tg_inv (fun n τ => ∀ i, i < 30 → 0 ≤ τ 18 i) fa_pt2 30 (tg_it fa_pt1 σ 30) h0 ?_ 30 (Nat.le_refl _)
  · exact h1
  intro n τ hn hI
  unfold fa_pt2
  split
  · rw [pu_set_o (by decide)]; exact hI
  · split
    · rw [pu_set_s, pu_set_o (by decide)]; exact vq_upd hI (vq_nIp hn)
    · rw [pu_set_o (by decide)]; exact hI
theorem vq_19 {σ : tg_Mem} (h : ∀ i, i < 30 → 0 ≤ σ 19 i) : ∀ i, i < 30 → 0 ≤ fa_placeRoots σ 19 i := by
  have h0 : ∀ i, i < 30 → 0 ≤ (tg_set σ 20 0 0) 19 i := by rw [pu_set_o (by decide)]; exact h
  have h1 := tg_inv (fun n τ => ∀ i, i < 30 → 0 ≤ τ 19 i) fa_pr 30 (tg_set σ 20 0 0) h0 ?_ 30 (Nat.le_refl _)
  · exact h1
  intro n τ hn hI
  unfold fa_pr
  split
  · exact hI
  · split
    · rw [pu_set_o (by decide)]
      unfold fa_placeRoot
      split
      · rw [pu_set_s]; exact vq_upd hI (vq_nIp hn)
      · exact hI
    · exact hI
theorem vq_N {σ : tg_Mem} (h : vn_N σ) : vn_N (fa_grow σ) := by
  unfold fa_grow
  constructor
  · refine vq_18 ?_
    rw [vq_pr (by decide) (by decide), vq_me (by decide) (by decide) (by decide), vq_hr (by decide), vq_km (by decide) (by decide), vq_hb (by decide), vq_link (by decide), pu_fk.1 18 (by decide)]
    exact h.1
  · rw [vq_pt (by decide) (by decide) (by decide)]
    refine vq_19 ?_
    rw [vq_me (by decide) (by decide) (by decide), vq_hr (by decide), vq_km (by decide) (by decide), vq_hb (by decide), vq_link (by decide), pu_fk.1 19 (by decide)]
    exact h.2
theorem vq_Nput {σ : tg_Mem} {x g q sub d w0 : Int32} (h : vn_N σ) : vn_N (fa_put σ x g q sub d w0) := ⟨by rw [vq_put (by decide)]; exact h.1, by rw [vq_put (by decide)]; exact h.2⟩
theorem vq_Ndrop {σ : tg_Mem} {x : Int32} (h : vn_N σ) : vn_N (fa_drop σ x) := ⟨by rw [vq_drop (by decide)]; exact h.1, by rw [vq_drop (by decide)]; exact h.2⟩
theorem vq_low {σ : tg_Mem} {a : Nat} (h : a < 9) : fa_grow σ a = σ a := by
  unfold fa_grow
  rw [vq_pt (by omega) (by omega) (by omega), vq_pr (by omega) (by omega), vq_me (by omega) (by omega) (by omega), vq_hr (by omega), vq_km (by omega) (by omega), vq_hb (by omega), vq_link (by omega), pu_fk.1 a (by omega)]
/-- letters that tell nothing -/
def vq_fl (σ : tg_Mem) : Prop := ∀ i, i < 30 → σ 0 i ≠ 0 → σ 1 i = -1 ∧ σ 2 i = -1 ∧ σ 4 i = 0 ∧ σ 8 i = -1
theorem vq_flc {σ τ : tg_Mem} (h : vq_fl σ) (e : ∀ a, a < 9 → τ a = σ a) : vq_fl τ := by
  unfold vq_fl
  rw [e 0 (by decide), e 1 (by decide), e 2 (by decide), e 4 (by decide), e 8 (by decide)]
  exact h
theorem vq_fnd {σ : tg_Mem} (h : vq_fl σ) (x : Int32) : ∀ (n i : Nat) (u : Unit), i + n = 30 → fa_fnd σ x n i u = -1 := by
  intro n
  induction n with
  | zero => intro i u _; rfl
  | succ n ih =>
    intro i u hi
    have hi2 : i < 30 := by omega
    have hg : fa_gTold σ (nI i) = -1 := by
      rw [(pu_told hi2).2.1]
      by_cases c : σ 0 i ≠ 0
      · rw [if_pos c]; exact (h i hi2 c).1
      · rw [if_neg c]
    unfold fa_fnd
    rw [if_pos hg, ih (i + 1) u (by omega), ite_self]
theorem vq_told {σ : tg_Mem} (h : vq_fl σ) {i : Nat} (hi : i < 30) : fa_told σ (nI i) = -1 := by
  unfold fa_told
  by_cases c : fa_holds σ (nI i) = false
  · rw [if_pos c]; exact vq_fnd h _ 30 0 () rfl
  · rw [if_neg c]
    have c2 : σ 0 i ≠ 0 := (pu_holds hi).mp (by cases e : fa_holds σ (nI i) <;> simp_all)
    obtain ⟨-, a2, -, a8⟩ := h i hi c2
    have t := pu_told (σ := σ) hi
    rw [if_pos (by rw [t.2.2, if_pos c2, a8]), t.1, if_pos c2, a2]
theorem vq_L {σ : tg_Mem} (h : vq_fl σ) : ∀ j, j < 30 → fa_linkKnown σ 10 j = -1 := by
  have h0 := pu_init1 (τ := σ) 30 (Nat.le_refl _)
  have h1 := tg_inv (fun n τ => (∀ a, a < 9 → τ a = σ a) ∧ ∀ j, j < 30 → τ 10 j = -1) fa_lk2 30 (tg_it fa_lk1 σ 30) ⟨fun a ha => h0.1 a (by omega), h0.2⟩ ?_ 30 (Nat.le_refl _)
  · exact h1.2
  rintro n τ hn ⟨hI, hJ⟩
  unfold fa_lk2
  split
  · exact ⟨hI, hJ⟩
  · refine ⟨fun a ha => by rw [pu_set_o (by omega)]; exact hI a ha, fun j hj => ?_⟩
    rw [pu_set_s, vq_told (vq_flc h hI) hn, ite_self]
    by_cases e : j = n
    · subst e; rw [pu_upd_s]
    · rw [pu_upd_o e]; exact hJ j hj
theorem vq_B {σ : tg_Mem} (h : ∀ j, j < 30 → σ 10 j = -1) : ∀ j, j < 30 → fa_hangByLinks σ 11 j = -1 := by
  have h1 := tg_inv (fun n τ => (∀ j, j < 30 → τ 10 j = -1) ∧ ∀ j, j < n → τ 11 j = -1) fa_hb 30 σ ⟨h, fun j hj => absurd hj (Nat.not_lt_zero j)⟩ ?_ 30 (Nat.le_refl _)
  · exact h1.2
  rintro n τ hn ⟨hI, hJ⟩
  have hp : fa_pbl τ (τ 10 n) = -1 := by
    rw [hI n hn]
    unfold fa_pbl fa_pblF
    rw [if_neg (by decide)]
  unfold fa_hb
  rw [hp, ite_self]
  refine ⟨by rw [pu_set_o (by decide)]; exact hI, fun j hj => ?_⟩
  rw [pu_set_s]
  by_cases e : j = n
  · subst e; rw [pu_upd_s]
  · rw [pu_upd_o e]; exact hJ j (by omega)
theorem vq_cno {f : tb_A} {x : Int32} : ∀ n, (∀ k, k < n → f k ≠ x) → pu_c f x n = 0 := by
  intro n
  induction n with
  | zero => intro _; rfl
  | succ n ih =>
    intro h
    unfold pu_c
    rw [ih (fun k hk => h k (by omega)), if_neg (h n (by omega))]
theorem vq_M {σ : tg_Mem} (h : ∀ j, j < 30 → σ 11 j = -1) : (∀ j, j < 30 → fa_keepMissing σ 11 j = -1) ∧ ∀ j, j < 30 → (fa_keepMissing σ 12 j ≠ 0 ↔ σ 0 j ≠ 0) := by
  have h1 := tg_inv (fun n τ => τ 0 = σ 0 ∧ (∀ j, j < 30 → τ 11 j = -1) ∧ ∀ j, j < n → (τ 12 j ≠ 0 ↔ σ 0 j ≠ 0)) fa_km 30 σ ⟨rfl, h, fun j hj => absurd hj (Nat.not_lt_zero j)⟩ ?_ 30 (Nat.le_refl _)
  · exact h1.2
  rintro n τ hn ⟨hO, hI, hJ⟩
  have hset : ∀ (v : Int32), (v ≠ 0 ↔ σ 0 n ≠ 0) → ∀ j, j < n + 1 → (upd (τ 12) n v j ≠ 0 ↔ σ 0 j ≠ 0) := by
    intro v hv j hj
    by_cases e : j = n
    · subst e; rw [pu_upd_s]; exact hv
    · rw [pu_upd_o e]; exact hJ j (by omega)
  unfold fa_km
  by_cases c : fa_holds τ (nI n) = true
  · have c2 : σ 0 n ≠ 0 := by rw [← hO]; exact (pu_holds hn).mp c
    rw [if_pos c]
    refine ⟨by rw [pu_set_o (by decide)]; exact hO, by rw [pu_set_o (by decide)]; exact hI, ?_⟩
    rw [pu_set_s]
    exact hset 1 ⟨fun _ => c2, fun _ => by decide⟩
  · have c2 : ¬ σ 0 n ≠ 0 := by rw [← hO]; exact fun q => c ((pu_holds hn).mpr q)
    have hc : fa_nch τ (nI n) < 2 := by
      rw [pu_nch, vq_cno 30 (fun k hk => by rw [hI k hk]; exact (tr_nI1 hn).symm)]
      decide
    rw [if_neg c, if_pos hc]
    have hf := pu_free (τ := tg_set τ 12 n 0) (tr_nI1 hn)
    refine ⟨by rw [hf.1 0 (by decide), pu_set_o (by decide)]; exact hO, fun j hj => ?_, ?_⟩
    · rw [hf.2 j hj, pu_set_o (by decide), hI j hj, ite_self]
    · rw [hf.1 12 (by decide), pu_set_s]
      exact hset 0 ⟨fun q => absurd rfl q, fun q => absurd q c2⟩
theorem vq_R {σ : tg_Mem} (h : vq_fl σ) : fa_hangReplies σ = σ := by
  have h1 := tg_inv (fun _ τ => τ = σ) fa_hr 30 σ rfl ?_ 30 (Nat.le_refl _)
  · exact h1
  intro n τ hn e
  subst e
  unfold fa_hr
  rw [if_neg]
  intro c
  unfold fa_isReply at c
  rw [Bool.and_eq_true] at c
  have c2 := (pu_holds hn).mp c.1
  have c3 := c.2
  rw [tr_cl hn, (h n hn c2).2.2.1] at c3
  exact absurd c3 (by decide)
theorem vq_roots {σ : tg_Mem} (h : vq_fl σ) : fa_grow σ 20 0 = nI (pu_n (fun i => σ 0 i ≠ 0) 30) := by
  have e1 : ∀ a, a < 9 → fa_findKnown σ a = σ a := fun a ha => pu_fk.1 a (by omega)
  have f1 := vq_flc h e1
  have e2 : ∀ a, a < 9 → fa_linkKnown (fa_findKnown σ) a = σ a := fun a ha => by rw [vq_link (by omega)]; exact e1 a ha
  have l2 := vq_L f1
  have e3 : ∀ a, a < 9 → fa_hangByLinks (fa_linkKnown (fa_findKnown σ)) a = σ a := fun a ha => by rw [vq_hb (by omega)]; exact e2 a ha
  have b3 := vq_B l2
  have e4 : ∀ a, a < 9 → fa_keepMissing (fa_hangByLinks (fa_linkKnown (fa_findKnown σ))) a = σ a := fun a ha => by rw [vq_km (by omega) (by omega)]; exact e3 a ha
  obtain ⟨m1, m2⟩ := vq_M b3
  unfold fa_grow
  rw [vq_pt (by decide) (by decide) (by decide), vq_R (vq_flc h e4), pu_pr.2.1]
  refine congrArg nI (pu_n_cong 30 (fun i hi => ?_))
  unfold pu_rt
  rw [vq_me (by decide) (by decide) (by decide), vq_me (by decide) (by decide) (by decide), m1 i hi, m2 i hi, e3 0 (by decide)]
  exact ⟨fun q => q.1, fun q => ⟨q, rfl⟩⟩
/-- what a letter that tells nothing makes of them -/
theorem vq_flp {σ : tg_Mem} (h : vq_fl σ) {x : Nat} (hx : x < 30) : vq_fl (fa_put σ (nI x) (-1) (-1) 0 0 0) ∧ ∀ i, i < 30 → (fa_put σ (nI x) (-1) (-1) 0 0 0 0 i ≠ 0 ↔ σ 0 i ≠ 0 ∨ i = x) := by
  have e : fa_put σ (nI x) (-1) (-1) 0 0 0 = tg_set (tg_set (tg_set (tg_set (tg_set (tg_set (tg_set (tg_set (tg_set σ 0 x 1) 1 x (-1)) 2 x (-1)) 4 x 0) 3 x 0) 5 x 0) 6 x 0) 7 x 1) 8 x (-1) := by
    unfold fa_put
    rw [if_pos (fa_id_nI hx), if_pos (by decide), tr_cl hx]
  rw [e]
  generalize hτ : tg_set (tg_set (tg_set (tg_set (tg_set (tg_set (tg_set (tg_set (tg_set σ 0 x 1) 1 x (-1)) 2 x (-1)) 4 x 0) 3 x 0) 5 x 0) 6 x 0) 7 x 1) 8 x (-1) = τ
  have r0 : τ 0 = upd (σ 0) x 1 := by rw [← hτ, pu_set_o (by decide), pu_set_o (by decide), pu_set_o (by decide), pu_set_o (by decide), pu_set_o (by decide), pu_set_o (by decide), pu_set_o (by decide), pu_set_o (by decide), pu_set_s]
  have r1 : τ 1 = upd (σ 1) x (-1) := by rw [← hτ, pu_set_o (by decide), pu_set_o (by decide), pu_set_o (by decide), pu_set_o (by decide), pu_set_o (by decide), pu_set_o (by decide), pu_set_o (by decide), pu_set_s, pu_set_o (by decide)]
  have r2 : τ 2 = upd (σ 2) x (-1) := by rw [← hτ, pu_set_o (by decide), pu_set_o (by decide), pu_set_o (by decide), pu_set_o (by decide), pu_set_o (by decide), pu_set_o (by decide), pu_set_s, pu_set_o (by decide), pu_set_o (by decide)]
  have r4 : τ 4 = upd (σ 4) x 0 := by rw [← hτ, pu_set_o (by decide), pu_set_o (by decide), pu_set_o (by decide), pu_set_o (by decide), pu_set_o (by decide), pu_set_s, pu_set_o (by decide), pu_set_o (by decide), pu_set_o (by decide)]
  have r8 : τ 8 = upd (σ 8) x (-1) := by rw [← hτ, pu_set_s, pu_set_o (by decide), pu_set_o (by decide), pu_set_o (by decide), pu_set_o (by decide), pu_set_o (by decide), pu_set_o (by decide), pu_set_o (by decide), pu_set_o (by decide)]
  constructor
  · intro i hi
    rw [r0, r1, r2, r4, r8]
    by_cases c : i = x
    · subst c
      rw [pu_upd_s, pu_upd_s, pu_upd_s, pu_upd_s, pu_upd_s]
      exact fun _ => ⟨rfl, rfl, rfl, rfl⟩
    · rw [pu_upd_o c, pu_upd_o c, pu_upd_o c, pu_upd_o c, pu_upd_o c]
      exact h i hi
  · intro i hi
    rw [r0]
    exact pu_upd1
/-- the sixteen ids -/
def vq_b (i : Nat) : Bool := (List.range 16).any (fun k => i == 7 * k % 30)
theorem vq_cnt : ∀ (b : Nat → Bool) (n : Nat), pu_n (fun i => b i = true) n = ((List.range n).filter b).length := by
  intro b n
  induction n with
  | zero => rfl
  | succ n ih =>
    rw [List.range_succ, List.filter_append, List.length_append, ← ih]
    by_cases c : b n = true
    · rw [pu_n_p (P := fun i => b i = true) c]
      simp [c]
    · rw [pu_n_n (P := fun i => b i = true) c]
      simp [c]
theorem vq_16 {P : Nat → Prop} (h : ∀ i, i < 30 → (P i ↔ ∃ j, j < 16 ∧ i = 7 * j % 30)) : pu_n P 30 = 16 := by
  have h1 : pu_n P 30 = pu_n (fun i => vq_b i = true) 30 := pu_n_cong 30 (fun i hi => (h i hi).trans (by
    unfold vq_b
    rw [List.any_eq_true]
    constructor
    · rintro ⟨j, hj, e⟩
      exact ⟨j, List.mem_range.mpr hj, by rw [e]; exact beq_self_eq_true _⟩
    · rintro ⟨j, hj, e⟩
      exact ⟨j, List.mem_range.mp hj, eq_of_beq e⟩))
  rw [h1, vq_cnt]
  decide +kernel
end
section
/-! ===== 18: drawn at a script of zeros; the law's rows ===== -/
set_option maxRecDepth 100000 in
theorem vr_max : Cond.constant RL 7 2147483647 ∈ lw_tbl := by decide +kernel
set_option maxHeartbeats 4000000 in
theorem k_L_drawn {l : Launch} {b i : Nat} (hi : i < 49) {xs : Nat → Int32} (hz : ∀ j, j < 49 → xs j = 0) :
    Met l yL_drawn wzL_drawn (tg_rm 0) (va_Pc [.ref b, .int (nI i)] (fun U => va_X b 49 xs U U.heap ∧ b < U.heap.size)) (fun _ st o t => o = .returned (some (.int 0)) ∧ va_F (fun _ => False) st t) 0 0 (fun _ => False) := by
  refine Met.ofW (cc := cL_drawn) (maxL := 3) (ret := some .int) (by decide +kernel) rfl ?_
  intro p e s m args below meth c s₁ B hml hv
  obtain ⟨rfl, hX, hb⟩ := hv
  have S : CallFix p m c cL_drawn 3 s ([.ref b, .int (nI i)] : List Value).toArray wzL_drawn RL := ⟨B.exec, B.bytes, hml, findClass_of_methodNamed B.named, atoms_spec (ws := wzL_drawn) B.pre⟩
  have hr := B.returns
  have hlk := B.notSynchronized
  have hS : va_S (fun _ : Nat => False) s.heap s.heap [] := va_S.rf
  have hl := lv_entry ([.ref b, .int (nI i)]) (n := 3) (Nat.le_of_ble_eq_true rfl)
  rw [lg_entry_eq]
  generalize (lg_sl ([.ref b, .int (nI i)]) ++ List.replicate (3 - (lg_sl ([.ref b, .int (nI i)])).length) Slot.unset).toArray = ls at hl ⊢
  have hl : lv_has ls 3 [(0, .ref b), (1, .int (nI i))] := hl
  refine lv_iload_n S.1 S.2.1 dL_drawn_0 rfl (lv_at hl 1 rfl) ?_
  refine lv_aload_n S.1 S.2.1 dL_drawn_1 rfl (lv_at hl 0 rfl) ?_
  refine va_slen S.1 S.2.1 hX hb (fun h => h) hS dL_drawn_2 ?_
  refine lv_icmp_ge (tgt := 12) S.1 S.2.1 dL_drawn_3 (by decide) (fun c => absurd c (nI_ge hi (by decide))) (fun _ => ?_)
  refine lv_aload_n S.1 S.2.1 dL_drawn_6 rfl (lv_at hl 0 rfl) ?_
  refine lv_iload_n S.1 S.2.1 dL_drawn_7 rfl (lv_at hl 1 rfl) ?_
  refine va_sld S.1 S.2.1 hX hb (fun h => h) hS (nI_in hi (by decide)) dL_drawn_8 ?_
  rw [nI_clamp (Nat.lt_trans hi (by decide)), hz i hi]
  refine lv_goto (tgt := 21) S.1 S.2.1 dL_drawn_9 (by decide) ?_
  refine lv_istore_n (lv' := [(2, .int 0), (0, .ref b), (1, .int (nI i))]) S.1 S.2.1 dL_drawn_21 rfl hl (by decide) rfl (fun ls2 hl2 => ?_)
  refine lv_iload_n S.1 S.2.1 dL_drawn_22 rfl (lv_at hl2 0 rfl) ?_
  refine lv_ldc (own := RL) (v := 2147483647) S.1 S.2.1 S.2.2.2.1 (S.2.2.2.2 _ (tw_in vr_max rfl)) dL_drawn_23 ?_
  refine lv_iand S.1 S.2.1 dL_drawn_25 ?_
  rw [show (0 : Int32) &&& 2147483647 = 0 from by decide]
  exact W.iret S.1 S.2.1 hr (fun t ht hW => ⟨rfl, hS.F ht⟩) hS.2.2 dL_drawn_26 hlk
theorem vr_join {σ : tg_Mem} : fx_join σ 0 0 = some tx_I := by
  have h : fx_id 0 = none := by unfold fx_id; rw [if_pos (by decide)]
  unfold fx_join
  rw [h, if_pos rfl]
  rfl
theorem k_L_join0 {l : Launch} {D : va_G} {h : Nat → Nat} {cI cZ : ClassId} (hd : tw_dis 23 h) (hl : l.stackTraces = false) (σ : tg_Mem) : vl_CT l yL_does wzL_does (tx_rm 9) (tw_T h cI cZ) (tw_ty cI cZ) tw_nl (tw_A 23 h) D [.ref (h 0), .int 3, .int 0] σ (some tx_I) (-9) σ := by
  have h1 := k_L_does3 (D := D) (cI := cI) (cZ := cZ) hd hl σ 0
  rw [vr_join] at h1
  exact h1
def vr_rm : Room := { frames := 13, cells := 15000, slots := 91000, locals := 480 }
def vr_A (s : State) : Nat → Prop := fun q => s.heap.size ≤ q
/-- the law ends with 0, or has made more than 130 new cells -/
def vr_Q : Array Value → State → Outcome → State → Prop := fun _ st o t => o = .returned (some (.int 0)) ∨ st.heap.size + 131 ≤ t.heap.size
theorem lq_good {x : Cond} {ws : List Cond} (hx : x ∈ lw_tbl) (hG : GoodIn (x :: tw_G) ws) : GoodIn lw_tbl ws := fun w hw => ⟨(List.mem_cons.mp (hG w hw).1).elim (fun e => by rw [e]; exact hx) (fun hm => (List.mem_filter.mp hm).1), (hG w hw).2⟩
section VR
variable {p : Program} {l : Launch} {e : Env} {s : State} {m : MethodId} {below : List Frame} {meth : Method} {c : Code} {D : va_G} {h g : Nat → Nat} {cI cZ : ClassId} {σ τ : tg_Mem} {k jj pc b : Nat} {xs : Nat → Int32} {L : List (Nat × Value)} {st rest : List Value} {ww : va_W}
abbrev vr_G (p : Program) (l : Launch) (e : Env) (s : State) (m : MethodId) (b : Nat) (below : List Frame) (meth : Method) (c : Code) (D : va_G) (ww : va_W) (k jj pc : Nat) (L : List (Nat × Value)) (st : List Value) : Prop :=
  vg_G p l e vr_rm s m #[Value.ref b] below meth c D ww (vr_A s) 10 k 1000 (MQ below vr_Q #[Value.ref b] s 15000 91000 (vr_A s)) jj pc L st
/-- what stays so on the law's whole way -/
def vr_E (p : Program) (l : Launch) (s : State) (m : MethodId) (meth : Method) (c : Code) (D : va_G) (h g : Nat → Nat) (cI cZ : ClassId) (b : Nat) (xs : Nat → Int32) : Prop :=
  vg_E s D h g cI cZ (vr_A s) ∧ CallFix p m c code 10 s #[Value.ref b] lw_tbl RL ∧ meth.sig.returnType = some .boolean ∧ meth.locks = false ∧ l.stackTraces = false ∧ va_X b 49 xs s s.heap ∧ b < s.heap.size ∧ ∀ j, j < 49 → xs j = 0
theorem vr_ret (E : vr_E p l s m meth c D h g cI cZ b xs) {f : Bool} (hf : f = true → 131 ≤ jj) : vr_G p l e s m b below meth c D ww 15000 jj 521 L [.int (tg_b f)] := by
  have S := E.2.1
  refine fun H locs ls hP hS hl hj => W.zret S.1 S.2.1 E.2.2.1 (by cases f <;> rfl) (fun t ht hW => ?_) hS.2.2 dL_law_521 E.2.2.2.1
  cases f with
  | false => exact Or.inl rfl
  | true => exact Or.inr (by rw [ht]; have := hf rfl; omega)
/-- drawn is called -/
theorem vr_drawn (E : vr_E p l s m meth c D h g cI cZ b xs) {i : Nat} (hi : i < 49) (hst : st = .int (nI i) :: .ref b :: rest) (hcat : (rest.map fun v => v.category).sum ≤ 8) (d : decode code pc = .ok (.invokestatic 69, 3)) (hf : k ≤ 15000)
    (kn : vr_G p l e s m b below meth c D ww k jj (pc + 3) L (.int 0 :: rest)) : vr_G p l e s m b below meth c D ww k jj pc L st := by
  obtain ⟨-, S, -, -, -, hX, hbl, hz⟩ := E
  intro H locs ls hP hS hl hj T hT X
  have hbA : ¬ vr_A s b := Nat.not_le.mpr hbl
  have hXH : va_X b 49 xs s H := hX.kept (hS.2.1 b hbl hbA)
  have hbH : b < H.size := Nat.lt_of_lt_of_le hbl hS.1
  have hpre : PreS s H (va_Pc [.ref b, .int (nI i)] (fun U => va_X b 49 xs U U.heap ∧ b < U.heap.size)) [.ref b, .int (nI i)] :=
    ⟨fun a U g mk q => by
      obtain ⟨q1, q2, q3⟩ := q
      exact ⟨q1, va_X.moved (u := U) (U := U.calling g mk a) (Vm.Alike.refl U.vm) q2, q3⟩, fun U hU hW => ⟨rfl, by rw [hU]; exact va_X.moved hW.alike hXH, by rw [hU]; exact hbH⟩⟩
  obtain ⟨v, st₀, t, T', Lc, h0, X', hL, e1, e2, ⟨hv, hz2, hk⟩, sg⟩ := va_runS (As := [.ref b, .int (nI i)]) (rest := rest) S (k_L_drawn (l := l) hi hz) (va_cwS 2 S.2.2.2.2 (lq_good in_RL (tw_gS ml_RL_69 st_L_drawn in_RL co_L_drawn rfl)) rfl rfl rfl (by decide +kernel) ⟨Nat.le_of_ble_eq_true rfl, Nat.le_of_ble_eq_true rfl⟩) hpre rfl rfl hl.1 hst (lv_room hcat) d ⟨by show _ ≤ 15000; omega, by show _ ≤ 91000; omega⟩ T hT X
  cases hv
  rw [h0] at hz2 hk
  obtain ⟨t2, a1, b1⟩ := kn T'.heap (locs ++ Lc) ls (by
      rw [e1]
      exact hP.kept (fun k q hq => hk q.1 (vx_lt hP hq) (fun f => f))) (by
      rw [e1]
      exact vg_Sk hS hz2 hk (fun q f => f.elim) hL) hl (by rw [e1]; exact Nat.le_trans hj hz2) T' rfl X'
  exact ⟨t2, sg t2 a1, b1⟩
theorem vr_blind {h g : Nat → Nat} {cI cZ : ClassId} {σ τ : tg_Mem} {D : va_G} {A : Nat → Prop} {As : List Value} : FrameBlind (va_Pc As (fun U => va_P D vwCl (vg_W h g cI cZ σ τ) U.heap ∧ va_K D vwCl (tw_ty cI cZ) U ∧ tg_NU tw_nl U ∧ tl_TX A U)) := fun a U g mk h => by
  obtain ⟨h1, h2, h3, h4, h5, h6, h7⟩ := h
  exact ⟨h1, h2, va_K.moved (u := U) (U := U.calling g mk a) (Vm.Alike.refl U.vm) h3, tg_NU.same (u := U) (U := U.calling g mk a) rfl h4, tx_TX.same (u := U) (U := U.calling g mk a) rfl rfl h5, va_Nc.moved (u := U) (U := U.calling g mk a) (Vm.Alike.refl U.vm) h6, va_Nc.moved (u := U) (U := U.calling g mk a) (Vm.Alike.refl U.vm) h7⟩
/-- areAlike is called -/
theorem vr_like (E : vr_E p l s m meth c D h g cI cZ b xs) (hNs : vn_N σ) (hNt : vn_N τ) (hroots : σ 20 0 = nI 16) (hst : st = .ref (g 0) :: .ref (h 0) :: rest) (hcat : (rest.map fun v => v.category).sum ≤ 8) (d : decode code pc = .ok (.invokestatic 79, 3)) (hf : k + 2112 ≤ 15000)
    (kn : ∀ (f : Bool) (j2 : Nat), (f = true → j2 = jj + 32) → (f = false → j2 = jj) → vr_G p l e s m b below meth c D (vg_W h g cI cZ σ τ) (k + 2112) j2 (pc + 3) L (.int (tg_b f) :: rest)) : vr_G p l e s m b below meth c D (vg_W h g cI cZ σ τ) k jj pc L st := by
  obtain ⟨⟨hK, hN, hX, hap, hAh, hAg⟩, S, -, -, hl0, -⟩ := E
  have hAl : ∀ q, al_A h g q → vr_A s q := fun q hq => hq.elim (hAh q) (hAg q)
  intro H locs ls hP hS hl hj T hT X
  have hpre : PreS s H (va_Pc [.ref (h 0), .ref (g 0)] (fun U => va_P D vwCl (vg_W h g cI cZ σ τ) U.heap ∧ va_K D vwCl (tw_ty cI cZ) U ∧ tg_NU tw_nl U ∧ tl_TX (al_A h g) U)) [.ref (h 0), .ref (g 0)] :=
    ⟨vr_blind, fun U hU hW => ⟨rfl, by rw [hU]; exact hP, va_K.moved hW.alike hK, hN.warm hW, (hX.1.call hW hU hS).narrow hAl, hX.2.1.moved hW.alike, hX.2.2.moved hW.alike⟩⟩
  obtain ⟨v, st₀, t, T', Lc, h0, X', hL, e1, e2, ⟨f, hv, hb, hP2, hz2, hk⟩, sg⟩ := va_runS (As := [.ref (h 0), .ref (g 0)]) (rest := rest) S (k_L_areAlike (l := l) (D := D) (cI := cI) (cZ := cZ) hap hl0 hNs hNt hroots) (va_cwS 2 S.2.2.2.2 (lq_good in_RL (tw_gS ml_RL_79 st_L_areAlike in_RL co_L_areAlike rfl)) rfl rfl rfl (by decide +kernel) ⟨Nat.le_of_ble_eq_true rfl, Nat.le_of_ble_eq_true rfl⟩) hpre rfl rfl hl.1 hst (lv_room hcat) d ⟨by show _ ≤ 15000; omega, by show _ ≤ 91000; omega⟩ T hT X
  cases hv
  rw [h0] at hb hz2 hk
  have ez : 6 * k + 1000 + 12672 = 6 * (k + 2112) + 1000 := by omega
  rw [ez] at X'
  obtain ⟨t2, a1, b1⟩ := kn f (if f = true then jj + 32 else jj) (fun hf => if_pos hf) (fun hf => if_neg (by rw [hf]; decide)) T'.heap (locs ++ Lc) ls (by rw [e1]; exact hP2) (by
      rw [e1]
      exact vg_Sk hS hz2 hk hAl hL) hl (by
      rw [e1]
      cases f with
      | false => exact Nat.le_trans hj hz2
      | true =>
        have h1 := hb rfl
        show s.heap.size + (jj + 32) ≤ t.heap.size
        omega) T' rfl X'
  exact ⟨t2, sg t2 a1, b1⟩
end VR
end
