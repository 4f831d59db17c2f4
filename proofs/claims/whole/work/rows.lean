section
-- ===== PART A: goes FIRST, ahead of the names: the tables' words, and 'selects' of the private methods out of them =====
/-- a private method of a class that the tables say can be made, by its rows of tables_1 -/
def lw_okq (q : MethodName × Nat) : Prop := (q.1.cls ≠ "java/lang/invoke/MethodHandle" ∧ q.1.cls ≠ "java/lang/invoke/VarHandle") ∧ Cond.instantiable q.1.cls q.2 ∈ tables_1 ∧ Cond.privateMethod q.1 ∈ tables_1 ∧ Cond.instanceMethod q.1 ∈ tables_1
theorem lw_p0 : lw_okq (⟨"java/lang/Throwable", "fillInStackTrace", "(I)Ljava/lang/Throwable;"⟩, 6) := ⟨⟨by decide +kernel, by decide +kernel⟩, List.mem_of_getElem? (i := 216) (by decide +kernel), List.mem_of_getElem? (i := 214) (by decide +kernel), List.mem_of_getElem? (i := 215) (by decide +kernel)⟩
theorem lw_p1 : lw_okq (⟨"BlockCache$Cache", "reaches", "(II)Z"⟩, 13) := ⟨⟨by decide +kernel, by decide +kernel⟩, List.mem_of_getElem? (i := 71) (by decide +kernel), List.mem_of_getElem? (i := 249) (by decide +kernel), List.mem_of_getElem? (i := 250) (by decide +kernel)⟩
theorem lw_p2 : lw_okq (⟨"BlockCache$Queue", "wrapped", "(I)I"⟩, 3) := ⟨⟨by decide +kernel, by decide +kernel⟩, List.mem_of_getElem? (i := 28) (by decide +kernel), List.mem_of_getElem? (i := 311) (by decide +kernel), List.mem_of_getElem? (i := 312) (by decide +kernel)⟩
theorem lw_p3 : lw_okq (⟨"BlockCache", "takeTurn", "(I)V"⟩, 11) := ⟨⟨by decide +kernel, by decide +kernel⟩, List.mem_of_getElem? (i := 14) (by decide +kernel), List.mem_of_getElem? (i := 343) (by decide +kernel), List.mem_of_getElem? (i := 344) (by decide +kernel)⟩
theorem lw_p4 : lw_okq (⟨"BlockCache", "interruptIfDue", "()V"⟩, 11) := ⟨⟨by decide +kernel, by decide +kernel⟩, List.mem_of_getElem? (i := 14) (by decide +kernel), List.mem_of_getElem? (i := 347) (by decide +kernel), List.mem_of_getElem? (i := 348) (by decide +kernel)⟩
theorem lw_p5 : lw_okq (⟨"BlockCache$Guest", "push", "(I)V"⟩, 6) := ⟨⟨by decide +kernel, by decide +kernel⟩, List.mem_of_getElem? (i := 22) (by decide +kernel), List.mem_of_getElem? (i := 363) (by decide +kernel), List.mem_of_getElem? (i := 364) (by decide +kernel)⟩
theorem lw_p6 : lw_okq (⟨"BlockCache$Guest", "write", "(II)V"⟩, 6) := ⟨⟨by decide +kernel, by decide +kernel⟩, List.mem_of_getElem? (i := 22) (by decide +kernel), List.mem_of_getElem? (i := 367) (by decide +kernel), List.mem_of_getElem? (i := 368) (by decide +kernel)⟩
theorem lw_p7 : lw_okq (⟨"BlockCache", "dropWritten", "()V"⟩, 11) := ⟨⟨by decide +kernel, by decide +kernel⟩, List.mem_of_getElem? (i := 14) (by decide +kernel), List.mem_of_getElem? (i := 371) (by decide +kernel), List.mem_of_getElem? (i := 372) (by decide +kernel)⟩
theorem lw_p8 : lw_okq (⟨"BlockCache", "findBlock", "(I)Z"⟩, 11) := ⟨⟨by decide +kernel, by decide +kernel⟩, List.mem_of_getElem? (i := 14) (by decide +kernel), List.mem_of_getElem? (i := 375) (by decide +kernel), List.mem_of_getElem? (i := 376) (by decide +kernel)⟩
theorem lw_p9 : lw_okq (⟨"BlockCache$Cache", "decodeBlock", "([II)V"⟩, 13) := ⟨⟨by decide +kernel, by decide +kernel⟩, List.mem_of_getElem? (i := 71) (by decide +kernel), List.mem_of_getElem? (i := 388) (by decide +kernel), List.mem_of_getElem? (i := 389) (by decide +kernel)⟩
theorem lw_p10 : lw_okq (⟨"BlockCache$Cache", "markDead", "(I)I"⟩, 13) := ⟨⟨by decide +kernel, by decide +kernel⟩, List.mem_of_getElem? (i := 71) (by decide +kernel), List.mem_of_getElem? (i := 410) (by decide +kernel), List.mem_of_getElem? (i := 411) (by decide +kernel)⟩
theorem lw_p11 : lw_okq (⟨"BlockCache$Cache", "sizeOf", "(I)I"⟩, 13) := ⟨⟨by decide +kernel, by decide +kernel⟩, List.mem_of_getElem? (i := 71) (by decide +kernel), List.mem_of_getElem? (i := 428) (by decide +kernel), List.mem_of_getElem? (i := 429) (by decide +kernel)⟩
theorem lw_p12 : lw_okq (⟨"BlockCache$Cache", "lastKind", "(I)I"⟩, 13) := ⟨⟨by decide +kernel, by decide +kernel⟩, List.mem_of_getElem? (i := 71) (by decide +kernel), List.mem_of_getElem? (i := 432) (by decide +kernel), List.mem_of_getElem? (i := 433) (by decide +kernel)⟩
theorem lw_p13 : lw_okq (⟨"BlockCache$Cache", "layExits", "(I)V"⟩, 13) := ⟨⟨by decide +kernel, by decide +kernel⟩, List.mem_of_getElem? (i := 71) (by decide +kernel), List.mem_of_getElem? (i := 452) (by decide +kernel), List.mem_of_getElem? (i := 453) (by decide +kernel)⟩
theorem lw_p14 : lw_okq (⟨"BlockCache", "mayRunWhole", "(II)Z"⟩, 11) := ⟨⟨by decide +kernel, by decide +kernel⟩, List.mem_of_getElem? (i := 14) (by decide +kernel), List.mem_of_getElem? (i := 459) (by decide +kernel), List.mem_of_getElem? (i := 460) (by decide +kernel)⟩
theorem lw_p15 : lw_okq (⟨"BlockCache", "requestComes", "(I)Z"⟩, 11) := ⟨⟨by decide +kernel, by decide +kernel⟩, List.mem_of_getElem? (i := 14) (by decide +kernel), List.mem_of_getElem? (i := 463) (by decide +kernel), List.mem_of_getElem? (i := 464) (by decide +kernel)⟩
def lw_privs_1 : List (MethodName × Nat) := [(⟨"java/lang/Throwable", "fillInStackTrace", "(I)Ljava/lang/Throwable;"⟩, 6), (⟨"BlockCache$Cache", "reaches", "(II)Z"⟩, 13), (⟨"BlockCache$Queue", "wrapped", "(I)I"⟩, 3), (⟨"BlockCache", "takeTurn", "(I)V"⟩, 11), (⟨"BlockCache", "interruptIfDue", "()V"⟩, 11), (⟨"BlockCache$Guest", "push", "(I)V"⟩, 6), (⟨"BlockCache$Guest", "write", "(II)V"⟩, 6), (⟨"BlockCache", "dropWritten", "()V"⟩, 11), (⟨"BlockCache", "findBlock", "(I)Z"⟩, 11), (⟨"BlockCache$Cache", "decodeBlock", "([II)V"⟩, 13), (⟨"BlockCache$Cache", "markDead", "(I)I"⟩, 13), (⟨"BlockCache$Cache", "sizeOf", "(I)I"⟩, 13), (⟨"BlockCache$Cache", "lastKind", "(I)I"⟩, 13), (⟨"BlockCache$Cache", "layExits", "(I)V"⟩, 13), (⟨"BlockCache", "mayRunWhole", "(II)Z"⟩, 11), (⟨"BlockCache", "requestComes", "(I)Z"⟩, 11)]
theorem lw_r1 : ∀ q ∈ lw_privs_1, lw_okq q := List.forall_mem_cons.mpr ⟨lw_p0, List.forall_mem_cons.mpr ⟨lw_p1, List.forall_mem_cons.mpr ⟨lw_p2, List.forall_mem_cons.mpr ⟨lw_p3, List.forall_mem_cons.mpr ⟨lw_p4, List.forall_mem_cons.mpr ⟨lw_p5, List.forall_mem_cons.mpr ⟨lw_p6, List.forall_mem_cons.mpr ⟨lw_p7, List.forall_mem_cons.mpr ⟨lw_p8, List.forall_mem_cons.mpr ⟨lw_p9, List.forall_mem_cons.mpr ⟨lw_p10, List.forall_mem_cons.mpr ⟨lw_p11, List.forall_mem_cons.mpr ⟨lw_p12, List.forall_mem_cons.mpr ⟨lw_p13, List.forall_mem_cons.mpr ⟨lw_p14, List.forall_mem_cons.mpr ⟨lw_p15, fun _ h => absurd h List.not_mem_nil⟩⟩⟩⟩⟩⟩⟩⟩⟩⟩⟩⟩⟩⟩⟩⟩
theorem lw_p16 : lw_okq (⟨"BlockCache", "runBlock", "(I)V"⟩, 11) := ⟨⟨by decide +kernel, by decide +kernel⟩, List.mem_of_getElem? (i := 14) (by decide +kernel), List.mem_of_getElem? (i := 471) (by decide +kernel), List.mem_of_getElem? (i := 472) (by decide +kernel)⟩
theorem lw_p17 : lw_okq (⟨"BlockCache", "perform", "(I)V"⟩, 11) := ⟨⟨by decide +kernel, by decide +kernel⟩, List.mem_of_getElem? (i := 14) (by decide +kernel), List.mem_of_getElem? (i := 480) (by decide +kernel), List.mem_of_getElem? (i := 481) (by decide +kernel)⟩
theorem lw_p18 : lw_okq (⟨"BlockCache$Guest", "calculate", "(II)V"⟩, 6) := ⟨⟨by decide +kernel, by decide +kernel⟩, List.mem_of_getElem? (i := 22) (by decide +kernel), List.mem_of_getElem? (i := 491) (by decide +kernel), List.mem_of_getElem? (i := 492) (by decide +kernel)⟩
theorem lw_p19 : lw_okq (⟨"BlockCache$Guest", "resultWithCarry", "(III)I"⟩, 6) := ⟨⟨by decide +kernel, by decide +kernel⟩, List.mem_of_getElem? (i := 22) (by decide +kernel), List.mem_of_getElem? (i := 504) (by decide +kernel), List.mem_of_getElem? (i := 505) (by decide +kernel)⟩
theorem lw_p20 : lw_okq (⟨"BlockCache$Guest", "makeFlags", "(I)V"⟩, 6) := ⟨⟨by decide +kernel, by decide +kernel⟩, List.mem_of_getElem? (i := 22) (by decide +kernel), List.mem_of_getElem? (i := 508) (by decide +kernel), List.mem_of_getElem? (i := 509) (by decide +kernel)⟩
theorem lw_p21 : lw_okq (⟨"BlockCache$Guest", "steer", "(II)V"⟩, 6) := ⟨⟨by decide +kernel, by decide +kernel⟩, List.mem_of_getElem? (i := 22) (by decide +kernel), List.mem_of_getElem? (i := 513) (by decide +kernel), List.mem_of_getElem? (i := 514) (by decide +kernel)⟩
theorem lw_p22 : lw_okq (⟨"BlockCache$Guest", "jumpIf", "(II)V"⟩, 6) := ⟨⟨by decide +kernel, by decide +kernel⟩, List.mem_of_getElem? (i := 22) (by decide +kernel), List.mem_of_getElem? (i := 520) (by decide +kernel), List.mem_of_getElem? (i := 521) (by decide +kernel)⟩
theorem lw_p23 : lw_okq (⟨"BlockCache$Guest", "pop", "()I"⟩, 6) := ⟨⟨by decide +kernel, by decide +kernel⟩, List.mem_of_getElem? (i := 22) (by decide +kernel), List.mem_of_getElem? (i := 524) (by decide +kernel), List.mem_of_getElem? (i := 525) (by decide +kernel)⟩
theorem lw_p24 : lw_okq (⟨"BlockCache$Guest", "countDown", "(II)V"⟩, 6) := ⟨⟨by decide +kernel, by decide +kernel⟩, List.mem_of_getElem? (i := 22) (by decide +kernel), List.mem_of_getElem? (i := 528) (by decide +kernel), List.mem_of_getElem? (i := 529) (by decide +kernel)⟩
theorem lw_p25 : lw_okq (⟨"BlockCache$Guest", "move", "(II)V"⟩, 6) := ⟨⟨by decide +kernel, by decide +kernel⟩, List.mem_of_getElem? (i := 22) (by decide +kernel), List.mem_of_getElem? (i := 532) (by decide +kernel), List.mem_of_getElem? (i := 533) (by decide +kernel)⟩
theorem lw_p26 : lw_okq (⟨"BlockCache$Guest", "give", "(I)V"⟩, 6) := ⟨⟨by decide +kernel, by decide +kernel⟩, List.mem_of_getElem? (i := 22) (by decide +kernel), List.mem_of_getElem? (i := 536) (by decide +kernel), List.mem_of_getElem? (i := 537) (by decide +kernel)⟩
theorem lw_p27 : lw_okq (⟨"BlockCache", "interpret", "(I)V"⟩, 11) := ⟨⟨by decide +kernel, by decide +kernel⟩, List.mem_of_getElem? (i := 14) (by decide +kernel), List.mem_of_getElem? (i := 546) (by decide +kernel), List.mem_of_getElem? (i := 547) (by decide +kernel)⟩
theorem lw_p28 : lw_okq (⟨"BlockCacheModel", "refused", "(I)Z"⟩, 27) := ⟨⟨by decide +kernel, by decide +kernel⟩, List.mem_of_getElem? (i := 558) (by decide +kernel), List.mem_of_getElem? (i := 657) (by decide +kernel), List.mem_of_getElem? (i := 658) (by decide +kernel)⟩
theorem lw_p29 : lw_okq (⟨"BlockCacheModel", "goOn", "(I)Z"⟩, 27) := ⟨⟨by decide +kernel, by decide +kernel⟩, List.mem_of_getElem? (i := 558) (by decide +kernel), List.mem_of_getElem? (i := 661) (by decide +kernel), List.mem_of_getElem? (i := 662) (by decide +kernel)⟩
theorem lw_p30 : lw_okq (⟨"BlockCacheModel", "interrupt", "()V"⟩, 27) := ⟨⟨by decide +kernel, by decide +kernel⟩, List.mem_of_getElem? (i := 558) (by decide +kernel), List.mem_of_getElem? (i := 665) (by decide +kernel), List.mem_of_getElem? (i := 666) (by decide +kernel)⟩
theorem lw_p31 : lw_okq (⟨"BlockCacheModel", "push", "(I)V"⟩, 27) := ⟨⟨by decide +kernel, by decide +kernel⟩, List.mem_of_getElem? (i := 558) (by decide +kernel), List.mem_of_getElem? (i := 669) (by decide +kernel), List.mem_of_getElem? (i := 670) (by decide +kernel)⟩
def lw_privs_2 : List (MethodName × Nat) := [(⟨"BlockCache", "runBlock", "(I)V"⟩, 11), (⟨"BlockCache", "perform", "(I)V"⟩, 11), (⟨"BlockCache$Guest", "calculate", "(II)V"⟩, 6), (⟨"BlockCache$Guest", "resultWithCarry", "(III)I"⟩, 6), (⟨"BlockCache$Guest", "makeFlags", "(I)V"⟩, 6), (⟨"BlockCache$Guest", "steer", "(II)V"⟩, 6), (⟨"BlockCache$Guest", "jumpIf", "(II)V"⟩, 6), (⟨"BlockCache$Guest", "pop", "()I"⟩, 6), (⟨"BlockCache$Guest", "countDown", "(II)V"⟩, 6), (⟨"BlockCache$Guest", "move", "(II)V"⟩, 6), (⟨"BlockCache$Guest", "give", "(I)V"⟩, 6), (⟨"BlockCache", "interpret", "(I)V"⟩, 11), (⟨"BlockCacheModel", "refused", "(I)Z"⟩, 27), (⟨"BlockCacheModel", "goOn", "(I)Z"⟩, 27), (⟨"BlockCacheModel", "interrupt", "()V"⟩, 27), (⟨"BlockCacheModel", "push", "(I)V"⟩, 27)]
theorem lw_r2 : ∀ q ∈ lw_privs_2, lw_okq q := List.forall_mem_cons.mpr ⟨lw_p16, List.forall_mem_cons.mpr ⟨lw_p17, List.forall_mem_cons.mpr ⟨lw_p18, List.forall_mem_cons.mpr ⟨lw_p19, List.forall_mem_cons.mpr ⟨lw_p20, List.forall_mem_cons.mpr ⟨lw_p21, List.forall_mem_cons.mpr ⟨lw_p22, List.forall_mem_cons.mpr ⟨lw_p23, List.forall_mem_cons.mpr ⟨lw_p24, List.forall_mem_cons.mpr ⟨lw_p25, List.forall_mem_cons.mpr ⟨lw_p26, List.forall_mem_cons.mpr ⟨lw_p27, List.forall_mem_cons.mpr ⟨lw_p28, List.forall_mem_cons.mpr ⟨lw_p29, List.forall_mem_cons.mpr ⟨lw_p30, List.forall_mem_cons.mpr ⟨lw_p31, fun _ h => absurd h List.not_mem_nil⟩⟩⟩⟩⟩⟩⟩⟩⟩⟩⟩⟩⟩⟩⟩⟩
theorem lw_p32 : lw_okq (⟨"BlockCacheModel", "write", "(II)V"⟩, 27) := ⟨⟨by decide +kernel, by decide +kernel⟩, List.mem_of_getElem? (i := 558) (by decide +kernel), List.mem_of_getElem? (i := 673) (by decide +kernel), List.mem_of_getElem? (i := 674) (by decide +kernel)⟩
theorem lw_p33 : lw_okq (⟨"BlockCacheModel", "invalidate", "(I)I"⟩, 27) := ⟨⟨by decide +kernel, by decide +kernel⟩, List.mem_of_getElem? (i := 558) (by decide +kernel), List.mem_of_getElem? (i := 677) (by decide +kernel), List.mem_of_getElem? (i := 678) (by decide +kernel)⟩
theorem lw_p34 : lw_okq (⟨"BlockCacheModel", "remove", "(I)V"⟩, 27) := ⟨⟨by decide +kernel, by decide +kernel⟩, List.mem_of_getElem? (i := 558) (by decide +kernel), List.mem_of_getElem? (i := 681) (by decide +kernel), List.mem_of_getElem? (i := 682) (by decide +kernel)⟩
theorem lw_p35 : lw_okq (⟨"BlockCacheModel", "isLinked", "(I)Z"⟩, 27) := ⟨⟨by decide +kernel, by decide +kernel⟩, List.mem_of_getElem? (i := 558) (by decide +kernel), List.mem_of_getElem? (i := 685) (by decide +kernel), List.mem_of_getElem? (i := 686) (by decide +kernel)⟩
theorem lw_p36 : lw_okq (⟨"BlockCacheModel", "hasBlock", "(I)Z"⟩, 27) := ⟨⟨by decide +kernel, by decide +kernel⟩, List.mem_of_getElem? (i := 558) (by decide +kernel), List.mem_of_getElem? (i := 689) (by decide +kernel), List.mem_of_getElem? (i := 690) (by decide +kernel)⟩
theorem lw_p37 : lw_okq (⟨"BlockCacheModel", "find", "(I)V"⟩, 27) := ⟨⟨by decide +kernel, by decide +kernel⟩, List.mem_of_getElem? (i := 558) (by decide +kernel), List.mem_of_getElem? (i := 693) (by decide +kernel), List.mem_of_getElem? (i := 694) (by decide +kernel)⟩
theorem lw_p38 : lw_okq (⟨"BlockCacheModel", "look", "(I)V"⟩, 27) := ⟨⟨by decide +kernel, by decide +kernel⟩, List.mem_of_getElem? (i := 558) (by decide +kernel), List.mem_of_getElem? (i := 697) (by decide +kernel), List.mem_of_getElem? (i := 698) (by decide +kernel)⟩
theorem lw_p39 : lw_okq (⟨"BlockCacheModel", "reads", "(II)Z"⟩, 27) := ⟨⟨by decide +kernel, by decide +kernel⟩, List.mem_of_getElem? (i := 558) (by decide +kernel), List.mem_of_getElem? (i := 704) (by decide +kernel), List.mem_of_getElem? (i := 705) (by decide +kernel)⟩
theorem lw_p40 : lw_okq (⟨"BlockCacheModel", "empty", "()V"⟩, 27) := ⟨⟨by decide +kernel, by decide +kernel⟩, List.mem_of_getElem? (i := 558) (by decide +kernel), List.mem_of_getElem? (i := 720) (by decide +kernel), List.mem_of_getElem? (i := 721) (by decide +kernel)⟩
theorem lw_p41 : lw_okq (⟨"BlockCacheModel", "isDisturbed", "(I)Z"⟩, 27) := ⟨⟨by decide +kernel, by decide +kernel⟩, List.mem_of_getElem? (i := 558) (by decide +kernel), List.mem_of_getElem? (i := 724) (by decide +kernel), List.mem_of_getElem? (i := 725) (by decide +kernel)⟩
theorem lw_p42 : lw_okq (⟨"BlockCacheModel", "runBlock", "(I)V"⟩, 27) := ⟨⟨by decide +kernel, by decide +kernel⟩, List.mem_of_getElem? (i := 558) (by decide +kernel), List.mem_of_getElem? (i := 728) (by decide +kernel), List.mem_of_getElem? (i := 729) (by decide +kernel)⟩
theorem lw_p43 : lw_okq (⟨"BlockCacheModel", "step", "()V"⟩, 27) := ⟨⟨by decide +kernel, by decide +kernel⟩, List.mem_of_getElem? (i := 558) (by decide +kernel), List.mem_of_getElem? (i := 732) (by decide +kernel), List.mem_of_getElem? (i := 733) (by decide +kernel)⟩
theorem lw_p44 : lw_okq (⟨"BlockCacheModel", "receive", "()V"⟩, 27) := ⟨⟨by decide +kernel, by decide +kernel⟩, List.mem_of_getElem? (i := 558) (by decide +kernel), List.mem_of_getElem? (i := 736) (by decide +kernel), List.mem_of_getElem? (i := 737) (by decide +kernel)⟩
theorem lw_p45 : lw_okq (⟨"BlockCacheModel", "add", "(III)V"⟩, 27) := ⟨⟨by decide +kernel, by decide +kernel⟩, List.mem_of_getElem? (i := 558) (by decide +kernel), List.mem_of_getElem? (i := 740) (by decide +kernel), List.mem_of_getElem? (i := 741) (by decide +kernel)⟩
theorem lw_p46 : lw_okq (⟨"BlockCacheModel", "setFlags", "(II)V"⟩, 27) := ⟨⟨by decide +kernel, by decide +kernel⟩, List.mem_of_getElem? (i := 558) (by decide +kernel), List.mem_of_getElem? (i := 744) (by decide +kernel), List.mem_of_getElem? (i := 745) (by decide +kernel)⟩
theorem lw_p47 : lw_okq (⟨"BlockCacheModel", "less", "(II)I"⟩, 27) := ⟨⟨by decide +kernel, by decide +kernel⟩, List.mem_of_getElem? (i := 558) (by decide +kernel), List.mem_of_getElem? (i := 748) (by decide +kernel), List.mem_of_getElem? (i := 749) (by decide +kernel)⟩
def lw_privs_3 : List (MethodName × Nat) := [(⟨"BlockCacheModel", "write", "(II)V"⟩, 27), (⟨"BlockCacheModel", "invalidate", "(I)I"⟩, 27), (⟨"BlockCacheModel", "remove", "(I)V"⟩, 27), (⟨"BlockCacheModel", "isLinked", "(I)Z"⟩, 27), (⟨"BlockCacheModel", "hasBlock", "(I)Z"⟩, 27), (⟨"BlockCacheModel", "find", "(I)V"⟩, 27), (⟨"BlockCacheModel", "look", "(I)V"⟩, 27), (⟨"BlockCacheModel", "reads", "(II)Z"⟩, 27), (⟨"BlockCacheModel", "empty", "()V"⟩, 27), (⟨"BlockCacheModel", "isDisturbed", "(I)Z"⟩, 27), (⟨"BlockCacheModel", "runBlock", "(I)V"⟩, 27), (⟨"BlockCacheModel", "step", "()V"⟩, 27), (⟨"BlockCacheModel", "receive", "()V"⟩, 27), (⟨"BlockCacheModel", "add", "(III)V"⟩, 27), (⟨"BlockCacheModel", "setFlags", "(II)V"⟩, 27), (⟨"BlockCacheModel", "less", "(II)I"⟩, 27)]
theorem lw_r3 : ∀ q ∈ lw_privs_3, lw_okq q := List.forall_mem_cons.mpr ⟨lw_p32, List.forall_mem_cons.mpr ⟨lw_p33, List.forall_mem_cons.mpr ⟨lw_p34, List.forall_mem_cons.mpr ⟨lw_p35, List.forall_mem_cons.mpr ⟨lw_p36, List.forall_mem_cons.mpr ⟨lw_p37, List.forall_mem_cons.mpr ⟨lw_p38, List.forall_mem_cons.mpr ⟨lw_p39, List.forall_mem_cons.mpr ⟨lw_p40, List.forall_mem_cons.mpr ⟨lw_p41, List.forall_mem_cons.mpr ⟨lw_p42, List.forall_mem_cons.mpr ⟨lw_p43, List.forall_mem_cons.mpr ⟨lw_p44, List.forall_mem_cons.mpr ⟨lw_p45, List.forall_mem_cons.mpr ⟨lw_p46, List.forall_mem_cons.mpr ⟨lw_p47, fun _ h => absurd h List.not_mem_nil⟩⟩⟩⟩⟩⟩⟩⟩⟩⟩⟩⟩⟩⟩⟩⟩
theorem lw_p48 : lw_okq (⟨"BlockCacheModel", "shift", "(II)V"⟩, 27) := ⟨⟨by decide +kernel, by decide +kernel⟩, List.mem_of_getElem? (i := 558) (by decide +kernel), List.mem_of_getElem? (i := 752) (by decide +kernel), List.mem_of_getElem? (i := 753) (by decide +kernel)⟩
theorem lw_p49 : lw_okq (⟨"BlockCacheModel", "stepOn", "(IIIII)V"⟩, 27) := ⟨⟨by decide +kernel, by decide +kernel⟩, List.mem_of_getElem? (i := 558) (by decide +kernel), List.mem_of_getElem? (i := 756) (by decide +kernel), List.mem_of_getElem? (i := 757) (by decide +kernel)⟩
theorem lw_p50 : lw_okq (⟨"BlockCacheModel", "goes", "(I)Z"⟩, 27) := ⟨⟨by decide +kernel, by decide +kernel⟩, List.mem_of_getElem? (i := 558) (by decide +kernel), List.mem_of_getElem? (i := 760) (by decide +kernel), List.mem_of_getElem? (i := 761) (by decide +kernel)⟩
theorem lw_p51 : lw_okq (⟨"BlockCacheModel", "pop", "()I"⟩, 27) := ⟨⟨by decide +kernel, by decide +kernel⟩, List.mem_of_getElem? (i := 558) (by decide +kernel), List.mem_of_getElem? (i := 764) (by decide +kernel), List.mem_of_getElem? (i := 765) (by decide +kernel)⟩
theorem lw_p52 : lw_okq (⟨"BlockCacheModel", "leave", "(II)V"⟩, 27) := ⟨⟨by decide +kernel, by decide +kernel⟩, List.mem_of_getElem? (i := 558) (by decide +kernel), List.mem_of_getElem? (i := 768) (by decide +kernel), List.mem_of_getElem? (i := 769) (by decide +kernel)⟩
def lw_privs_4 : List (MethodName × Nat) := [(⟨"BlockCacheModel", "shift", "(II)V"⟩, 27), (⟨"BlockCacheModel", "stepOn", "(IIIII)V"⟩, 27), (⟨"BlockCacheModel", "goes", "(I)Z"⟩, 27), (⟨"BlockCacheModel", "pop", "()I"⟩, 27), (⟨"BlockCacheModel", "leave", "(II)V"⟩, 27)]
theorem lw_r4 : ∀ q ∈ lw_privs_4, lw_okq q := List.forall_mem_cons.mpr ⟨lw_p48, List.forall_mem_cons.mpr ⟨lw_p49, List.forall_mem_cons.mpr ⟨lw_p50, List.forall_mem_cons.mpr ⟨lw_p51, List.forall_mem_cons.mpr ⟨lw_p52, fun _ h => absurd h List.not_mem_nil⟩⟩⟩⟩⟩
def lw_privs : List (MethodName × Nat) := lw_privs_1 ++ (lw_privs_2 ++ (lw_privs_3 ++ (lw_privs_4)))
def lw_tbl : List Cond := k2_sels lw_privs ++ tables_1
theorem lw_privs_ok : ∀ q ∈ lw_privs, lw_okq q := by
  show ∀ q ∈ lw_privs_1 ++ (lw_privs_2 ++ (lw_privs_3 ++ (lw_privs_4))), lw_okq q
  exact List.forall_mem_append.mpr ⟨lw_r1, List.forall_mem_append.mpr ⟨lw_r2, List.forall_mem_append.mpr ⟨lw_r3, lw_r4⟩⟩⟩
end
section
/-! ===== BEGIN words of one list among another's, by their places ===== -/
theorem goodIn_r {big : List Cond} (ws : List Cond) (ps : List Nat) (hp : ws = ps.filterMap (fun i => big[i]?)) (h : ws.all goodWord = true) : GoodIn big ws := by
  intro w hw
  have h1 := List.all_eq_true.mp h w hw
  rw [hp] at hw
  obtain ⟨i, -, hi⟩ := List.mem_filterMap.mp hw
  have hm : w ∈ big := by first | exact List.mem_of_getElem? hi | exact List.getElem?_mem hi
  exact ⟨hm, good_of_word h1⟩
theorem goodIn_app {big a b : List Cond} (ha : GoodIn big a) (hb : GoodIn big b) : GoodIn big (a ++ b) := fun w h => (List.mem_append.mp h).elim (ha w) (hb w)
theorem goodIn_ca {big a b : List Cond} {c : Cond} (ha : GoodIn big (c :: a)) (hb : GoodIn big b) : GoodIn big (c :: (a ++ b)) := fun w h => (List.mem_cons.mp h).elim (fun e => ha w (List.mem_cons.mpr (Or.inl e))) (fun h => (List.mem_append.mp h).elim (fun h => ha w (List.mem_cons.mpr (Or.inr h))) (hb w))
theorem goodIn_sub {big ws : List Cond} (hm : ∀ w ∈ ws, w ∈ big) (h : ws.all goodWord = true) : GoodIn big ws := fun w hw => ⟨hm w hw, good_of_word (List.all_eq_true.mp h w hw)⟩
/-! ===== END ===== -/

/-! ===== BEGIN exceptions that leave a method, and their catching by the caller (launches without stack traces) ===== -/
section VXA
/-! The laws vx_back, vx_callV, vx_callS, vx_callSW, vx_throw0, vx_throwS follow proofs of the library, with one case more: JvmDerived/Free/Laws.lean (Back.of_free), Shelf42/LK1.lean (callV, callS), Shelf/KitTraced.lean (throwNew0V, throwNewS). -/
/-- where a method has thrown q: the class by its name, the cell, what was written, the world -/
def vx_T (XC : String → State → State → Prop) (st : State) (q : Addr) (t : State) (mc ms : Nat) (free : Addr → Prop) : Prop :=
  ∃ (E : String) (ce : Cell) (L : List Loc), XC E st t ∧ t.heap[q]? = some ce ∧ ce.vm = .none ∧ st.vm.findClass E = some ce.cls ∧ st.WarmedH t.vm ∧ st.sameButNew ({ t with vm := st.vm } : State) L mc ms ∧ ∀ z ∈ L, free z.base
def vx_Q (Qc : Array Value → State → Outcome → State → Prop) (XC : String → State → State → Prop) (mc ms : Nat) (free : Addr → Prop) : Array Value → State → Outcome → State → Prop := fun a st o t =>
  (Qc a st o t ∧ ∃ L, FrameEnd st o t L mc ms ∧ ∀ q ∈ L, free q.base) ∨ ∃ q, o = .threw q ∧ vx_T XC st q t mc ms free
/-- a callee that returns or throws -/
def vx_Met (l : Launch) (y : MethodName) (ws : List Cond) (rm : Room) (Pc : Array Value → State → Prop) (Qc : Array Value → State → Outcome → State → Prop) (XC : String → State → State → Prop) (mc ms : Nat) (free : Addr → Prop) : Prop :=
  MetFree l y (headSpec ws rm) Pc (fun _ _ _ _ _ => True) (vx_Q Qc XC mc ms free)
def vx_Post (XC : String → State → State → Prop) (mc ms : Nat) (free : Addr → Prop) : Pt → Array Value → Addr → Pt → Prop := fun A a q B =>
  ∃ (g : JFrame) (mk : MethodId) (t : State) (L : List Loc) (E : String) (ce : Cell), B.U.heap = t.heap ∧ B.U.vm = t.vm ∧ XC E (A.U.calling g mk a) t ∧ t.heap[q]? = some ce ∧ ce.vm = .none ∧ A.U.vm.findClass E = some ce.cls ∧ B.locs = A.locs ++ L ∧ (∀ z ∈ L, free z.base) ∧ B.cells = A.cells + mc ∧ B.slots = A.slots + ms
def vx_Back (l : Launch) (R : Room) (p : Program) (e : Env) (below : List Frame) (s : State) (sargs : Array Value) (y : MethodName) (len W9 : Nat)
    (Pre : Pt → Array Value → Prop) (Post : Pt → Array Value → Option Value → Pt → Prop) (PostX : Pt → Array Value → Addr → Pt → Prop) : Prop :=
  ∀ (m : MethodId) (meth : Method) (c : Code) (A : Pt) (g : JFrame) (ig : Instr) (mk : MethodId) (a : Array Value),
    Stand p l e R s m sargs below meth c A.U A.locs A.cells A.slots → g.method = m → g.locals.size = c.maxLocals → decode c.code g.pc = .ok (ig, len) →
    2 * g.monitorRoom + (g.stack.map fun v => v.category).sum ≤ W9 → A.U.methodNamed? y = some mk → Pre A a →
    (∃ (v : Option Value) (B : Pt), Stand p l e R s m sargs below meth c B.U B.locs B.cells B.slots ∧ Post A a v B ∧
      Steps p.tables e below (doInvoke e (A.U.setTop g) [] mk a).1 (B.U.setTop { g with pc := g.pc + len, stack := v.toList ++ g.stack })) ∨
    (∃ (q : Addr) (B : Pt), Stand p l e R s m sargs below meth c B.U B.locs B.cells B.slots ∧ PostX A a q B ∧
      Steps p.tables e below (doInvoke e (A.U.setTop g) [] mk a).1 ((B.U.setTop g).pushFrame (.throwing q)))
section Payer
variable {l : Launch} {R : Room} {p : Program} {e : Env} {below : List Frame} {s : State} {sargs : Array Value} {y : MethodName} {len W9 : Nat}
theorem vx_back {ws : List Cond} {rm : Room} {Pc : Array Value → State → Prop} {Qc : Array Value → State → Outcome → State → Prop} {XC : String → State → State → Prop} {mc ms : Nat} {free : Addr → Prop} {bytes : ByteArray} {maxL : Nat} {ret : Option FieldType}
    (hM : vx_Met l y ws rm Pc Qc XC mc ms free) (hblind : FrameBlind Pc) (hrc : rm.cells = mc) (hrs : rm.slots = ms)
    (hframes : rm.frames + 1 ≤ R.frames) (hlocals : W9 + (maxL + 11) + rm.locals ≤ R.locals)
    (hws : ∀ w ∈ ws, ∀ a' U, s.WarmedH U.vm → w.before a' U = true) (hcode : Cond.code y bytes maxL ret ∈ ws) (hinit : ∀ a' U, s.WarmedH U.vm → (Cond.initialized y.cls).before a' U = true) :
    vx_Back l R p e below s sargs y len W9 (PreOf R mc ms Pc) (PostOf Qc mc ms free) (vx_Post XC mc ms free) := by
  intro m meth c A g ig mk a X hg hsize hdg hW hn hp
  have h1 : (headSpec ws rm).pre.before a A.U = true := atoms_intro fun w hw => hws w hw _ _ X.warmed
  have h2 : (Cond.code y bytes maxL ret).before a A.U = true := hws _ hcode _ _ X.warmed
  have h3 : (Cond.initialized y.cls).before a A.U = true := hinit _ _ X.warmed
  have h4 : A.cells + (headSpec ws rm).room.cells ≤ R.cells := by rw [show (headSpec ws rm).room.cells = mc from hrc]; exact hp.1
  have h5 : A.slots + (headSpec ws rm).room.slots ≤ R.slots := by rw [show (headSpec ws rm).room.slots = ms from hrs]; exact hp.2.1
  have hPc : Pc a (A.U.calling g mk a) := hblind _ _ _ _ hp.2.2
  obtain ⟨U, Ls, c0, s0⟩ := A
  dsimp only [Pt.U, Pt.locs, Pt.cells, Pt.slots] at h1 h2 h3 h4 h5 X hn hPc ⊢
  obtain ⟨methY, cY, hmY, hcY, -, hlY, -, -, -, -⟩ := Cond.code_spec hn h2
  obtain ⟨kY, hkY, -⟩ := className_of_methodNamed hn
  have hinitY : kY.init = .initialized := Cond.initialized_spec (findClass_of_methodNamed hn) hkY h3
  have h : At U g.method c below := by rw [hg]; exact X.here
  have hlocals9 : W9 + (maxL + 11) + (headSpec ws rm).room.locals ≤ R.locals := hlocals
  have happ : (headSpec ws rm).appliesLoose y e.platform (U.calling g mk a) = true :=
    Spec.appliesLoose_calling (g := g) h hdg hn hkY hinitY
      (X.room_calling (g := g) (R' := (headSpec ws rm).room) hsize hmY hcY hframes (by rw [hlY]; omega) h4 h5) h1
  obtain ⟨mid, hmid⟩ := h.above
  have hfr : (U.setTop g).frames = (.java g :: mid) ++ below := by rw [State.frames_setTop' g h.top, hmid]; rfl
  obtain ⟨o, s₂, hsteps, -, hend, hq⟩ := Steps.callFree hM p X.admits X.cas X.clock (acts := []) hfr happ hPc trivial
  have hq' : vx_Q Qc XC mc ms free a (U.calling g mk a) o s₂ := hq
  rw [State.frames_setTop' g h.top] at hend
  obtain ⟨g₀, hg0⟩ := Option.isSome_iff_exists.mp h.top
  obtain ⟨r, hr⟩ := State.topJava?_eq_some.mp hg0
  have hr' : (({ U with heap := s₂.heap, slotsUsed := s₂.slotsUsed } : State).setVm s₂.vm).frames = .java g₀ :: r := hr
  rcases hq' with ⟨hqc, L, hfe, hL⟩ | ⟨q, rfl, E, ce, L, hx, hce, hcv, hcl, hW₂, hsm, hL⟩
  · obtain ⟨⟨v, rfl⟩, hW₂, e2, q2, q3, q4, q5, q6⟩ := id hfe
    have e3 : s₂ = ({ (U.calling g mk a).setFrames s₂.frames with heap := s₂.heap, slotsUsed := s₂.slotsUsed } : State).setVm s₂.vm := by
      have : s₂ = ({ s₂ with vm := (U.calling g mk a).vm } : State).setVm s₂.vm := rfl
      rw [e2] at this
      exact this
    obtain ⟨c₂, i₂, len₂, hc₂, hd₂, hf₂⟩ := hend
    have hW' : U.WarmedH s₂.vm := hW₂
    have hcc : c₂ = c := by
      have h1 : s₂.code? g.method = U.code? g.method := by
        rw [State.code?_eq, State.code?_eq, hW'.alike.method?]
      exact Option.some.inj (hc₂.symm.trans (h1.trans h.code))
    subst hcc
    have hlen : len₂ = len := by rw [hdg] at hd₂; cases hd₂; rfl
    subst hlen
    have hs₂ : s₂ = (({ U with heap := s₂.heap, slotsUsed := s₂.slotsUsed } : State).setVm s₂.vm).setTop { g with pc := g.pc + len₂, stack := v.toList ++ g.stack } := by
      refine e3.trans ?_
      rw [hf₂, State.calling_eq h.top, State.setFrames_setFrames, State.setTop_of_frames _ hr', hr]
      rfl
    have hsame : U.sameButNew ({ U with heap := s₂.heap, slotsUsed := s₂.slotsUsed } : State) L mc ms := by
      refine ⟨?_, q2, q3, q4, q5, q6⟩
      obtain ⟨t, ht, -⟩ := State.frames_cons hr
      show ({ U with heap := s₂.heap, slotsUsed := s₂.slotsUsed } : State) = { U.setFrames U.frames with heap := s₂.heap, slotsUsed := s₂.slotsUsed }
      rw [State.setFrames_self ht]
    subst hg
    refine Or.inl ⟨v, ⟨(({ U with heap := s₂.heap, slotsUsed := s₂.slotsUsed } : State).setVm s₂.vm), Ls ++ L, c0 + mc, s0 + ms⟩,
      ⟨X.admits, X.cas, X.clock, X.frames, X.room, X.hears, X.method, X.code, (X.here.setHeapUsed s₂.heap s₂.slotsUsed).setVm hW'.alike, X.tail, State.WarmedH.trans X.warmed hW', X.limits, X.bytes, X.same.trans (hsame.setVm s.vm)⟩,
      ⟨g, mk, s₂, L, rfl, rfl, hqc, rfl, hL, rfl, rfl⟩, ?_⟩
    show Steps p.tables e below _ ((({ U with heap := s₂.heap, slotsUsed := s₂.slotsUsed } : State).setVm s₂.vm).setTop { g with pc := g.pc + len₂, stack := v.toList ++ g.stack })
    rw [← hs₂]
    exact hsteps
  · obtain ⟨e2, q2, q3, q4, q5, q6⟩ := id hsm
    have e3 : s₂ = ({ (U.calling g mk a).setFrames s₂.frames with heap := s₂.heap, slotsUsed := s₂.slotsUsed } : State).setVm s₂.vm := by
      have : s₂ = ({ s₂ with vm := (U.calling g mk a).vm } : State).setVm s₂.vm := rfl
      rw [e2] at this
      exact this
    have hf₂ : s₂.frames = .throwing q :: .java g :: U.frames.tail := hend
    have hW' : U.WarmedH s₂.vm := hW₂
    have hs₂ : s₂ = ((({ U with heap := s₂.heap, slotsUsed := s₂.slotsUsed } : State).setVm s₂.vm).setTop g).pushFrame (.throwing q) := by
      refine e3.trans ?_
      rw [hf₂, State.calling_eq h.top, State.setFrames_setFrames, State.pushFrame, State.frames_setTop _ hr', State.setTop_of_frames _ hr', State.setFrames_setFrames, hr]
      rfl
    have hsame : U.sameButNew ({ U with heap := s₂.heap, slotsUsed := s₂.slotsUsed } : State) L mc ms := by
      refine ⟨?_, q2, q3, q4, q5, q6⟩
      obtain ⟨t, ht, -⟩ := State.frames_cons hr
      show ({ U with heap := s₂.heap, slotsUsed := s₂.slotsUsed } : State) = { U.setFrames U.frames with heap := s₂.heap, slotsUsed := s₂.slotsUsed }
      rw [State.setFrames_self ht]
    subst hg
    refine Or.inr ⟨q, ⟨(({ U with heap := s₂.heap, slotsUsed := s₂.slotsUsed } : State).setVm s₂.vm), Ls ++ L, c0 + mc, s0 + ms⟩,
      ⟨X.admits, X.cas, X.clock, X.frames, X.room, X.hears, X.method, X.code, (X.here.setHeapUsed s₂.heap s₂.slotsUsed).setVm hW'.alike, X.tail, State.WarmedH.trans X.warmed hW', X.limits, X.bytes, X.same.trans (hsame.setVm s.vm)⟩,
      ⟨g, mk, s₂, L, E, ce, rfl, rfl, hx, hce, hcv, hcl, rfl, hL, rfl, rfl⟩, ?_⟩
    show Steps p.tables e below _ (((({ U with heap := s₂.heap, slotsUsed := s₂.slotsUsed } : State).setVm s₂.vm).setTop g).pushFrame (.throwing q))
    rw [← hs₂]
    exact hsteps
end Payer
section Calls
variable {p : Program} {l : Launch} {e : Env} {R : Room} {s : State} {m : MethodId} {args : Array Value} {below : List Frame} {meth : Method} {c : Code} {T : State} {locs : List Loc} {cells slots : Nat}
theorem vx_callV (X : Stand p l e R s m args below meth c T locs cells slots) (hexec : p.tables.exec = Jvm.exec) {own C : String} {index : Nat} {y : MethodName} {bytes : ByteArray} {maxL : Nat} {ret : Option FieldType}
    (hown : s.vm.findClass own = some m.cls) (hlink : (Cond.methodLink own index y).before args s = true) (hinst : (Cond.instanceMethod y).before args s = true) (hsel : (Cond.selects C y y).before args s = true)
    (hcode : (Cond.code y bytes maxL ret).before args s = true) (hy : y.cls ≠ "java/lang/invoke/MethodHandle" ∧ y.cls ≠ "java/lang/invoke/VarHandle")
    {W9 : Nat} {Pre : Pt → Array Value → Prop} {Post : Pt → Array Value → Option Value → Pt → Prop} {PostX : Pt → Array Value → Addr → Pt → Prop} (hK : vx_Back l R p e below s args y 3 W9 Pre Post PostX)
    {b : Addr} {cellB : Cell} (hcell : T.heap[b]? = some cellB) (hobj : cellB.vm.isStatics = false) (hcls : s.vm.findClass C = some cellB.cls)
    {g : JFrame} (hg : g.method = m) (hsize : g.locals.size = c.maxLocals) {argsL rest : List Value} (hlen : ∀ sig, parseMethodDescriptor y.desc = some sig → argsL.length = sig.parameters.length)
    (hstack : g.stack = argsL.reverse ++ .ref b :: rest) (hW : 2 * g.monitorRoom + (rest.map fun v => v.category).sum ≤ W9) (hdg : decode c.code g.pc = .ok (.invokevirtual index, 3))
    (hpre : ∀ vm₁, s.WarmedH vm₁ → Pre ⟨T.setVm vm₁, locs, cells, slots⟩ (Value.ref b :: argsL).toArray) :
    (∃ (v : Option Value) (vm₁ : Vm) (B : Pt), s.WarmedH vm₁ ∧ Stand p l e R s m args below meth c B.U B.locs B.cells B.slots ∧ Post ⟨T.setVm vm₁, locs, cells, slots⟩ (Value.ref b :: argsL).toArray v B ∧
      ∀ target, Steps p.tables e below (B.U.setTop { g with pc := g.pc + 3, stack := v.toList ++ rest }) target → Steps p.tables e below (T.setTop g) target) ∨
    (∃ (q : Addr) (vm₁ : Vm) (B : Pt), s.WarmedH vm₁ ∧ Stand p l e R s m args below meth c B.U B.locs B.cells B.slots ∧ PostX ⟨T.setVm vm₁, locs, cells, slots⟩ (Value.ref b :: argsL).toArray q B ∧
      Steps p.tables e below (T.setTop g) ((B.U.setTop { g with stack := rest }).pushFrame (.throwing q))) := by
  obtain ⟨mk, methM, hnamed, hmethM, hstM, habM⟩ := Cond.instanceMethod_spec hinst
  obtain ⟨methM', cM, hmethM', -, -, -, -, -, -, hsigM⟩ := Cond.code_spec hnamed hcode
  cases hmethM.symm.trans hmethM'
  obtain ⟨c2, r2, m2, q1, q2, q3, q4, kP, hkP, hkPi⟩ := Cond.selects_spec hsel
  cases hcls.symm.trans q1
  cases (State.methodFound?_of_named hnamed hy).symm.trans q2
  cases hnamed.symm.trans q3
  have hselP : selectMethod e.platform s.vm cellB.cls mk = .method mk := by rw [Launch.admits_selectMethod X.admits]; exact q4
  obtain ⟨vm₁, X₁, hstep₁⟩ := X.invokevirtual hexec hown hlink hnamed hmethM hstM hkP hkPi hy (a := b) (cell := cellB) hcell
    (fun z h => by rw [h] at hobj; cases hobj) hselP hmethM habM hkP hkPi (g := g) hg (argsL := argsL) (rest := rest) (hlen _ hsigM) hstack hdg
  rcases hK m meth c ⟨T.setVm vm₁, locs, cells, slots⟩ { g with stack := rest } (.invokevirtual index) mk (Value.ref b :: argsL).toArray X₁ hg hsize hdg hW (X₁.named hnamed) (hpre vm₁ X₁.warmed) with ⟨v, B, X', hpost, hsteps⟩ | ⟨q, B, X', hpost, hsteps⟩
  · exact Or.inl ⟨v, vm₁, B, X₁.warmed, X', hpost, fun target h => hstep₁ _ fun acts => by rw [doInvoke_state]; exact hsteps.trans h⟩
  · exact Or.inr ⟨q, vm₁, B, X₁.warmed, X', hpost, hstep₁ _ fun acts => by rw [doInvoke_state]; exact hsteps⟩
theorem vx_callS (X : Stand p l e R s m args below meth c T locs cells slots) (hexec : p.tables.exec = Jvm.exec) {own : String} {index : Nat} {y : MethodName} {bytes : ByteArray} {maxL : Nat} {ret : Option FieldType}
    (hown : s.vm.findClass own = some m.cls) (hlink : (Cond.methodLink own index y).before args s = true) (hstat : (Cond.static y).before args s = true) (hinit : (Cond.initialized y.cls).before args s = true)
    (hcode : (Cond.code y bytes maxL ret).before args s = true) (hy : y.cls ≠ "java/lang/invoke/MethodHandle" ∧ y.cls ≠ "java/lang/invoke/VarHandle")
    {W9 : Nat} {Pre : Pt → Array Value → Prop} {Post : Pt → Array Value → Option Value → Pt → Prop} {PostX : Pt → Array Value → Addr → Pt → Prop} (hK : vx_Back l R p e below s args y 3 W9 Pre Post PostX)
    {g : JFrame} (hg : g.method = m) (hsize : g.locals.size = c.maxLocals) {argsL rest : List Value} (hlen : ∀ sig, parseMethodDescriptor y.desc = some sig → argsL.length = sig.parameters.length)
    (hstack : g.stack = argsL.reverse ++ rest) (hW : 2 * g.monitorRoom + (rest.map fun v => v.category).sum ≤ W9) (hdg : decode c.code g.pc = .ok (.invokestatic index, 3))
    (hpre : ∀ vm₁, s.WarmedH vm₁ → Pre ⟨T.setVm vm₁, locs, cells, slots⟩ argsL.toArray) :
    (∃ (v : Option Value) (vm₁ : Vm) (B : Pt), s.WarmedH vm₁ ∧ Stand p l e R s m args below meth c B.U B.locs B.cells B.slots ∧ Post ⟨T.setVm vm₁, locs, cells, slots⟩ argsL.toArray v B ∧
      ∀ target, Steps p.tables e below (B.U.setTop { g with pc := g.pc + 3, stack := v.toList ++ rest }) target → Steps p.tables e below (T.setTop g) target) ∨
    (∃ (q : Addr) (vm₁ : Vm) (B : Pt), s.WarmedH vm₁ ∧ Stand p l e R s m args below meth c B.U B.locs B.cells B.slots ∧ PostX ⟨T.setVm vm₁, locs, cells, slots⟩ argsL.toArray q B ∧
      Steps p.tables e below (T.setTop g) ((B.U.setTop { g with stack := rest }).pushFrame (.throwing q))) := by
  obtain ⟨mk, hnamed⟩ := Cond.code_named hcode
  obtain ⟨methM, cM, hmethM, -, -, -, -, -, -, hsigM⟩ := Cond.code_spec hnamed hcode
  have hstatic : methM.isStatic = true := Cond.static_spec hnamed hmethM hstat
  obtain ⟨kP, hkP, -⟩ := className_of_methodNamed hnamed
  have hinitP : kP.init = .initialized := Cond.initialized_spec (findClass_of_methodNamed hnamed) hkP hinit
  obtain ⟨vm₁, X₁, hstep₁⟩ := X.invokestatic hexec hown hlink hnamed hmethM hstatic hkP hinitP hy (g := g) hg (argsL := argsL) (rest := rest) (hlen _ hsigM) hstack hdg
  rcases hK m meth c ⟨T.setVm vm₁, locs, cells, slots⟩ { g with stack := rest } (.invokestatic index) mk argsL.toArray X₁ hg hsize hdg hW (X₁.named hnamed) (hpre vm₁ X₁.warmed) with ⟨v, B, X', hpost, hsteps⟩ | ⟨q, B, X', hpost, hsteps⟩
  · exact Or.inl ⟨v, vm₁, B, X₁.warmed, X', hpost, fun target h => hstep₁ _ fun acts => by rw [doInvoke_state]; exact hsteps.trans h⟩
  · exact Or.inr ⟨q, vm₁, B, X₁.warmed, X', hpost, hstep₁ _ fun acts => by rw [doInvoke_state]; exact hsteps⟩
end Calls
theorem vx_cls {s : State} {T : State} {vm₁ : Vm} {E : String} {k : ClassId} (hW : s.WarmedH vm₁) (h : (T.setVm vm₁).vm.findClass E = some k) : s.vm.findClass E = some k := by
  have h1 : vm₁.findClass E = some k := h
  rw [hW.alike.findClass] at h1
  exact h1
/-- the method's frame g, with q thrown over it -/
def vx_W (p : Program) (l : Launch) (e : Env) (R : Room) (s : State) (m : MethodId) (args : Array Value) (below : List Frame) (meth : Method) (c : Code) (H : Heap) (locs : List Loc) (cells slots : Nat) (Q : State → Prop) (g : JFrame) (q : Addr) : Prop :=
  ∀ T : State, T.heap = H → Stand p l e R s m args below meth c T locs cells slots → ∃ t, Steps p.tables e below ((T.setTop g).pushFrame (.throwing q)) t ∧ Q t
def vx_Run (p : Program) (l : Launch) (e : Env) (R : Room) (s : State) (m : MethodId) (args : Array Value) (below : List Frame) (meth : Method) (c : Code) (H : Heap) (locs : List Loc) (cells slots mc ms : Nat) (g : JFrame) (rest : List Value) (Qa : State → Outcome → State → Prop) (XC : String → State → State → Prop) (free : Addr → Prop) : Prop :=
  ∀ T : State, T.heap = H → Stand p l e R s m args below meth c T locs cells slots →
    (∃ (v : Option Value) (st₀ t T' : State) (L : List Loc), st₀.heap = H ∧ Stand p l e R s m args below meth c T' (locs ++ L) (cells + mc) (slots + ms) ∧ (∀ q ∈ L, free q.base) ∧ T'.heap = t.heap ∧ T'.vm = t.vm ∧ Qa st₀ (.returned v) t ∧
      Goes p e below T g T' { g with pc := g.pc + 3, stack := v.toList ++ rest }) ∨
    (∃ (q : Addr) (st₀ t T' : State) (L : List Loc) (E : String) (ce : Cell), st₀.heap = H ∧ Stand p l e R s m args below meth c T' (locs ++ L) (cells + mc) (slots + ms) ∧ (∀ z ∈ L, free z.base) ∧ T'.heap = t.heap ∧ T'.vm = t.vm ∧ XC E st₀ t ∧ t.heap[q]? = some ce ∧ ce.vm = .none ∧ s.vm.findClass E = some ce.cls ∧
      Steps p.tables e below (T.setTop g) ((T'.setTop { g with stack := rest }).pushFrame (.throwing q)))
def vx_X {S : Type} (px : S → Prop) (B : String → S → State → Prop) (A : Nat → Prop) : String → State → State → Prop := fun E st t => ∃ u : S, px u ∧ B E u t ∧ va_F A st t
section Runs
variable {p : Program} {l : Launch} {e : Env} {R : Room} {s : State} {m : MethodId} {args : Array Value} {below : List Frame} {meth : Method} {c : Code} {H : Heap} {locs : List Loc} {cells slots : Nat}
variable {y : MethodName} {bytes cc : ByteArray} {maxL nL mc ms n index : Nat} {ret : Option FieldType} {ws : List Cond} {rm : Room} {Pc : Array Value → State → Prop} {Qc : Array Value → State → Outcome → State → Prop} {XC : String → State → State → Prop} {free : Addr → Prop} {Ts : List Cond} {own C : String} {b : Addr} {As rest : List Value} {g : JFrame}
theorem vx_callBack (cb : CallB R s args own index y bytes maxL ret ws rm mc ms n) (hM : vx_Met l y ws rm Pc Qc XC mc ms free) (hbl : FrameBlind Pc) : vx_Back l R p e below s args y 3 8 (PreOf R mc ms Pc) (PostOf Qc mc ms free) (vx_Post XC mc ms free) := by
  obtain ⟨hrc, hrs, hfr, hlo, hws, hcw, -, hini, -⟩ := cb
  exact vx_back (bytes := bytes) (maxL := maxL) (ret := ret) hM hbl hrc hrs hfr hlo hws hcw (fun a' U hW => word_at hW (Or.inl (by first | rfl | simp [Cond.onTables, Cond.keeps, Cond.steady])) hini)
theorem vx_runV (S : CallFix p m c cc nL s args Ts own) (hM : vx_Met l y ws rm Pc Qc XC mc ms free) (cw : CallW R s args own C index y bytes maxL ret ws rm mc ms n) (hp : PreV s H C b Pc As)
    (hg : g.method = m) (hn : As.length = n) (hsize : g.locals.size = nL) (hstack : g.stack = As.reverse ++ .ref b :: rest) (hW : 2 * g.monitorRoom + (rest.map fun v => v.category).sum ≤ 8) (hdg : decode cc g.pc = .ok (.invokevirtual index, 3)) (hf : cells + mc ≤ R.cells ∧ slots + ms ≤ R.slots) :
    vx_Run p l e R s m args below meth c H locs cells slots mc ms g rest (Qc (Value.ref b :: As).toArray) XC free := by
  have hK : vx_Back l R p e below s args y 3 8 (PreOf R mc ms Pc) (PostOf Qc mc ms free) (vx_Post XC mc ms free) := vx_callBack cw.1 hM hp.1
  obtain ⟨⟨-, -, -, -, -, -, hcode, -, hy, hlen, hl⟩, hin, hse⟩ := cw
  obtain ⟨hx, hb, hml, ho, -⟩ := S
  obtain ⟨-, ⟨cellB, hcB, hoB, hclB⟩, hPc⟩ := hp
  intro T hT X
  rcases vx_callV X hx (C := C) (bytes := bytes) (maxL := maxL) (ret := ret) ho hl hin hse hcode hy hK (by rw [hT]; exact hcB) hoB hclB hg (hsize.trans hml.symm) (argsL := As) (rest := rest) (fun sig h => hn.trans (hlen sig h)) hstack hW (by rw [hb]; exact hdg)
    (fun vm₁ hW₁ => ⟨hf.1, hf.2, hPc (T.setVm vm₁) hT hW₁⟩) with ⟨v, vm₁, ⟨U', l2, c2, s2⟩, hW₁, X', ⟨g', mk, t, L, e1, e2, hq, h1, hL, h2, h3⟩, st⟩ | ⟨q, vm₁, ⟨U', l2, c2, s2⟩, hW₁, X', ⟨g', mk, t, L, E, ce, e1, e2, hq, hce, hcv, hcl, h1, hL, h2, h3⟩, st⟩
  · dsimp only [Pt.U, Pt.locs, Pt.cells, Pt.slots] at X' e1 e2 h1 h2 h3 st
    subst h1; subst h2; subst h3
    exact Or.inl ⟨v, (T.setVm vm₁).calling g' mk (Value.ref b :: As).toArray, t, U', L, hT, X', hL, e1, e2, hq, st⟩
  · dsimp only [Pt.U, Pt.locs, Pt.cells, Pt.slots] at X' e1 e2 h1 h2 h3 st hcl
    subst h1; subst h2; subst h3
    exact Or.inr ⟨q, (T.setVm vm₁).calling g' mk (Value.ref b :: As).toArray, t, U', L, E, ce, hT, X', hL, e1, e2, hq, hce, hcv, vx_cls hW₁ hcl, st⟩
theorem vx_runS (S : CallFix p m c cc nL s args Ts own) (hM : vx_Met l y ws rm Pc Qc XC mc ms free) (cw : CallB R s args own index y bytes maxL ret ws rm mc ms n ∧ (Cond.static y).before args s = true) (hp : PreS s H Pc As)
    (hg : g.method = m) (hn : As.length = n) (hsize : g.locals.size = nL) (hstack : g.stack = As.reverse ++ rest) (hW : 2 * g.monitorRoom + (rest.map fun v => v.category).sum ≤ 8) (hdg : decode cc g.pc = .ok (.invokestatic index, 3)) (hf : cells + mc ≤ R.cells ∧ slots + ms ≤ R.slots) :
    vx_Run p l e R s m args below meth c H locs cells slots mc ms g rest (Qc As.toArray) XC free := by
  have hK : vx_Back l R p e below s args y 3 8 (PreOf R mc ms Pc) (PostOf Qc mc ms free) (vx_Post XC mc ms free) := vx_callBack cw.1 hM hp.1
  obtain ⟨⟨-, -, -, -, -, -, hcode, hini, hy, hlen, hl⟩, hstt⟩ := cw
  obtain ⟨hx, hb, hml, ho, -⟩ := S
  intro T hT X
  rcases vx_callS X hx (bytes := bytes) (maxL := maxL) (ret := ret) ho hl hstt hini hcode hy hK hg (hsize.trans hml.symm) (argsL := As) (rest := rest) (fun sig h => hn.trans (hlen sig h)) hstack hW (by rw [hb]; exact hdg)
    (fun vm₁ hW₁ => ⟨hf.1, hf.2, hp.2 (T.setVm vm₁) hT hW₁⟩) with ⟨v, vm₁, ⟨U', l2, c2, s2⟩, hW₁, X', ⟨g', mk, t, L, e1, e2, hq, h1, hL, h2, h3⟩, st⟩ | ⟨q, vm₁, ⟨U', l2, c2, s2⟩, hW₁, X', ⟨g', mk, t, L, E, ce, e1, e2, hq, hce, hcv, hcl, h1, hL, h2, h3⟩, st⟩
  · dsimp only [Pt.U, Pt.locs, Pt.cells, Pt.slots] at X' e1 e2 h1 h2 h3 st
    subst h1; subst h2; subst h3
    exact Or.inl ⟨v, (T.setVm vm₁).calling g' mk As.toArray, t, U', L, hT, X', hL, e1, e2, hq, st⟩
  · dsimp only [Pt.U, Pt.locs, Pt.cells, Pt.slots] at X' e1 e2 h1 h2 h3 st hcl
    subst h1; subst h2; subst h3
    exact Or.inr ⟨q, (T.setVm vm₁).calling g' mk As.toArray, t, U', L, E, ce, hT, X', hL, e1, e2, hq, hce, hcv, vx_cls hW₁ hcl, st⟩
end Runs
section Rows
variable {p : Program} {l : Launch} {e : Env} {R : Room} {s : State} {m : MethodId} {args : Array Value} {below : List Frame} {meth : Method} {c : Code} {H : Heap} {locs : List Loc} {cells slots : Nat} {Q : State → Prop}
variable {mc ms : Nat} {free : Addr → Prop} {A0 A1 : Nat → Prop} {H0 : Heap} {a : Array Value} {pc : Nat} {ls : Array Slot} {st0 rest : List Value}
theorem vx_keep {st₀ t T' : State} {L : List Loc} (h0 : st₀.heap = H) (e1 : T'.heap = t.heap) (hS : va_S A0 H0 H locs) (hA : ∀ q, q < H.size → A1 q → A0 q) (hf : ∀ q, free q → A0 q) (hL : ∀ q ∈ L, free q.base) (hF : va_F A1 st₀ t) :
    H.size ≤ T'.heap.size ∧ (∀ q : Nat, q < H.size → ¬ A1 q → T'.heap[q]? = H[q]?) ∧ va_S A0 H0 T'.heap (locs ++ L) := by
  obtain ⟨hz, hk⟩ := hF
  rw [h0] at hz hk
  exact ⟨by rw [e1]; exact hz, fun q h1 h2 => by rw [e1]; exact hk q h1 h2,
    ⟨Nat.le_trans hS.1 (by rw [e1]; exact hz), fun q h1 h2 => by rw [e1, hk q (Nat.lt_of_lt_of_le h1 hS.1) (fun z => h2 (hA q (Nat.lt_of_lt_of_le h1 hS.1) z))]; exact hS.2.1 q h1 h2, fun q hq => by
      rcases List.mem_append.mp hq with h | h
      · exact hS.2.2 q h
      · exact hf _ (hL q h)⟩⟩
theorem vx_calli {S SX : Type} {post : Int32 → S → Prop} {px : SX → Prop} {B : S → State → Prop} {BX : String → SX → State → Prop} {AX : Nat → Prop} (hr : vx_Run p l e R s m args below meth c H locs cells slots mc ms (F0 m pc ls st0) rest (va_Qi post B A1 a) (vx_X px BX AX) free) (hS : va_S A0 H0 H locs) (hA : ∀ q, q < H.size → A1 q → A0 q) (hf : ∀ q, free q → A0 q) (hAX : ∀ q, q < H.size → AX q → A0 q)
    (kx : ∀ (E : String) (ce : Cell) (q9 : Addr) (u : SX) (t : State) (H1 : Heap) (locs1 : List Loc), t.heap = H1 → s.vm.Alike t.vm → px u → BX E u t → H.size ≤ H1.size → (∀ q : Nat, q < H.size → ¬ AX q → H1[q]? = H[q]?) → va_S A0 H0 H1 locs1 → H1[q9]? = some ce → ce.vm = .none → s.vm.findClass E = some ce.cls → vx_W p l e R s m args below meth c H1 locs1 (cells + mc) (slots + ms) Q (F0 m pc ls rest) q9)
    (kk : ∀ (r : Int32) (u : S) (t : State) (H1 : Heap) (locs1 : List Loc), t.heap = H1 → s.vm.Alike t.vm → post r u → B u t → H.size ≤ H1.size → (∀ q : Nat, q < H.size → ¬ A1 q → H1[q]? = H[q]?) → va_S A0 H0 H1 locs1 → W p l e R s m args below meth c H1 locs1 (cells + mc) (slots + ms) Q (F0 m (pc + 3) ls (.int r :: rest))) : W p l e R s m args below meth c H locs cells slots Q (F0 m pc ls st0) := by
  intro T hT X
  rcases hr T hT X with ⟨v, st₀, t, T', L, h0, X', hL, e1, e2, ⟨⟨r, u, hv, hp, hb⟩, hF⟩, st⟩ | ⟨q, st₀, t, T', L, E, ce, h0, X', hL, e1, e2, ⟨u, hp, hb, hF⟩, hce, hcv, hcl, st⟩
  · cases hv
    obtain ⟨k1, k2, k3⟩ := vx_keep h0 e1 hS hA hf hL hF
    obtain ⟨t2, a1, b1⟩ := kk r u t T'.heap (locs ++ L) e1.symm (by rw [← e2]; exact X'.warmed.alike) hp hb k1 k2 k3 T' rfl X'
    exact ⟨t2, st t2 a1, b1⟩
  · obtain ⟨k1, k2, k3⟩ := vx_keep h0 e1 hS hAX hf hL hF
    obtain ⟨t2, a1, b1⟩ := kx E ce q u t T'.heap (locs ++ L) e1.symm (by rw [← e2]; exact X'.warmed.alike) hp hb k1 k2 k3 (by rw [e1]; exact hce) hcv hcl T' rfl X'
    exact ⟨t2, st.trans a1, b1⟩
theorem vx_calll {S SX : Type} {post : Int64 → S → Prop} {px : SX → Prop} {B : S → State → Prop} {BX : String → SX → State → Prop} {AX : Nat → Prop} (hr : vx_Run p l e R s m args below meth c H locs cells slots mc ms (F0 m pc ls st0) rest (va_Ql post B A1 a) (vx_X px BX AX) free) (hS : va_S A0 H0 H locs) (hA : ∀ q, q < H.size → A1 q → A0 q) (hf : ∀ q, free q → A0 q) (hAX : ∀ q, q < H.size → AX q → A0 q)
    (kx : ∀ (E : String) (ce : Cell) (q9 : Addr) (u : SX) (t : State) (H1 : Heap) (locs1 : List Loc), t.heap = H1 → s.vm.Alike t.vm → px u → BX E u t → H.size ≤ H1.size → (∀ q : Nat, q < H.size → ¬ AX q → H1[q]? = H[q]?) → va_S A0 H0 H1 locs1 → H1[q9]? = some ce → ce.vm = .none → s.vm.findClass E = some ce.cls → vx_W p l e R s m args below meth c H1 locs1 (cells + mc) (slots + ms) Q (F0 m pc ls rest) q9)
    (kk : ∀ (r : Int64) (u : S) (t : State) (H1 : Heap) (locs1 : List Loc), t.heap = H1 → s.vm.Alike t.vm → post r u → B u t → H.size ≤ H1.size → (∀ q : Nat, q < H.size → ¬ A1 q → H1[q]? = H[q]?) → va_S A0 H0 H1 locs1 → W p l e R s m args below meth c H1 locs1 (cells + mc) (slots + ms) Q (F0 m (pc + 3) ls (.long r :: rest))) : W p l e R s m args below meth c H locs cells slots Q (F0 m pc ls st0) := by
  intro T hT X
  rcases hr T hT X with ⟨v, st₀, t, T', L, h0, X', hL, e1, e2, ⟨⟨r, u, hv, hp, hb⟩, hF⟩, st⟩ | ⟨q, st₀, t, T', L, E, ce, h0, X', hL, e1, e2, ⟨u, hp, hb, hF⟩, hce, hcv, hcl, st⟩
  · cases hv
    obtain ⟨k1, k2, k3⟩ := vx_keep h0 e1 hS hA hf hL hF
    obtain ⟨t2, a1, b1⟩ := kk r u t T'.heap (locs ++ L) e1.symm (by rw [← e2]; exact X'.warmed.alike) hp hb k1 k2 k3 T' rfl X'
    exact ⟨t2, st t2 a1, b1⟩
  · obtain ⟨k1, k2, k3⟩ := vx_keep h0 e1 hS hAX hf hL hF
    obtain ⟨t2, a1, b1⟩ := kx E ce q u t T'.heap (locs ++ L) e1.symm (by rw [← e2]; exact X'.warmed.alike) hp hb k1 k2 k3 (by rw [e1]; exact hce) hcv hcl T' rfl X'
    exact ⟨t2, st.trans a1, b1⟩
theorem vx_callf {S SX : Type} {post : UInt32 → S → Prop} {px : SX → Prop} {B : S → State → Prop} {BX : String → SX → State → Prop} {AX : Nat → Prop} (hr : vx_Run p l e R s m args below meth c H locs cells slots mc ms (F0 m pc ls st0) rest (va_Qf post B A1 a) (vx_X px BX AX) free) (hS : va_S A0 H0 H locs) (hA : ∀ q, q < H.size → A1 q → A0 q) (hf : ∀ q, free q → A0 q) (hAX : ∀ q, q < H.size → AX q → A0 q)
    (kx : ∀ (E : String) (ce : Cell) (q9 : Addr) (u : SX) (t : State) (H1 : Heap) (locs1 : List Loc), t.heap = H1 → s.vm.Alike t.vm → px u → BX E u t → H.size ≤ H1.size → (∀ q : Nat, q < H.size → ¬ AX q → H1[q]? = H[q]?) → va_S A0 H0 H1 locs1 → H1[q9]? = some ce → ce.vm = .none → s.vm.findClass E = some ce.cls → vx_W p l e R s m args below meth c H1 locs1 (cells + mc) (slots + ms) Q (F0 m pc ls rest) q9)
    (kk : ∀ (r : UInt32) (u : S) (t : State) (H1 : Heap) (locs1 : List Loc), t.heap = H1 → s.vm.Alike t.vm → post r u → B u t → H.size ≤ H1.size → (∀ q : Nat, q < H.size → ¬ A1 q → H1[q]? = H[q]?) → va_S A0 H0 H1 locs1 → W p l e R s m args below meth c H1 locs1 (cells + mc) (slots + ms) Q (F0 m (pc + 3) ls (.float r :: rest))) : W p l e R s m args below meth c H locs cells slots Q (F0 m pc ls st0) := by
  intro T hT X
  rcases hr T hT X with ⟨v, st₀, t, T', L, h0, X', hL, e1, e2, ⟨⟨r, u, hv, hp, hb⟩, hF⟩, st⟩ | ⟨q, st₀, t, T', L, E, ce, h0, X', hL, e1, e2, ⟨u, hp, hb, hF⟩, hce, hcv, hcl, st⟩
  · cases hv
    obtain ⟨k1, k2, k3⟩ := vx_keep h0 e1 hS hA hf hL hF
    obtain ⟨t2, a1, b1⟩ := kk r u t T'.heap (locs ++ L) e1.symm (by rw [← e2]; exact X'.warmed.alike) hp hb k1 k2 k3 T' rfl X'
    exact ⟨t2, st t2 a1, b1⟩
  · obtain ⟨k1, k2, k3⟩ := vx_keep h0 e1 hS hAX hf hL hF
    obtain ⟨t2, a1, b1⟩ := kx E ce q u t T'.heap (locs ++ L) e1.symm (by rw [← e2]; exact X'.warmed.alike) hp hb k1 k2 k3 (by rw [e1]; exact hce) hcv hcl T' rfl X'
    exact ⟨t2, st.trans a1, b1⟩
theorem vx_calld {S SX : Type} {post : UInt64 → S → Prop} {px : SX → Prop} {B : S → State → Prop} {BX : String → SX → State → Prop} {AX : Nat → Prop} (hr : vx_Run p l e R s m args below meth c H locs cells slots mc ms (F0 m pc ls st0) rest (va_Qd post B A1 a) (vx_X px BX AX) free) (hS : va_S A0 H0 H locs) (hA : ∀ q, q < H.size → A1 q → A0 q) (hf : ∀ q, free q → A0 q) (hAX : ∀ q, q < H.size → AX q → A0 q)
    (kx : ∀ (E : String) (ce : Cell) (q9 : Addr) (u : SX) (t : State) (H1 : Heap) (locs1 : List Loc), t.heap = H1 → s.vm.Alike t.vm → px u → BX E u t → H.size ≤ H1.size → (∀ q : Nat, q < H.size → ¬ AX q → H1[q]? = H[q]?) → va_S A0 H0 H1 locs1 → H1[q9]? = some ce → ce.vm = .none → s.vm.findClass E = some ce.cls → vx_W p l e R s m args below meth c H1 locs1 (cells + mc) (slots + ms) Q (F0 m pc ls rest) q9)
    (kk : ∀ (r : UInt64) (u : S) (t : State) (H1 : Heap) (locs1 : List Loc), t.heap = H1 → s.vm.Alike t.vm → post r u → B u t → H.size ≤ H1.size → (∀ q : Nat, q < H.size → ¬ A1 q → H1[q]? = H[q]?) → va_S A0 H0 H1 locs1 → W p l e R s m args below meth c H1 locs1 (cells + mc) (slots + ms) Q (F0 m (pc + 3) ls (.double r :: rest))) : W p l e R s m args below meth c H locs cells slots Q (F0 m pc ls st0) := by
  intro T hT X
  rcases hr T hT X with ⟨v, st₀, t, T', L, h0, X', hL, e1, e2, ⟨⟨r, u, hv, hp, hb⟩, hF⟩, st⟩ | ⟨q, st₀, t, T', L, E, ce, h0, X', hL, e1, e2, ⟨u, hp, hb, hF⟩, hce, hcv, hcl, st⟩
  · cases hv
    obtain ⟨k1, k2, k3⟩ := vx_keep h0 e1 hS hA hf hL hF
    obtain ⟨t2, a1, b1⟩ := kk r u t T'.heap (locs ++ L) e1.symm (by rw [← e2]; exact X'.warmed.alike) hp hb k1 k2 k3 T' rfl X'
    exact ⟨t2, st t2 a1, b1⟩
  · obtain ⟨k1, k2, k3⟩ := vx_keep h0 e1 hS hAX hf hL hF
    obtain ⟨t2, a1, b1⟩ := kx E ce q u t T'.heap (locs ++ L) e1.symm (by rw [← e2]; exact X'.warmed.alike) hp hb k1 k2 k3 (by rw [e1]; exact hce) hcv hcl T' rfl X'
    exact ⟨t2, st.trans a1, b1⟩
theorem vx_callv {S SX : Type} {post : S → Prop} {px : SX → Prop} {B : S → State → Prop} {BX : String → SX → State → Prop} {AX : Nat → Prop} (hr : vx_Run p l e R s m args below meth c H locs cells slots mc ms (F0 m pc ls st0) rest (va_Qv post B A1 a) (vx_X px BX AX) free) (hS : va_S A0 H0 H locs) (hA : ∀ q, q < H.size → A1 q → A0 q) (hf : ∀ q, free q → A0 q) (hAX : ∀ q, q < H.size → AX q → A0 q)
    (kx : ∀ (E : String) (ce : Cell) (q9 : Addr) (u : SX) (t : State) (H1 : Heap) (locs1 : List Loc), t.heap = H1 → s.vm.Alike t.vm → px u → BX E u t → H.size ≤ H1.size → (∀ q : Nat, q < H.size → ¬ AX q → H1[q]? = H[q]?) → va_S A0 H0 H1 locs1 → H1[q9]? = some ce → ce.vm = .none → s.vm.findClass E = some ce.cls → vx_W p l e R s m args below meth c H1 locs1 (cells + mc) (slots + ms) Q (F0 m pc ls rest) q9)
    (kk : ∀ (u : S) (t : State) (H1 : Heap) (locs1 : List Loc), t.heap = H1 → s.vm.Alike t.vm → post u → B u t → H.size ≤ H1.size → (∀ q : Nat, q < H.size → ¬ A1 q → H1[q]? = H[q]?) → va_S A0 H0 H1 locs1 → W p l e R s m args below meth c H1 locs1 (cells + mc) (slots + ms) Q (F0 m (pc + 3) ls (rest))) : W p l e R s m args below meth c H locs cells slots Q (F0 m pc ls st0) := by
  intro T hT X
  rcases hr T hT X with ⟨v, st₀, t, T', L, h0, X', hL, e1, e2, ⟨⟨u, hv, hp, hb⟩, hF⟩, st⟩ | ⟨q, st₀, t, T', L, E, ce, h0, X', hL, e1, e2, ⟨u, hp, hb, hF⟩, hce, hcv, hcl, st⟩
  · cases hv
    obtain ⟨k1, k2, k3⟩ := vx_keep h0 e1 hS hA hf hL hF
    obtain ⟨t2, a1, b1⟩ := kk u t T'.heap (locs ++ L) e1.symm (by rw [← e2]; exact X'.warmed.alike) hp hb k1 k2 k3 T' rfl X'
    exact ⟨t2, st t2 a1, b1⟩
  · obtain ⟨k1, k2, k3⟩ := vx_keep h0 e1 hS hAX hf hL hF
    obtain ⟨t2, a1, b1⟩ := kx E ce q u t T'.heap (locs ++ L) e1.symm (by rw [← e2]; exact X'.warmed.alike) hp hb k1 k2 k3 (by rw [e1]; exact hce) hcv hcl T' rfl X'
    exact ⟨t2, st.trans a1, b1⟩
end Rows
section Ends
variable {p : Program} {l : Launch} {e : Env} {R : Room} {s : State} {m : MethodId} {args : Array Value} {below : List Frame} {meth : Method} {c : Code} {H : Heap} {locs : List Loc} {cells slots : Nat} {Q : State → Prop}
variable {mc ms : Nat} {free : Addr → Prop} {A0 A1 : Nat → Prop} {H0 : Heap} {a : Array Value} {ls : Array Slot} {st0 rest : List Value}
variable {Qc : Array Value → State → Outcome → State → Prop} {XC : String → State → State → Prop}
/-- what a body that may throw owes at its end -/
def vx_MQ (below : List Frame) (Qc : Array Value → State → Outcome → State → Prop) (XC : String → State → State → Prop) (a : Array Value) (s : State) (mc ms : Nat) (free : Addr → Prop) : State → Prop := fun t =>
  ∃ o, t.status = .running ∧ Ended t below o ∧ vx_Q Qc XC mc ms free a s o t
theorem vx_ret {g : JFrame} {mc ms : Nat} (k : W p l e R s m args below meth c H locs cells slots (MQ below Qc args s mc ms free) g) : W p l e R s m args below meth c H locs cells slots (vx_MQ below Qc XC args s mc ms free) g := by
  intro T hT X
  obtain ⟨t, a1, o, b1, b2, b3, b4⟩ := k T hT X
  exact ⟨t, a1, o, b1, b2, Or.inl ⟨b3, b4⟩⟩
/-- not caught here: it goes on to the caller -/
theorem vx_widen {g : JFrame} {q : Addr} {k n : Nat} (h1 : cells ≤ k) (h2 : slots ≤ n) (kk : vx_W p l e R s m args below meth c H locs k n Q g q) : vx_W p l e R s m args below meth c H locs cells slots Q g q := fun T hT X => kk T hT (stand_widen X h1 h2)
theorem vx_out {pc : Nat} {E : String} {ce : Cell} {q : Addr} {mc ms : Nat} (hout : ∀ x ∈ c.exceptionTable.toList, covers x pc = false) (hlocks : meth.locks = false) (hcell : H[q]? = some ce) (hv : ce.vm = .none) (hcl : s.vm.findClass E = some ce.cls)
    (hx : ∀ t : State, t.heap = H → s.vm.Alike t.vm → XC E s t) (hf : ∀ z ∈ locs, free z.base) (hc : cells ≤ mc) (hs : slots ≤ ms) :
    vx_W p l e R s m args below meth c H locs cells slots (vx_MQ below Qc XC args s mc ms free) (F0 m pc ls rest) q := by
  intro T hT X
  obtain ⟨st1, hrun, hend, hW, hsm⟩ := X.leaveThrown q (g := F0 m pc ls rest) rfl rfl rfl hout hlocks
  have hcell9 : (T.setFrames (.throwing q :: below)).heap[q]? = some ce := by
    show T.heap[q]? = some ce
    rw [hT]; exact hcell
  exact ⟨_, st1, .threw q, hrun, hend, Or.inr ⟨q, rfl, E, ce, locs, hx _ hT hW.alike, hcell9, hv, hcl, hW, hsm.mono hc hs, hf⟩⟩
theorem vx_frame {U : State} {k n : Nat} (h : s.sameButNew ({ U with vm := s.vm } : State) locs k n) : s.heap.size ≤ U.heap.size ∧ ∀ q : Nat, q < s.heap.size → (∀ z ∈ locs, z.base ≠ q) → U.heap[q]? = s.heap[q]? := by
  obtain ⟨-, h2, -, -, -, h6⟩ := h
  refine ⟨h2, fun q hq hz => ?_⟩
  obtain ⟨c9, e1, e2, e3, e4⟩ := h6 q _ (Array.getElem?_eq_getElem hq)
  have hs : c9.slots = (s.heap[q]).slots := Array.ext_getElem? fun i => e4 i fun hm => hz _ hm rfl
  have h9 : c9 = s.heap[q] := by
    rw [hs] at e2
    exact e2
  have e5 : U.heap[q]? = some c9 := e1
  rw [e5, h9, Array.getElem?_eq_getElem hq]
/-- the words of a throw but the four that speak of the heap -/
def vx_no (w : Cond) : Bool := decide (w ≠ .isRef (.static Bundle.tN "UNASSIGNED_STACK" Bundle.steD)) && decide (w ≠ .isRef (.static Bundle.tN "SUPPRESSED_SENTINEL" Bundle.listD)) && decide (w ≠ .laysStatic Bundle.tN "UNASSIGNED_STACK" Bundle.steD) && decide (w ≠ .laysStatic Bundle.tN "SUPPRESSED_SENTINEL" Bundle.listD)
def vx_at0 (own : String) (ic : Nat) (X : String) (names : List String) : List Cond := (Bundle.ownAtoms0 own ic X names).filter vx_no
def vx_atS (own : String) (ic : Nat) (X : String) (names : List String) : List Cond := (Bundle.ownAtoms own ic X names).filter vx_no
/-- a word that the tables alone decide, or a good one -/
def vx_ot (w : Cond) : Bool := w.onTables || goodWord w
theorem vx_ot_at {args a' : Array Value} {s U : State} {w : Cond} (hW : s.WarmedH U.vm) (hvm : s.vm = U.vm) (hg : vx_ot w = true) (h : w.before args s = true) : w.before a' U = true := by
  simp only [vx_ot, Bool.or_eq_true] at hg
  rcases hg with hg | hg
  · exact va_tabs hg hvm h
  · exact word_at hW (good_of_word hg) h
/-- a list's words: the good ones out of the method's own list, the others by premises of their own -/
theorem vx_hat {args : Array Value} {s : State} {L B : List Cond} (h1 : ∀ w ∈ L.filter goodWord, w.before args s = true) (h2 : ∀ w ∈ L.filter (fun w => !goodWord w), w ∈ B) (h3 : ∀ w ∈ B, w.before args s = true) : ∀ w ∈ L, w.before args s = true := by
  intro w hw
  by_cases g : goodWord w = true
  · exact h1 w (List.mem_filter.mpr ⟨hw, g⟩)
  · refine h3 w (h2 w (List.mem_filter.mpr ⟨hw, ?_⟩))
    show (!goodWord w) = true
    cases hgw : goodWord w
    · rfl
    · exact absurd hgw g
theorem vx_c {args : Array Value} {s : State} {w : Cond} {B : List Cond} (h : w.before args s = true) (t : ∀ w ∈ B, w.before args s = true) : ∀ w' ∈ w :: B, w'.before args s = true := fun w' h' => (List.mem_cons.mp h').elim (fun e => by rw [e]; exact h) (t w')
theorem vx_n {args : Array Value} {s : State} : ∀ w ∈ ([] : List Cond), w.before args s = true := fun _ h => nomatch h
theorem vx_own {args : Array Value} {s : State} {L : List Cond} (h1 : ∀ w ∈ L.filter vx_no, w.before args s = true)
    (hU : (Cond.isRef (.static Bundle.tN "UNASSIGNED_STACK" Bundle.steD)).before args s = true) (hN : (Cond.isRef (.static Bundle.tN "SUPPRESSED_SENTINEL" Bundle.listD)).before args s = true)
    (lU : (Cond.laysStatic Bundle.tN "UNASSIGNED_STACK" Bundle.steD).before args s = true) (lN : (Cond.laysStatic Bundle.tN "SUPPRESSED_SENTINEL" Bundle.listD).before args s = true) : ∀ w ∈ L, w.before args s = true := by
  intro w hw
  by_cases e1 : w = .isRef (.static Bundle.tN "UNASSIGNED_STACK" Bundle.steD)
  · rw [e1]; exact hU
  · by_cases e2 : w = .isRef (.static Bundle.tN "SUPPRESSED_SENTINEL" Bundle.listD)
    · rw [e2]; exact hN
    · by_cases e3 : w = .laysStatic Bundle.tN "UNASSIGNED_STACK" Bundle.steD
      · rw [e3]; exact lU
      · by_cases e4 : w = .laysStatic Bundle.tN "SUPPRESSED_SENTINEL" Bundle.listD
        · rw [e4]; exact lN
        · exact h1 w (List.mem_filter.mpr ⟨hw, by unfold vx_no; rw [decide_eq_true e1, decide_eq_true e2, decide_eq_true e3, decide_eq_true e4]; rfl⟩)
/-- where a static field lies, its class's statics cell in H -/
def vx_L (C n d : String) (A : Nat → Prop) (U : State) (H : Heap) : Prop := ∃ (c : ClassId) (k : Class) (i : Nat) (f : Field) (a : Nat) (cell : Cell), U.vm.findClass C = some c ∧ U.fieldFound? C n d = some (c, k, i, f) ∧ f.isStatic = true ∧ k.statics = some a ∧ H[a]? = some cell ∧ cell.vm.isStatics = true ∧ cell.cls = c ∧ f.slot < cell.slots.size ∧ k.staticTypes[f.slot]? = some f.type ∧ ¬ A a
theorem vx_L.moved {C n d : String} {A : Nat → Prop} {u U : State} {H : Heap} (hvm : u.vm.Alike U.vm) (h : vx_L C n d A u H) : vx_L C n d A U H := by
  obtain ⟨c, k, i, f, a, cell, h1, h2, h3, h4, h5, h6, h7, h8, h9, h10⟩ := h
  obtain ⟨k', hi', he⟩ := State.fieldFound?_setVm hvm h2
  exact ⟨c, k', i, f, a, cell, by rw [hvm.findClass]; exact h1, hi', h3, by rw [he]; exact h4, h5, h6, h7, h8, by rw [he]; exact h9, h10⟩
theorem vx_L.kept {C n d : String} {A : Nat → Prop} {U : State} {H H1 : Heap} (h : vx_L C n d A U H) (hq : ∀ a : Nat, a < H.size → ¬ A a → H1[a]? = H[a]?) : vx_L C n d A U H1 := by
  obtain ⟨c, k, i, f, a, cell, h1, h2, h3, h4, h5, h6, h7, h8, h9, h10⟩ := h
  exact ⟨c, k, i, f, a, cell, h1, h2, h3, h4, by rw [hq a (Array.getElem?_eq_some_iff.mp h5).1 h10]; exact h5, h6, h7, h8, h9, h10⟩
theorem vx_L.narrow {C n d : String} {A B : Nat → Prop} {U : State} {H : Heap} (h : vx_L C n d A U H) (hAB : ∀ q, B q → A q) : vx_L C n d B U H := by
  obtain ⟨c, k, i, f, a, cell, h1, h2, h3, h4, h5, h6, h7, h8, h9, h10⟩ := h
  exact ⟨c, k, i, f, a, cell, h1, h2, h3, h4, h5, h6, h7, h8, h9, fun z => h10 (hAB _ z)⟩
theorem vx_L.word {C n d : String} {A : Nat → Prop} {s : State} {args : Array Value} (h : vx_L C n d A s s.heap) : (Cond.laysStatic C n d).before args s = true := by
  obtain ⟨c, k, i, f, a, cell, h1, h2, h3, h4, h5, h6, h7, h8, h9, -⟩ := h
  show (Cond.laysStatic C n d).holds args s none s [] = true
  exact Cond.laysStatic_of h1 h2 h3 h4 h5 h6 h7 h8 h9
/-- .. and what it holds: null or some reference -/
def vx_Zq (C n d : String) (A : Nat → Prop) (U : State) (H : Heap) : Prop := va_Zq C n d A U H ∧ vx_L C n d A U H
theorem vx_Zq.moved {C n d : String} {A : Nat → Prop} {u U : State} {H : Heap} (hvm : u.vm.Alike U.vm) (h : vx_Zq C n d A u H) : vx_Zq C n d A U H := ⟨va_Zq.moved hvm h.1, vx_L.moved hvm h.2⟩
theorem vx_Zq.kept {C n d : String} {A : Nat → Prop} {U : State} {H H1 : Heap} (h : vx_Zq C n d A U H) (hq : ∀ a : Nat, a < H.size → ¬ A a → H1[a]? = H[a]?) : vx_Zq C n d A U H1 := ⟨va_Zq.kept h.1 hq, vx_L.kept h.2 hq⟩
theorem vx_Zq.narrow {C n d : String} {A B : Nat → Prop} {U : State} {H : Heap} (h : vx_Zq C n d A U H) (hAB : ∀ q, B q → A q) : vx_Zq C n d B U H := ⟨va_Zq.narrow h.1 hAB, vx_L.narrow h.2 hAB⟩
theorem vx_Zqof {args : Array Value} {s : State} {C n d : String} {A : Nat → Prop} (hl : (Cond.laysStatic C n d).before args s = true) (hini : (Cond.initialized C).before args s = true) (h : (Cond.isRef (.static C n d)).before args s = true) (hA : ∀ a : Nat, a < s.heap.size → ¬ A a) : vx_Zq C n d A s s.heap := by
  refine ⟨va_Zqof hl hini h hA, ?_⟩
  obtain ⟨c, k, i, f, a, cell, h1, h2, h3, h4, h5, h6, h7, h8, h9⟩ := Cond.laysStatic_spec hl
  exact ⟨c, k, i, f, a, cell, h1, h2, h3, h4, h5, h6, h7, h8, h9, hA a (Array.getElem?_eq_some_iff.mp h5).1⟩
theorem vx_isRef {C n d : String} {v : Value} {A : Nat → Prop} {s : State} {args : Array Value} (h : va_Z C n d v A s s.heap) (hv : v.isRef = true) : (Cond.isRef (.static C n d)).before args s = true := by
  obtain ⟨cf, kf, fi, f, a, cell, h1, h2, h3, h4, h5, h6, h7, -⟩ := h
  have he : (Term.static C n d).eval args s none [] s = some v := by
    simp [Term.eval, State.fieldNamed?, h1, h2, h4, h5, h6, h7]
  simp only [Cond.before, Cond.holds, Cond.value, he]
  cases v <;> simp_all [Value.isRef]
theorem vx_isRefq {C n d : String} {A : Nat → Prop} {s : State} {args : Array Value} (h : va_Zq C n d A s s.heap) : (Cond.isRef (.static C n d)).before args s = true := by
  rcases h with h | ⟨t, h⟩
  · exact vx_isRef h rfl
  · exact vx_isRef h rfl
/-- the same frame, seen from here: as if the method were called anew in this heap -/
theorem vx_rebase {T : State} (X : Stand p l e R s m args below meth c T locs cells slots) {R' : Room} (hf : R'.frames ≤ R.frames) (hl : R'.locals ≤ R.locals) (hc : cells + R'.cells ≤ R.cells) (hs : slots + R'.slots ≤ R.slots) :
    Stand p l e R' ((T.setVm s.vm).setFrames (.invoking m args :: below)) m args below meth c T [] 0 0 := by
  have htop : (T.setVm s.vm).topJava?.isSome := X.here.top
  have hF : ((T.setVm s.vm).setFrames (.invoking m args :: below)).frames = .invoking m args :: below := State.frames_setFrames _ (State.cur_lt_of_top htop)
  obtain ⟨g₀, hg0⟩ := Option.isSome_iff_exists.mp htop
  obtain ⟨r, hr⟩ := State.topJava?_eq_some.mp hg0
  have hl9 : e.platform.stackLimits (T.setVm s.vm).me = e.platform.stackLimits s.me := X.limits
  have hb9 : (T.setVm s.vm).me.stackBytes = s.me.stackBytes := X.bytes
  refine ⟨X.admits, X.cas, X.clock, hF, ?_, X.hears, X.method, X.code, X.here, X.tail, X.warmed, ?_, ?_, ?_⟩
  · have h := X.room
    have hU : ((T.setVm s.vm).setFrames (.invoking m args :: below)).localsInUse = s.localsInUse := by
      rw [State.localsInUse_invoking hF (meth := meth) (c := c) X.method X.code, State.localsInUse_invoking X.frames X.method X.code]
    simp only [State.hasRoom, Bool.and_eq_true, decide_eq_true_eq] at h ⊢
    obtain ⟨⟨⟨⟨h1, h2, h3, h4, h5, h6⟩, h7⟩, h8⟩, h9⟩ := h
    rw [X.frames, List.length_cons] at h2 h3
    have q1 := X.heapSize
    have q2 := X.used
    simp only [hF, hU, List.length_cons, State.stackLimits_setFrames, State.stackBytes_setFrames, hl9, hb9]
    refine ⟨⟨⟨⟨by omega, by omega, by omega, by omega, by omega, h6⟩, ?_⟩, ?_⟩, X.book⟩
    · show T.heap.size + R'.cells ≤ e.platform.maxCells
      omega
    · show T.slotsUsed + R'.slots ≤ e.platform.maxSlots
      omega
  · rw [State.stackLimits_setFrames]; rfl
  · rw [State.stackBytes_setFrames]; rfl
  · refine ⟨?_, Nat.le_refl _, Nat.le_refl _, ?_, ?_, fun a c9 h9 => ⟨c9, h9, rfl, rfl, fun _ _ => rfl⟩⟩
    · obtain ⟨t, ht, -⟩ := State.frames_cons hr
      show T.setVm s.vm = { ((T.setVm s.vm).setFrames (.invoking m args :: below)).setFrames (T.setVm s.vm).frames with heap := T.heap, slotsUsed := T.slotsUsed }
      rw [State.setFrames_setFrames, State.setFrames_self ht]
      rfl
    · show T.slotsUsed = T.slotsUsed + ((T.heap.toList.drop T.heap.size).map (·.slots.size)).sum
      rw [List.drop_eq_nil_of_le (Nat.le_of_eq Array.length_toList)]
      rfl
    · show ((T.heap.toList.drop T.heap.size).map (·.slots.size)).sum ≤ 0
      rw [List.drop_eq_nil_of_le (Nat.le_of_eq Array.length_toList)]
      exact Nat.le_refl _
/-- 'throw new E()': new; dup; invokespecial; athrow -/
theorem vx_throw0 {cc : ByteArray} {pc : Nat} (hexec : p.tables.exec = Jvm.exec) (hb : c.code = cc) (hl : l.stackTraces = false) {own cls : String} {names : List String} {ik ic mc ms : Nat} {A : Nat → Prop}
    (hown : s.vm.findClass own = some m.cls) (hcls : Bundle.fit cls = true) (hnames : ∀ n ∈ names, Bundle.fit n = true)
    (hk : (Cond.classLink own ik cls).before args s = true) (hini : (Cond.initialized cls).before args s = true) (hat : ∀ w ∈ vx_at0 own ic cls names, w.before args s = true)
    (hgood : ∀ w ∈ Cond.classLink own ik cls :: Cond.initialized cls :: vx_at0 own ic cls names, vx_ot w = true)
    (hU : vx_Zq Bundle.tN "UNASSIGNED_STACK" Bundle.steD A s s.heap) (hN : vx_Zq Bundle.tN "SUPPRESSED_SENTINEL" Bundle.listD A s s.heap) (hS : va_S A s.heap H locs) (hsize : ls.size = c.maxLocals)
    (d0 : decode cc pc = .ok (.new ik, 3)) (d3 : decode cc (pc + 3) = .ok (.dup, 1)) (d4 : decode cc (pc + 4) = .ok (.invokespecial ic, 3)) (d7 : decode cc (pc + 7) = .ok (.athrow, 1))
    (hout : ∀ x ∈ c.exceptionTable.toList, covers x (pc + 7) = false)
    (hRframes : names.length + 3 < R.frames) (hRlocals : (rest.map fun v => v.category).sum + (13 * (names.length + 1) + 42) ≤ R.locals) (hRcells : cells + 1 ≤ R.cells) (hRslots : slots + 6 ≤ R.slots) (hlocks : meth.locks = false)
    (hx : ∀ t : State, s.vm.Alike t.vm → H.size ≤ t.heap.size → (∀ q : Nat, q < H.size → t.heap[q]? = H[q]?) → XC cls s t)
    (hf : ∀ z ∈ locs, free z.base) (hc : cells + 1 ≤ mc) (hs : slots + 6 ≤ ms) :
    W p l e R s m args below meth c H locs cells slots (vx_MQ below Qc XC args s mc ms free) (F0 m pc ls rest) := by
  intro T hT X
  have htr : e.platform.stackTraces = false := (show e.platform.stackTraces = l.stackTraces by rw [X.admits.platform]).trans hl
  have Y := vx_rebase X (R' := { frames := R.frames, locals := R.locals, cells := 1, slots := 6 }) (Nat.le_refl _) (Nat.le_refl _) hRcells hRslots
  obtain ⟨s', hA⟩ : ∃ z, z = (T.setVm s.vm).setFrames (.invoking m args :: below) := ⟨_, rfl⟩
  rw [← hA] at Y
  have hvm : s'.vm = s.vm := by rw [hA]; rfl
  have hhp : s'.heap = H := by rw [hA]; exact hT
  have hW0 : s.WarmedH s'.vm := by rw [hvm]; exact State.WarmedH.refl s
  have hat' : ∀ w ∈ vx_at0 own ic cls names, w.before args s' = true := fun w hw => vx_ot_at hW0 hvm.symm (hgood w (List.mem_cons_of_mem _ (List.mem_cons_of_mem _ hw))) (hat w hw)
  have hk' : (Cond.classLink own ik cls).before args s' = true := vx_ot_at hW0 hvm.symm (hgood _ List.mem_cons_self) hk
  have hini' : (Cond.initialized cls).before args s' = true := vx_ot_at hW0 hvm.symm (hgood _ (List.mem_cons_of_mem _ List.mem_cons_self)) hini
  have hU' : vx_Zq Bundle.tN "UNASSIGNED_STACK" Bundle.steD A s' s'.heap := by rw [hhp]; exact vx_Zq.moved hW0.alike (hU.kept hS.2.1)
  have hN' : vx_Zq Bundle.tN "SUPPRESSED_SENTINEL" Bundle.listD A s' s'.heap := by rw [hhp]; exact vx_Zq.moved hW0.alike (hN.kept hS.2.1)
  have h : ∀ w ∈ Bundle.ownAtoms0 own ic cls names, w.before args s' = true := vx_own hat' (vx_isRefq hU'.1) (vx_isRefq hN'.1) hU'.2.word hN'.2.word
  have hown' : s'.vm.findClass own = some m.cls := by rw [hvm]; exact hown
  have hins : (Cond.instantiable cls 6).before args s' = true := h _ (by simp [Bundle.ownAtoms0])
  obtain ⟨vm₁, cX, kX, hfX, hkX, -, -, X₁, st1⟩ := Y.newCold hexec (own := own) (C := cls) (index := ik) (n := 6) hown' hk' hins hini'
    (g := F0 m pc ls rest) rfl (by rw [hb]; exact d0) (Nat.le_refl _) (Nat.le_refl _)
  generalize hT1 : (T.setVm vm₁).pushCell { cls := cX, slots := kX.instanceTypes.map defaultValue, vm := .none } = T1 at X₁ st1
  have hcat : (Value.ref T.heap.size).category = 1 := rfl
  have hcellA : T1.heap[T.heap.size]? = some (freshCell cX kX) := by rw [← hT1]; exact State.heap_pushCell_size _ _
  have d3' : decode c.code (pc + 3) = .ok (.dup, 1) := by rw [hb]; exact d3
  obtain ⟨U, hsteps, hrun, hend, hW, hsame, ce, hce, hO⟩ := X₁.ctorThrow0 hexec htr (own := own) (cls := cls) (names := names) (ic := ic) hown' hcls hnames h (fun x hx => nomatch hx) hfX hkX hcellA (by rw [hhp, hT]; exact Nat.le_refl _)
    (g := { method := m, pc := pc + 4, locals := ls, stack := .ref T.heap.size :: .ref T.heap.size :: rest, locked := none }) rfl hsize rfl rfl (rest := rest) rfl
    (by rw [hb]; exact d4) (by rw [hb]; exact d7) hout hRframes (by simp only [List.map_cons, List.sum_cons, hcat]; omega) hlocks
  obtain ⟨f1, f2⟩ := vx_frame hsame
  rw [hhp] at f1 f2
  have hWs : s.WarmedH U.vm := State.WarmedH.trans hW0 hW
  have hcl : s.vm.findClass cls = some ce.cls := by
    have h9 := hO.cls
    rw [hvm] at h9
    exact h9
  have hall : s.sameButNew ({ U with vm := s.vm } : State) locs mc ms := by
    subst hA
    obtain ⟨e1, e2⟩ := hsame
    rw [State.setFrames_setFrames] at e1
    have h2 : (T.setVm s.vm).sameButNew ({ U with vm := s.vm } : State) [] (0 + 1) (0 + 6) := ⟨e1, e2⟩
    have h3 := X.same.trans h2
    rw [List.append_nil] at h3
    exact h3.mono hc hs
  refine ⟨U, ?_, .threw T.heap.size, hrun, hend, Or.inr ⟨T.heap.size, rfl, cls, ce, locs, hx U hWs.alike f1 (fun q hq => f2 q hq (fun z hz => nomatch hz)), hce, hO.vm, hcl, hWs, hall, hf⟩⟩
  refine st1 _ ?_
  show Steps p.tables e below (T1.setTop { method := m, pc := pc + 3, locals := ls, stack := .ref T.heap.size :: rest, locked := none }) _
  jvm_step X₁.here [X₁.here.top, hexec, d3', Value.category]
  exact hsteps
/-- 'throw new E("text")': new; dup; ldc; invokespecial; athrow -/
theorem vx_throwS {cc : ByteArray} {pc : Nat} (hexec : p.tables.exec = Jvm.exec) (hb : c.code = cc) (hl : l.stackTraces = false) {own cls text : String} {names : List String} {ik is ic mc ms sa : Nat} {A : Nat → Prop}
    (hown : s.vm.findClass own = some m.cls) (hcls : Bundle.fit cls = true) (hnames : ∀ n ∈ names, Bundle.fit n = true)
    (hk : (Cond.classLink own ik cls).before args s = true) (hini : (Cond.initialized cls).before args s = true) (hstr : vk_R own is text sa s) (hat : ∀ w ∈ vx_atS own ic cls names, w.before args s = true)
    (hgood : ∀ w ∈ Cond.classLink own ik cls :: Cond.initialized cls :: vx_atS own ic cls names, vx_ot w = true)
    (hU : vx_Zq Bundle.tN "UNASSIGNED_STACK" Bundle.steD A s s.heap) (hN : vx_Zq Bundle.tN "SUPPRESSED_SENTINEL" Bundle.listD A s s.heap) (hS : va_S A s.heap H locs) (hsize : ls.size = c.maxLocals)
    (d0 : decode cc pc = .ok (.new ik, 3)) (d3 : decode cc (pc + 3) = .ok (.dup, 1)) (d4 : decode cc (pc + 4) = .ok (.ldc is, 2)) (d6 : decode cc (pc + 6) = .ok (.invokespecial ic, 3)) (d9 : decode cc (pc + 9) = .ok (.athrow, 1))
    (hout : ∀ x ∈ c.exceptionTable.toList, covers x (pc + 9) = false)
    (hRframes : names.length + 3 < R.frames) (hRlocals : (rest.map fun v => v.category).sum + (13 * (names.length + 1) + 43) ≤ R.locals) (hRcells : cells + 1 ≤ R.cells) (hRslots : slots + 6 ≤ R.slots) (hlocks : meth.locks = false)
    (hx : ∀ t : State, s.vm.Alike t.vm → H.size ≤ t.heap.size → (∀ q : Nat, q < H.size → t.heap[q]? = H[q]?) → XC cls s t)
    (hf : ∀ z ∈ locs, free z.base) (hc : cells + 1 ≤ mc) (hs : slots + 6 ≤ ms) :
    W p l e R s m args below meth c H locs cells slots (vx_MQ below Qc XC args s mc ms free) (F0 m pc ls rest) := by
  intro T hT X
  have htr : e.platform.stackTraces = false := (show e.platform.stackTraces = l.stackTraces by rw [X.admits.platform]).trans hl
  have Y := vx_rebase X (R' := { frames := R.frames, locals := R.locals, cells := 1, slots := 6 }) (Nat.le_refl _) (Nat.le_refl _) hRcells hRslots
  obtain ⟨s', hA⟩ : ∃ z, z = (T.setVm s.vm).setFrames (.invoking m args :: below) := ⟨_, rfl⟩
  rw [← hA] at Y
  have hvm : s'.vm = s.vm := by rw [hA]; rfl
  have hhp : s'.heap = H := by rw [hA]; exact hT
  have hW0 : s.WarmedH s'.vm := by rw [hvm]; exact State.WarmedH.refl s
  have hat' : ∀ w ∈ vx_atS own ic cls names, w.before args s' = true := fun w hw => vx_ot_at hW0 hvm.symm (hgood w (List.mem_cons_of_mem _ (List.mem_cons_of_mem _ hw))) (hat w hw)
  have hk' : (Cond.classLink own ik cls).before args s' = true := vx_ot_at hW0 hvm.symm (hgood _ List.mem_cons_self) hk
  have hini' : (Cond.initialized cls).before args s' = true := vx_ot_at hW0 hvm.symm (hgood _ (List.mem_cons_of_mem _ List.mem_cons_self)) hini
  have hU' : vx_Zq Bundle.tN "UNASSIGNED_STACK" Bundle.steD A s' s'.heap := by rw [hhp]; exact vx_Zq.moved hW0.alike (hU.kept hS.2.1)
  have hN' : vx_Zq Bundle.tN "SUPPRESSED_SENTINEL" Bundle.listD A s' s'.heap := by rw [hhp]; exact vx_Zq.moved hW0.alike (hN.kept hS.2.1)
  have h : ∀ w ∈ Bundle.ownAtoms own ic cls names, w.before args s' = true := vx_own hat' (vx_isRefq hU'.1) (vx_isRefq hN'.1) hU'.2.word hN'.2.word
  have hown' : s'.vm.findClass own = some m.cls := by rw [hvm]; exact hown
  have hins : (Cond.instantiable cls 6).before args s' = true := h _ (by simp [Bundle.ownAtoms])
  obtain ⟨vm₁, cX, kX, hfX, hkX, -, -, X₁, st1⟩ := Y.newCold hexec (own := own) (C := cls) (index := ik) (n := 6) hown' hk' hins hini'
    (g := F0 m pc ls rest) rfl (by rw [hb]; exact d0) (Nat.le_refl _) (Nat.le_refl _)
  generalize hT1 : (T.setVm vm₁).pushCell { cls := cX, slots := kX.instanceTypes.map defaultValue, vm := .none } = T1 at X₁ st1
  have hcat : (Value.ref T.heap.size).category = 1 := rfl
  have hcellA : T1.heap[T.heap.size]? = some (freshCell cX kX) := by rw [← hT1]; exact State.heap_pushCell_size _ _
  have d3' : decode c.code (pc + 3) = .ok (.dup, 1) := by rw [hb]; exact d3
  have d4' : decode c.code (pc + 4) = .ok (.ldc is, 2) := by rw [hb]; exact d4
  have hstr' : vk_R own is text sa s' := vk_R.warm hW0 hstr
  obtain ⟨U, hsteps, hrun, hend, hW, hsame, ce, hce, hO⟩ := X₁.ctorThrowS hexec htr (own := own) (cls := cls) (names := names) (ic := ic) hown' hcls hnames h (fun x hx => nomatch hx) hfX hkX hcellA (by rw [hhp, hT]; exact Nat.le_refl _) (msg := .ref sa) rfl
    (g := { method := m, pc := pc + 6, locals := ls, stack := .ref sa :: .ref T.heap.size :: .ref T.heap.size :: rest, locked := none }) rfl hsize rfl rfl (rest := rest) rfl
    (by rw [hb]; exact d6) (by rw [hb]; exact d9) hout hRframes (by simp only [List.map_cons, List.sum_cons, hcat]; omega) hlocks
  obtain ⟨f1, f2⟩ := vx_frame hsame
  rw [hhp] at f1 f2
  have hWs : s.WarmedH U.vm := State.WarmedH.trans hW0 hW
  have hcl : s.vm.findClass cls = some ce.cls := by
    have h9 := hO.cls
    rw [hvm] at h9
    exact h9
  have hall : s.sameButNew ({ U with vm := s.vm } : State) locs mc ms := by
    subst hA
    obtain ⟨e1, e2⟩ := hsame
    rw [State.setFrames_setFrames] at e1
    have h2 : (T.setVm s.vm).sameButNew ({ U with vm := s.vm } : State) [] (0 + 1) (0 + 6) := ⟨e1, e2⟩
    have h3 := X.same.trans h2
    rw [List.append_nil] at h3
    exact h3.mono hc hs
  refine ⟨U, ?_, .threw T.heap.size, hrun, hend, Or.inr ⟨T.heap.size, rfl, cls, ce, locs, hx U hWs.alike f1 (fun q hq => f2 q hq (fun z hz => nomatch hz)), hce, hO.vm, hcl, hWs, hall, hf⟩⟩
  refine st1 _ ?_
  show Steps p.tables e below (T1.setTop { method := m, pc := pc + 3, locals := ls, stack := .ref T.heap.size :: rest, locked := none }) _
  jvm_step X₁.here [X₁.here.top, hexec, d3', Value.category]
  exact X₁.ldcString hexec (own := own) (text := text) (index := is) (a := sa) hown' hstr'.1 hstr'.2
    (g := { method := m, pc := pc + 4, locals := ls, stack := .ref T.heap.size :: .ref T.heap.size :: rest, locked := none }) rfl d4' _ hsteps
/-- 'throw new E("text")', the text by a wide index -/
theorem vx_throwSW {cc : ByteArray} {pc : Nat} (hexec : p.tables.exec = Jvm.exec) (hb : c.code = cc) (hl : l.stackTraces = false) {own cls text : String} {names : List String} {ik is ic mc ms sa : Nat} {A : Nat → Prop}
    (hown : s.vm.findClass own = some m.cls) (hcls : Bundle.fit cls = true) (hnames : ∀ n ∈ names, Bundle.fit n = true)
    (hk : (Cond.classLink own ik cls).before args s = true) (hini : (Cond.initialized cls).before args s = true) (hstr : vk_R own is text sa s) (hat : ∀ w ∈ vx_atS own ic cls names, w.before args s = true)
    (hgood : ∀ w ∈ Cond.classLink own ik cls :: Cond.initialized cls :: vx_atS own ic cls names, vx_ot w = true)
    (hU : vx_Zq Bundle.tN "UNASSIGNED_STACK" Bundle.steD A s s.heap) (hN : vx_Zq Bundle.tN "SUPPRESSED_SENTINEL" Bundle.listD A s s.heap) (hS : va_S A s.heap H locs) (hsize : ls.size = c.maxLocals)
    (d0 : decode cc pc = .ok (.new ik, 3)) (d3 : decode cc (pc + 3) = .ok (.dup, 1)) (d4 : decode cc (pc + 4) = .ok (.ldc_w is, 3)) (d7 : decode cc (pc + 7) = .ok (.invokespecial ic, 3)) (d10 : decode cc (pc + 10) = .ok (.athrow, 1))
    (hout : ∀ x ∈ c.exceptionTable.toList, covers x (pc + 10) = false)
    (hRframes : names.length + 3 < R.frames) (hRlocals : (rest.map fun v => v.category).sum + (13 * (names.length + 1) + 43) ≤ R.locals) (hRcells : cells + 1 ≤ R.cells) (hRslots : slots + 6 ≤ R.slots) (hlocks : meth.locks = false)
    (hx : ∀ t : State, s.vm.Alike t.vm → H.size ≤ t.heap.size → (∀ q : Nat, q < H.size → t.heap[q]? = H[q]?) → XC cls s t)
    (hf : ∀ z ∈ locs, free z.base) (hc : cells + 1 ≤ mc) (hs : slots + 6 ≤ ms) :
    W p l e R s m args below meth c H locs cells slots (vx_MQ below Qc XC args s mc ms free) (F0 m pc ls rest) := by
  intro T hT X
  have htr : e.platform.stackTraces = false := (show e.platform.stackTraces = l.stackTraces by rw [X.admits.platform]).trans hl
  have Y := vx_rebase X (R' := { frames := R.frames, locals := R.locals, cells := 1, slots := 6 }) (Nat.le_refl _) (Nat.le_refl _) hRcells hRslots
  obtain ⟨s', hA⟩ : ∃ z, z = (T.setVm s.vm).setFrames (.invoking m args :: below) := ⟨_, rfl⟩
  rw [← hA] at Y
  have hvm : s'.vm = s.vm := by rw [hA]; rfl
  have hhp : s'.heap = H := by rw [hA]; exact hT
  have hW0 : s.WarmedH s'.vm := by rw [hvm]; exact State.WarmedH.refl s
  have hat' : ∀ w ∈ vx_atS own ic cls names, w.before args s' = true := fun w hw => vx_ot_at hW0 hvm.symm (hgood w (List.mem_cons_of_mem _ (List.mem_cons_of_mem _ hw))) (hat w hw)
  have hk' : (Cond.classLink own ik cls).before args s' = true := vx_ot_at hW0 hvm.symm (hgood _ List.mem_cons_self) hk
  have hini' : (Cond.initialized cls).before args s' = true := vx_ot_at hW0 hvm.symm (hgood _ (List.mem_cons_of_mem _ List.mem_cons_self)) hini
  have hU' : vx_Zq Bundle.tN "UNASSIGNED_STACK" Bundle.steD A s' s'.heap := by rw [hhp]; exact vx_Zq.moved hW0.alike (hU.kept hS.2.1)
  have hN' : vx_Zq Bundle.tN "SUPPRESSED_SENTINEL" Bundle.listD A s' s'.heap := by rw [hhp]; exact vx_Zq.moved hW0.alike (hN.kept hS.2.1)
  have h : ∀ w ∈ Bundle.ownAtoms own ic cls names, w.before args s' = true := vx_own hat' (vx_isRefq hU'.1) (vx_isRefq hN'.1) hU'.2.word hN'.2.word
  have hown' : s'.vm.findClass own = some m.cls := by rw [hvm]; exact hown
  have hins : (Cond.instantiable cls 6).before args s' = true := h _ (by simp [Bundle.ownAtoms])
  obtain ⟨vm₁, cX, kX, hfX, hkX, -, -, X₁, st1⟩ := Y.newCold hexec (own := own) (C := cls) (index := ik) (n := 6) hown' hk' hins hini'
    (g := F0 m pc ls rest) rfl (by rw [hb]; exact d0) (Nat.le_refl _) (Nat.le_refl _)
  generalize hT1 : (T.setVm vm₁).pushCell { cls := cX, slots := kX.instanceTypes.map defaultValue, vm := .none } = T1 at X₁ st1
  have hcat : (Value.ref T.heap.size).category = 1 := rfl
  have hcellA : T1.heap[T.heap.size]? = some (freshCell cX kX) := by rw [← hT1]; exact State.heap_pushCell_size _ _
  have d3' : decode c.code (pc + 3) = .ok (.dup, 1) := by rw [hb]; exact d3
  have d4' : decode c.code (pc + 4) = .ok (.ldc_w is, 3) := by rw [hb]; exact d4
  have hstr' : vk_R own is text sa s' := vk_R.warm hW0 hstr
  obtain ⟨U, hsteps, hrun, hend, hW, hsame, ce, hce, hO⟩ := X₁.ctorThrowS hexec htr (own := own) (cls := cls) (names := names) (ic := ic) hown' hcls hnames h (fun x hx => nomatch hx) hfX hkX hcellA (by rw [hhp, hT]; exact Nat.le_refl _) (msg := .ref sa) rfl
    (g := { method := m, pc := pc + 7, locals := ls, stack := .ref sa :: .ref T.heap.size :: .ref T.heap.size :: rest, locked := none }) rfl hsize rfl rfl (rest := rest) rfl
    (by rw [hb]; exact d7) (by rw [hb]; exact d10) hout hRframes (by simp only [List.map_cons, List.sum_cons, hcat]; omega) hlocks
  obtain ⟨f1, f2⟩ := vx_frame hsame
  rw [hhp] at f1 f2
  have hWs : s.WarmedH U.vm := State.WarmedH.trans hW0 hW
  have hcl : s.vm.findClass cls = some ce.cls := by
    have h9 := hO.cls
    rw [hvm] at h9
    exact h9
  have hall : s.sameButNew ({ U with vm := s.vm } : State) locs mc ms := by
    subst hA
    obtain ⟨e1, e2⟩ := hsame
    rw [State.setFrames_setFrames] at e1
    have h2 : (T.setVm s.vm).sameButNew ({ U with vm := s.vm } : State) [] (0 + 1) (0 + 6) := ⟨e1, e2⟩
    have h3 := X.same.trans h2
    rw [List.append_nil] at h3
    exact h3.mono hc hs
  refine ⟨U, ?_, .threw T.heap.size, hrun, hend, Or.inr ⟨T.heap.size, rfl, cls, ce, locs, hx U hWs.alike f1 (fun q hq => f2 q hq (fun z hz => nomatch hz)), hce, hO.vm, hcl, hWs, hall, hf⟩⟩
  refine st1 _ ?_
  show Steps p.tables e below (T1.setTop { method := m, pc := pc + 3, locals := ls, stack := .ref T.heap.size :: rest, locked := none }) _
  jvm_step X₁.here [X₁.here.top, hexec, d3', Value.category]
  exact X₁.ldcStringW hexec (own := own) (text := text) (index := is) (a := sa) hown' hstr'.1 hstr'.2
    (g := { method := m, pc := pc + 4, locals := ls, stack := .ref T.heap.size :: .ref T.heap.size :: rest, locked := none }) rfl d4' _ hsteps
end Ends
section Bodies
variable {l : Launch}
theorem vx_ofW {y : MethodName} {ws ws' : List Cond} {rm : Room} {Pc : Array Value → State → Prop} {Qc : Array Value → State → Outcome → State → Prop} {XC : String → State → State → Prop} {mc ms : Nat} {free : Addr → Prop} {cc : ByteArray} {maxL : Nat} {ret : Option FieldType}
    (hy : plainName y.cls = true) (hw : ws = Cond.code y cc maxL ret :: ws')
    (body : ∀ p e s m args below meth c s₁, BodyLoose p l y (headSpec ws rm) cc maxL ret e s m args below meth c s₁ → c.maxLocals = maxL → (∀ x ∈ c.exceptionTable.toList, False) → Pc args s →
      W p l e (headSpec ws rm).room s m args below meth c s.heap [] 0 0 (vx_MQ below Qc XC args s mc ms free) (entryFrame m args maxL)) : vx_Met l y ws rm Pc Qc XC mc ms free := by
  refine MetFree.of_bodyS (code := cc) (maxLocals := maxL) (ret := ret) hy ?_ ?_
  · intro args s m h hn
    obtain ⟨meth, c, h1, h2, h3, h4, h5, h6, -, -⟩ := Cond.code_spec hn (atoms_spec (ws := ws) h _ (by rw [hw]; exact List.mem_cons_self))
    exact ⟨meth, c, h1, h2, h3, h4, h5, h6⟩
  · intro p e s m args below meth c s₁ B hml hP _
    have hh0 : s₁.heap = s.heap := by rw [B.state]; rfl
    have ht : ∀ x ∈ c.exceptionTable.toList, False := by
      obtain ⟨meth9, c9, h1, h2, -, -, -, -, h7, -⟩ := Cond.code_spec B.named (atoms_spec (ws := ws) B.pre _ (by rw [hw]; exact List.mem_cons_self))
      cases Option.some.inj (h1.symm.trans B.method)
      cases Option.some.inj (h2.symm.trans (Stand.of_body B).code)
      intro x hx
      rw [Array.isEmpty_iff.mp h7] at hx
      cases hx
    obtain ⟨t, a1, o, b1, b2, b3⟩ := body p e s m args below meth c s₁ B hml ht hP s₁ hh0 (Stand.of_body B)
    exact ⟨t, o, a1, b1, b2, b3⟩
/-- the table of a body with handlers -/
theorem vx_table {p : Program} {x y : MethodName} {S : Spec} {cc bytes : ByteArray} {maxL maxL' : Nat} {ret ret' : Option FieldType} {e : Env} {s s₁ : State} {m : MethodId} {args : Array Value} {below : List Frame} {meth : Method} {c : Code} {hh : List (Nat × Nat × Nat × Nat)}
    (B : BodyLoose p l y S cc maxL ret e s m args below meth c s₁) (h : (Cond.codeWith y bytes maxL' ret' hh).before args s = true) : c.exceptionTable.toList = tableOf hh := by
  obtain ⟨m9, meth9, c9, hn9, h1, h2, -, -, h6, -⟩ := Cond.codeWith_spec h
  cases Option.some.inj (hn9.symm.trans B.named)
  cases Option.some.inj (h1.symm.trans B.method)
  cases Option.some.inj (h2.symm.trans (Stand.of_body B).code)
  rw [← h6, table_eq]
end Bodies
end VXA
/-! ===== END ===== -/
/-! ===== BEGIN a static call of a method with an exception table ===== -/
section VXS
variable {p : Program} {l : Launch} {e : Env} {R : Room} {s : State} {m : MethodId} {args : Array Value} {below : List Frame} {meth : Method} {c : Code} {T : State} {H : Heap} {locs : List Loc} {cells slots : Nat}
abbrev vx_CSW (R : Room) (s : State) (args : Array Value) (own : String) (index : Nat) (y : MethodName) (bytes : ByteArray) (maxL : Nat) (ret : Option FieldType) (hh : List (Nat × Nat × Nat × Nat)) (ws : List Cond) (rm : Room) (mc ms n : Nat) : Prop :=
  (rm.cells = mc ∧ rm.slots = ms ∧ rm.frames + 1 ≤ R.frames ∧ 8 + (maxL + 11) + rm.locals ≤ R.locals ∧ (∀ w ∈ ws, ∀ (a' : Array Value) (U : State), s.WarmedH U.vm → w.before a' U = true) ∧ Cond.codeWith y bytes maxL ret hh ∈ ws) ∧
  (Cond.codeWith y bytes maxL ret hh).before args s = true ∧ (Cond.initialized y.cls).before args s = true ∧ (y.cls ≠ "java/lang/invoke/MethodHandle" ∧ y.cls ≠ "java/lang/invoke/VarHandle") ∧
  (∀ sig, parseMethodDescriptor y.desc = some sig → n = sig.parameters.length) ∧ (Cond.methodLink own index y).before args s = true ∧ (Cond.static y).before args s = true
theorem vx_cwSW {own : String} {index maxL mc ms : Nat} {y : MethodName} {bytes : ByteArray} {ret : Option FieldType} {hh : List (Nat × Nat × Nat × Nat)} {Ts ws ws' : List Cond} {rm : Room} (n : Nat) (ht : ∀ w ∈ Ts, w.before args s = true) (hT : GoodIn Ts (va_wsS own index y ws)) (hw : ws = Cond.codeWith y bytes maxL ret hh :: ws') (hrc : rm.cells = mc) (hrs : rm.slots = ms)
    (hd : y.cls ≠ "java/lang/invoke/MethodHandle" ∧ y.cls ≠ "java/lang/invoke/VarHandle" ∧ (parseMethodDescriptor y.desc).map (fun d => d.parameters.length) = some n) (hR : rm.frames + 1 ≤ R.frames ∧ 8 + (maxL + 11) + rm.locals ≤ R.locals) :
    vx_CSW R s args own index y bytes maxL ret hh ws rm mc ms n := by
  have ok : ∀ w ∈ va_wsS own index y ws, w.before args s = true := fun w h => ht w (hT w h).1
  have hG : GoodIn Ts ws := fun w h => hT w (by unfold va_wsS; exact List.mem_append_right _ h)
  have hc : Cond.codeWith y bytes maxL ret hh ∈ ws := by rw [hw]; exact List.mem_cons_self
  refine ⟨⟨hrc, hrs, hR.1, hR.2, pay_in ht hG, hc⟩, ht _ (hG _ hc).1, ok _ (by simp [va_wsS]), ⟨hd.1, hd.2.1⟩, fun sig h => ?_, ok _ (by simp [va_wsS]), ok _ (by simp [va_wsS])⟩
  have h2 := hd.2.2
  rw [h] at h2
  exact (Option.some.inj h2).symm
theorem vx_callSW (X : Stand p l e R s m args below meth c T locs cells slots) (hexec : p.tables.exec = Jvm.exec) {own : String} {index : Nat} {y : MethodName} {bytes : ByteArray} {maxL : Nat} {ret : Option FieldType} {hh : List (Nat × Nat × Nat × Nat)}
    (hown : s.vm.findClass own = some m.cls) (hlink : (Cond.methodLink own index y).before args s = true) (hstat : (Cond.static y).before args s = true) (hinit : (Cond.initialized y.cls).before args s = true)
    (hcode : (Cond.codeWith y bytes maxL ret hh).before args s = true) (hy : y.cls ≠ "java/lang/invoke/MethodHandle" ∧ y.cls ≠ "java/lang/invoke/VarHandle")
    {W9 : Nat} {Pre : Pt → Array Value → Prop} {Post : Pt → Array Value → Option Value → Pt → Prop} (hK : Back l R p e below s args y 3 W9 Pre Post)
    {g : JFrame} (hg : g.method = m) (hsize : g.locals.size = c.maxLocals) {argsL rest : List Value} (hlen : ∀ sig, parseMethodDescriptor y.desc = some sig → argsL.length = sig.parameters.length)
    (hstack : g.stack = argsL.reverse ++ rest) (hW : 2 * g.monitorRoom + (rest.map fun v => v.category).sum ≤ W9) (hdg : decode c.code g.pc = .ok (.invokestatic index, 3))
    (hpre : ∀ vm₁, s.WarmedH vm₁ → Pre ⟨T.setVm vm₁, locs, cells, slots⟩ argsL.toArray) :
    ∃ (v : Option Value) (vm₁ : Vm) (B : Pt), s.WarmedH vm₁ ∧ Stand p l e R s m args below meth c B.U B.locs B.cells B.slots ∧ Post ⟨T.setVm vm₁, locs, cells, slots⟩ argsL.toArray v B ∧
      ∀ target, Steps p.tables e below (B.U.setTop { g with pc := g.pc + 3, stack := v.toList ++ rest }) target → Steps p.tables e below (T.setTop g) target := by
  obtain ⟨mk, methM, cM, hnamed, hmethM, -, -, -, -, -, -, hsigM⟩ := Cond.codeWith_spec hcode
  have hstatic : methM.isStatic = true := Cond.static_spec hnamed hmethM hstat
  obtain ⟨kP, hkP, -⟩ := className_of_methodNamed hnamed
  have hinitP : kP.init = .initialized := Cond.initialized_spec (findClass_of_methodNamed hnamed) hkP hinit
  obtain ⟨vm₁, X₁, hstep₁⟩ := X.invokestatic hexec hown hlink hnamed hmethM hstatic hkP hinitP hy (g := g) hg (argsL := argsL) (rest := rest) (hlen _ hsigM) hstack hdg
  obtain ⟨v, B, X', hpost, hsteps⟩ := hK m meth c ⟨T.setVm vm₁, locs, cells, slots⟩ { g with stack := rest } (.invokestatic index) mk argsL.toArray X₁ hg hsize hdg hW (X₁.named hnamed) (hpre vm₁ X₁.warmed)
  exact ⟨v, vm₁, B, X₁.warmed, X', hpost, fun target h => hstep₁ _ fun acts => by rw [doInvoke_state]; exact hsteps.trans h⟩
theorem vx_runSW {y : MethodName} {bytes cc : ByteArray} {maxL nL mc ms n index : Nat} {ret : Option FieldType} {hh : List (Nat × Nat × Nat × Nat)} {ws : List Cond} {rm : Room} {Pc : Array Value → State → Prop} {Qc : Array Value → State → Outcome → State → Prop} {free : Addr → Prop} {Ts : List Cond} {own : String} {As rest : List Value} {g : JFrame}
    (S : CallFix p m c cc nL s args Ts own) (hM : Met l y ws rm Pc Qc mc ms free) (cw : vx_CSW R s args own index y bytes maxL ret hh ws rm mc ms n) (hp : PreS s H Pc As)
    (hg : g.method = m) (hn : As.length = n) (hsize : g.locals.size = nL) (hstack : g.stack = As.reverse ++ rest) (hW : 2 * g.monitorRoom + (rest.map fun v => v.category).sum ≤ 8) (hdg : decode cc g.pc = .ok (.invokestatic index, 3)) (hf : cells + mc ≤ R.cells ∧ slots + ms ≤ R.slots) :
    va_Run p l e R s m args below meth c H locs cells slots mc ms g rest (Qc As.toArray) (free) := by
  obtain ⟨⟨hrc, hrs, hfr, hlo, hws, hcw⟩, hcode, hini, hy, hlen, hl, hstt⟩ := cw
  have hK : Back l R p e below s args y 3 8 (PreOf R mc ms Pc) (PostOf Qc mc ms free) := va_backW (hh := hh) (bytes := bytes) (maxL := maxL) (ret := ret) hM hp.1 hrc hrs hfr hlo hws hcw (fun a' U hW => word_at hW (Or.inl (by first | rfl | simp [Cond.onTables, Cond.keeps, Cond.steady])) hini)
  obtain ⟨hx, hb, hml, ho, -⟩ := S
  intro T hT X
  obtain ⟨v, vm₁, ⟨U', l2, c2, s2⟩, hW₁, X', ⟨g', mk, t, L, e1, e2, hq, h1, hL, h2, h3⟩, st⟩ := vx_callSW X hx (hh := hh) (bytes := bytes) (maxL := maxL) (ret := ret) ho hl hstt hini hcode hy hK hg (hsize.trans hml.symm) (argsL := As) (rest := rest) (fun sig h => hn.trans (hlen sig h)) hstack hW (by rw [hb]; exact hdg)
    (fun vm₁ hW₁ => ⟨hf.1, hf.2, hp.2 (T.setVm vm₁) hT hW₁⟩)
  dsimp only [Pt.U, Pt.locs, Pt.cells, Pt.slots] at X' e1 e2 h1 h2 h3 st
  subst h1; subst h2; subst h3
  exact ⟨v, (T.setVm vm₁).calling g' mk As.toArray, t, U', L, hT, X', hL, e1, e2, hq, st⟩
/-- a thing of a world lies in the heap -/
theorem vx_lt {D : va_G} {cl : List vw_C} {ws : va_W} {H1 : Heap} (h : va_P D cl ws H1) {k : Nat} {q : Nat × va_E} (hk : ws[k]? = some q) : q.1 < H1.size := (h k q hk).lt
end VXS
/-! ===== END ===== -/
/-! ===== BEGIN methods with a table of their own: called by a name, returning or throwing ===== -/
section VXH
/-! vx_backW, vx_callVX, vx_callSX, vx_callVW, vx_runVW, vx_runVX, vx_runSX, vx_ofWH follow the same proofs as their sisters above (Free/Laws.lean, Shelf42/LK1.lean); vx_outP calls Shelf42/NT130.lean (outThrough). -/
section
variable {l : Launch} {R : Room} {p : Program} {e : Env} {below : List Frame} {s : State} {sargs : Array Value} {y : MethodName} {len W9 : Nat}
theorem vx_backW {ws : List Cond} {rm : Room} {Pc : Array Value → State → Prop} {Qc : Array Value → State → Outcome → State → Prop} {XC : String → State → State → Prop} {mc ms : Nat} {free : Addr → Prop} {bytes : ByteArray} {maxL : Nat} {ret : Option FieldType} {hh : List (Nat × Nat × Nat × Nat)}
    (hM : vx_Met l y ws rm Pc Qc XC mc ms free) (hblind : FrameBlind Pc) (hrc : rm.cells = mc) (hrs : rm.slots = ms)
    (hframes : rm.frames + 1 ≤ R.frames) (hlocals : W9 + (maxL + 11) + rm.locals ≤ R.locals)
    (hws : ∀ w ∈ ws, ∀ a' U, s.WarmedH U.vm → w.before a' U = true) (hcode : Cond.codeWith y bytes maxL ret hh ∈ ws) (hinit : ∀ a' U, s.WarmedH U.vm → (Cond.initialized y.cls).before a' U = true) :
    vx_Back l R p e below s sargs y len W9 (PreOf R mc ms Pc) (PostOf Qc mc ms free) (vx_Post XC mc ms free) := by
  intro m meth c A g ig mk a X hg hsize hdg hW hn hp
  have h1 : (headSpec ws rm).pre.before a A.U = true := atoms_intro fun w hw => hws w hw _ _ X.warmed
  have h2 : (Cond.codeWith y bytes maxL ret hh).before a A.U = true := hws _ hcode _ _ X.warmed
  have h3 : (Cond.initialized y.cls).before a A.U = true := hinit _ _ X.warmed
  have h4 : A.cells + (headSpec ws rm).room.cells ≤ R.cells := by rw [show (headSpec ws rm).room.cells = mc from hrc]; exact hp.1
  have h5 : A.slots + (headSpec ws rm).room.slots ≤ R.slots := by rw [show (headSpec ws rm).room.slots = ms from hrs]; exact hp.2.1
  have hPc : Pc a (A.U.calling g mk a) := hblind _ _ _ _ hp.2.2
  obtain ⟨U, Ls, c0, s0⟩ := A
  dsimp only [Pt.U, Pt.locs, Pt.cells, Pt.slots] at h1 h2 h3 h4 h5 X hn hPc ⊢
  obtain ⟨m9, methY, cY, hn9, hmY, hcY, -, hlY, -⟩ := Cond.codeWith_spec h2
  cases Option.some.inj (hn9.symm.trans hn)
  obtain ⟨kY, hkY, -⟩ := className_of_methodNamed hn
  have hinitY : kY.init = .initialized := Cond.initialized_spec (findClass_of_methodNamed hn) hkY h3
  have h : At U g.method c below := by rw [hg]; exact X.here
  have hlocals9 : W9 + (maxL + 11) + (headSpec ws rm).room.locals ≤ R.locals := hlocals
  have happ : (headSpec ws rm).appliesLoose y e.platform (U.calling g mk a) = true :=
    Spec.appliesLoose_calling (g := g) h hdg hn hkY hinitY
      (X.room_calling (g := g) (R' := (headSpec ws rm).room) hsize hmY hcY hframes (by rw [hlY]; omega) h4 h5) h1
  obtain ⟨mid, hmid⟩ := h.above
  have hfr : (U.setTop g).frames = (.java g :: mid) ++ below := by rw [State.frames_setTop' g h.top, hmid]; rfl
  obtain ⟨o, s₂, hsteps, -, hend, hq⟩ := Steps.callFree hM p X.admits X.cas X.clock (acts := []) hfr happ hPc trivial
  have hq' : vx_Q Qc XC mc ms free a (U.calling g mk a) o s₂ := hq
  rw [State.frames_setTop' g h.top] at hend
  obtain ⟨g₀, hg0⟩ := Option.isSome_iff_exists.mp h.top
  obtain ⟨r, hr⟩ := State.topJava?_eq_some.mp hg0
  have hr' : (({ U with heap := s₂.heap, slotsUsed := s₂.slotsUsed } : State).setVm s₂.vm).frames = .java g₀ :: r := hr
  rcases hq' with ⟨hqc, L, hfe, hL⟩ | ⟨q, rfl, E, ce, L, hx, hce, hcv, hcl, hW₂, hsm, hL⟩
  · obtain ⟨⟨v, rfl⟩, hW₂, e2, q2, q3, q4, q5, q6⟩ := id hfe
    have e3 : s₂ = ({ (U.calling g mk a).setFrames s₂.frames with heap := s₂.heap, slotsUsed := s₂.slotsUsed } : State).setVm s₂.vm := by
      have : s₂ = ({ s₂ with vm := (U.calling g mk a).vm } : State).setVm s₂.vm := rfl
      rw [e2] at this
      exact this
    obtain ⟨c₂, i₂, len₂, hc₂, hd₂, hf₂⟩ := hend
    have hW' : U.WarmedH s₂.vm := hW₂
    have hcc : c₂ = c := by
      have h1 : s₂.code? g.method = U.code? g.method := by
        rw [State.code?_eq, State.code?_eq, hW'.alike.method?]
      exact Option.some.inj (hc₂.symm.trans (h1.trans h.code))
    subst hcc
    have hlen : len₂ = len := by rw [hdg] at hd₂; cases hd₂; rfl
    subst hlen
    have hs₂ : s₂ = (({ U with heap := s₂.heap, slotsUsed := s₂.slotsUsed } : State).setVm s₂.vm).setTop { g with pc := g.pc + len₂, stack := v.toList ++ g.stack } := by
      refine e3.trans ?_
      rw [hf₂, State.calling_eq h.top, State.setFrames_setFrames, State.setTop_of_frames _ hr', hr]
      rfl
    have hsame : U.sameButNew ({ U with heap := s₂.heap, slotsUsed := s₂.slotsUsed } : State) L mc ms := by
      refine ⟨?_, q2, q3, q4, q5, q6⟩
      obtain ⟨t, ht, -⟩ := State.frames_cons hr
      show ({ U with heap := s₂.heap, slotsUsed := s₂.slotsUsed } : State) = { U.setFrames U.frames with heap := s₂.heap, slotsUsed := s₂.slotsUsed }
      rw [State.setFrames_self ht]
    subst hg
    refine Or.inl ⟨v, ⟨(({ U with heap := s₂.heap, slotsUsed := s₂.slotsUsed } : State).setVm s₂.vm), Ls ++ L, c0 + mc, s0 + ms⟩,
      ⟨X.admits, X.cas, X.clock, X.frames, X.room, X.hears, X.method, X.code, (X.here.setHeapUsed s₂.heap s₂.slotsUsed).setVm hW'.alike, X.tail, State.WarmedH.trans X.warmed hW', X.limits, X.bytes, X.same.trans (hsame.setVm s.vm)⟩,
      ⟨g, mk, s₂, L, rfl, rfl, hqc, rfl, hL, rfl, rfl⟩, ?_⟩
    show Steps p.tables e below _ ((({ U with heap := s₂.heap, slotsUsed := s₂.slotsUsed } : State).setVm s₂.vm).setTop { g with pc := g.pc + len₂, stack := v.toList ++ g.stack })
    rw [← hs₂]
    exact hsteps
  · obtain ⟨e2, q2, q3, q4, q5, q6⟩ := id hsm
    have e3 : s₂ = ({ (U.calling g mk a).setFrames s₂.frames with heap := s₂.heap, slotsUsed := s₂.slotsUsed } : State).setVm s₂.vm := by
      have : s₂ = ({ s₂ with vm := (U.calling g mk a).vm } : State).setVm s₂.vm := rfl
      rw [e2] at this
      exact this
    have hf₂ : s₂.frames = .throwing q :: .java g :: U.frames.tail := hend
    have hW' : U.WarmedH s₂.vm := hW₂
    have hs₂ : s₂ = ((({ U with heap := s₂.heap, slotsUsed := s₂.slotsUsed } : State).setVm s₂.vm).setTop g).pushFrame (.throwing q) := by
      refine e3.trans ?_
      rw [hf₂, State.calling_eq h.top, State.setFrames_setFrames, State.pushFrame, State.frames_setTop _ hr', State.setTop_of_frames _ hr', State.setFrames_setFrames, hr]
      rfl
    have hsame : U.sameButNew ({ U with heap := s₂.heap, slotsUsed := s₂.slotsUsed } : State) L mc ms := by
      refine ⟨?_, q2, q3, q4, q5, q6⟩
      obtain ⟨t, ht, -⟩ := State.frames_cons hr
      show ({ U with heap := s₂.heap, slotsUsed := s₂.slotsUsed } : State) = { U.setFrames U.frames with heap := s₂.heap, slotsUsed := s₂.slotsUsed }
      rw [State.setFrames_self ht]
    subst hg
    refine Or.inr ⟨q, ⟨(({ U with heap := s₂.heap, slotsUsed := s₂.slotsUsed } : State).setVm s₂.vm), Ls ++ L, c0 + mc, s0 + ms⟩,
      ⟨X.admits, X.cas, X.clock, X.frames, X.room, X.hears, X.method, X.code, (X.here.setHeapUsed s₂.heap s₂.slotsUsed).setVm hW'.alike, X.tail, State.WarmedH.trans X.warmed hW', X.limits, X.bytes, X.same.trans (hsame.setVm s.vm)⟩,
      ⟨g, mk, s₂, L, E, ce, rfl, rfl, hx, hce, hcv, hcl, rfl, hL, rfl, rfl⟩, ?_⟩
    show Steps p.tables e below _ (((({ U with heap := s₂.heap, slotsUsed := s₂.slotsUsed } : State).setVm s₂.vm).setTop g).pushFrame (.throwing q))
    rw [← hs₂]
    exact hsteps
end
variable {p : Program} {l : Launch} {e : Env} {R : Room} {s : State} {m : MethodId} {args : Array Value} {below : List Frame} {meth : Method} {c : Code} {T : State} {H : Heap} {locs : List Loc} {cells slots : Nat}
theorem vx_callVX (X : Stand p l e R s m args below meth c T locs cells slots) (hexec : p.tables.exec = Jvm.exec) {own C : String} {index : Nat} {y : MethodName} {bytes : ByteArray} {maxL : Nat} {ret : Option FieldType} {hh : List (Nat × Nat × Nat × Nat)}
    (hown : s.vm.findClass own = some m.cls) (hlink : (Cond.methodLink own index y).before args s = true) (hinst : (Cond.instanceMethod y).before args s = true) (hsel : (Cond.selects C y y).before args s = true)
    (hcode : (Cond.codeWith y bytes maxL ret hh).before args s = true) (hy : y.cls ≠ "java/lang/invoke/MethodHandle" ∧ y.cls ≠ "java/lang/invoke/VarHandle")
    {W9 : Nat} {Pre : Pt → Array Value → Prop} {Post : Pt → Array Value → Option Value → Pt → Prop} {PostX : Pt → Array Value → Addr → Pt → Prop} (hK : vx_Back l R p e below s args y 3 W9 Pre Post PostX)
    {b : Addr} {cellB : Cell} (hcell : T.heap[b]? = some cellB) (hobj : cellB.vm.isStatics = false) (hcls : s.vm.findClass C = some cellB.cls)
    {g : JFrame} (hg : g.method = m) (hsize : g.locals.size = c.maxLocals) {argsL rest : List Value} (hlen : ∀ sig, parseMethodDescriptor y.desc = some sig → argsL.length = sig.parameters.length)
    (hstack : g.stack = argsL.reverse ++ .ref b :: rest) (hW : 2 * g.monitorRoom + (rest.map fun v => v.category).sum ≤ W9) (hdg : decode c.code g.pc = .ok (.invokevirtual index, 3))
    (hpre : ∀ vm₁, s.WarmedH vm₁ → Pre ⟨T.setVm vm₁, locs, cells, slots⟩ (Value.ref b :: argsL).toArray) :
    (∃ (v : Option Value) (vm₁ : Vm) (B : Pt), s.WarmedH vm₁ ∧ Stand p l e R s m args below meth c B.U B.locs B.cells B.slots ∧ Post ⟨T.setVm vm₁, locs, cells, slots⟩ (Value.ref b :: argsL).toArray v B ∧
      ∀ target, Steps p.tables e below (B.U.setTop { g with pc := g.pc + 3, stack := v.toList ++ rest }) target → Steps p.tables e below (T.setTop g) target) ∨
    (∃ (q : Addr) (vm₁ : Vm) (B : Pt), s.WarmedH vm₁ ∧ Stand p l e R s m args below meth c B.U B.locs B.cells B.slots ∧ PostX ⟨T.setVm vm₁, locs, cells, slots⟩ (Value.ref b :: argsL).toArray q B ∧
      Steps p.tables e below (T.setTop g) ((B.U.setTop { g with stack := rest }).pushFrame (.throwing q))) := by
  obtain ⟨mk, methM, hnamed, hmethM, hstM, habM⟩ := Cond.instanceMethod_spec hinst
  obtain ⟨m8, methM', cM, hn8, hmethM', -, -, -, -, -, -, hsigM⟩ := Cond.codeWith_spec hcode
  cases Option.some.inj (hn8.symm.trans hnamed)
  cases hmethM.symm.trans hmethM'
  obtain ⟨c2, r2, m2, q1, q2, q3, q4, kP, hkP, hkPi⟩ := Cond.selects_spec hsel
  cases hcls.symm.trans q1
  cases (State.methodFound?_of_named hnamed hy).symm.trans q2
  cases hnamed.symm.trans q3
  have hselP : selectMethod e.platform s.vm cellB.cls mk = .method mk := by rw [Launch.admits_selectMethod X.admits]; exact q4
  obtain ⟨vm₁, X₁, hstep₁⟩ := X.invokevirtual hexec hown hlink hnamed hmethM hstM hkP hkPi hy (a := b) (cell := cellB) hcell
    (fun z h => by rw [h] at hobj; cases hobj) hselP hmethM habM hkP hkPi (g := g) hg (argsL := argsL) (rest := rest) (hlen _ hsigM) hstack hdg
  rcases hK m meth c ⟨T.setVm vm₁, locs, cells, slots⟩ { g with stack := rest } (.invokevirtual index) mk (Value.ref b :: argsL).toArray X₁ hg hsize hdg hW (X₁.named hnamed) (hpre vm₁ X₁.warmed) with ⟨v, B, X', hpost, hsteps⟩ | ⟨q, B, X', hpost, hsteps⟩
  · exact Or.inl ⟨v, vm₁, B, X₁.warmed, X', hpost, fun target h => hstep₁ _ fun acts => by rw [doInvoke_state]; exact hsteps.trans h⟩
  · exact Or.inr ⟨q, vm₁, B, X₁.warmed, X', hpost, hstep₁ _ fun acts => by rw [doInvoke_state]; exact hsteps⟩
theorem vx_callSX (X : Stand p l e R s m args below meth c T locs cells slots) (hexec : p.tables.exec = Jvm.exec) {own : String} {index : Nat} {y : MethodName} {bytes : ByteArray} {maxL : Nat} {ret : Option FieldType} {hh : List (Nat × Nat × Nat × Nat)}
    (hown : s.vm.findClass own = some m.cls) (hlink : (Cond.methodLink own index y).before args s = true) (hstat : (Cond.static y).before args s = true) (hinit : (Cond.initialized y.cls).before args s = true)
    (hcode : (Cond.codeWith y bytes maxL ret hh).before args s = true) (hy : y.cls ≠ "java/lang/invoke/MethodHandle" ∧ y.cls ≠ "java/lang/invoke/VarHandle")
    {W9 : Nat} {Pre : Pt → Array Value → Prop} {Post : Pt → Array Value → Option Value → Pt → Prop} {PostX : Pt → Array Value → Addr → Pt → Prop} (hK : vx_Back l R p e below s args y 3 W9 Pre Post PostX)
    {g : JFrame} (hg : g.method = m) (hsize : g.locals.size = c.maxLocals) {argsL rest : List Value} (hlen : ∀ sig, parseMethodDescriptor y.desc = some sig → argsL.length = sig.parameters.length)
    (hstack : g.stack = argsL.reverse ++ rest) (hW : 2 * g.monitorRoom + (rest.map fun v => v.category).sum ≤ W9) (hdg : decode c.code g.pc = .ok (.invokestatic index, 3))
    (hpre : ∀ vm₁, s.WarmedH vm₁ → Pre ⟨T.setVm vm₁, locs, cells, slots⟩ argsL.toArray) :
    (∃ (v : Option Value) (vm₁ : Vm) (B : Pt), s.WarmedH vm₁ ∧ Stand p l e R s m args below meth c B.U B.locs B.cells B.slots ∧ Post ⟨T.setVm vm₁, locs, cells, slots⟩ argsL.toArray v B ∧
      ∀ target, Steps p.tables e below (B.U.setTop { g with pc := g.pc + 3, stack := v.toList ++ rest }) target → Steps p.tables e below (T.setTop g) target) ∨
    (∃ (q : Addr) (vm₁ : Vm) (B : Pt), s.WarmedH vm₁ ∧ Stand p l e R s m args below meth c B.U B.locs B.cells B.slots ∧ PostX ⟨T.setVm vm₁, locs, cells, slots⟩ argsL.toArray q B ∧
      Steps p.tables e below (T.setTop g) ((B.U.setTop { g with stack := rest }).pushFrame (.throwing q))) := by
  obtain ⟨mk, methM, cM, hnamed, hmethM, -, -, -, -, -, -, hsigM⟩ := Cond.codeWith_spec hcode
  have hstatic : methM.isStatic = true := Cond.static_spec hnamed hmethM hstat
  obtain ⟨kP, hkP, -⟩ := className_of_methodNamed hnamed
  have hinitP : kP.init = .initialized := Cond.initialized_spec (findClass_of_methodNamed hnamed) hkP hinit
  obtain ⟨vm₁, X₁, hstep₁⟩ := X.invokestatic hexec hown hlink hnamed hmethM hstatic hkP hinitP hy (g := g) hg (argsL := argsL) (rest := rest) (hlen _ hsigM) hstack hdg
  rcases hK m meth c ⟨T.setVm vm₁, locs, cells, slots⟩ { g with stack := rest } (.invokestatic index) mk argsL.toArray X₁ hg hsize hdg hW (X₁.named hnamed) (hpre vm₁ X₁.warmed) with ⟨v, B, X', hpost, hsteps⟩ | ⟨q, B, X', hpost, hsteps⟩
  · exact Or.inl ⟨v, vm₁, B, X₁.warmed, X', hpost, fun target h => hstep₁ _ fun acts => by rw [doInvoke_state]; exact hsteps.trans h⟩
  · exact Or.inr ⟨q, vm₁, B, X₁.warmed, X', hpost, hstep₁ _ fun acts => by rw [doInvoke_state]; exact hsteps⟩
theorem vx_callVW (X : Stand p l e R s m args below meth c T locs cells slots) (hexec : p.tables.exec = Jvm.exec) {own C : String} {index : Nat} {y : MethodName} {bytes : ByteArray} {maxL : Nat} {ret : Option FieldType} {hh : List (Nat × Nat × Nat × Nat)}
    (hown : s.vm.findClass own = some m.cls) (hlink : (Cond.methodLink own index y).before args s = true) (hinst : (Cond.instanceMethod y).before args s = true) (hsel : (Cond.selects C y y).before args s = true)
    (hcode : (Cond.codeWith y bytes maxL ret hh).before args s = true) (hy : y.cls ≠ "java/lang/invoke/MethodHandle" ∧ y.cls ≠ "java/lang/invoke/VarHandle")
    {W9 : Nat} {Pre : Pt → Array Value → Prop} {Post : Pt → Array Value → Option Value → Pt → Prop} (hK : Back l R p e below s args y 3 W9 Pre Post)
    {b : Addr} {cellB : Cell} (hcell : T.heap[b]? = some cellB) (hobj : cellB.vm.isStatics = false) (hcls : s.vm.findClass C = some cellB.cls)
    {g : JFrame} (hg : g.method = m) (hsize : g.locals.size = c.maxLocals) {argsL rest : List Value} (hlen : ∀ sig, parseMethodDescriptor y.desc = some sig → argsL.length = sig.parameters.length)
    (hstack : g.stack = argsL.reverse ++ .ref b :: rest) (hW : 2 * g.monitorRoom + (rest.map fun v => v.category).sum ≤ W9) (hdg : decode c.code g.pc = .ok (.invokevirtual index, 3))
    (hpre : ∀ vm₁, s.WarmedH vm₁ → Pre ⟨T.setVm vm₁, locs, cells, slots⟩ (Value.ref b :: argsL).toArray) :
    ∃ (v : Option Value) (vm₁ : Vm) (B : Pt), s.WarmedH vm₁ ∧ Stand p l e R s m args below meth c B.U B.locs B.cells B.slots ∧ Post ⟨T.setVm vm₁, locs, cells, slots⟩ (Value.ref b :: argsL).toArray v B ∧
      ∀ target, Steps p.tables e below (B.U.setTop { g with pc := g.pc + 3, stack := v.toList ++ rest }) target → Steps p.tables e below (T.setTop g) target := by
  obtain ⟨mk, methM, hnamed, hmethM, hstM, habM⟩ := Cond.instanceMethod_spec hinst
  obtain ⟨m8, methM', cM, hn8, hmethM', -, -, -, -, -, -, hsigM⟩ := Cond.codeWith_spec hcode
  cases Option.some.inj (hn8.symm.trans hnamed)
  cases hmethM.symm.trans hmethM'
  obtain ⟨c2, r2, m2, q1, q2, q3, q4, kP, hkP, hkPi⟩ := Cond.selects_spec hsel
  cases hcls.symm.trans q1
  cases (State.methodFound?_of_named hnamed hy).symm.trans q2
  cases hnamed.symm.trans q3
  have hselP : selectMethod e.platform s.vm cellB.cls mk = .method mk := by rw [Launch.admits_selectMethod X.admits]; exact q4
  obtain ⟨vm₁, X₁, hstep₁⟩ := X.invokevirtual hexec hown hlink hnamed hmethM hstM hkP hkPi hy (a := b) (cell := cellB) hcell
    (fun z h => by rw [h] at hobj; cases hobj) hselP hmethM habM hkP hkPi (g := g) hg (argsL := argsL) (rest := rest) (hlen _ hsigM) hstack hdg
  obtain ⟨v, B, X', hpost, hsteps⟩ := hK m meth c ⟨T.setVm vm₁, locs, cells, slots⟩ { g with stack := rest } (.invokevirtual index) mk (Value.ref b :: argsL).toArray X₁ hg hsize hdg hW (X₁.named hnamed) (hpre vm₁ X₁.warmed)
  exact ⟨v, vm₁, B, X₁.warmed, X', hpost, fun target h => hstep₁ _ fun acts => by rw [doInvoke_state]; exact hsteps.trans h⟩
abbrev vx_CVW (R : Room) (s : State) (args : Array Value) (own C : String) (index : Nat) (y : MethodName) (bytes : ByteArray) (maxL : Nat) (ret : Option FieldType) (hh : List (Nat × Nat × Nat × Nat)) (ws : List Cond) (rm : Room) (mc ms n : Nat) : Prop :=
  (rm.cells = mc ∧ rm.slots = ms ∧ rm.frames + 1 ≤ R.frames ∧ 8 + (maxL + 11) + rm.locals ≤ R.locals ∧ (∀ w ∈ ws, ∀ (a' : Array Value) (U : State), s.WarmedH U.vm → w.before a' U = true) ∧ Cond.codeWith y bytes maxL ret hh ∈ ws) ∧
  (Cond.codeWith y bytes maxL ret hh).before args s = true ∧ (Cond.initialized y.cls).before args s = true ∧ (y.cls ≠ "java/lang/invoke/MethodHandle" ∧ y.cls ≠ "java/lang/invoke/VarHandle") ∧
  (∀ sig, parseMethodDescriptor y.desc = some sig → n = sig.parameters.length) ∧ (Cond.methodLink own index y).before args s = true ∧ (Cond.instanceMethod y).before args s = true ∧ (Cond.selects C y y).before args s = true
theorem vx_cwVW {own C : String} {index maxL mc ms : Nat} {y : MethodName} {bytes : ByteArray} {ret : Option FieldType} {hh : List (Nat × Nat × Nat × Nat)} {Ts ws ws' : List Cond} {rm : Room} (n : Nat) (ht : ∀ w ∈ Ts, w.before args s = true) (hT : GoodIn Ts (wsV own index C y ws)) (hw : ws = Cond.codeWith y bytes maxL ret hh :: ws') (hrc : rm.cells = mc) (hrs : rm.slots = ms)
    (hd : y.cls = C ∧ y.cls ≠ "java/lang/invoke/MethodHandle" ∧ y.cls ≠ "java/lang/invoke/VarHandle" ∧ (parseMethodDescriptor y.desc).map (fun d => d.parameters.length) = some n) (hR : rm.frames + 1 ≤ R.frames ∧ 8 + (maxL + 11) + rm.locals ≤ R.locals) :
    vx_CVW R s args own C index y bytes maxL ret hh ws rm mc ms n := by
  obtain ⟨hC, hd⟩ := hd
  subst hC
  have ok : ∀ w ∈ wsV own index y.cls y ws, w.before args s = true := fun w h => ht w (hT w h).1
  have hG : GoodIn Ts ws := fun w h => hT w (by unfold wsV; exact List.mem_append_right _ h)
  have hc : Cond.codeWith y bytes maxL ret hh ∈ ws := by rw [hw]; exact List.mem_cons_self
  refine ⟨⟨hrc, hrs, hR.1, hR.2, pay_in ht hG, hc⟩, ht _ (hG _ hc).1, ok _ (by simp [wsV]), ⟨hd.1, hd.2.1⟩, fun sig h => ?_, ok _ (by simp [wsV]), ok _ (by simp [wsV]), ok _ (by simp [wsV])⟩
  have h2 := hd.2.2
  rw [h] at h2
  exact (Option.some.inj h2).symm
theorem vx_runVW {y : MethodName} {bytes cc : ByteArray} {maxL nL mc ms n index : Nat} {ret : Option FieldType} {hh : List (Nat × Nat × Nat × Nat)} {ws : List Cond} {rm : Room} {Pc : Array Value → State → Prop} {Qc : Array Value → State → Outcome → State → Prop} {free : Addr → Prop} {Ts : List Cond} {own C : String} {b : Addr} {As rest : List Value} {g : JFrame}
    (S : CallFix p m c cc nL s args Ts own) (hM : Met l y ws rm Pc Qc mc ms free) (cw : vx_CVW R s args own C index y bytes maxL ret hh ws rm mc ms n) (hp : PreV s H C b Pc As)
    (hg : g.method = m) (hn : As.length = n) (hsize : g.locals.size = nL) (hstack : g.stack = As.reverse ++ .ref b :: rest) (hW : 2 * g.monitorRoom + (rest.map fun v => v.category).sum ≤ 8) (hdg : decode cc g.pc = .ok (.invokevirtual index, 3)) (hf : cells + mc ≤ R.cells ∧ slots + ms ≤ R.slots) :
    va_Run p l e R s m args below meth c H locs cells slots mc ms g rest (Qc (Value.ref b :: As).toArray) free := by
  obtain ⟨⟨hrc, hrs, hfr, hlo, hws, hcw⟩, hcode, hini, hy, hlen, hl, hin, hse⟩ := cw
  have hK : Back l R p e below s args y 3 8 (PreOf R mc ms Pc) (PostOf Qc mc ms free) := va_backW (hh := hh) (bytes := bytes) (maxL := maxL) (ret := ret) hM hp.1 hrc hrs hfr hlo hws hcw (fun a' U hW => word_at hW (Or.inl (by first | rfl | simp [Cond.onTables, Cond.keeps, Cond.steady])) hini)
  obtain ⟨hx, hb, hml, ho, -⟩ := S
  obtain ⟨-, ⟨cellB, hcB, hoB, hclB⟩, hPc⟩ := hp
  intro T hT X
  obtain ⟨v, vm₁, ⟨U', l2, c2, s2⟩, hW₁, X', ⟨g', mk, t, L, e1, e2, hq, h1, hL, h2, h3⟩, st⟩ := vx_callVW X hx (C := C) (hh := hh) (bytes := bytes) (maxL := maxL) (ret := ret) ho hl hin hse hcode hy hK (by rw [hT]; exact hcB) hoB hclB hg (hsize.trans hml.symm) (argsL := As) (rest := rest) (fun sig h => hn.trans (hlen sig h)) hstack hW (by rw [hb]; exact hdg)
    (fun vm₁ hW₁ => ⟨hf.1, hf.2, hPc (T.setVm vm₁) hT hW₁⟩)
  dsimp only [Pt.U, Pt.locs, Pt.cells, Pt.slots] at X' e1 e2 h1 h2 h3 st
  subst h1; subst h2; subst h3
  exact ⟨v, (T.setVm vm₁).calling g' mk (Value.ref b :: As).toArray, t, U', L, hT, X', hL, e1, e2, hq, st⟩
section
variable {y : MethodName} {bytes cc : ByteArray} {maxL nL mc ms n index : Nat} {ret : Option FieldType} {ws : List Cond} {rm : Room} {Pc : Array Value → State → Prop} {Qc : Array Value → State → Outcome → State → Prop} {XC : String → State → State → Prop} {free : Addr → Prop} {Ts : List Cond} {own C : String} {b : Addr} {As rest : List Value} {g : JFrame}
theorem vx_runVX {hh : List (Nat × Nat × Nat × Nat)} (S : CallFix p m c cc nL s args Ts own) (hM : vx_Met l y ws rm Pc Qc XC mc ms free) (cw : vx_CVW R s args own C index y bytes maxL ret hh ws rm mc ms n) (hp : PreV s H C b Pc As)
    (hg : g.method = m) (hn : As.length = n) (hsize : g.locals.size = nL) (hstack : g.stack = As.reverse ++ .ref b :: rest) (hW : 2 * g.monitorRoom + (rest.map fun v => v.category).sum ≤ 8) (hdg : decode cc g.pc = .ok (.invokevirtual index, 3)) (hf : cells + mc ≤ R.cells ∧ slots + ms ≤ R.slots) :
    vx_Run p l e R s m args below meth c H locs cells slots mc ms g rest (Qc (Value.ref b :: As).toArray) XC free := by
  obtain ⟨⟨hrc, hrs, hfr, hlo, hws, hcw⟩, hcode, hini, hy, hlen, hl, hin, hse⟩ := cw
  have hK : vx_Back l R p e below s args y 3 8 (PreOf R mc ms Pc) (PostOf Qc mc ms free) (vx_Post XC mc ms free) := vx_backW (hh := hh) (bytes := bytes) (maxL := maxL) (ret := ret) hM hp.1 hrc hrs hfr hlo hws hcw (fun a' U hW => word_at hW (Or.inl (by first | rfl | simp [Cond.onTables, Cond.keeps, Cond.steady])) hini)
  obtain ⟨hx, hb, hml, ho, -⟩ := S
  obtain ⟨-, ⟨cellB, hcB, hoB, hclB⟩, hPc⟩ := hp
  intro T hT X
  rcases vx_callVX X hx (C := C) (hh := hh) (bytes := bytes) (maxL := maxL) (ret := ret) ho hl hin hse hcode hy hK (by rw [hT]; exact hcB) hoB hclB hg (hsize.trans hml.symm) (argsL := As) (rest := rest) (fun sig h => hn.trans (hlen sig h)) hstack hW (by rw [hb]; exact hdg)
    (fun vm₁ hW₁ => ⟨hf.1, hf.2, hPc (T.setVm vm₁) hT hW₁⟩) with ⟨v, vm₁, ⟨U', l2, c2, s2⟩, hW₁, X', ⟨g', mk, t, L, e1, e2, hq, h1, hL, h2, h3⟩, st⟩ | ⟨q, vm₁, ⟨U', l2, c2, s2⟩, hW₁, X', ⟨g', mk, t, L, E, ce, e1, e2, hq, hce, hcv, hcl, h1, hL, h2, h3⟩, st⟩
  · dsimp only [Pt.U, Pt.locs, Pt.cells, Pt.slots] at X' e1 e2 h1 h2 h3 st
    subst h1; subst h2; subst h3
    exact Or.inl ⟨v, (T.setVm vm₁).calling g' mk (Value.ref b :: As).toArray, t, U', L, hT, X', hL, e1, e2, hq, st⟩
  · dsimp only [Pt.U, Pt.locs, Pt.cells, Pt.slots] at X' e1 e2 h1 h2 h3 st hcl
    subst h1; subst h2; subst h3
    exact Or.inr ⟨q, (T.setVm vm₁).calling g' mk (Value.ref b :: As).toArray, t, U', L, E, ce, hT, X', hL, e1, e2, hq, hce, hcv, vx_cls hW₁ hcl, st⟩
theorem vx_runSX {hh : List (Nat × Nat × Nat × Nat)} (S : CallFix p m c cc nL s args Ts own) (hM : vx_Met l y ws rm Pc Qc XC mc ms free) (cw : vx_CSW R s args own index y bytes maxL ret hh ws rm mc ms n) (hp : PreS s H Pc As)
    (hg : g.method = m) (hn : As.length = n) (hsize : g.locals.size = nL) (hstack : g.stack = As.reverse ++ rest) (hW : 2 * g.monitorRoom + (rest.map fun v => v.category).sum ≤ 8) (hdg : decode cc g.pc = .ok (.invokestatic index, 3)) (hf : cells + mc ≤ R.cells ∧ slots + ms ≤ R.slots) :
    vx_Run p l e R s m args below meth c H locs cells slots mc ms g rest (Qc As.toArray) XC free := by
  obtain ⟨⟨hrc, hrs, hfr, hlo, hws, hcw⟩, hcode, hini, hy, hlen, hl, hstt⟩ := cw
  have hK : vx_Back l R p e below s args y 3 8 (PreOf R mc ms Pc) (PostOf Qc mc ms free) (vx_Post XC mc ms free) := vx_backW (hh := hh) (bytes := bytes) (maxL := maxL) (ret := ret) hM hp.1 hrc hrs hfr hlo hws hcw (fun a' U hW => word_at hW (Or.inl (by first | rfl | simp [Cond.onTables, Cond.keeps, Cond.steady])) hini)
  obtain ⟨hx, hb, hml, ho, -⟩ := S
  intro T hT X
  rcases vx_callSX X hx (hh := hh) (bytes := bytes) (maxL := maxL) (ret := ret) ho hl hstt hini hcode hy hK hg (hsize.trans hml.symm) (argsL := As) (rest := rest) (fun sig h => hn.trans (hlen sig h)) hstack hW (by rw [hb]; exact hdg)
    (fun vm₁ hW₁ => ⟨hf.1, hf.2, hp.2 (T.setVm vm₁) hT hW₁⟩) with ⟨v, vm₁, ⟨U', l2, c2, s2⟩, hW₁, X', ⟨g', mk, t, L, e1, e2, hq, h1, hL, h2, h3⟩, st⟩ | ⟨q, vm₁, ⟨U', l2, c2, s2⟩, hW₁, X', ⟨g', mk, t, L, E, ce, e1, e2, hq, hce, hcv, hcl, h1, hL, h2, h3⟩, st⟩
  · dsimp only [Pt.U, Pt.locs, Pt.cells, Pt.slots] at X' e1 e2 h1 h2 h3 st
    subst h1; subst h2; subst h3
    exact Or.inl ⟨v, (T.setVm vm₁).calling g' mk As.toArray, t, U', L, hT, X', hL, e1, e2, hq, st⟩
  · dsimp only [Pt.U, Pt.locs, Pt.cells, Pt.slots] at X' e1 e2 h1 h2 h3 st hcl
    subst h1; subst h2; subst h3
    exact Or.inr ⟨q, (T.setVm vm₁).calling g' mk As.toArray, t, U', L, E, ce, hT, X', hL, e1, e2, hq, hce, hcv, vx_cls hW₁ hcl, st⟩
end
end VXH
theorem vx_ofWH {l : Launch} {y : MethodName} {ws ws' : List Cond} {rm : Room} {Pc : Array Value → State → Prop} {Qc : Array Value → State → Outcome → State → Prop} {XC : String → State → State → Prop} {mc ms : Nat} {free : Addr → Prop} {cc : ByteArray} {maxL : Nat} {ret : Option FieldType} {hh : List (Nat × Nat × Nat × Nat)}
    (hy : plainName y.cls = true) (hw : ws = Cond.codeWith y cc maxL ret hh :: ws')
    (body : ∀ p e s m args below meth c s₁, BodyLoose p l y (headSpec ws rm) cc maxL ret e s m args below meth c s₁ → c.maxLocals = maxL → Pc args s →
      W p l e (headSpec ws rm).room s m args below meth c s.heap [] 0 0 (vx_MQ below Qc XC args s mc ms free) (entryFrame m args maxL)) : vx_Met l y ws rm Pc Qc XC mc ms free := by
  refine MetFree.of_bodyS (code := cc) (maxLocals := maxL) (ret := ret) hy ?_ ?_
  · intro args s m h hn
    obtain ⟨m9, meth, c, hn9, h1, h2, h3, h4, -, h5, h6, -⟩ := Cond.codeWith_spec (atoms_spec (ws := ws) h _ (by rw [hw]; exact List.mem_cons_self))
    cases hn.symm.trans hn9
    exact ⟨meth, c, h1, h2, h3, h4, h5, h6⟩
  · intro p e s m args below meth c s₁ B hml hP _
    have hh0 : s₁.heap = s.heap := by rw [B.state]; rfl
    obtain ⟨t, a1, o, b1, b2, b3⟩ := body p e s m args below meth c s₁ B hml hP s₁ hh0 (Stand.of_body B)
    exact ⟨t, o, a1, b1, b2, b3⟩
/-! ===== END ===== -/
end
section
/-! ===== BEGIN printed: names, fields, word lists, decode rows ===== -/
def RX0 : String := "BlockCache$Cache"
def TX0 : u_T := fun k => match k with
  | 0 => ("BlockCache$Cache", "code", "[I", true)
  | 1 => ("BlockCache$Cache", "length", "[I", true)
  | 2 => ("BlockCache$Cache", "behind", "[I", true)
  | 3 => ("BlockCache$Cache", "size", "[I", true)
  | 4 => ("BlockCache$Cache", "serial", "[I", true)
  | 5 => ("BlockCache$Cache", "exitPlace", "[I", true)
  | 6 => ("BlockCache$Cache", "linkedSerial", "[I", true)
  | 7 => ("BlockCache$Cache", "limit", "I", false)
  | 8 => ("BlockCache$Cache", "blocks", "I", false)
  | 9 => ("BlockCache$Cache", "filled", "I", false)
  | 10 => ("BlockCache$Cache", "translated", "I", false)
  | 11 => ("BlockCache$Cache", "flushes", "I", false)
  | _ => ("BlockCache$Cache", "deadFlags", "I", false)
def tyX0 : Nat → FieldType := fun k => match k with
  | 0 => .array .int
  | 1 => .array .int
  | 2 => .array .int
  | 3 => .array .int
  | 4 => .array .int
  | 5 => .array .int
  | 6 => .array .int
  | 7 => .int
  | 8 => .int
  | 9 => .int
  | 10 => .int
  | 11 => .int
  | _ => .int
abbrev wsX00 : List Cond := u_ws RX0 TX0 13
theorem nmX0 : ∀ a, a < 13 → ∀ b, b < 13 → a ≠ b → (TX0 a).2.1 ≠ (TX0 b).2.1 := by decide +kernel
theorem tyX0_ok : ∀ k, k < 13 → parseFieldDescriptor (TX0 k).2.2.1 = some (tyX0 k) := by decide +kernel
abbrev cX0_init : ByteArray := prog_2_method_1_code
def yX0_init : MethodName := ⟨RX0, "<init>", "()V"⟩
abbrev cX0_has : ByteArray := prog_2_method_2_code
def yX0_has : MethodName := ⟨RX0, "has", "(I)Z"⟩
abbrev cX0_wordAt : ByteArray := prog_2_method_3_code
def yX0_wordAt : MethodName := ⟨RX0, "wordAt", "(II)I"⟩
abbrev cX0_translate : ByteArray := prog_2_method_4_code
def yX0_translate : MethodName := ⟨RX0, "translate", "([II)Z"⟩
abbrev cX0_decodeBlock : ByteArray := prog_2_method_5_code
def yX0_decodeBlock : MethodName := ⟨RX0, "decodeBlock", "([II)V"⟩
abbrev cX0_markDead : ByteArray := prog_2_method_6_code
def yX0_markDead : MethodName := ⟨RX0, "markDead", "(I)I"⟩
abbrev cX0_sizeOf : ByteArray := prog_2_method_7_code
def yX0_sizeOf : MethodName := ⟨RX0, "sizeOf", "(I)I"⟩
abbrev cX0_lastKind : ByteArray := prog_2_method_8_code
def yX0_lastKind : MethodName := ⟨RX0, "lastKind", "(I)I"⟩
abbrev cX0_layExits : ByteArray := prog_2_method_9_code
def yX0_layExits : MethodName := ⟨RX0, "layExits", "(I)V"⟩
abbrev cX0_exitTo : ByteArray := prog_2_method_10_code
def yX0_exitTo : MethodName := ⟨RX0, "exitTo", "(II)I"⟩
abbrev cX0_isLinked : ByteArray := prog_2_method_11_code
def yX0_isLinked : MethodName := ⟨RX0, "isLinked", "(II)Z"⟩
abbrev cX0_link : ByteArray := prog_2_method_12_code
def yX0_link : MethodName := ⟨RX0, "link", "(II)V"⟩
abbrev cX0_dropPage : ByteArray := prog_2_method_13_code
def yX0_dropPage : MethodName := ⟨RX0, "dropPage", "(I)I"⟩
abbrev cX0_reaches : ByteArray := prog_2_method_14_code
def yX0_reaches : MethodName := ⟨RX0, "reaches", "(II)Z"⟩
abbrev cX0_empty : ByteArray := prog_2_method_15_code
def yX0_empty : MethodName := ⟨RX0, "empty", "()V"⟩
def RX1 : String := "BlockCache$Code"
def TX1 : u_T := fun k => match k with
  | _ => ("", "", "", false)
def tyX1 : Nat → FieldType := fun k => match k with
  | _ => .int
abbrev wsX10 : List Cond := u_ws RX1 TX1 0
theorem nmX1 : ∀ a, a < 0 → ∀ b, b < 0 → a ≠ b → (TX1 a).2.1 ≠ (TX1 b).2.1 := by decide +kernel
theorem tyX1_ok : ∀ k, k < 0 → parseFieldDescriptor (TX1 k).2.2.1 = some (tyX1 k) := by decide +kernel
abbrev cX1_decode : ByteArray := prog_3_method_2_code
def yX1_decode : MethodName := ⟨RX1, "decode", "([II)I"⟩
abbrev cX1_kindOf : ByteArray := prog_3_method_3_code
def yX1_kindOf : MethodName := ⟨RX1, "kindOf", "(I)I"⟩
abbrev cX1_kind : ByteArray := prog_3_method_4_code
def yX1_kind : MethodName := ⟨RX1, "kind", "(I)I"⟩
abbrev cX1_w : ByteArray := prog_3_method_5_code
def yX1_w : MethodName := ⟨RX1, "w", "(I)I"⟩
abbrev cX1_d : ByteArray := prog_3_method_6_code
def yX1_d : MethodName := ⟨RX1, "d", "(I)I"⟩
abbrev cX1_s : ByteArray := prog_3_method_7_code
def yX1_s : MethodName := ⟨RX1, "s", "(I)I"⟩
abbrev cX1_n : ByteArray := prog_3_method_8_code
def yX1_n : MethodName := ⟨RX1, "n", "(I)I"⟩
abbrev cX1_isDead : ByteArray := prog_3_method_9_code
def yX1_isDead : MethodName := ⟨RX1, "isDead", "(I)Z"⟩
abbrev cX1_asDead : ByteArray := prog_3_method_10_code
def yX1_asDead : MethodName := ⟨RX1, "asDead", "(I)I"⟩
abbrev cX1_bytes : ByteArray := prog_3_method_11_code
def yX1_bytes : MethodName := ⟨RX1, "bytes", "(I)I"⟩
abbrev cX1_endsBlock : ByteArray := prog_3_method_12_code
def yX1_endsBlock : MethodName := ⟨RX1, "endsBlock", "(I)Z"⟩
abbrev cX1_leavesByItself : ByteArray := prog_3_method_13_code
def yX1_leavesByItself : MethodName := ⟨RX1, "leavesByItself", "(I)Z"⟩
abbrev cX1_makesFlags : ByteArray := prog_3_method_14_code
def yX1_makesFlags : MethodName := ⟨RX1, "makesFlags", "(I)Z"⟩
abbrev cX1_onlyCompares : ByteArray := prog_3_method_15_code
def yX1_onlyCompares : MethodName := ⟨RX1, "onlyCompares", "(I)Z"⟩
abbrev cX1_needsFlags : ByteArray := prog_3_method_16_code
def yX1_needsFlags : MethodName := ⟨RX1, "needsFlags", "(I)Z"⟩
abbrev cX1_size : ByteArray := prog_3_method_17_code
def yX1_size : MethodName := ⟨RX1, "size", "(I)I"⟩
abbrev cX1_sizeWithoutFlags : ByteArray := prog_3_method_18_code
def yX1_sizeWithoutFlags : MethodName := ⟨RX1, "sizeWithoutFlags", "(I)I"⟩
def RX2 : String := "BlockCache$Guest"
def TX2 : u_T := fun k => match k with
  | 0 => ("BlockCache$Guest", "state", "[I", true)
  | 1 => ("BlockCache$Guest", "memory", "[I", true)
  | 2 => ("BlockCache$Guest", "inputs", "LBlockCache$Queue;", true)
  | 3 => ("BlockCache$Guest", "outputs", "[I", true)
  | 4 => ("BlockCache$Guest", "given", "I", false)
  | _ => ("BlockCache$Guest", "written", "I", false)
def tyX2 : Nat → FieldType := fun k => match k with
  | 0 => .array .int
  | 1 => .array .int
  | 2 => .object "BlockCache$Queue"
  | 3 => .array .int
  | 4 => .int
  | _ => .int
abbrev wsX20 : List Cond := u_ws RX2 TX2 6
theorem nmX2 : ∀ a, a < 6 → ∀ b, b < 6 → a ≠ b → (TX2 a).2.1 ≠ (TX2 b).2.1 := by decide +kernel
theorem tyX2_ok : ∀ k, k < 6 → parseFieldDescriptor (TX2 k).2.2.1 = some (tyX2 k) := by decide +kernel
abbrev cX2_init : ByteArray := prog_4_method_1_code
def yX2_init : MethodName := ⟨RX2, "<init>", "()V"⟩
abbrev cX2_outputAt : ByteArray := prog_4_method_2_code
def yX2_outputAt : MethodName := ⟨RX2, "outputAt", "(I)I"⟩
abbrev cX2_interrupt : ByteArray := prog_4_method_3_code
def yX2_interrupt : MethodName := ⟨RX2, "interrupt", "()V"⟩
abbrev cX2_execute : ByteArray := prog_4_method_4_code
def yX2_execute : MethodName := ⟨RX2, "execute", "(I)V"⟩
abbrev cX2_calculate : ByteArray := prog_4_method_5_code
def yX2_calculate : MethodName := ⟨RX2, "calculate", "(II)V"⟩
abbrev cX2_resultWithCarry : ByteArray := prog_4_method_6_code
def yX2_resultWithCarry : MethodName := ⟨RX2, "resultWithCarry", "(III)I"⟩
abbrev cX2_makeFlags : ByteArray := prog_4_method_7_code
def yX2_makeFlags : MethodName := ⟨RX2, "makeFlags", "(I)V"⟩
abbrev cX2_steer : ByteArray := prog_4_method_8_code
def yX2_steer : MethodName := ⟨RX2, "steer", "(II)V"⟩
abbrev cX2_jumpIf : ByteArray := prog_4_method_9_code
def yX2_jumpIf : MethodName := ⟨RX2, "jumpIf", "(II)V"⟩
abbrev cX2_countDown : ByteArray := prog_4_method_10_code
def yX2_countDown : MethodName := ⟨RX2, "countDown", "(II)V"⟩
abbrev cX2_move : ByteArray := prog_4_method_11_code
def yX2_move : MethodName := ⟨RX2, "move", "(II)V"⟩
abbrev cX2_give : ByteArray := prog_4_method_12_code
def yX2_give : MethodName := ⟨RX2, "give", "(I)V"⟩
abbrev cX2_push : ByteArray := prog_4_method_13_code
def yX2_push : MethodName := ⟨RX2, "push", "(I)V"⟩
abbrev cX2_pop : ByteArray := prog_4_method_14_code
def yX2_pop : MethodName := ⟨RX2, "pop", "()I"⟩
abbrev cX2_write : ByteArray := prog_4_method_15_code
def yX2_write : MethodName := ⟨RX2, "write", "(II)V"⟩
def RX3 : String := "BlockCache$Queue"
def TX3 : u_T := fun k => match k with
  | 0 => ("BlockCache$Queue", "ring", "[I", true)
  | 1 => ("BlockCache$Queue", "start", "I", false)
  | _ => ("BlockCache$Queue", "many", "I", false)
def tyX3 : Nat → FieldType := fun k => match k with
  | 0 => .array .int
  | 1 => .int
  | _ => .int
abbrev wsX30 : List Cond := u_ws RX3 TX3 3
theorem nmX3 : ∀ a, a < 3 → ∀ b, b < 3 → a ≠ b → (TX3 a).2.1 ≠ (TX3 b).2.1 := by decide +kernel
theorem tyX3_ok : ∀ k, k < 3 → parseFieldDescriptor (TX3 k).2.2.1 = some (tyX3 k) := by decide +kernel
abbrev cX3_init : ByteArray := prog_5_method_1_code
def yX3_init : MethodName := ⟨RX3, "<init>", "(I)V"⟩
abbrev cX3_isFull : ByteArray := prog_5_method_2_code
def yX3_isFull : MethodName := ⟨RX3, "isFull", "()Z"⟩
abbrev cX3_at : ByteArray := prog_5_method_3_code
def yX3_at : MethodName := ⟨RX3, "at", "(I)I"⟩
abbrev cX3_first : ByteArray := prog_5_method_4_code
def yX3_first : MethodName := ⟨RX3, "first", "()I"⟩
abbrev cX3_append : ByteArray := prog_5_method_5_code
def yX3_append : MethodName := ⟨RX3, "append", "(I)V"⟩
abbrev cX3_takeFirst : ByteArray := prog_5_method_6_code
def yX3_takeFirst : MethodName := ⟨RX3, "takeFirst", "()I"⟩
abbrev cX3_wrapped : ByteArray := prog_5_method_7_code
def yX3_wrapped : MethodName := ⟨RX3, "wrapped", "(I)I"⟩
def RX4 : String := "BlockCache"
def TX4 : u_T := fun k => match k with
  | 0 => ("BlockCache", "guest", "LBlockCache$Guest;", true)
  | 1 => ("BlockCache", "cache", "LBlockCache$Cache;", true)
  | 2 => ("BlockCache", "requests", "LBlockCache$Queue;", true)
  | 3 => ("BlockCache", "latestRequest", "I", false)
  | 4 => ("BlockCache", "executed", "I", false)
  | 5 => ("BlockCache", "invalidated", "I", false)
  | 6 => ("BlockCache", "lookups", "I", false)
  | 7 => ("BlockCache", "interpreted", "I", false)
  | 8 => ("BlockCache", "interrupts", "I", false)
  | 9 => ("BlockCache", "ending", "I", false)
  | _ => ("BlockCache", "exit", "I", false)
def tyX4 : Nat → FieldType := fun k => match k with
  | 0 => .object "BlockCache$Guest"
  | 1 => .object "BlockCache$Cache"
  | 2 => .object "BlockCache$Queue"
  | 3 => .int
  | 4 => .int
  | 5 => .int
  | 6 => .int
  | 7 => .int
  | 8 => .int
  | 9 => .int
  | _ => .int
abbrev wsX40 : List Cond := u_ws RX4 TX4 11
theorem nmX4 : ∀ a, a < 11 → ∀ b, b < 11 → a ≠ b → (TX4 a).2.1 ≠ (TX4 b).2.1 := by decide +kernel
theorem tyX4_ok : ∀ k, k < 11 → parseFieldDescriptor (TX4 k).2.2.1 = some (tyX4 k) := by decide +kernel
abbrev cX4_init : ByteArray := prog_1_method_1_code
def yX4_init : MethodName := ⟨RX4, "<init>", "()V"⟩
abbrev cX4_poke : ByteArray := prog_1_method_2_code
def yX4_poke : MethodName := ⟨RX4, "poke", "(III)V"⟩
abbrev cX4_peek : ByteArray := prog_1_method_3_code
def yX4_peek : MethodName := ⟨RX4, "peek", "(I)I"⟩
abbrev cX4_set : ByteArray := prog_1_method_4_code
def yX4_set : MethodName := ⟨RX4, "set", "(II)V"⟩
abbrev cX4_get : ByteArray := prog_1_method_5_code
def yX4_get : MethodName := ⟨RX4, "get", "(I)I"⟩
abbrev cX4_input : ByteArray := prog_1_method_6_code
def yX4_input : MethodName := ⟨RX4, "input", "(I)I"⟩
abbrev cX4_request : ByteArray := prog_1_method_7_code
def yX4_request : MethodName := ⟨RX4, "request", "(I)I"⟩
abbrev cX4_room : ByteArray := prog_1_method_8_code
def yX4_room : MethodName := ⟨RX4, "room", "(I)V"⟩
abbrev cX4_run : ByteArray := prog_1_method_9_code
def yX4_run : MethodName := ⟨RX4, "run", "(I)I"⟩
abbrev cX4_output : ByteArray := prog_1_method_10_code
def yX4_output : MethodName := ⟨RX4, "output", "(I)I"⟩
abbrev cX4_count : ByteArray := prog_1_method_11_code
def yX4_count : MethodName := ⟨RX4, "count", "(I)I"⟩
abbrev cX4_isByte : ByteArray := prog_1_method_12_code
def yX4_isByte : MethodName := ⟨RX4, "isByte", "(I)Z"⟩
abbrev cX4_isState : ByteArray := prog_1_method_13_code
def yX4_isState : MethodName := ⟨RX4, "isState", "(I)Z"⟩
abbrev cX4_isOneBit : ByteArray := prog_1_method_14_code
def yX4_isOneBit : MethodName := ⟨RX4, "isOneBit", "(I)Z"⟩
abbrev cX4_takeTurn : ByteArray := prog_1_method_15_code
def yX4_takeTurn : MethodName := ⟨RX4, "takeTurn", "(I)V"⟩
abbrev cX4_interruptIfDue : ByteArray := prog_1_method_16_code
def yX4_interruptIfDue : MethodName := ⟨RX4, "interruptIfDue", "()V"⟩
abbrev cX4_findBlock : ByteArray := prog_1_method_17_code
def yX4_findBlock : MethodName := ⟨RX4, "findBlock", "(I)Z"⟩
abbrev cX4_mayRunWhole : ByteArray := prog_1_method_18_code
def yX4_mayRunWhole : MethodName := ⟨RX4, "mayRunWhole", "(II)Z"⟩
abbrev cX4_requestComes : ByteArray := prog_1_method_19_code
def yX4_requestComes : MethodName := ⟨RX4, "requestComes", "(I)Z"⟩
abbrev cX4_runBlock : ByteArray := prog_1_method_20_code
def yX4_runBlock : MethodName := ⟨RX4, "runBlock", "(I)V"⟩
abbrev cX4_interpret : ByteArray := prog_1_method_21_code
def yX4_interpret : MethodName := ⟨RX4, "interpret", "(I)V"⟩
abbrev cX4_perform : ByteArray := prog_1_method_22_code
def yX4_perform : MethodName := ⟨RX4, "perform", "(I)V"⟩
abbrev cX4_dropWritten : ByteArray := prog_1_method_23_code
def yX4_dropWritten : MethodName := ⟨RX4, "dropWritten", "()V"⟩
def RX5 : String := "BlockCacheModel"
def TX5 : u_T := fun k => match k with
  | 0 => ("BlockCacheModel", "refusal", "I", false)
  | 1 => ("BlockCacheModel", "memory", "[I", true)
  | 2 => ("BlockCacheModel", "reg", "[I", true)
  | 3 => ("BlockCacheModel", "inputs", "[I", true)
  | 4 => ("BlockCacheModel", "inputMany", "I", false)
  | 5 => ("BlockCacheModel", "requests", "[I", true)
  | 6 => ("BlockCacheModel", "requestMany", "I", false)
  | 7 => ("BlockCacheModel", "lastRequest", "I", false)
  | 8 => ("BlockCacheModel", "given", "[I", true)
  | 9 => ("BlockCacheModel", "size", "[I", true)
  | 10 => ("BlockCacheModel", "length", "[I", true)
  | 11 => ("BlockCacheModel", "pages", "[I", true)
  | 12 => ("BlockCacheModel", "which", "[I", true)
  | 13 => ("BlockCacheModel", "exitAt", "[I", true)
  | 14 => ("BlockCacheModel", "exitTo", "[I", true)
  | 15 => ("BlockCacheModel", "room", "I", false)
  | 16 => ("BlockCacheModel", "translated", "I", false)
  | 17 => ("BlockCacheModel", "counts", "[I", true)
  | 18 => ("BlockCacheModel", "kind", "I", false)
  | 19 => ("BlockCacheModel", "bytes", "I", false)
  | 20 => ("BlockCacheModel", "foundMany", "I", false)
  | 21 => ("BlockCacheModel", "foundSize", "I", false)
  | 22 => ("BlockCacheModel", "foundPages", "I", false)
  | 23 => ("BlockCacheModel", "foundDead", "I", false)
  | 24 => ("BlockCacheModel", "kinds", "[I", true)
  | 25 => ("BlockCacheModel", "leftBy", "I", false)
  | _ => ("BlockCacheModel", "isOver", "Z", false)
def tyX5 : Nat → FieldType := fun k => match k with
  | 0 => .int
  | 1 => .array .int
  | 2 => .array .int
  | 3 => .array .int
  | 4 => .int
  | 5 => .array .int
  | 6 => .int
  | 7 => .int
  | 8 => .array .int
  | 9 => .array .int
  | 10 => .array .int
  | 11 => .array .int
  | 12 => .array .int
  | 13 => .array .int
  | 14 => .array .int
  | 15 => .int
  | 16 => .int
  | 17 => .array .int
  | 18 => .int
  | 19 => .int
  | 20 => .int
  | 21 => .int
  | 22 => .int
  | 23 => .int
  | 24 => .array .int
  | 25 => .int
  | _ => .boolean
abbrev wsX50 : List Cond := u_ws RX5 TX5 27
theorem nmX5 : ∀ a, a < 27 → ∀ b, b < 27 → a ≠ b → (TX5 a).2.1 ≠ (TX5 b).2.1 := by decide +kernel
theorem tyX5_ok : ∀ k, k < 27 → parseFieldDescriptor (TX5 k).2.2.1 = some (tyX5 k) := by decide +kernel
abbrev cX5_init : ByteArray := prog_7_method_1_code
def yX5_init : MethodName := ⟨RX5, "<init>", "()V"⟩
abbrev cX5_thrown : ByteArray := prog_7_method_2_code
def yX5_thrown : MethodName := ⟨RX5, "thrown", "()I"⟩
abbrev cX5_refused : ByteArray := prog_7_method_3_code
def yX5_refused : MethodName := ⟨RX5, "refused", "(I)Z"⟩
abbrev cX5_isIn : ByteArray := prog_7_method_4_code
def yX5_isIn : MethodName := ⟨RX5, "isIn", "(III)Z"⟩
abbrev cX5_kindOf : ByteArray := prog_7_method_5_code
def yX5_kindOf : MethodName := ⟨RX5, "kindOf", "(I)I"⟩
abbrev cX5_look : ByteArray := prog_7_method_6_code
def yX5_look : MethodName := ⟨RX5, "look", "(I)V"⟩
abbrev cX5_makes : ByteArray := prog_7_method_7_code
def yX5_makes : MethodName := ⟨RX5, "makes", "(I)Z"⟩
abbrev cX5_ends : ByteArray := prog_7_method_8_code
def yX5_ends : MethodName := ⟨RX5, "ends", "(I)Z"⟩
abbrev cX5_isAlways : ByteArray := prog_7_method_9_code
def yX5_isAlways : MethodName := ⟨RX5, "isAlways", "(I)Z"⟩
abbrev cX5_reads : ByteArray := prog_7_method_10_code
def yX5_reads : MethodName := ⟨RX5, "reads", "(II)Z"⟩
abbrev cX5_sizeOf : ByteArray := prog_7_method_11_code
def yX5_sizeOf : MethodName := ⟨RX5, "sizeOf", "(I)I"⟩
abbrev cX5_find : ByteArray := prog_7_method_12_code
def yX5_find : MethodName := ⟨RX5, "find", "(I)V"⟩
abbrev cX5_remove : ByteArray := prog_7_method_13_code
def yX5_remove : MethodName := ⟨RX5, "remove", "(I)V"⟩
abbrev cX5_empty : ByteArray := prog_7_method_14_code
def yX5_empty : MethodName := ⟨RX5, "empty", "()V"⟩
abbrev cX5_invalidate : ByteArray := prog_7_method_15_code
def yX5_invalidate : MethodName := ⟨RX5, "invalidate", "(I)I"⟩
abbrev cX5_write : ByteArray := prog_7_method_16_code
def yX5_write : MethodName := ⟨RX5, "write", "(II)V"⟩
abbrev cX5_hasBlock : ByteArray := prog_7_method_17_code
def yX5_hasBlock : MethodName := ⟨RX5, "hasBlock", "(I)Z"⟩
abbrev cX5_setFlags : ByteArray := prog_7_method_18_code
def yX5_setFlags : MethodName := ⟨RX5, "setFlags", "(II)V"⟩
abbrev cX5_push : ByteArray := prog_7_method_19_code
def yX5_push : MethodName := ⟨RX5, "push", "(I)V"⟩
abbrev cX5_pop : ByteArray := prog_7_method_20_code
def yX5_pop : MethodName := ⟨RX5, "pop", "()I"⟩
abbrev cX5_goes : ByteArray := prog_7_method_21_code
def yX5_goes : MethodName := ⟨RX5, "goes", "(I)Z"⟩
abbrev cX5_add : ByteArray := prog_7_method_22_code
def yX5_add : MethodName := ⟨RX5, "add", "(III)V"⟩
abbrev cX5_less : ByteArray := prog_7_method_23_code
def yX5_less : MethodName := ⟨RX5, "less", "(II)I"⟩
abbrev cX5_shift : ByteArray := prog_7_method_24_code
def yX5_shift : MethodName := ⟨RX5, "shift", "(II)V"⟩
abbrev cX5_step : ByteArray := prog_7_method_25_code
def yX5_step : MethodName := ⟨RX5, "step", "()V"⟩
abbrev cX5_stepOn : ByteArray := prog_7_method_26_code
def yX5_stepOn : MethodName := ⟨RX5, "stepOn", "(IIIII)V"⟩
abbrev cX5_receive : ByteArray := prog_7_method_27_code
def yX5_receive : MethodName := ⟨RX5, "receive", "()V"⟩
abbrev cX5_interrupt : ByteArray := prog_7_method_28_code
def yX5_interrupt : MethodName := ⟨RX5, "interrupt", "()V"⟩
abbrev cX5_isDisturbed : ByteArray := prog_7_method_29_code
def yX5_isDisturbed : MethodName := ⟨RX5, "isDisturbed", "(I)Z"⟩
abbrev cX5_isLinked : ByteArray := prog_7_method_30_code
def yX5_isLinked : MethodName := ⟨RX5, "isLinked", "(I)Z"⟩
abbrev cX5_runBlock : ByteArray := prog_7_method_31_code
def yX5_runBlock : MethodName := ⟨RX5, "runBlock", "(I)V"⟩
abbrev cX5_leave : ByteArray := prog_7_method_32_code
def yX5_leave : MethodName := ⟨RX5, "leave", "(II)V"⟩
abbrev cX5_goOn : ByteArray := prog_7_method_33_code
def yX5_goOn : MethodName := ⟨RX5, "goOn", "(I)Z"⟩
abbrev cX5_run : ByteArray := prog_7_method_34_code
def yX5_run : MethodName := ⟨RX5, "run", "(I)I"⟩
abbrev cX5_poke : ByteArray := prog_7_method_35_code
def yX5_poke : MethodName := ⟨RX5, "poke", "(III)V"⟩
abbrev cX5_peek : ByteArray := prog_7_method_36_code
def yX5_peek : MethodName := ⟨RX5, "peek", "(I)I"⟩
abbrev cX5_set : ByteArray := prog_7_method_37_code
def yX5_set : MethodName := ⟨RX5, "set", "(II)V"⟩
abbrev cX5_get : ByteArray := prog_7_method_38_code
def yX5_get : MethodName := ⟨RX5, "get", "(I)I"⟩
abbrev cX5_input : ByteArray := prog_7_method_39_code
def yX5_input : MethodName := ⟨RX5, "input", "(I)I"⟩
abbrev cX5_request : ByteArray := prog_7_method_40_code
def yX5_request : MethodName := ⟨RX5, "request", "(I)I"⟩
abbrev cX5_room : ByteArray := prog_7_method_41_code
def yX5_room : MethodName := ⟨RX5, "room", "(I)V"⟩
abbrev cX5_output : ByteArray := prog_7_method_42_code
def yX5_output : MethodName := ⟨RX5, "output", "(I)I"⟩
abbrev cX5_count : ByteArray := prog_7_method_43_code
def yX5_count : MethodName := ⟨RX5, "count", "(I)I"⟩
def RJ7 : String := "java/util/Arrays"
def TJ7 : u_T := fun k => match k with
  | _ => ("", "", "", false)
def tyJ7 : Nat → FieldType := fun k => match k with
  | _ => .int
abbrev wsJ70 : List Cond := u_ws RJ7 TJ7 0
theorem nmJ7 : ∀ a, a < 0 → ∀ b, b < 0 → a ≠ b → (TJ7 a).2.1 ≠ (TJ7 b).2.1 := by decide +kernel
theorem tyJ7_ok : ∀ k, k < 0 → parseFieldDescriptor (TJ7 k).2.2.1 = some (tyJ7 k) := by decide +kernel
abbrev cJ7_fill_53178 : ByteArray := prog_13_method_103_code
def yJ7_fill_53178 : MethodName := ⟨RJ7, "fill", "([II)V"⟩
def RL : String := "BlockCacheLaw"
abbrev cL_poke : ByteArray := method_3_code
def yL_poke : MethodName := ⟨RL, "poke", "(LBlockCache;III)I"⟩
abbrev cL_peek : ByteArray := method_4_code
def yL_peek : MethodName := ⟨RL, "peek", "(LBlockCache;I[J)I"⟩
abbrev cL_set : ByteArray := method_5_code
def yL_set : MethodName := ⟨RL, "set", "(LBlockCache;II)I"⟩
abbrev cL_get : ByteArray := method_6_code
def yL_get : MethodName := ⟨RL, "get", "(LBlockCache;I[J)I"⟩
abbrev cL_input : ByteArray := method_7_code
def yL_input : MethodName := ⟨RL, "input", "(LBlockCache;I[J)I"⟩
abbrev cL_request : ByteArray := method_8_code
def yL_request : MethodName := ⟨RL, "request", "(LBlockCache;I[J)I"⟩
abbrev cL_room : ByteArray := method_9_code
def yL_room : MethodName := ⟨RL, "room", "(LBlockCache;I)I"⟩
abbrev cL_run : ByteArray := method_10_code
def yL_run : MethodName := ⟨RL, "run", "(LBlockCache;I[J)I"⟩
abbrev cL_count : ByteArray := method_11_code
def yL_count : MethodName := ⟨RL, "count", "(LBlockCache;I[J)I"⟩
abbrev cL_law : ByteArray := code
def yL_law : MethodName := ⟨RL, "law", "([I)Z"⟩
def wsX0_init : List Cond := .code yX0_init cX0_init 1 none :: ([.methodLink RX0 5 objectInit, .instanceMethod objectInit, .code objectInit ⟨#[0xb1]⟩ 1 none, .arrayClass .int, .fieldLink RX0 11 "BlockCache$Cache" "code" "[I", .fieldLink RX0 15 "BlockCache$Cache" "length" "[I", .fieldLink RX0 18 "BlockCache$Cache" "behind" "[I", .fieldLink RX0 21 "BlockCache$Cache" "size" "[I", .fieldLink RX0 24 "BlockCache$Cache" "serial" "[I", .fieldLink RX0 27 "BlockCache$Cache" "exitPlace" "[I", .fieldLink RX0 30 "BlockCache$Cache" "linkedSerial" "[I", .fieldLink RX0 33 "BlockCache$Cache" "limit" "I"] ++ wsX00)
def wsX0_has : List Cond := .code yX0_has cX0_has 2 (some .boolean) :: ([.fieldLink RX0 24 "BlockCache$Cache" "serial" "[I"] ++ wsX00)
def wsX0_wordAt : List Cond := .code yX0_wordAt cX0_wordAt 3 (some .int) :: ([.fieldLink RX0 11 "BlockCache$Cache" "code" "[I"] ++ wsX00)
def wsX1_kindOf : List Cond := .code yX1_kindOf cX1_kindOf 4 (some .int) :: ([])
def wsX1_decode : List Cond := .code yX1_decode cX1_decode 4 (some .int) :: ([.methodLink RX1 7 yX1_kindOf, .static yX1_kindOf, .initialized RX1, .code yX1_kindOf cX1_kindOf 4 (some .int)])
def wsX1_kind : List Cond := .code yX1_kind cX1_kind 1 (some .int) :: ([])
def wsX1_bytes : List Cond := .code yX1_bytes cX1_bytes 1 (some .int) :: ([])
def wsX1_leavesByItself : List Cond := .code yX1_leavesByItself cX1_leavesByItself 1 (some .boolean) :: ([])
def wsX1_endsBlock : List Cond := .code yX1_endsBlock cX1_endsBlock 1 (some .boolean) :: ([.methodLink RX1 14 yX1_leavesByItself, .static yX1_leavesByItself, .initialized RX1, .code yX1_leavesByItself cX1_leavesByItself 1 (some .boolean)])
def wsX0_decodeBlock : List Cond := .code yX0_decodeBlock cX0_decodeBlock 8 none :: ([.fieldLink RX0 11 "BlockCache$Cache" "code" "[I", .fieldLink RX0 15 "BlockCache$Cache" "length" "[I", .fieldLink RX0 18 "BlockCache$Cache" "behind" "[I", .methodLink RX0 70 yX1_decode, .static yX1_decode, .initialized RX1, .code yX1_decode cX1_decode 4 (some .int), .methodLink RX1 7 yX1_kindOf, .static yX1_kindOf, .code yX1_kindOf cX1_kindOf 4 (some .int), .methodLink RX0 76 yX1_kind, .static yX1_kind, .code yX1_kind cX1_kind 1 (some .int), .methodLink RX0 79 yX1_bytes, .static yX1_bytes, .code yX1_bytes cX1_bytes 1 (some .int), .methodLink RX0 82 yX1_endsBlock, .static yX1_endsBlock, .code yX1_endsBlock cX1_endsBlock 1 (some .boolean), .methodLink RX1 14 yX1_leavesByItself, .static yX1_leavesByItself, .code yX1_leavesByItself cX1_leavesByItself 1 (some .boolean)] ++ wsX00)
def wsX1_makesFlags : List Cond := .code yX1_makesFlags cX1_makesFlags 1 (some .boolean) :: ([])
def wsX1_asDead : List Cond := .code yX1_asDead cX1_asDead 1 (some .int) :: ([.constant RX1 13 (1048576)])
def wsX1_needsFlags : List Cond := .code yX1_needsFlags cX1_needsFlags 1 (some .boolean) :: ([])
def wsX0_markDead : List Cond := .code yX0_markDead cX0_markDead 8 (some .int) :: ([.fieldLink RX0 15 "BlockCache$Cache" "length" "[I", .fieldLink RX0 11 "BlockCache$Cache" "code" "[I", .methodLink RX0 86 yX0_wordAt, .instanceMethod yX0_wordAt, .selects RX0 yX0_wordAt yX0_wordAt, .initialized RX0, .code yX0_wordAt cX0_wordAt 3 (some .int), .methodLink RX0 76 yX1_kind, .static yX1_kind, .initialized RX1, .code yX1_kind cX1_kind 1 (some .int), .methodLink RX0 90 yX1_makesFlags, .static yX1_makesFlags, .code yX1_makesFlags cX1_makesFlags 1 (some .boolean), .methodLink RX0 93 yX1_asDead, .static yX1_asDead, .code yX1_asDead cX1_asDead 1 (some .int), .constant RX1 13 (1048576), .methodLink RX0 96 yX1_needsFlags, .static yX1_needsFlags, .code yX1_needsFlags cX1_needsFlags 1 (some .boolean)] ++ wsX00)
def wsX0_lastKind : List Cond := .code yX0_lastKind cX0_lastKind 2 (some .int) :: ([.fieldLink RX0 15 "BlockCache$Cache" "length" "[I", .methodLink RX0 86 yX0_wordAt, .instanceMethod yX0_wordAt, .selects RX0 yX0_wordAt yX0_wordAt, .initialized RX0, .code yX0_wordAt cX0_wordAt 3 (some .int), .fieldLink RX0 11 "BlockCache$Cache" "code" "[I", .methodLink RX0 76 yX1_kind, .static yX1_kind, .initialized RX1, .code yX1_kind cX1_kind 1 (some .int)] ++ wsX00)
def wsX1_sizeWithoutFlags : List Cond := .code yX1_sizeWithoutFlags cX1_sizeWithoutFlags 1 (some .int) :: ([])
def wsX1_isDead : List Cond := .code yX1_isDead cX1_isDead 1 (some .boolean) :: ([.constant RX1 13 (1048576)])
def wsX1_onlyCompares : List Cond := .code yX1_onlyCompares cX1_onlyCompares 1 (some .boolean) :: ([])
def wsX1_size : List Cond := .code yX1_size cX1_size 2 (some .int) :: ([.methodLink RX1 18 yX1_kind, .static yX1_kind, .initialized RX1, .code yX1_kind cX1_kind 1 (some .int), .methodLink RX1 21 yX1_makesFlags, .static yX1_makesFlags, .code yX1_makesFlags cX1_makesFlags 1 (some .boolean), .methodLink RX1 24 yX1_sizeWithoutFlags, .static yX1_sizeWithoutFlags, .code yX1_sizeWithoutFlags cX1_sizeWithoutFlags 1 (some .int), .methodLink RX1 27 yX1_isDead, .static yX1_isDead, .code yX1_isDead cX1_isDead 1 (some .boolean), .constant RX1 13 (1048576), .methodLink RX1 30 yX1_onlyCompares, .static yX1_onlyCompares, .code yX1_onlyCompares cX1_onlyCompares 1 (some .boolean)])
def wsX0_sizeOf_r1 : List Cond := [Cond.fieldLink RX0 15 "BlockCache$Cache" "length" "[I", Cond.methodLink RX0 99 yX0_lastKind, Cond.instanceMethod yX0_lastKind, Cond.selects RX0 yX0_lastKind yX0_lastKind, Cond.initialized RX0, Cond.code yX0_lastKind cX0_lastKind 2 (some .int), Cond.methodLink RX0 86 yX0_wordAt, Cond.instanceMethod yX0_wordAt, Cond.selects RX0 yX0_wordAt yX0_wordAt, Cond.code yX0_wordAt cX0_wordAt 3 (some .int), Cond.fieldLink RX0 11 "BlockCache$Cache" "code" "[I", Cond.methodLink RX0 76 yX1_kind, Cond.static yX1_kind, Cond.initialized RX1, Cond.code yX1_kind cX1_kind 1 (some .int), Cond.methodLink RX0 102 yX1_leavesByItself, Cond.static yX1_leavesByItself, Cond.code yX1_leavesByItself cX1_leavesByItself 1 (some .boolean), Cond.methodLink RX0 105 yX1_size, Cond.static yX1_size, Cond.code yX1_size cX1_size 2 (some .int), Cond.methodLink RX1 18 yX1_kind, Cond.methodLink RX1 21 yX1_makesFlags, Cond.static yX1_makesFlags]
def wsX0_sizeOf_r2 : List Cond := [Cond.code yX1_makesFlags cX1_makesFlags 1 (some .boolean), Cond.methodLink RX1 24 yX1_sizeWithoutFlags, Cond.static yX1_sizeWithoutFlags, Cond.code yX1_sizeWithoutFlags cX1_sizeWithoutFlags 1 (some .int), Cond.methodLink RX1 27 yX1_isDead, Cond.static yX1_isDead, Cond.code yX1_isDead cX1_isDead 1 (some .boolean), Cond.constant RX1 13 (1048576), Cond.methodLink RX1 30 yX1_onlyCompares, Cond.static yX1_onlyCompares, Cond.code yX1_onlyCompares cX1_onlyCompares 1 (some .boolean)]
def wsX0_sizeOf : List Cond := .code yX0_sizeOf cX0_sizeOf 4 (some .int) :: ((wsX0_sizeOf_r1 ++ wsX0_sizeOf_r2) ++ wsX00)
def wsJ7_fill_53178 : List Cond := .code yJ7_fill_53178 cJ7_fill_53178 4 none :: ([])
def wsX0_empty : List Cond := .code yX0_empty cX0_empty 1 none :: ([.fieldLink RX0 24 "BlockCache$Cache" "serial" "[I", .fieldLink RX0 63 "BlockCache$Cache" "blocks" "I", .fieldLink RX0 48 "BlockCache$Cache" "filled" "I", .methodLink RX0 117 yJ7_fill_53178, .static yJ7_fill_53178, .initialized RJ7, .code yJ7_fill_53178 cJ7_fill_53178 4 none] ++ wsX00)
def wsX1_n : List Cond := .code yX1_n cX1_n 1 (some .int) :: ([])
def wsX0_layExits : List Cond := .code yX0_layExits cX0_layExits 6 none :: ([.fieldLink RX0 15 "BlockCache$Cache" "length" "[I", .fieldLink RX0 27 "BlockCache$Cache" "exitPlace" "[I", .fieldLink RX0 18 "BlockCache$Cache" "behind" "[I", .fieldLink RX0 30 "BlockCache$Cache" "linkedSerial" "[I", .methodLink RX0 86 yX0_wordAt, .instanceMethod yX0_wordAt, .selects RX0 yX0_wordAt yX0_wordAt, .initialized RX0, .code yX0_wordAt cX0_wordAt 3 (some .int), .fieldLink RX0 11 "BlockCache$Cache" "code" "[I", .methodLink RX0 76 yX1_kind, .static yX1_kind, .initialized RX1, .code yX1_kind cX1_kind 1 (some .int), .methodLink RX0 102 yX1_leavesByItself, .static yX1_leavesByItself, .code yX1_leavesByItself cX1_leavesByItself 1 (some .boolean), .methodLink RX0 79 yX1_bytes, .static yX1_bytes, .code yX1_bytes cX1_bytes 1 (some .int), .methodLink RX0 107 yX1_n, .static yX1_n, .code yX1_n cX1_n 1 (some .int)] ++ wsX00)
def wsX0_translate_r1 : List Cond := [Cond.fieldLink RX0 21 "BlockCache$Cache" "size" "[I", Cond.fieldLink RX0 15 "BlockCache$Cache" "length" "[I", Cond.fieldLink RX0 33 "BlockCache$Cache" "limit" "I", Cond.fieldLink RX0 48 "BlockCache$Cache" "filled" "I", Cond.fieldLink RX0 54 "BlockCache$Cache" "flushes" "I", Cond.fieldLink RX0 57 "BlockCache$Cache" "translated" "I", Cond.fieldLink RX0 60 "BlockCache$Cache" "deadFlags" "I", Cond.fieldLink RX0 24 "BlockCache$Cache" "serial" "[I", Cond.fieldLink RX0 63 "BlockCache$Cache" "blocks" "I", Cond.methodLink RX0 37 yX0_decodeBlock, Cond.instanceMethod yX0_decodeBlock, Cond.selects RX0 yX0_decodeBlock yX0_decodeBlock, Cond.initialized RX0, Cond.code yX0_decodeBlock cX0_decodeBlock 8 none, Cond.fieldLink RX0 11 "BlockCache$Cache" "code" "[I", Cond.fieldLink RX0 18 "BlockCache$Cache" "behind" "[I", Cond.methodLink RX0 70 yX1_decode, Cond.static yX1_decode, Cond.initialized RX1, Cond.code yX1_decode cX1_decode 4 (some .int), Cond.methodLink RX1 7 yX1_kindOf, Cond.static yX1_kindOf, Cond.code yX1_kindOf cX1_kindOf 4 (some .int), Cond.methodLink RX0 76 yX1_kind]
def wsX0_translate_r2 : List Cond := [Cond.static yX1_kind, Cond.code yX1_kind cX1_kind 1 (some .int), Cond.methodLink RX0 79 yX1_bytes, Cond.static yX1_bytes, Cond.code yX1_bytes cX1_bytes 1 (some .int), Cond.methodLink RX0 82 yX1_endsBlock, Cond.static yX1_endsBlock, Cond.code yX1_endsBlock cX1_endsBlock 1 (some .boolean), Cond.methodLink RX1 14 yX1_leavesByItself, Cond.static yX1_leavesByItself, Cond.code yX1_leavesByItself cX1_leavesByItself 1 (some .boolean), Cond.methodLink RX0 41 yX0_markDead, Cond.instanceMethod yX0_markDead, Cond.selects RX0 yX0_markDead yX0_markDead, Cond.code yX0_markDead cX0_markDead 8 (some .int), Cond.methodLink RX0 86 yX0_wordAt, Cond.instanceMethod yX0_wordAt, Cond.selects RX0 yX0_wordAt yX0_wordAt, Cond.code yX0_wordAt cX0_wordAt 3 (some .int), Cond.methodLink RX0 90 yX1_makesFlags, Cond.static yX1_makesFlags, Cond.code yX1_makesFlags cX1_makesFlags 1 (some .boolean), Cond.methodLink RX0 93 yX1_asDead, Cond.static yX1_asDead]
def wsX0_translate_r3 : List Cond := [Cond.code yX1_asDead cX1_asDead 1 (some .int), Cond.constant RX1 13 (1048576), Cond.methodLink RX0 96 yX1_needsFlags, Cond.static yX1_needsFlags, Cond.code yX1_needsFlags cX1_needsFlags 1 (some .boolean), Cond.methodLink RX0 45 yX0_sizeOf, Cond.instanceMethod yX0_sizeOf, Cond.selects RX0 yX0_sizeOf yX0_sizeOf, Cond.code yX0_sizeOf cX0_sizeOf 4 (some .int), Cond.methodLink RX0 99 yX0_lastKind, Cond.instanceMethod yX0_lastKind, Cond.selects RX0 yX0_lastKind yX0_lastKind, Cond.code yX0_lastKind cX0_lastKind 2 (some .int), Cond.methodLink RX0 102 yX1_leavesByItself, Cond.methodLink RX0 105 yX1_size, Cond.static yX1_size, Cond.code yX1_size cX1_size 2 (some .int), Cond.methodLink RX1 18 yX1_kind, Cond.methodLink RX1 21 yX1_makesFlags, Cond.methodLink RX1 24 yX1_sizeWithoutFlags, Cond.static yX1_sizeWithoutFlags, Cond.code yX1_sizeWithoutFlags cX1_sizeWithoutFlags 1 (some .int), Cond.methodLink RX1 27 yX1_isDead, Cond.static yX1_isDead]
def wsX0_translate_r4 : List Cond := [Cond.code yX1_isDead cX1_isDead 1 (some .boolean), Cond.methodLink RX1 30 yX1_onlyCompares, Cond.static yX1_onlyCompares, Cond.code yX1_onlyCompares cX1_onlyCompares 1 (some .boolean), Cond.methodLink RX0 51 yX0_empty, Cond.instanceMethod yX0_empty, Cond.selects RX0 yX0_empty yX0_empty, Cond.code yX0_empty cX0_empty 1 none, Cond.methodLink RX0 117 yJ7_fill_53178, Cond.static yJ7_fill_53178, Cond.initialized RJ7, Cond.code yJ7_fill_53178 cJ7_fill_53178 4 none, Cond.methodLink RX0 66 yX0_layExits, Cond.instanceMethod yX0_layExits, Cond.selects RX0 yX0_layExits yX0_layExits, Cond.code yX0_layExits cX0_layExits 6 none, Cond.fieldLink RX0 27 "BlockCache$Cache" "exitPlace" "[I", Cond.fieldLink RX0 30 "BlockCache$Cache" "linkedSerial" "[I", Cond.methodLink RX0 107 yX1_n, Cond.static yX1_n, Cond.code yX1_n cX1_n 1 (some .int)]
def wsX0_translate : List Cond := .code yX0_translate cX0_translate 4 (some .boolean) :: ((wsX0_translate_r1 ++ (wsX0_translate_r2 ++ (wsX0_translate_r3 ++ wsX0_translate_r4))) ++ wsX00)
def wsX0_exitTo : List Cond := .code yX0_exitTo cX0_exitTo 3 (some .int) :: ([.fieldLink RX0 27 "BlockCache$Cache" "exitPlace" "[I"] ++ wsX00)
def wsX0_isLinked : List Cond := .code yX0_isLinked cX0_isLinked 3 (some .boolean) :: ([.fieldLink RX0 30 "BlockCache$Cache" "linkedSerial" "[I", .fieldLink RX0 24 "BlockCache$Cache" "serial" "[I", .methodLink RX0 110 yX0_has, .instanceMethod yX0_has, .selects RX0 yX0_has yX0_has, .initialized RX0, .code yX0_has cX0_has 2 (some .boolean)] ++ wsX00)
def wsX0_link : List Cond := .code yX0_link cX0_link 3 none :: ([.fieldLink RX0 30 "BlockCache$Cache" "linkedSerial" "[I", .fieldLink RX0 24 "BlockCache$Cache" "serial" "[I", .methodLink RX0 110 yX0_has, .instanceMethod yX0_has, .selects RX0 yX0_has yX0_has, .initialized RX0, .code yX0_has cX0_has 2 (some .boolean)] ++ wsX00)
def wsX0_reaches : List Cond := .code yX0_reaches cX0_reaches 4 (some .boolean) :: ([.fieldLink RX0 18 "BlockCache$Cache" "behind" "[I"] ++ wsX00)
def wsX0_dropPage : List Cond := .code yX0_dropPage cX0_dropPage 6 (some .int) :: ([.fieldLink RX0 63 "BlockCache$Cache" "blocks" "I", .fieldLink RX0 24 "BlockCache$Cache" "serial" "[I", .fieldLink RX0 48 "BlockCache$Cache" "filled" "I", .fieldLink RX0 21 "BlockCache$Cache" "size" "[I", .methodLink RX0 110 yX0_has, .instanceMethod yX0_has, .selects RX0 yX0_has yX0_has, .initialized RX0, .code yX0_has cX0_has 2 (some .boolean), .methodLink RX0 113 yX0_reaches, .instanceMethod yX0_reaches, .selects RX0 yX0_reaches yX0_reaches, .code yX0_reaches cX0_reaches 4 (some .boolean), .fieldLink RX0 18 "BlockCache$Cache" "behind" "[I"] ++ wsX00)
def wsX1_w : List Cond := .code yX1_w cX1_w 1 (some .int) :: ([])
def wsX1_d : List Cond := .code yX1_d cX1_d 1 (some .int) :: ([])
def wsX1_s : List Cond := .code yX1_s cX1_s 1 (some .int) :: ([])
def wsX3_init : List Cond := .code yX3_init cX3_init 2 none :: ([.methodLink RX3 1 objectInit, .instanceMethod objectInit, .code objectInit ⟨#[0xb1]⟩ 1 none, .arrayClass .int, .fieldLink RX3 7 "BlockCache$Queue" "ring" "[I"] ++ wsX30)
def wsX2_init : List Cond := .code yX2_init cX2_init 1 none :: ([.methodLink RX2 3 objectInit, .instanceMethod objectInit, .code objectInit ⟨#[0xb1]⟩ 1 none, .arrayClass .int, .fieldLink RX2 9 "BlockCache$Guest" "state" "[I", .fieldLink RX2 15 "BlockCache$Guest" "memory" "[I", .classLink RX2 18 RX3, .instantiable RX3 3, .initialized RX3, .fieldLink RX2 23 "BlockCache$Guest" "inputs" "LBlockCache$Queue;", .fieldLink RX2 27 "BlockCache$Guest" "outputs" "[I", .fieldLink RX2 30 "BlockCache$Guest" "written" "I", .methodLink RX2 20 yX3_init, .instanceMethod yX3_init, .code yX3_init cX3_init 2 none, .methodLink RX3 1 objectInit, .fieldLink RX3 7 "BlockCache$Queue" "ring" "[I"] ++ wsX20 ++ wsX30)
def wsX2_outputAt : List Cond := .code yX2_outputAt cX2_outputAt 2 (some .int) :: ([.fieldLink RX2 34 "BlockCache$Guest" "given" "I", .fieldLink RX2 27 "BlockCache$Guest" "outputs" "[I"] ++ wsX20)
def wsX2_write : List Cond := .code yX2_write cX2_write 3 none :: ([.fieldLink RX2 15 "BlockCache$Guest" "memory" "[I", .fieldLink RX2 30 "BlockCache$Guest" "written" "I"] ++ wsX20)
def wsX2_push : List Cond := .code yX2_push cX2_push 2 none :: ([.fieldLink RX2 9 "BlockCache$Guest" "state" "[I", .methodLink RX2 110 yX2_write, .instanceMethod yX2_write, .selects RX2 yX2_write yX2_write, .initialized RX2, .code yX2_write cX2_write 3 none, .fieldLink RX2 15 "BlockCache$Guest" "memory" "[I", .fieldLink RX2 30 "BlockCache$Guest" "written" "I"] ++ wsX20)
def wsX2_interrupt : List Cond := .code yX2_interrupt cX2_interrupt 1 none :: ([.fieldLink RX2 9 "BlockCache$Guest" "state" "[I", .methodLink RX2 37 yX2_push, .instanceMethod yX2_push, .selects RX2 yX2_push yX2_push, .initialized RX2, .code yX2_push cX2_push 2 none, .methodLink RX2 110 yX2_write, .instanceMethod yX2_write, .selects RX2 yX2_write yX2_write, .code yX2_write cX2_write 3 none, .fieldLink RX2 15 "BlockCache$Guest" "memory" "[I", .fieldLink RX2 30 "BlockCache$Guest" "written" "I"] ++ wsX20)
def wsX2_resultWithCarry : List Cond := .code yX2_resultWithCarry cX2_resultWithCarry 4 (some .int) :: ([.fieldLink RX2 9 "BlockCache$Guest" "state" "[I"] ++ wsX20)
def wsX2_makeFlags : List Cond := .code yX2_makeFlags cX2_makeFlags 2 none :: ([.fieldLink RX2 9 "BlockCache$Guest" "state" "[I"] ++ wsX20)
def wsX2_calculate_r1 : List Cond := [Cond.fieldLink RX2 9 "BlockCache$Guest" "state" "[I", Cond.methodLink RX2 66 yX1_isDead, Cond.static yX1_isDead, Cond.initialized RX1, Cond.code yX1_isDead cX1_isDead 1 (some .boolean), Cond.constant RX1 13 (1048576), Cond.methodLink RX2 69 yX1_onlyCompares, Cond.static yX1_onlyCompares, Cond.code yX1_onlyCompares cX1_onlyCompares 1 (some .boolean), Cond.methodLink RX2 72 yX1_d, Cond.static yX1_d, Cond.code yX1_d cX1_d 1 (some .int), Cond.methodLink RX2 46 yX1_bytes, Cond.static yX1_bytes, Cond.code yX1_bytes cX1_bytes 1 (some .int), Cond.methodLink RX2 75 yX1_n, Cond.static yX1_n, Cond.code yX1_n cX1_n 1 (some .int), Cond.methodLink RX2 78 yX1_s, Cond.static yX1_s, Cond.code yX1_s cX1_s 1 (some .int), Cond.methodLink RX2 81 yX2_resultWithCarry, Cond.instanceMethod yX2_resultWithCarry, Cond.selects RX2 yX2_resultWithCarry yX2_resultWithCarry]
def wsX2_calculate_r2 : List Cond := [Cond.initialized RX2, Cond.code yX2_resultWithCarry cX2_resultWithCarry 4 (some .int), Cond.methodLink RX2 85 yX2_makeFlags, Cond.instanceMethod yX2_makeFlags, Cond.selects RX2 yX2_makeFlags yX2_makeFlags, Cond.code yX2_makeFlags cX2_makeFlags 2 none]
def wsX2_calculate : List Cond := .code yX2_calculate cX2_calculate 8 none :: ((wsX2_calculate_r1 ++ wsX2_calculate_r2) ++ wsX20)
def wsX2_jumpIf : List Cond := .code yX2_jumpIf cX2_jumpIf 4 none :: ([.fieldLink RX2 9 "BlockCache$Guest" "state" "[I"] ++ wsX20)
def wsX2_pop : List Cond := .code yX2_pop cX2_pop 2 (some .int) :: ([.fieldLink RX2 15 "BlockCache$Guest" "memory" "[I", .fieldLink RX2 9 "BlockCache$Guest" "state" "[I"] ++ wsX20)
def wsX2_countDown : List Cond := .code yX2_countDown cX2_countDown 3 none :: ([.fieldLink RX2 9 "BlockCache$Guest" "state" "[I"] ++ wsX20)
def wsX2_steer_r1 : List Cond := [Cond.fieldLink RX2 9 "BlockCache$Guest" "state" "[I", Cond.methodLink RX2 75 yX1_n, Cond.static yX1_n, Cond.initialized RX1, Cond.code yX1_n cX1_n 1 (some .int), Cond.methodLink RX2 88 yX1_w, Cond.static yX1_w, Cond.code yX1_w cX1_w 1 (some .int), Cond.methodLink RX2 91 yX2_jumpIf, Cond.instanceMethod yX2_jumpIf, Cond.selects RX2 yX2_jumpIf yX2_jumpIf, Cond.initialized RX2, Cond.code yX2_jumpIf cX2_jumpIf 4 none, Cond.methodLink RX2 37 yX2_push, Cond.instanceMethod yX2_push, Cond.selects RX2 yX2_push yX2_push, Cond.code yX2_push cX2_push 2 none, Cond.methodLink RX2 110 yX2_write, Cond.instanceMethod yX2_write, Cond.selects RX2 yX2_write yX2_write, Cond.code yX2_write cX2_write 3 none, Cond.fieldLink RX2 15 "BlockCache$Guest" "memory" "[I", Cond.fieldLink RX2 30 "BlockCache$Guest" "written" "I", Cond.methodLink RX2 94 yX2_pop]
def wsX2_steer_r2 : List Cond := [Cond.instanceMethod yX2_pop, Cond.selects RX2 yX2_pop yX2_pop, Cond.code yX2_pop cX2_pop 2 (some .int), Cond.methodLink RX2 72 yX1_d, Cond.static yX1_d, Cond.code yX1_d cX1_d 1 (some .int), Cond.methodLink RX2 98 yX2_countDown, Cond.instanceMethod yX2_countDown, Cond.selects RX2 yX2_countDown yX2_countDown, Cond.code yX2_countDown cX2_countDown 3 none]
def wsX2_steer : List Cond := .code yX2_steer cX2_steer 3 none :: ((wsX2_steer_r1 ++ wsX2_steer_r2) ++ wsX20)
def wsX2_give : List Cond := .code yX2_give cX2_give 2 none :: ([.fieldLink RX2 34 "BlockCache$Guest" "given" "I", .fieldLink RX2 27 "BlockCache$Guest" "outputs" "[I"] ++ wsX20)
def wsX3_wrapped : List Cond := .code yX3_wrapped cX3_wrapped 2 (some .int) :: ([.fieldLink RX3 7 "BlockCache$Queue" "ring" "[I"] ++ wsX30)
def wsX3_takeFirst : List Cond := .code yX3_takeFirst cX3_takeFirst 2 (some .int) :: ([.fieldLink RX3 7 "BlockCache$Queue" "ring" "[I", .fieldLink RX3 17 "BlockCache$Queue" "start" "I", .fieldLink RX3 13 "BlockCache$Queue" "many" "I", .methodLink RX3 20 yX3_wrapped, .instanceMethod yX3_wrapped, .selects RX3 yX3_wrapped yX3_wrapped, .initialized RX3, .code yX3_wrapped cX3_wrapped 2 (some .int)] ++ wsX30)
def wsX2_move_r1 : List Cond := [Cond.fieldLink RX2 9 "BlockCache$Guest" "state" "[I", Cond.fieldLink RX2 23 "BlockCache$Guest" "inputs" "LBlockCache$Queue;", Cond.fieldLink RX2 104 "BlockCache$Queue" "many" "I", Cond.fieldLink RX2 15 "BlockCache$Guest" "memory" "[I", Cond.methodLink RX2 72 yX1_d, Cond.static yX1_d, Cond.initialized RX1, Cond.code yX1_d cX1_d 1 (some .int), Cond.methodLink RX2 78 yX1_s, Cond.static yX1_s, Cond.code yX1_s cX1_s 1 (some .int), Cond.methodLink RX2 75 yX1_n, Cond.static yX1_n, Cond.code yX1_n cX1_n 1 (some .int), Cond.methodLink RX2 101 yX2_give, Cond.instanceMethod yX2_give, Cond.selects RX2 yX2_give yX2_give, Cond.initialized RX2, Cond.code yX2_give cX2_give 2 none, Cond.fieldLink RX2 34 "BlockCache$Guest" "given" "I", Cond.fieldLink RX2 27 "BlockCache$Guest" "outputs" "[I", Cond.methodLink RX2 107 yX3_takeFirst, Cond.instanceMethod yX3_takeFirst, Cond.selects RX3 yX3_takeFirst yX3_takeFirst]
def wsX2_move_r2 : List Cond := [Cond.initialized RX3, Cond.code yX3_takeFirst cX3_takeFirst 2 (some .int), Cond.fieldLink RX3 7 "BlockCache$Queue" "ring" "[I", Cond.fieldLink RX3 17 "BlockCache$Queue" "start" "I", Cond.fieldLink RX3 13 "BlockCache$Queue" "many" "I", Cond.methodLink RX3 20 yX3_wrapped, Cond.instanceMethod yX3_wrapped, Cond.selects RX3 yX3_wrapped yX3_wrapped, Cond.code yX3_wrapped cX3_wrapped 2 (some .int), Cond.methodLink RX2 110 yX2_write, Cond.instanceMethod yX2_write, Cond.selects RX2 yX2_write yX2_write, Cond.code yX2_write cX2_write 3 none, Cond.fieldLink RX2 30 "BlockCache$Guest" "written" "I", Cond.methodLink RX2 37 yX2_push, Cond.instanceMethod yX2_push, Cond.selects RX2 yX2_push yX2_push, Cond.code yX2_push cX2_push 2 none, Cond.methodLink RX2 94 yX2_pop, Cond.instanceMethod yX2_pop, Cond.selects RX2 yX2_pop yX2_pop, Cond.code yX2_pop cX2_pop 2 (some .int)]
def wsX2_move : List Cond := .code yX2_move cX2_move 5 none :: ((wsX2_move_r1 ++ wsX2_move_r2) ++ wsX20 ++ wsX30)
def wsX2_execute_r1 : List Cond := [Cond.fieldLink RX2 9 "BlockCache$Guest" "state" "[I", Cond.methodLink RX2 40 yX1_kind, Cond.static yX1_kind, Cond.initialized RX1, Cond.code yX1_kind cX1_kind 1 (some .int), Cond.methodLink RX2 46 yX1_bytes, Cond.static yX1_bytes, Cond.code yX1_bytes cX1_bytes 1 (some .int), Cond.methodLink RX2 49 yX1_makesFlags, Cond.static yX1_makesFlags, Cond.code yX1_makesFlags cX1_makesFlags 1 (some .boolean), Cond.methodLink RX2 53 yX2_calculate, Cond.instanceMethod yX2_calculate, Cond.selects RX2 yX2_calculate yX2_calculate, Cond.initialized RX2, Cond.code yX2_calculate cX2_calculate 8 none, Cond.methodLink RX2 66 yX1_isDead, Cond.static yX1_isDead, Cond.code yX1_isDead cX1_isDead 1 (some .boolean), Cond.constant RX1 13 (1048576), Cond.methodLink RX2 69 yX1_onlyCompares, Cond.static yX1_onlyCompares, Cond.code yX1_onlyCompares cX1_onlyCompares 1 (some .boolean), Cond.methodLink RX2 72 yX1_d]
def wsX2_execute_r2 : List Cond := [Cond.static yX1_d, Cond.code yX1_d cX1_d 1 (some .int), Cond.methodLink RX2 75 yX1_n, Cond.static yX1_n, Cond.code yX1_n cX1_n 1 (some .int), Cond.methodLink RX2 78 yX1_s, Cond.static yX1_s, Cond.code yX1_s cX1_s 1 (some .int), Cond.methodLink RX2 81 yX2_resultWithCarry, Cond.instanceMethod yX2_resultWithCarry, Cond.selects RX2 yX2_resultWithCarry yX2_resultWithCarry, Cond.code yX2_resultWithCarry cX2_resultWithCarry 4 (some .int), Cond.methodLink RX2 85 yX2_makeFlags, Cond.instanceMethod yX2_makeFlags, Cond.selects RX2 yX2_makeFlags yX2_makeFlags, Cond.code yX2_makeFlags cX2_makeFlags 2 none, Cond.methodLink RX2 57 yX1_endsBlock, Cond.static yX1_endsBlock, Cond.code yX1_endsBlock cX1_endsBlock 1 (some .boolean), Cond.methodLink RX1 14 yX1_leavesByItself, Cond.static yX1_leavesByItself, Cond.code yX1_leavesByItself cX1_leavesByItself 1 (some .boolean), Cond.methodLink RX2 60 yX2_steer, Cond.instanceMethod yX2_steer]
def wsX2_execute_r3 : List Cond := [Cond.selects RX2 yX2_steer yX2_steer, Cond.code yX2_steer cX2_steer 3 none, Cond.methodLink RX2 88 yX1_w, Cond.static yX1_w, Cond.code yX1_w cX1_w 1 (some .int), Cond.methodLink RX2 91 yX2_jumpIf, Cond.instanceMethod yX2_jumpIf, Cond.selects RX2 yX2_jumpIf yX2_jumpIf, Cond.code yX2_jumpIf cX2_jumpIf 4 none, Cond.methodLink RX2 37 yX2_push, Cond.instanceMethod yX2_push, Cond.selects RX2 yX2_push yX2_push, Cond.code yX2_push cX2_push 2 none, Cond.methodLink RX2 110 yX2_write, Cond.instanceMethod yX2_write, Cond.selects RX2 yX2_write yX2_write, Cond.code yX2_write cX2_write 3 none, Cond.fieldLink RX2 15 "BlockCache$Guest" "memory" "[I", Cond.fieldLink RX2 30 "BlockCache$Guest" "written" "I", Cond.methodLink RX2 94 yX2_pop, Cond.instanceMethod yX2_pop, Cond.selects RX2 yX2_pop yX2_pop, Cond.code yX2_pop cX2_pop 2 (some .int), Cond.methodLink RX2 98 yX2_countDown]
def wsX2_execute_r4 : List Cond := [Cond.instanceMethod yX2_countDown, Cond.selects RX2 yX2_countDown yX2_countDown, Cond.code yX2_countDown cX2_countDown 3 none, Cond.methodLink RX2 63 yX2_move, Cond.instanceMethod yX2_move, Cond.selects RX2 yX2_move yX2_move, Cond.code yX2_move cX2_move 5 none, Cond.fieldLink RX2 23 "BlockCache$Guest" "inputs" "LBlockCache$Queue;", Cond.fieldLink RX2 104 "BlockCache$Queue" "many" "I", Cond.methodLink RX2 101 yX2_give, Cond.instanceMethod yX2_give, Cond.selects RX2 yX2_give yX2_give, Cond.code yX2_give cX2_give 2 none, Cond.fieldLink RX2 34 "BlockCache$Guest" "given" "I", Cond.fieldLink RX2 27 "BlockCache$Guest" "outputs" "[I", Cond.methodLink RX2 107 yX3_takeFirst, Cond.instanceMethod yX3_takeFirst, Cond.selects RX3 yX3_takeFirst yX3_takeFirst, Cond.initialized RX3, Cond.code yX3_takeFirst cX3_takeFirst 2 (some .int), Cond.fieldLink RX3 7 "BlockCache$Queue" "ring" "[I", Cond.fieldLink RX3 17 "BlockCache$Queue" "start" "I", Cond.fieldLink RX3 13 "BlockCache$Queue" "many" "I", Cond.methodLink RX3 20 yX3_wrapped]
def wsX2_execute_r5 : List Cond := [Cond.instanceMethod yX3_wrapped, Cond.selects RX3 yX3_wrapped yX3_wrapped, Cond.code yX3_wrapped cX3_wrapped 2 (some .int)]
def wsX2_execute : List Cond := .code yX2_execute cX2_execute 3 none :: ((wsX2_execute_r1 ++ (wsX2_execute_r2 ++ (wsX2_execute_r3 ++ (wsX2_execute_r4 ++ wsX2_execute_r5)))) ++ wsX20 ++ wsX30)
def wsX3_isFull : List Cond := .code yX3_isFull cX3_isFull 1 (some .boolean) :: ([.fieldLink RX3 13 "BlockCache$Queue" "many" "I", .fieldLink RX3 7 "BlockCache$Queue" "ring" "[I"] ++ wsX30)
def wsX3_at : List Cond := .code yX3_at cX3_at 2 (some .int) :: ([.fieldLink RX3 7 "BlockCache$Queue" "ring" "[I", .fieldLink RX3 17 "BlockCache$Queue" "start" "I", .methodLink RX3 20 yX3_wrapped, .instanceMethod yX3_wrapped, .selects RX3 yX3_wrapped yX3_wrapped, .initialized RX3, .code yX3_wrapped cX3_wrapped 2 (some .int)] ++ wsX30)
def wsX3_first : List Cond := .code yX3_first cX3_first 1 (some .int) :: ([.fieldLink RX3 7 "BlockCache$Queue" "ring" "[I", .fieldLink RX3 17 "BlockCache$Queue" "start" "I"] ++ wsX30)
def wsX3_append : List Cond := .code yX3_append cX3_append 2 none :: ([.fieldLink RX3 7 "BlockCache$Queue" "ring" "[I", .fieldLink RX3 17 "BlockCache$Queue" "start" "I", .fieldLink RX3 13 "BlockCache$Queue" "many" "I", .methodLink RX3 20 yX3_wrapped, .instanceMethod yX3_wrapped, .selects RX3 yX3_wrapped yX3_wrapped, .initialized RX3, .code yX3_wrapped cX3_wrapped 2 (some .int)] ++ wsX30)
def wsX4_init_r1 : List Cond := [Cond.methodLink RX4 1 objectInit, Cond.instanceMethod objectInit, Cond.code objectInit ⟨#[0xb1]⟩ 1 none, Cond.classLink RX4 7 RX2, Cond.instantiable RX2 6, Cond.initialized RX2, Cond.fieldLink RX4 10 "BlockCache" "guest" "LBlockCache$Guest;", Cond.classLink RX4 16 RX0, Cond.instantiable RX0 13, Cond.initialized RX0, Cond.fieldLink RX4 19 "BlockCache" "cache" "LBlockCache$Cache;", Cond.classLink RX4 23 RX3, Cond.instantiable RX3 3, Cond.initialized RX3, Cond.fieldLink RX4 28 "BlockCache" "requests" "LBlockCache$Queue;", Cond.fieldLink RX4 32 "BlockCache" "latestRequest" "I", Cond.fieldLink RX4 36 "BlockCache" "exit" "I", Cond.instanceMethod yX2_init, Cond.code yX2_init cX2_init 1 none, Cond.methodLink RX2 3 objectInit, Cond.arrayClass .int, Cond.fieldLink RX2 9 "BlockCache$Guest" "state" "[I", Cond.fieldLink RX2 15 "BlockCache$Guest" "memory" "[I", Cond.classLink RX2 18 RX3]
def wsX4_init_r2 : List Cond := [Cond.fieldLink RX2 23 "BlockCache$Guest" "inputs" "LBlockCache$Queue;", Cond.fieldLink RX2 27 "BlockCache$Guest" "outputs" "[I", Cond.fieldLink RX2 30 "BlockCache$Guest" "written" "I", Cond.methodLink RX2 20 yX3_init, Cond.instanceMethod yX3_init, Cond.code yX3_init cX3_init 2 none, Cond.methodLink RX3 1 objectInit, Cond.fieldLink RX3 7 "BlockCache$Queue" "ring" "[I", Cond.instanceMethod yX0_init, Cond.code yX0_init cX0_init 1 none, Cond.methodLink RX0 5 objectInit, Cond.fieldLink RX0 11 "BlockCache$Cache" "code" "[I", Cond.fieldLink RX0 15 "BlockCache$Cache" "length" "[I", Cond.fieldLink RX0 18 "BlockCache$Cache" "behind" "[I", Cond.fieldLink RX0 21 "BlockCache$Cache" "size" "[I", Cond.fieldLink RX0 24 "BlockCache$Cache" "serial" "[I", Cond.fieldLink RX0 27 "BlockCache$Cache" "exitPlace" "[I", Cond.fieldLink RX0 30 "BlockCache$Cache" "linkedSerial" "[I", Cond.fieldLink RX0 33 "BlockCache$Cache" "limit" "I", Cond.methodLink RX4 25 yX3_init]
def wsX4_init : List Cond := .code yX4_init cX4_init 1 none :: ((wsX4_init_r1 ++ wsX4_init_r2) ++ wsX20 ++ wsX40 ++ wsX00 ++ wsX30)
def wsX4_isByte : List Cond := .code yX4_isByte cX4_isByte 1 (some .boolean) :: ([])
def wsX4_poke_r1 : List Cond := [Cond.classLink RX4 43 "java/lang/IllegalArgumentException", Cond.initialized "java/lang/IllegalArgumentException", Cond.fieldLink RX4 10 "BlockCache" "guest" "LBlockCache$Guest;", Cond.fieldLink RX4 46 "BlockCache$Guest" "memory" "[I", Cond.fieldLink RX4 19 "BlockCache" "cache" "LBlockCache$Cache;", Cond.methodLink RX4 39 yX4_isByte, Cond.static yX4_isByte, Cond.initialized RX4, Cond.code yX4_isByte cX4_isByte 1 (some .boolean), Cond.methodLink RX4 50 yX0_dropPage, Cond.instanceMethod yX0_dropPage, Cond.selects RX0 yX0_dropPage yX0_dropPage, Cond.initialized RX0, Cond.code yX0_dropPage cX0_dropPage 6 (some .int), Cond.fieldLink RX0 63 "BlockCache$Cache" "blocks" "I", Cond.fieldLink RX0 24 "BlockCache$Cache" "serial" "[I", Cond.fieldLink RX0 48 "BlockCache$Cache" "filled" "I", Cond.fieldLink RX0 21 "BlockCache$Cache" "size" "[I", Cond.methodLink RX0 110 yX0_has, Cond.instanceMethod yX0_has, Cond.selects RX0 yX0_has yX0_has, Cond.code yX0_has cX0_has 2 (some .boolean), Cond.methodLink RX0 113 yX0_reaches, Cond.instanceMethod yX0_reaches]
def wsX4_poke_r2 : List Cond := [Cond.selects RX0 yX0_reaches yX0_reaches, Cond.code yX0_reaches cX0_reaches 4 (some .boolean), Cond.fieldLink RX0 18 "BlockCache$Cache" "behind" "[I"]
def wsX4_poke : List Cond := .code yX4_poke cX4_poke 6 none :: ((wsX4_poke_r1 ++ wsX4_poke_r2) ++ wsX40 ++ wsX20 ++ wsX00 ++ (vx_at0 RX4 45 "java/lang/IllegalArgumentException" ["java/lang/RuntimeException", "java/lang/Exception"]).filter goodWord)
def wsX4_peek : List Cond := .code yX4_peek cX4_peek 2 (some .int) :: ([.classLink RX4 43 "java/lang/IllegalArgumentException", .initialized "java/lang/IllegalArgumentException", .fieldLink RX4 10 "BlockCache" "guest" "LBlockCache$Guest;", .fieldLink RX4 46 "BlockCache$Guest" "memory" "[I", .methodLink RX4 39 yX4_isByte, .static yX4_isByte, .initialized RX4, .code yX4_isByte cX4_isByte 1 (some .boolean)] ++ wsX40 ++ wsX20 ++ (vx_at0 RX4 45 "java/lang/IllegalArgumentException" ["java/lang/RuntimeException", "java/lang/Exception"]).filter goodWord)
def wsX4_isState : List Cond := .code yX4_isState cX4_isState 1 (some .boolean) :: ([])
def wsX4_isOneBit : List Cond := .code yX4_isOneBit cX4_isOneBit 1 (some .boolean) :: ([])
def wsX4_set : List Cond := .code yX4_set cX4_set 3 none :: ([.classLink RX4 43 "java/lang/IllegalArgumentException", .initialized "java/lang/IllegalArgumentException", .fieldLink RX4 10 "BlockCache" "guest" "LBlockCache$Guest;", .fieldLink RX4 60 "BlockCache$Guest" "state" "[I", .methodLink RX4 54 yX4_isState, .static yX4_isState, .initialized RX4, .code yX4_isState cX4_isState 1 (some .boolean), .methodLink RX4 39 yX4_isByte, .static yX4_isByte, .code yX4_isByte cX4_isByte 1 (some .boolean), .methodLink RX4 57 yX4_isOneBit, .static yX4_isOneBit, .code yX4_isOneBit cX4_isOneBit 1 (some .boolean)] ++ wsX40 ++ wsX20 ++ (vx_at0 RX4 45 "java/lang/IllegalArgumentException" ["java/lang/RuntimeException", "java/lang/Exception"]).filter goodWord)
def wsX4_get : List Cond := .code yX4_get cX4_get 2 (some .int) :: ([.classLink RX4 43 "java/lang/IllegalArgumentException", .initialized "java/lang/IllegalArgumentException", .fieldLink RX4 10 "BlockCache" "guest" "LBlockCache$Guest;", .fieldLink RX4 60 "BlockCache$Guest" "state" "[I", .methodLink RX4 54 yX4_isState, .static yX4_isState, .initialized RX4, .code yX4_isState cX4_isState 1 (some .boolean)] ++ wsX40 ++ wsX20 ++ (vx_at0 RX4 45 "java/lang/IllegalArgumentException" ["java/lang/RuntimeException", "java/lang/Exception"]).filter goodWord)
def wsX4_input_r1 : List Cond := [Cond.classLink RX4 43 "java/lang/IllegalArgumentException", Cond.initialized "java/lang/IllegalArgumentException", Cond.classLink RX4 70 "java/lang/IllegalStateException", Cond.initialized "java/lang/IllegalStateException", Cond.fieldLink RX4 10 "BlockCache" "guest" "LBlockCache$Guest;", Cond.fieldLink RX4 63 "BlockCache$Guest" "inputs" "LBlockCache$Queue;", Cond.fieldLink RX4 76 "BlockCache$Queue" "many" "I", Cond.methodLink RX4 39 yX4_isByte, Cond.static yX4_isByte, Cond.initialized RX4, Cond.code yX4_isByte cX4_isByte 1 (some .boolean), Cond.methodLink RX4 66 yX3_isFull, Cond.instanceMethod yX3_isFull, Cond.selects RX3 yX3_isFull yX3_isFull, Cond.initialized RX3, Cond.code yX3_isFull cX3_isFull 1 (some .boolean), Cond.fieldLink RX3 13 "BlockCache$Queue" "many" "I", Cond.fieldLink RX3 7 "BlockCache$Queue" "ring" "[I", Cond.methodLink RX4 73 yX3_append, Cond.instanceMethod yX3_append, Cond.selects RX3 yX3_append yX3_append, Cond.code yX3_append cX3_append 2 none, Cond.fieldLink RX3 17 "BlockCache$Queue" "start" "I", Cond.methodLink RX3 20 yX3_wrapped]
def wsX4_input_r2 : List Cond := [Cond.instanceMethod yX3_wrapped, Cond.selects RX3 yX3_wrapped yX3_wrapped, Cond.code yX3_wrapped cX3_wrapped 2 (some .int)]
def wsX4_input : List Cond := .code yX4_input cX4_input 2 (some .int) :: ((wsX4_input_r1 ++ wsX4_input_r2) ++ wsX40 ++ wsX20 ++ wsX30 ++ (vx_at0 RX4 45 "java/lang/IllegalArgumentException" ["java/lang/RuntimeException", "java/lang/Exception"]).filter goodWord ++ (vx_at0 RX4 72 "java/lang/IllegalStateException" ["java/lang/RuntimeException", "java/lang/Exception"]).filter goodWord)
def wsX4_request : List Cond := .code yX4_request cX4_request 2 (some .int) :: ([.classLink RX4 43 "java/lang/IllegalArgumentException", .initialized "java/lang/IllegalArgumentException", .classLink RX4 70 "java/lang/IllegalStateException", .initialized "java/lang/IllegalStateException", .fieldLink RX4 32 "BlockCache" "latestRequest" "I", .fieldLink RX4 79 "BlockCache" "executed" "I", .fieldLink RX4 28 "BlockCache" "requests" "LBlockCache$Queue;", .fieldLink RX4 76 "BlockCache$Queue" "many" "I", .methodLink RX4 66 yX3_isFull, .instanceMethod yX3_isFull, .selects RX3 yX3_isFull yX3_isFull, .initialized RX3, .code yX3_isFull cX3_isFull 1 (some .boolean), .fieldLink RX3 13 "BlockCache$Queue" "many" "I", .fieldLink RX3 7 "BlockCache$Queue" "ring" "[I", .methodLink RX4 73 yX3_append, .instanceMethod yX3_append, .selects RX3 yX3_append yX3_append, .code yX3_append cX3_append 2 none, .fieldLink RX3 17 "BlockCache$Queue" "start" "I", .methodLink RX3 20 yX3_wrapped, .instanceMethod yX3_wrapped, .selects RX3 yX3_wrapped yX3_wrapped, .code yX3_wrapped cX3_wrapped 2 (some .int)] ++ wsX40 ++ wsX30 ++ (vx_at0 RX4 45 "java/lang/IllegalArgumentException" ["java/lang/RuntimeException", "java/lang/Exception"]).filter goodWord ++ (vx_at0 RX4 72 "java/lang/IllegalStateException" ["java/lang/RuntimeException", "java/lang/Exception"]).filter goodWord)
def wsX4_room : List Cond := .code yX4_room cX4_room 2 none :: ([.classLink RX4 43 "java/lang/IllegalArgumentException", .initialized "java/lang/IllegalArgumentException", .fieldLink RX4 19 "BlockCache" "cache" "LBlockCache$Cache;", .fieldLink RX4 82 "BlockCache$Cache" "limit" "I", .methodLink RX4 85 yX0_empty, .instanceMethod yX0_empty, .selects RX0 yX0_empty yX0_empty, .initialized RX0, .code yX0_empty cX0_empty 1 none, .fieldLink RX0 24 "BlockCache$Cache" "serial" "[I", .fieldLink RX0 63 "BlockCache$Cache" "blocks" "I", .fieldLink RX0 48 "BlockCache$Cache" "filled" "I", .methodLink RX0 117 yJ7_fill_53178, .static yJ7_fill_53178, .initialized RJ7, .code yJ7_fill_53178 cJ7_fill_53178 4 none] ++ wsX40 ++ wsX00 ++ (vx_at0 RX4 45 "java/lang/IllegalArgumentException" ["java/lang/RuntimeException", "java/lang/Exception"]).filter goodWord)
def wsX4_dropWritten : List Cond := .code yX4_dropWritten cX4_dropWritten 1 none :: ([.fieldLink RX4 10 "BlockCache" "guest" "LBlockCache$Guest;", .fieldLink RX4 201 "BlockCache$Guest" "written" "I", .fieldLink RX4 106 "BlockCache" "invalidated" "I", .fieldLink RX4 19 "BlockCache" "cache" "LBlockCache$Cache;", .methodLink RX4 50 yX0_dropPage, .instanceMethod yX0_dropPage, .selects RX0 yX0_dropPage yX0_dropPage, .initialized RX0, .code yX0_dropPage cX0_dropPage 6 (some .int), .fieldLink RX0 63 "BlockCache$Cache" "blocks" "I", .fieldLink RX0 24 "BlockCache$Cache" "serial" "[I", .fieldLink RX0 48 "BlockCache$Cache" "filled" "I", .fieldLink RX0 21 "BlockCache$Cache" "size" "[I", .methodLink RX0 110 yX0_has, .instanceMethod yX0_has, .selects RX0 yX0_has yX0_has, .code yX0_has cX0_has 2 (some .boolean), .methodLink RX0 113 yX0_reaches, .instanceMethod yX0_reaches, .selects RX0 yX0_reaches yX0_reaches, .code yX0_reaches cX0_reaches 4 (some .boolean), .fieldLink RX0 18 "BlockCache$Cache" "behind" "[I"] ++ wsX40 ++ wsX20 ++ wsX00)
def wsX4_interruptIfDue_r1 : List Cond := [Cond.fieldLink RX4 10 "BlockCache" "guest" "LBlockCache$Guest;", Cond.fieldLink RX4 60 "BlockCache$Guest" "state" "[I", Cond.fieldLink RX4 28 "BlockCache" "requests" "LBlockCache$Queue;", Cond.fieldLink RX4 76 "BlockCache$Queue" "many" "I", Cond.fieldLink RX4 79 "BlockCache" "executed" "I", Cond.fieldLink RX4 118 "BlockCache" "interrupts" "I", Cond.fieldLink RX4 36 "BlockCache" "exit" "I", Cond.methodLink RX4 146 yX3_first, Cond.instanceMethod yX3_first, Cond.selects RX3 yX3_first yX3_first, Cond.initialized RX3, Cond.code yX3_first cX3_first 1 (some .int), Cond.fieldLink RX3 7 "BlockCache$Queue" "ring" "[I", Cond.fieldLink RX3 17 "BlockCache$Queue" "start" "I", Cond.methodLink RX4 150 yX3_takeFirst, Cond.instanceMethod yX3_takeFirst, Cond.selects RX3 yX3_takeFirst yX3_takeFirst, Cond.code yX3_takeFirst cX3_takeFirst 2 (some .int), Cond.fieldLink RX3 13 "BlockCache$Queue" "many" "I", Cond.methodLink RX3 20 yX3_wrapped, Cond.instanceMethod yX3_wrapped, Cond.selects RX3 yX3_wrapped yX3_wrapped, Cond.code yX3_wrapped cX3_wrapped 2 (some .int), Cond.methodLink RX4 153 yX2_interrupt]
def wsX4_interruptIfDue_r2 : List Cond := [Cond.instanceMethod yX2_interrupt, Cond.selects RX2 yX2_interrupt yX2_interrupt, Cond.initialized RX2, Cond.code yX2_interrupt cX2_interrupt 1 none, Cond.fieldLink RX2 9 "BlockCache$Guest" "state" "[I", Cond.methodLink RX2 37 yX2_push, Cond.instanceMethod yX2_push, Cond.selects RX2 yX2_push yX2_push, Cond.code yX2_push cX2_push 2 none, Cond.methodLink RX2 110 yX2_write, Cond.instanceMethod yX2_write, Cond.selects RX2 yX2_write yX2_write, Cond.code yX2_write cX2_write 3 none, Cond.fieldLink RX2 15 "BlockCache$Guest" "memory" "[I", Cond.fieldLink RX2 30 "BlockCache$Guest" "written" "I", Cond.methodLink RX4 156 yX4_dropWritten, Cond.instanceMethod yX4_dropWritten, Cond.selects RX4 yX4_dropWritten yX4_dropWritten, Cond.initialized RX4, Cond.code yX4_dropWritten cX4_dropWritten 1 none, Cond.fieldLink RX4 201 "BlockCache$Guest" "written" "I", Cond.fieldLink RX4 106 "BlockCache" "invalidated" "I", Cond.fieldLink RX4 19 "BlockCache" "cache" "LBlockCache$Cache;", Cond.methodLink RX4 50 yX0_dropPage]
def wsX4_interruptIfDue_r3 : List Cond := [Cond.instanceMethod yX0_dropPage, Cond.selects RX0 yX0_dropPage yX0_dropPage, Cond.initialized RX0, Cond.code yX0_dropPage cX0_dropPage 6 (some .int), Cond.fieldLink RX0 63 "BlockCache$Cache" "blocks" "I", Cond.fieldLink RX0 24 "BlockCache$Cache" "serial" "[I", Cond.fieldLink RX0 48 "BlockCache$Cache" "filled" "I", Cond.fieldLink RX0 21 "BlockCache$Cache" "size" "[I", Cond.methodLink RX0 110 yX0_has, Cond.instanceMethod yX0_has, Cond.selects RX0 yX0_has yX0_has, Cond.code yX0_has cX0_has 2 (some .boolean), Cond.methodLink RX0 113 yX0_reaches, Cond.instanceMethod yX0_reaches, Cond.selects RX0 yX0_reaches yX0_reaches, Cond.code yX0_reaches cX0_reaches 4 (some .boolean), Cond.fieldLink RX0 18 "BlockCache$Cache" "behind" "[I"]
def wsX4_interruptIfDue : List Cond := .code yX4_interruptIfDue cX4_interruptIfDue 1 none :: ((wsX4_interruptIfDue_r1 ++ (wsX4_interruptIfDue_r2 ++ wsX4_interruptIfDue_r3)) ++ wsX40 ++ wsX20 ++ wsX30 ++ wsX00)
def wsX4_findBlock_r1 : List Cond := [Cond.fieldLink RX4 19 "BlockCache" "cache" "LBlockCache$Cache;", Cond.fieldLink RX4 36 "BlockCache" "exit" "I", Cond.fieldLink RX4 112 "BlockCache" "lookups" "I", Cond.fieldLink RX4 10 "BlockCache" "guest" "LBlockCache$Guest;", Cond.fieldLink RX4 46 "BlockCache$Guest" "memory" "[I", Cond.methodLink RX4 159 yX0_isLinked, Cond.instanceMethod yX0_isLinked, Cond.selects RX0 yX0_isLinked yX0_isLinked, Cond.initialized RX0, Cond.code yX0_isLinked cX0_isLinked 3 (some .boolean), Cond.fieldLink RX0 30 "BlockCache$Cache" "linkedSerial" "[I", Cond.fieldLink RX0 24 "BlockCache$Cache" "serial" "[I", Cond.methodLink RX0 110 yX0_has, Cond.instanceMethod yX0_has, Cond.selects RX0 yX0_has yX0_has, Cond.code yX0_has cX0_has 2 (some .boolean), Cond.methodLink RX4 162 yX0_has, Cond.methodLink RX4 165 yX0_translate, Cond.instanceMethod yX0_translate, Cond.selects RX0 yX0_translate yX0_translate, Cond.code yX0_translate cX0_translate 4 (some .boolean), Cond.fieldLink RX0 21 "BlockCache$Cache" "size" "[I", Cond.fieldLink RX0 15 "BlockCache$Cache" "length" "[I", Cond.fieldLink RX0 33 "BlockCache$Cache" "limit" "I"]
def wsX4_findBlock_r2 : List Cond := [Cond.fieldLink RX0 48 "BlockCache$Cache" "filled" "I", Cond.fieldLink RX0 54 "BlockCache$Cache" "flushes" "I", Cond.fieldLink RX0 57 "BlockCache$Cache" "translated" "I", Cond.fieldLink RX0 60 "BlockCache$Cache" "deadFlags" "I", Cond.fieldLink RX0 63 "BlockCache$Cache" "blocks" "I", Cond.methodLink RX0 37 yX0_decodeBlock, Cond.instanceMethod yX0_decodeBlock, Cond.selects RX0 yX0_decodeBlock yX0_decodeBlock, Cond.code yX0_decodeBlock cX0_decodeBlock 8 none, Cond.fieldLink RX0 11 "BlockCache$Cache" "code" "[I", Cond.fieldLink RX0 18 "BlockCache$Cache" "behind" "[I", Cond.methodLink RX0 70 yX1_decode, Cond.static yX1_decode, Cond.initialized RX1, Cond.code yX1_decode cX1_decode 4 (some .int), Cond.methodLink RX1 7 yX1_kindOf, Cond.static yX1_kindOf, Cond.code yX1_kindOf cX1_kindOf 4 (some .int), Cond.methodLink RX0 76 yX1_kind, Cond.static yX1_kind, Cond.code yX1_kind cX1_kind 1 (some .int), Cond.methodLink RX0 79 yX1_bytes, Cond.static yX1_bytes, Cond.code yX1_bytes cX1_bytes 1 (some .int)]
def wsX4_findBlock_r3 : List Cond := [Cond.methodLink RX0 82 yX1_endsBlock, Cond.static yX1_endsBlock, Cond.code yX1_endsBlock cX1_endsBlock 1 (some .boolean), Cond.methodLink RX1 14 yX1_leavesByItself, Cond.static yX1_leavesByItself, Cond.code yX1_leavesByItself cX1_leavesByItself 1 (some .boolean), Cond.methodLink RX0 41 yX0_markDead, Cond.instanceMethod yX0_markDead, Cond.selects RX0 yX0_markDead yX0_markDead, Cond.code yX0_markDead cX0_markDead 8 (some .int), Cond.methodLink RX0 86 yX0_wordAt, Cond.instanceMethod yX0_wordAt, Cond.selects RX0 yX0_wordAt yX0_wordAt, Cond.code yX0_wordAt cX0_wordAt 3 (some .int), Cond.methodLink RX0 90 yX1_makesFlags, Cond.static yX1_makesFlags, Cond.code yX1_makesFlags cX1_makesFlags 1 (some .boolean), Cond.methodLink RX0 93 yX1_asDead, Cond.static yX1_asDead, Cond.code yX1_asDead cX1_asDead 1 (some .int), Cond.constant RX1 13 (1048576), Cond.methodLink RX0 96 yX1_needsFlags, Cond.static yX1_needsFlags, Cond.code yX1_needsFlags cX1_needsFlags 1 (some .boolean)]
def wsX4_findBlock_r4 : List Cond := [Cond.methodLink RX0 45 yX0_sizeOf, Cond.instanceMethod yX0_sizeOf, Cond.selects RX0 yX0_sizeOf yX0_sizeOf, Cond.code yX0_sizeOf cX0_sizeOf 4 (some .int), Cond.methodLink RX0 99 yX0_lastKind, Cond.instanceMethod yX0_lastKind, Cond.selects RX0 yX0_lastKind yX0_lastKind, Cond.code yX0_lastKind cX0_lastKind 2 (some .int), Cond.methodLink RX0 102 yX1_leavesByItself, Cond.methodLink RX0 105 yX1_size, Cond.static yX1_size, Cond.code yX1_size cX1_size 2 (some .int), Cond.methodLink RX1 18 yX1_kind, Cond.methodLink RX1 21 yX1_makesFlags, Cond.methodLink RX1 24 yX1_sizeWithoutFlags, Cond.static yX1_sizeWithoutFlags, Cond.code yX1_sizeWithoutFlags cX1_sizeWithoutFlags 1 (some .int), Cond.methodLink RX1 27 yX1_isDead, Cond.static yX1_isDead, Cond.code yX1_isDead cX1_isDead 1 (some .boolean), Cond.methodLink RX1 30 yX1_onlyCompares, Cond.static yX1_onlyCompares, Cond.code yX1_onlyCompares cX1_onlyCompares 1 (some .boolean), Cond.methodLink RX0 51 yX0_empty]
def wsX4_findBlock_r5 : List Cond := [Cond.instanceMethod yX0_empty, Cond.selects RX0 yX0_empty yX0_empty, Cond.code yX0_empty cX0_empty 1 none, Cond.methodLink RX0 117 yJ7_fill_53178, Cond.static yJ7_fill_53178, Cond.initialized RJ7, Cond.code yJ7_fill_53178 cJ7_fill_53178 4 none, Cond.methodLink RX0 66 yX0_layExits, Cond.instanceMethod yX0_layExits, Cond.selects RX0 yX0_layExits yX0_layExits, Cond.code yX0_layExits cX0_layExits 6 none, Cond.fieldLink RX0 27 "BlockCache$Cache" "exitPlace" "[I", Cond.methodLink RX0 107 yX1_n, Cond.static yX1_n, Cond.code yX1_n cX1_n 1 (some .int)]
def wsX4_findBlock : List Cond := .code yX4_findBlock cX4_findBlock 2 (some .boolean) :: ((wsX4_findBlock_r1 ++ (wsX4_findBlock_r2 ++ (wsX4_findBlock_r3 ++ (wsX4_findBlock_r4 ++ wsX4_findBlock_r5)))) ++ wsX40 ++ wsX20 ++ wsX00)
def wsX4_requestComes : List Cond := .code yX4_requestComes cX4_requestComes 4 (some .boolean) :: ([.fieldLink RX4 28 "BlockCache" "requests" "LBlockCache$Queue;", .fieldLink RX4 76 "BlockCache$Queue" "many" "I", .fieldLink RX4 79 "BlockCache" "executed" "I", .methodLink RX4 172 yX3_at, .instanceMethod yX3_at, .selects RX3 yX3_at yX3_at, .initialized RX3, .code yX3_at cX3_at 2 (some .int), .fieldLink RX3 7 "BlockCache$Queue" "ring" "[I", .fieldLink RX3 17 "BlockCache$Queue" "start" "I", .methodLink RX3 20 yX3_wrapped, .instanceMethod yX3_wrapped, .selects RX3 yX3_wrapped yX3_wrapped, .code yX3_wrapped cX3_wrapped 2 (some .int)] ++ wsX40 ++ wsX30)
def wsX4_mayRunWhole : List Cond := .code yX4_mayRunWhole cX4_mayRunWhole 3 (some .boolean) :: ([.fieldLink RX4 79 "BlockCache" "executed" "I", .methodLink RX4 169 yX4_requestComes, .instanceMethod yX4_requestComes, .selects RX4 yX4_requestComes yX4_requestComes, .initialized RX4, .code yX4_requestComes cX4_requestComes 4 (some .boolean), .fieldLink RX4 28 "BlockCache" "requests" "LBlockCache$Queue;", .fieldLink RX4 76 "BlockCache$Queue" "many" "I", .methodLink RX4 172 yX3_at, .instanceMethod yX3_at, .selects RX3 yX3_at yX3_at, .initialized RX3, .code yX3_at cX3_at 2 (some .int), .fieldLink RX3 7 "BlockCache$Queue" "ring" "[I", .fieldLink RX3 17 "BlockCache$Queue" "start" "I", .methodLink RX3 20 yX3_wrapped, .instanceMethod yX3_wrapped, .selects RX3 yX3_wrapped yX3_wrapped, .code yX3_wrapped cX3_wrapped 2 (some .int)] ++ wsX40 ++ wsX30)
def wsX4_perform_r1 : List Cond := [Cond.fieldLink RX4 10 "BlockCache" "guest" "LBlockCache$Guest;", Cond.fieldLink RX4 79 "BlockCache" "executed" "I", Cond.fieldLink RX4 88 "BlockCache" "ending" "I", Cond.methodLink RX4 198 yX2_execute, Cond.instanceMethod yX2_execute, Cond.selects RX2 yX2_execute yX2_execute, Cond.initialized RX2, Cond.code yX2_execute cX2_execute 3 none, Cond.fieldLink RX2 9 "BlockCache$Guest" "state" "[I", Cond.methodLink RX2 40 yX1_kind, Cond.static yX1_kind, Cond.initialized RX1, Cond.code yX1_kind cX1_kind 1 (some .int), Cond.methodLink RX2 46 yX1_bytes, Cond.static yX1_bytes, Cond.code yX1_bytes cX1_bytes 1 (some .int), Cond.methodLink RX2 49 yX1_makesFlags, Cond.static yX1_makesFlags, Cond.code yX1_makesFlags cX1_makesFlags 1 (some .boolean), Cond.methodLink RX2 53 yX2_calculate, Cond.instanceMethod yX2_calculate, Cond.selects RX2 yX2_calculate yX2_calculate, Cond.code yX2_calculate cX2_calculate 8 none, Cond.methodLink RX2 66 yX1_isDead]
def wsX4_perform_r2 : List Cond := [Cond.static yX1_isDead, Cond.code yX1_isDead cX1_isDead 1 (some .boolean), Cond.constant RX1 13 (1048576), Cond.methodLink RX2 69 yX1_onlyCompares, Cond.static yX1_onlyCompares, Cond.code yX1_onlyCompares cX1_onlyCompares 1 (some .boolean), Cond.methodLink RX2 72 yX1_d, Cond.static yX1_d, Cond.code yX1_d cX1_d 1 (some .int), Cond.methodLink RX2 75 yX1_n, Cond.static yX1_n, Cond.code yX1_n cX1_n 1 (some .int), Cond.methodLink RX2 78 yX1_s, Cond.static yX1_s, Cond.code yX1_s cX1_s 1 (some .int), Cond.methodLink RX2 81 yX2_resultWithCarry, Cond.instanceMethod yX2_resultWithCarry, Cond.selects RX2 yX2_resultWithCarry yX2_resultWithCarry, Cond.code yX2_resultWithCarry cX2_resultWithCarry 4 (some .int), Cond.methodLink RX2 85 yX2_makeFlags, Cond.instanceMethod yX2_makeFlags, Cond.selects RX2 yX2_makeFlags yX2_makeFlags, Cond.code yX2_makeFlags cX2_makeFlags 2 none, Cond.methodLink RX2 57 yX1_endsBlock]
def wsX4_perform_r3 : List Cond := [Cond.static yX1_endsBlock, Cond.code yX1_endsBlock cX1_endsBlock 1 (some .boolean), Cond.methodLink RX1 14 yX1_leavesByItself, Cond.static yX1_leavesByItself, Cond.code yX1_leavesByItself cX1_leavesByItself 1 (some .boolean), Cond.methodLink RX2 60 yX2_steer, Cond.instanceMethod yX2_steer, Cond.selects RX2 yX2_steer yX2_steer, Cond.code yX2_steer cX2_steer 3 none, Cond.methodLink RX2 88 yX1_w, Cond.static yX1_w, Cond.code yX1_w cX1_w 1 (some .int), Cond.methodLink RX2 91 yX2_jumpIf, Cond.instanceMethod yX2_jumpIf, Cond.selects RX2 yX2_jumpIf yX2_jumpIf, Cond.code yX2_jumpIf cX2_jumpIf 4 none, Cond.methodLink RX2 37 yX2_push, Cond.instanceMethod yX2_push, Cond.selects RX2 yX2_push yX2_push, Cond.code yX2_push cX2_push 2 none, Cond.methodLink RX2 110 yX2_write, Cond.instanceMethod yX2_write, Cond.selects RX2 yX2_write yX2_write, Cond.code yX2_write cX2_write 3 none]
def wsX4_perform_r4 : List Cond := [Cond.fieldLink RX2 15 "BlockCache$Guest" "memory" "[I", Cond.fieldLink RX2 30 "BlockCache$Guest" "written" "I", Cond.methodLink RX2 94 yX2_pop, Cond.instanceMethod yX2_pop, Cond.selects RX2 yX2_pop yX2_pop, Cond.code yX2_pop cX2_pop 2 (some .int), Cond.methodLink RX2 98 yX2_countDown, Cond.instanceMethod yX2_countDown, Cond.selects RX2 yX2_countDown yX2_countDown, Cond.code yX2_countDown cX2_countDown 3 none, Cond.methodLink RX2 63 yX2_move, Cond.instanceMethod yX2_move, Cond.selects RX2 yX2_move yX2_move, Cond.code yX2_move cX2_move 5 none, Cond.fieldLink RX2 23 "BlockCache$Guest" "inputs" "LBlockCache$Queue;", Cond.fieldLink RX2 104 "BlockCache$Queue" "many" "I", Cond.methodLink RX2 101 yX2_give, Cond.instanceMethod yX2_give, Cond.selects RX2 yX2_give yX2_give, Cond.code yX2_give cX2_give 2 none, Cond.fieldLink RX2 34 "BlockCache$Guest" "given" "I", Cond.fieldLink RX2 27 "BlockCache$Guest" "outputs" "[I", Cond.methodLink RX2 107 yX3_takeFirst, Cond.instanceMethod yX3_takeFirst]
def wsX4_perform_r5 : List Cond := [Cond.selects RX3 yX3_takeFirst yX3_takeFirst, Cond.initialized RX3, Cond.code yX3_takeFirst cX3_takeFirst 2 (some .int), Cond.fieldLink RX3 7 "BlockCache$Queue" "ring" "[I", Cond.fieldLink RX3 17 "BlockCache$Queue" "start" "I", Cond.fieldLink RX3 13 "BlockCache$Queue" "many" "I", Cond.methodLink RX3 20 yX3_wrapped, Cond.instanceMethod yX3_wrapped, Cond.selects RX3 yX3_wrapped yX3_wrapped, Cond.code yX3_wrapped cX3_wrapped 2 (some .int), Cond.methodLink RX4 156 yX4_dropWritten, Cond.instanceMethod yX4_dropWritten, Cond.selects RX4 yX4_dropWritten yX4_dropWritten, Cond.initialized RX4, Cond.code yX4_dropWritten cX4_dropWritten 1 none, Cond.fieldLink RX4 201 "BlockCache$Guest" "written" "I", Cond.fieldLink RX4 106 "BlockCache" "invalidated" "I", Cond.fieldLink RX4 19 "BlockCache" "cache" "LBlockCache$Cache;", Cond.methodLink RX4 50 yX0_dropPage, Cond.instanceMethod yX0_dropPage, Cond.selects RX0 yX0_dropPage yX0_dropPage, Cond.initialized RX0, Cond.code yX0_dropPage cX0_dropPage 6 (some .int), Cond.fieldLink RX0 63 "BlockCache$Cache" "blocks" "I"]
def wsX4_perform_r6 : List Cond := [Cond.fieldLink RX0 24 "BlockCache$Cache" "serial" "[I", Cond.fieldLink RX0 48 "BlockCache$Cache" "filled" "I", Cond.fieldLink RX0 21 "BlockCache$Cache" "size" "[I", Cond.methodLink RX0 110 yX0_has, Cond.instanceMethod yX0_has, Cond.selects RX0 yX0_has yX0_has, Cond.code yX0_has cX0_has 2 (some .boolean), Cond.methodLink RX0 113 yX0_reaches, Cond.instanceMethod yX0_reaches, Cond.selects RX0 yX0_reaches yX0_reaches, Cond.code yX0_reaches cX0_reaches 4 (some .boolean), Cond.fieldLink RX0 18 "BlockCache$Cache" "behind" "[I", Cond.methodLink RX4 195 yX1_kind]
def wsX4_perform : List Cond := .code yX4_perform cX4_perform 2 none :: ((wsX4_perform_r1 ++ (wsX4_perform_r2 ++ (wsX4_perform_r3 ++ (wsX4_perform_r4 ++ (wsX4_perform_r5 ++ wsX4_perform_r6))))) ++ wsX40 ++ wsX20 ++ wsX30 ++ wsX00)
def wsX4_runBlock_r1 : List Cond := [Cond.fieldLink RX4 19 "BlockCache" "cache" "LBlockCache$Cache;", Cond.fieldLink RX4 36 "BlockCache" "exit" "I", Cond.fieldLink RX4 133 "BlockCache$Cache" "length" "[I", Cond.fieldLink RX4 10 "BlockCache" "guest" "LBlockCache$Guest;", Cond.fieldLink RX4 60 "BlockCache$Guest" "state" "[I", Cond.methodLink RX4 175 yX0_link, Cond.instanceMethod yX0_link, Cond.selects RX0 yX0_link yX0_link, Cond.initialized RX0, Cond.code yX0_link cX0_link 3 none, Cond.fieldLink RX0 30 "BlockCache$Cache" "linkedSerial" "[I", Cond.fieldLink RX0 24 "BlockCache$Cache" "serial" "[I", Cond.methodLink RX0 110 yX0_has, Cond.instanceMethod yX0_has, Cond.selects RX0 yX0_has yX0_has, Cond.code yX0_has cX0_has 2 (some .boolean), Cond.methodLink RX4 162 yX0_has, Cond.methodLink RX4 179 yX0_wordAt, Cond.instanceMethod yX0_wordAt, Cond.selects RX0 yX0_wordAt yX0_wordAt, Cond.code yX0_wordAt cX0_wordAt 3 (some .int), Cond.fieldLink RX0 11 "BlockCache$Cache" "code" "[I", Cond.methodLink RX4 183 yX4_perform, Cond.instanceMethod yX4_perform]
def wsX4_runBlock_r2 : List Cond := [Cond.selects RX4 yX4_perform yX4_perform, Cond.initialized RX4, Cond.code yX4_perform cX4_perform 2 none, Cond.fieldLink RX4 79 "BlockCache" "executed" "I", Cond.fieldLink RX4 88 "BlockCache" "ending" "I", Cond.methodLink RX4 198 yX2_execute, Cond.instanceMethod yX2_execute, Cond.selects RX2 yX2_execute yX2_execute, Cond.initialized RX2, Cond.code yX2_execute cX2_execute 3 none, Cond.fieldLink RX2 9 "BlockCache$Guest" "state" "[I", Cond.methodLink RX2 40 yX1_kind, Cond.static yX1_kind, Cond.initialized RX1, Cond.code yX1_kind cX1_kind 1 (some .int), Cond.methodLink RX2 46 yX1_bytes, Cond.static yX1_bytes, Cond.code yX1_bytes cX1_bytes 1 (some .int), Cond.methodLink RX2 49 yX1_makesFlags, Cond.static yX1_makesFlags, Cond.code yX1_makesFlags cX1_makesFlags 1 (some .boolean), Cond.methodLink RX2 53 yX2_calculate, Cond.instanceMethod yX2_calculate, Cond.selects RX2 yX2_calculate yX2_calculate]
def wsX4_runBlock_r3 : List Cond := [Cond.code yX2_calculate cX2_calculate 8 none, Cond.methodLink RX2 66 yX1_isDead, Cond.static yX1_isDead, Cond.code yX1_isDead cX1_isDead 1 (some .boolean), Cond.constant RX1 13 (1048576), Cond.methodLink RX2 69 yX1_onlyCompares, Cond.static yX1_onlyCompares, Cond.code yX1_onlyCompares cX1_onlyCompares 1 (some .boolean), Cond.methodLink RX2 72 yX1_d, Cond.static yX1_d, Cond.code yX1_d cX1_d 1 (some .int), Cond.methodLink RX2 75 yX1_n, Cond.static yX1_n, Cond.code yX1_n cX1_n 1 (some .int), Cond.methodLink RX2 78 yX1_s, Cond.static yX1_s, Cond.code yX1_s cX1_s 1 (some .int), Cond.methodLink RX2 81 yX2_resultWithCarry, Cond.instanceMethod yX2_resultWithCarry, Cond.selects RX2 yX2_resultWithCarry yX2_resultWithCarry, Cond.code yX2_resultWithCarry cX2_resultWithCarry 4 (some .int), Cond.methodLink RX2 85 yX2_makeFlags, Cond.instanceMethod yX2_makeFlags, Cond.selects RX2 yX2_makeFlags yX2_makeFlags]
def wsX4_runBlock_r4 : List Cond := [Cond.code yX2_makeFlags cX2_makeFlags 2 none, Cond.methodLink RX2 57 yX1_endsBlock, Cond.static yX1_endsBlock, Cond.code yX1_endsBlock cX1_endsBlock 1 (some .boolean), Cond.methodLink RX1 14 yX1_leavesByItself, Cond.static yX1_leavesByItself, Cond.code yX1_leavesByItself cX1_leavesByItself 1 (some .boolean), Cond.methodLink RX2 60 yX2_steer, Cond.instanceMethod yX2_steer, Cond.selects RX2 yX2_steer yX2_steer, Cond.code yX2_steer cX2_steer 3 none, Cond.methodLink RX2 88 yX1_w, Cond.static yX1_w, Cond.code yX1_w cX1_w 1 (some .int), Cond.methodLink RX2 91 yX2_jumpIf, Cond.instanceMethod yX2_jumpIf, Cond.selects RX2 yX2_jumpIf yX2_jumpIf, Cond.code yX2_jumpIf cX2_jumpIf 4 none, Cond.methodLink RX2 37 yX2_push, Cond.instanceMethod yX2_push, Cond.selects RX2 yX2_push yX2_push, Cond.code yX2_push cX2_push 2 none, Cond.methodLink RX2 110 yX2_write, Cond.instanceMethod yX2_write]
def wsX4_runBlock_r5 : List Cond := [Cond.selects RX2 yX2_write yX2_write, Cond.code yX2_write cX2_write 3 none, Cond.fieldLink RX2 15 "BlockCache$Guest" "memory" "[I", Cond.fieldLink RX2 30 "BlockCache$Guest" "written" "I", Cond.methodLink RX2 94 yX2_pop, Cond.instanceMethod yX2_pop, Cond.selects RX2 yX2_pop yX2_pop, Cond.code yX2_pop cX2_pop 2 (some .int), Cond.methodLink RX2 98 yX2_countDown, Cond.instanceMethod yX2_countDown, Cond.selects RX2 yX2_countDown yX2_countDown, Cond.code yX2_countDown cX2_countDown 3 none, Cond.methodLink RX2 63 yX2_move, Cond.instanceMethod yX2_move, Cond.selects RX2 yX2_move yX2_move, Cond.code yX2_move cX2_move 5 none, Cond.fieldLink RX2 23 "BlockCache$Guest" "inputs" "LBlockCache$Queue;", Cond.fieldLink RX2 104 "BlockCache$Queue" "many" "I", Cond.methodLink RX2 101 yX2_give, Cond.instanceMethod yX2_give, Cond.selects RX2 yX2_give yX2_give, Cond.code yX2_give cX2_give 2 none, Cond.fieldLink RX2 34 "BlockCache$Guest" "given" "I", Cond.fieldLink RX2 27 "BlockCache$Guest" "outputs" "[I"]
def wsX4_runBlock_r6 : List Cond := [Cond.methodLink RX2 107 yX3_takeFirst, Cond.instanceMethod yX3_takeFirst, Cond.selects RX3 yX3_takeFirst yX3_takeFirst, Cond.initialized RX3, Cond.code yX3_takeFirst cX3_takeFirst 2 (some .int), Cond.fieldLink RX3 7 "BlockCache$Queue" "ring" "[I", Cond.fieldLink RX3 17 "BlockCache$Queue" "start" "I", Cond.fieldLink RX3 13 "BlockCache$Queue" "many" "I", Cond.methodLink RX3 20 yX3_wrapped, Cond.instanceMethod yX3_wrapped, Cond.selects RX3 yX3_wrapped yX3_wrapped, Cond.code yX3_wrapped cX3_wrapped 2 (some .int), Cond.methodLink RX4 156 yX4_dropWritten, Cond.instanceMethod yX4_dropWritten, Cond.selects RX4 yX4_dropWritten yX4_dropWritten, Cond.code yX4_dropWritten cX4_dropWritten 1 none, Cond.fieldLink RX4 201 "BlockCache$Guest" "written" "I", Cond.fieldLink RX4 106 "BlockCache" "invalidated" "I", Cond.methodLink RX4 50 yX0_dropPage, Cond.instanceMethod yX0_dropPage, Cond.selects RX0 yX0_dropPage yX0_dropPage, Cond.code yX0_dropPage cX0_dropPage 6 (some .int), Cond.fieldLink RX0 63 "BlockCache$Cache" "blocks" "I", Cond.fieldLink RX0 48 "BlockCache$Cache" "filled" "I"]
def wsX4_runBlock_r7 : List Cond := [Cond.fieldLink RX0 21 "BlockCache$Cache" "size" "[I", Cond.methodLink RX0 113 yX0_reaches, Cond.instanceMethod yX0_reaches, Cond.selects RX0 yX0_reaches yX0_reaches, Cond.code yX0_reaches cX0_reaches 4 (some .boolean), Cond.fieldLink RX0 18 "BlockCache$Cache" "behind" "[I", Cond.methodLink RX4 195 yX1_kind, Cond.methodLink RX4 186 yX0_exitTo, Cond.instanceMethod yX0_exitTo, Cond.selects RX0 yX0_exitTo yX0_exitTo, Cond.code yX0_exitTo cX0_exitTo 3 (some .int), Cond.fieldLink RX0 27 "BlockCache$Cache" "exitPlace" "[I"]
def wsX4_runBlock : List Cond := .code yX4_runBlock cX4_runBlock 4 none :: ((wsX4_runBlock_r1 ++ (wsX4_runBlock_r2 ++ (wsX4_runBlock_r3 ++ (wsX4_runBlock_r4 ++ (wsX4_runBlock_r5 ++ (wsX4_runBlock_r6 ++ wsX4_runBlock_r7)))))) ++ wsX40 ++ wsX00 ++ wsX20 ++ wsX30)
def wsX4_interpret_r1 : List Cond := [Cond.fieldLink RX4 36 "BlockCache" "exit" "I", Cond.fieldLink RX4 10 "BlockCache" "guest" "LBlockCache$Guest;", Cond.fieldLink RX4 46 "BlockCache$Guest" "memory" "[I", Cond.fieldLink RX4 88 "BlockCache" "ending" "I", Cond.fieldLink RX4 115 "BlockCache" "interpreted" "I", Cond.methodLink RX4 189 yX1_decode, Cond.static yX1_decode, Cond.initialized RX1, Cond.code yX1_decode cX1_decode 4 (some .int), Cond.methodLink RX1 7 yX1_kindOf, Cond.static yX1_kindOf, Cond.code yX1_kindOf cX1_kindOf 4 (some .int), Cond.methodLink RX4 195 yX1_kind, Cond.static yX1_kind, Cond.code yX1_kind cX1_kind 1 (some .int), Cond.methodLink RX4 183 yX4_perform, Cond.instanceMethod yX4_perform, Cond.selects RX4 yX4_perform yX4_perform, Cond.initialized RX4, Cond.code yX4_perform cX4_perform 2 none, Cond.fieldLink RX4 79 "BlockCache" "executed" "I", Cond.methodLink RX4 198 yX2_execute, Cond.instanceMethod yX2_execute, Cond.selects RX2 yX2_execute yX2_execute]
def wsX4_interpret_r2 : List Cond := [Cond.initialized RX2, Cond.code yX2_execute cX2_execute 3 none, Cond.fieldLink RX2 9 "BlockCache$Guest" "state" "[I", Cond.methodLink RX2 40 yX1_kind, Cond.methodLink RX2 46 yX1_bytes, Cond.static yX1_bytes, Cond.code yX1_bytes cX1_bytes 1 (some .int), Cond.methodLink RX2 49 yX1_makesFlags, Cond.static yX1_makesFlags, Cond.code yX1_makesFlags cX1_makesFlags 1 (some .boolean), Cond.methodLink RX2 53 yX2_calculate, Cond.instanceMethod yX2_calculate, Cond.selects RX2 yX2_calculate yX2_calculate, Cond.code yX2_calculate cX2_calculate 8 none, Cond.methodLink RX2 66 yX1_isDead, Cond.static yX1_isDead, Cond.code yX1_isDead cX1_isDead 1 (some .boolean), Cond.constant RX1 13 (1048576), Cond.methodLink RX2 69 yX1_onlyCompares, Cond.static yX1_onlyCompares, Cond.code yX1_onlyCompares cX1_onlyCompares 1 (some .boolean), Cond.methodLink RX2 72 yX1_d, Cond.static yX1_d, Cond.code yX1_d cX1_d 1 (some .int)]
def wsX4_interpret_r3 : List Cond := [Cond.methodLink RX2 75 yX1_n, Cond.static yX1_n, Cond.code yX1_n cX1_n 1 (some .int), Cond.methodLink RX2 78 yX1_s, Cond.static yX1_s, Cond.code yX1_s cX1_s 1 (some .int), Cond.methodLink RX2 81 yX2_resultWithCarry, Cond.instanceMethod yX2_resultWithCarry, Cond.selects RX2 yX2_resultWithCarry yX2_resultWithCarry, Cond.code yX2_resultWithCarry cX2_resultWithCarry 4 (some .int), Cond.methodLink RX2 85 yX2_makeFlags, Cond.instanceMethod yX2_makeFlags, Cond.selects RX2 yX2_makeFlags yX2_makeFlags, Cond.code yX2_makeFlags cX2_makeFlags 2 none, Cond.methodLink RX2 57 yX1_endsBlock, Cond.static yX1_endsBlock, Cond.code yX1_endsBlock cX1_endsBlock 1 (some .boolean), Cond.methodLink RX1 14 yX1_leavesByItself, Cond.static yX1_leavesByItself, Cond.code yX1_leavesByItself cX1_leavesByItself 1 (some .boolean), Cond.methodLink RX2 60 yX2_steer, Cond.instanceMethod yX2_steer, Cond.selects RX2 yX2_steer yX2_steer, Cond.code yX2_steer cX2_steer 3 none]
def wsX4_interpret_r4 : List Cond := [Cond.methodLink RX2 88 yX1_w, Cond.static yX1_w, Cond.code yX1_w cX1_w 1 (some .int), Cond.methodLink RX2 91 yX2_jumpIf, Cond.instanceMethod yX2_jumpIf, Cond.selects RX2 yX2_jumpIf yX2_jumpIf, Cond.code yX2_jumpIf cX2_jumpIf 4 none, Cond.methodLink RX2 37 yX2_push, Cond.instanceMethod yX2_push, Cond.selects RX2 yX2_push yX2_push, Cond.code yX2_push cX2_push 2 none, Cond.methodLink RX2 110 yX2_write, Cond.instanceMethod yX2_write, Cond.selects RX2 yX2_write yX2_write, Cond.code yX2_write cX2_write 3 none, Cond.fieldLink RX2 15 "BlockCache$Guest" "memory" "[I", Cond.fieldLink RX2 30 "BlockCache$Guest" "written" "I", Cond.methodLink RX2 94 yX2_pop, Cond.instanceMethod yX2_pop, Cond.selects RX2 yX2_pop yX2_pop, Cond.code yX2_pop cX2_pop 2 (some .int), Cond.methodLink RX2 98 yX2_countDown, Cond.instanceMethod yX2_countDown, Cond.selects RX2 yX2_countDown yX2_countDown]
def wsX4_interpret_r5 : List Cond := [Cond.code yX2_countDown cX2_countDown 3 none, Cond.methodLink RX2 63 yX2_move, Cond.instanceMethod yX2_move, Cond.selects RX2 yX2_move yX2_move, Cond.code yX2_move cX2_move 5 none, Cond.fieldLink RX2 23 "BlockCache$Guest" "inputs" "LBlockCache$Queue;", Cond.fieldLink RX2 104 "BlockCache$Queue" "many" "I", Cond.methodLink RX2 101 yX2_give, Cond.instanceMethod yX2_give, Cond.selects RX2 yX2_give yX2_give, Cond.code yX2_give cX2_give 2 none, Cond.fieldLink RX2 34 "BlockCache$Guest" "given" "I", Cond.fieldLink RX2 27 "BlockCache$Guest" "outputs" "[I", Cond.methodLink RX2 107 yX3_takeFirst, Cond.instanceMethod yX3_takeFirst, Cond.selects RX3 yX3_takeFirst yX3_takeFirst, Cond.initialized RX3, Cond.code yX3_takeFirst cX3_takeFirst 2 (some .int), Cond.fieldLink RX3 7 "BlockCache$Queue" "ring" "[I", Cond.fieldLink RX3 17 "BlockCache$Queue" "start" "I", Cond.fieldLink RX3 13 "BlockCache$Queue" "many" "I", Cond.methodLink RX3 20 yX3_wrapped, Cond.instanceMethod yX3_wrapped, Cond.selects RX3 yX3_wrapped yX3_wrapped]
def wsX4_interpret_r6 : List Cond := [Cond.code yX3_wrapped cX3_wrapped 2 (some .int), Cond.methodLink RX4 156 yX4_dropWritten, Cond.instanceMethod yX4_dropWritten, Cond.selects RX4 yX4_dropWritten yX4_dropWritten, Cond.code yX4_dropWritten cX4_dropWritten 1 none, Cond.fieldLink RX4 201 "BlockCache$Guest" "written" "I", Cond.fieldLink RX4 106 "BlockCache" "invalidated" "I", Cond.fieldLink RX4 19 "BlockCache" "cache" "LBlockCache$Cache;", Cond.methodLink RX4 50 yX0_dropPage, Cond.instanceMethod yX0_dropPage, Cond.selects RX0 yX0_dropPage yX0_dropPage, Cond.initialized RX0, Cond.code yX0_dropPage cX0_dropPage 6 (some .int), Cond.fieldLink RX0 63 "BlockCache$Cache" "blocks" "I", Cond.fieldLink RX0 24 "BlockCache$Cache" "serial" "[I", Cond.fieldLink RX0 48 "BlockCache$Cache" "filled" "I", Cond.fieldLink RX0 21 "BlockCache$Cache" "size" "[I", Cond.methodLink RX0 110 yX0_has, Cond.instanceMethod yX0_has, Cond.selects RX0 yX0_has yX0_has, Cond.code yX0_has cX0_has 2 (some .boolean), Cond.methodLink RX0 113 yX0_reaches, Cond.instanceMethod yX0_reaches, Cond.selects RX0 yX0_reaches yX0_reaches]
def wsX4_interpret_r7 : List Cond := [Cond.code yX0_reaches cX0_reaches 4 (some .boolean), Cond.fieldLink RX0 18 "BlockCache$Cache" "behind" "[I"]
def wsX4_interpret : List Cond := .code yX4_interpret cX4_interpret 3 none :: ((wsX4_interpret_r1 ++ (wsX4_interpret_r2 ++ (wsX4_interpret_r3 ++ (wsX4_interpret_r4 ++ (wsX4_interpret_r5 ++ (wsX4_interpret_r6 ++ wsX4_interpret_r7)))))) ++ wsX40 ++ wsX20 ++ wsX30 ++ wsX00)
def wsX4_takeTurn_r1 : List Cond := [Cond.fieldLink RX4 10 "BlockCache" "guest" "LBlockCache$Guest;", Cond.fieldLink RX4 60 "BlockCache$Guest" "state" "[I", Cond.fieldLink RX4 19 "BlockCache" "cache" "LBlockCache$Cache;", Cond.fieldLink RX4 133 "BlockCache$Cache" "length" "[I", Cond.methodLink RX4 127 yX4_interruptIfDue, Cond.instanceMethod yX4_interruptIfDue, Cond.selects RX4 yX4_interruptIfDue yX4_interruptIfDue, Cond.initialized RX4, Cond.code yX4_interruptIfDue cX4_interruptIfDue 1 none, Cond.fieldLink RX4 28 "BlockCache" "requests" "LBlockCache$Queue;", Cond.fieldLink RX4 76 "BlockCache$Queue" "many" "I", Cond.fieldLink RX4 79 "BlockCache" "executed" "I", Cond.fieldLink RX4 118 "BlockCache" "interrupts" "I", Cond.fieldLink RX4 36 "BlockCache" "exit" "I", Cond.methodLink RX4 146 yX3_first, Cond.instanceMethod yX3_first, Cond.selects RX3 yX3_first yX3_first, Cond.initialized RX3, Cond.code yX3_first cX3_first 1 (some .int), Cond.fieldLink RX3 7 "BlockCache$Queue" "ring" "[I", Cond.fieldLink RX3 17 "BlockCache$Queue" "start" "I", Cond.methodLink RX4 150 yX3_takeFirst, Cond.instanceMethod yX3_takeFirst, Cond.selects RX3 yX3_takeFirst yX3_takeFirst]
end
section
def wsX4_takeTurn_r2 : List Cond := [Cond.code yX3_takeFirst cX3_takeFirst 2 (some .int), Cond.fieldLink RX3 13 "BlockCache$Queue" "many" "I", Cond.methodLink RX3 20 yX3_wrapped, Cond.instanceMethod yX3_wrapped, Cond.selects RX3 yX3_wrapped yX3_wrapped, Cond.code yX3_wrapped cX3_wrapped 2 (some .int), Cond.methodLink RX4 153 yX2_interrupt, Cond.instanceMethod yX2_interrupt, Cond.selects RX2 yX2_interrupt yX2_interrupt, Cond.initialized RX2, Cond.code yX2_interrupt cX2_interrupt 1 none, Cond.fieldLink RX2 9 "BlockCache$Guest" "state" "[I", Cond.methodLink RX2 37 yX2_push, Cond.instanceMethod yX2_push, Cond.selects RX2 yX2_push yX2_push, Cond.code yX2_push cX2_push 2 none, Cond.methodLink RX2 110 yX2_write, Cond.instanceMethod yX2_write, Cond.selects RX2 yX2_write yX2_write, Cond.code yX2_write cX2_write 3 none, Cond.fieldLink RX2 15 "BlockCache$Guest" "memory" "[I", Cond.fieldLink RX2 30 "BlockCache$Guest" "written" "I", Cond.methodLink RX4 156 yX4_dropWritten, Cond.instanceMethod yX4_dropWritten]
def wsX4_takeTurn_r3 : List Cond := [Cond.selects RX4 yX4_dropWritten yX4_dropWritten, Cond.code yX4_dropWritten cX4_dropWritten 1 none, Cond.fieldLink RX4 201 "BlockCache$Guest" "written" "I", Cond.fieldLink RX4 106 "BlockCache" "invalidated" "I", Cond.methodLink RX4 50 yX0_dropPage, Cond.instanceMethod yX0_dropPage, Cond.selects RX0 yX0_dropPage yX0_dropPage, Cond.initialized RX0, Cond.code yX0_dropPage cX0_dropPage 6 (some .int), Cond.fieldLink RX0 63 "BlockCache$Cache" "blocks" "I", Cond.fieldLink RX0 24 "BlockCache$Cache" "serial" "[I", Cond.fieldLink RX0 48 "BlockCache$Cache" "filled" "I", Cond.fieldLink RX0 21 "BlockCache$Cache" "size" "[I", Cond.methodLink RX0 110 yX0_has, Cond.instanceMethod yX0_has, Cond.selects RX0 yX0_has yX0_has, Cond.code yX0_has cX0_has 2 (some .boolean), Cond.methodLink RX0 113 yX0_reaches, Cond.instanceMethod yX0_reaches, Cond.selects RX0 yX0_reaches yX0_reaches, Cond.code yX0_reaches cX0_reaches 4 (some .boolean), Cond.fieldLink RX0 18 "BlockCache$Cache" "behind" "[I", Cond.methodLink RX4 130 yX4_findBlock, Cond.instanceMethod yX4_findBlock]
def wsX4_takeTurn_r4 : List Cond := [Cond.selects RX4 yX4_findBlock yX4_findBlock, Cond.code yX4_findBlock cX4_findBlock 2 (some .boolean), Cond.fieldLink RX4 112 "BlockCache" "lookups" "I", Cond.fieldLink RX4 46 "BlockCache$Guest" "memory" "[I", Cond.methodLink RX4 159 yX0_isLinked, Cond.instanceMethod yX0_isLinked, Cond.selects RX0 yX0_isLinked yX0_isLinked, Cond.code yX0_isLinked cX0_isLinked 3 (some .boolean), Cond.fieldLink RX0 30 "BlockCache$Cache" "linkedSerial" "[I", Cond.methodLink RX4 162 yX0_has, Cond.methodLink RX4 165 yX0_translate, Cond.instanceMethod yX0_translate, Cond.selects RX0 yX0_translate yX0_translate, Cond.code yX0_translate cX0_translate 4 (some .boolean), Cond.fieldLink RX0 15 "BlockCache$Cache" "length" "[I", Cond.fieldLink RX0 33 "BlockCache$Cache" "limit" "I", Cond.fieldLink RX0 54 "BlockCache$Cache" "flushes" "I", Cond.fieldLink RX0 57 "BlockCache$Cache" "translated" "I", Cond.fieldLink RX0 60 "BlockCache$Cache" "deadFlags" "I", Cond.methodLink RX0 37 yX0_decodeBlock, Cond.instanceMethod yX0_decodeBlock, Cond.selects RX0 yX0_decodeBlock yX0_decodeBlock, Cond.code yX0_decodeBlock cX0_decodeBlock 8 none, Cond.fieldLink RX0 11 "BlockCache$Cache" "code" "[I"]
def wsX4_takeTurn_r5 : List Cond := [Cond.methodLink RX0 70 yX1_decode, Cond.static yX1_decode, Cond.initialized RX1, Cond.code yX1_decode cX1_decode 4 (some .int), Cond.methodLink RX1 7 yX1_kindOf, Cond.static yX1_kindOf, Cond.code yX1_kindOf cX1_kindOf 4 (some .int), Cond.methodLink RX0 76 yX1_kind, Cond.static yX1_kind, Cond.code yX1_kind cX1_kind 1 (some .int), Cond.methodLink RX0 79 yX1_bytes, Cond.static yX1_bytes, Cond.code yX1_bytes cX1_bytes 1 (some .int), Cond.methodLink RX0 82 yX1_endsBlock, Cond.static yX1_endsBlock, Cond.code yX1_endsBlock cX1_endsBlock 1 (some .boolean), Cond.methodLink RX1 14 yX1_leavesByItself, Cond.static yX1_leavesByItself, Cond.code yX1_leavesByItself cX1_leavesByItself 1 (some .boolean), Cond.methodLink RX0 41 yX0_markDead, Cond.instanceMethod yX0_markDead, Cond.selects RX0 yX0_markDead yX0_markDead, Cond.code yX0_markDead cX0_markDead 8 (some .int), Cond.methodLink RX0 86 yX0_wordAt]
def wsX4_takeTurn_r6 : List Cond := [Cond.instanceMethod yX0_wordAt, Cond.selects RX0 yX0_wordAt yX0_wordAt, Cond.code yX0_wordAt cX0_wordAt 3 (some .int), Cond.methodLink RX0 90 yX1_makesFlags, Cond.static yX1_makesFlags, Cond.code yX1_makesFlags cX1_makesFlags 1 (some .boolean), Cond.methodLink RX0 93 yX1_asDead, Cond.static yX1_asDead, Cond.code yX1_asDead cX1_asDead 1 (some .int), Cond.constant RX1 13 (1048576), Cond.methodLink RX0 96 yX1_needsFlags, Cond.static yX1_needsFlags, Cond.code yX1_needsFlags cX1_needsFlags 1 (some .boolean), Cond.methodLink RX0 45 yX0_sizeOf, Cond.instanceMethod yX0_sizeOf, Cond.selects RX0 yX0_sizeOf yX0_sizeOf, Cond.code yX0_sizeOf cX0_sizeOf 4 (some .int), Cond.methodLink RX0 99 yX0_lastKind, Cond.instanceMethod yX0_lastKind, Cond.selects RX0 yX0_lastKind yX0_lastKind, Cond.code yX0_lastKind cX0_lastKind 2 (some .int), Cond.methodLink RX0 102 yX1_leavesByItself, Cond.methodLink RX0 105 yX1_size, Cond.static yX1_size]
def wsX4_takeTurn_r7 : List Cond := [Cond.code yX1_size cX1_size 2 (some .int), Cond.methodLink RX1 18 yX1_kind, Cond.methodLink RX1 21 yX1_makesFlags, Cond.methodLink RX1 24 yX1_sizeWithoutFlags, Cond.static yX1_sizeWithoutFlags, Cond.code yX1_sizeWithoutFlags cX1_sizeWithoutFlags 1 (some .int), Cond.methodLink RX1 27 yX1_isDead, Cond.static yX1_isDead, Cond.code yX1_isDead cX1_isDead 1 (some .boolean), Cond.methodLink RX1 30 yX1_onlyCompares, Cond.static yX1_onlyCompares, Cond.code yX1_onlyCompares cX1_onlyCompares 1 (some .boolean), Cond.methodLink RX0 51 yX0_empty, Cond.instanceMethod yX0_empty, Cond.selects RX0 yX0_empty yX0_empty, Cond.code yX0_empty cX0_empty 1 none, Cond.methodLink RX0 117 yJ7_fill_53178, Cond.static yJ7_fill_53178, Cond.initialized RJ7, Cond.code yJ7_fill_53178 cJ7_fill_53178 4 none, Cond.methodLink RX0 66 yX0_layExits, Cond.instanceMethod yX0_layExits, Cond.selects RX0 yX0_layExits yX0_layExits, Cond.code yX0_layExits cX0_layExits 6 none]
def wsX4_takeTurn_r8 : List Cond := [Cond.fieldLink RX0 27 "BlockCache$Cache" "exitPlace" "[I", Cond.methodLink RX0 107 yX1_n, Cond.static yX1_n, Cond.code yX1_n cX1_n 1 (some .int), Cond.methodLink RX4 136 yX4_mayRunWhole, Cond.instanceMethod yX4_mayRunWhole, Cond.selects RX4 yX4_mayRunWhole yX4_mayRunWhole, Cond.code yX4_mayRunWhole cX4_mayRunWhole 3 (some .boolean), Cond.methodLink RX4 169 yX4_requestComes, Cond.instanceMethod yX4_requestComes, Cond.selects RX4 yX4_requestComes yX4_requestComes, Cond.code yX4_requestComes cX4_requestComes 4 (some .boolean), Cond.methodLink RX4 172 yX3_at, Cond.instanceMethod yX3_at, Cond.selects RX3 yX3_at yX3_at, Cond.code yX3_at cX3_at 2 (some .int), Cond.methodLink RX4 140 yX4_runBlock, Cond.instanceMethod yX4_runBlock, Cond.selects RX4 yX4_runBlock yX4_runBlock, Cond.code yX4_runBlock cX4_runBlock 4 none, Cond.methodLink RX4 175 yX0_link, Cond.instanceMethod yX0_link, Cond.selects RX0 yX0_link yX0_link, Cond.code yX0_link cX0_link 3 none]
def wsX4_takeTurn_r9 : List Cond := [Cond.methodLink RX4 179 yX0_wordAt, Cond.methodLink RX4 183 yX4_perform, Cond.instanceMethod yX4_perform, Cond.selects RX4 yX4_perform yX4_perform, Cond.code yX4_perform cX4_perform 2 none, Cond.fieldLink RX4 88 "BlockCache" "ending" "I", Cond.methodLink RX4 198 yX2_execute, Cond.instanceMethod yX2_execute, Cond.selects RX2 yX2_execute yX2_execute, Cond.code yX2_execute cX2_execute 3 none, Cond.methodLink RX2 40 yX1_kind, Cond.methodLink RX2 46 yX1_bytes, Cond.methodLink RX2 49 yX1_makesFlags, Cond.methodLink RX2 53 yX2_calculate, Cond.instanceMethod yX2_calculate, Cond.selects RX2 yX2_calculate yX2_calculate, Cond.code yX2_calculate cX2_calculate 8 none, Cond.methodLink RX2 66 yX1_isDead, Cond.methodLink RX2 69 yX1_onlyCompares, Cond.methodLink RX2 72 yX1_d, Cond.static yX1_d, Cond.code yX1_d cX1_d 1 (some .int), Cond.methodLink RX2 75 yX1_n, Cond.methodLink RX2 78 yX1_s]
def wsX4_takeTurn_r10 : List Cond := [Cond.static yX1_s, Cond.code yX1_s cX1_s 1 (some .int), Cond.methodLink RX2 81 yX2_resultWithCarry, Cond.instanceMethod yX2_resultWithCarry, Cond.selects RX2 yX2_resultWithCarry yX2_resultWithCarry, Cond.code yX2_resultWithCarry cX2_resultWithCarry 4 (some .int), Cond.methodLink RX2 85 yX2_makeFlags, Cond.instanceMethod yX2_makeFlags, Cond.selects RX2 yX2_makeFlags yX2_makeFlags, Cond.code yX2_makeFlags cX2_makeFlags 2 none, Cond.methodLink RX2 57 yX1_endsBlock, Cond.methodLink RX2 60 yX2_steer, Cond.instanceMethod yX2_steer, Cond.selects RX2 yX2_steer yX2_steer, Cond.code yX2_steer cX2_steer 3 none, Cond.methodLink RX2 88 yX1_w, Cond.static yX1_w, Cond.code yX1_w cX1_w 1 (some .int), Cond.methodLink RX2 91 yX2_jumpIf, Cond.instanceMethod yX2_jumpIf, Cond.selects RX2 yX2_jumpIf yX2_jumpIf, Cond.code yX2_jumpIf cX2_jumpIf 4 none, Cond.methodLink RX2 94 yX2_pop, Cond.instanceMethod yX2_pop]
def wsX4_takeTurn_r11 : List Cond := [Cond.selects RX2 yX2_pop yX2_pop, Cond.code yX2_pop cX2_pop 2 (some .int), Cond.methodLink RX2 98 yX2_countDown, Cond.instanceMethod yX2_countDown, Cond.selects RX2 yX2_countDown yX2_countDown, Cond.code yX2_countDown cX2_countDown 3 none, Cond.methodLink RX2 63 yX2_move, Cond.instanceMethod yX2_move, Cond.selects RX2 yX2_move yX2_move, Cond.code yX2_move cX2_move 5 none, Cond.fieldLink RX2 23 "BlockCache$Guest" "inputs" "LBlockCache$Queue;", Cond.fieldLink RX2 104 "BlockCache$Queue" "many" "I", Cond.methodLink RX2 101 yX2_give, Cond.instanceMethod yX2_give, Cond.selects RX2 yX2_give yX2_give, Cond.code yX2_give cX2_give 2 none, Cond.fieldLink RX2 34 "BlockCache$Guest" "given" "I", Cond.fieldLink RX2 27 "BlockCache$Guest" "outputs" "[I", Cond.methodLink RX2 107 yX3_takeFirst, Cond.methodLink RX4 195 yX1_kind, Cond.methodLink RX4 186 yX0_exitTo, Cond.instanceMethod yX0_exitTo, Cond.selects RX0 yX0_exitTo yX0_exitTo, Cond.code yX0_exitTo cX0_exitTo 3 (some .int)]
def wsX4_takeTurn_r12 : List Cond := [Cond.methodLink RX4 143 yX4_interpret, Cond.instanceMethod yX4_interpret, Cond.selects RX4 yX4_interpret yX4_interpret, Cond.code yX4_interpret cX4_interpret 3 none, Cond.fieldLink RX4 115 "BlockCache" "interpreted" "I", Cond.methodLink RX4 189 yX1_decode]
def wsX4_takeTurn : List Cond := .code yX4_takeTurn cX4_takeTurn 3 none :: ((wsX4_takeTurn_r1 ++ (wsX4_takeTurn_r2 ++ (wsX4_takeTurn_r3 ++ (wsX4_takeTurn_r4 ++ (wsX4_takeTurn_r5 ++ (wsX4_takeTurn_r6 ++ (wsX4_takeTurn_r7 ++ (wsX4_takeTurn_r8 ++ (wsX4_takeTurn_r9 ++ (wsX4_takeTurn_r10 ++ (wsX4_takeTurn_r11 ++ wsX4_takeTurn_r12))))))))))) ++ wsX40 ++ wsX20 ++ wsX00 ++ wsX30)
def wsX4_run_r1 : List Cond := [Cond.classLink RX4 43 "java/lang/IllegalArgumentException", Cond.initialized "java/lang/IllegalArgumentException", Cond.fieldLink RX4 79 "BlockCache" "executed" "I", Cond.fieldLink RX4 88 "BlockCache" "ending" "I", Cond.fieldLink RX4 36 "BlockCache" "exit" "I", Cond.methodLink RX4 91 yX4_takeTurn, Cond.instanceMethod yX4_takeTurn, Cond.selects RX4 yX4_takeTurn yX4_takeTurn, Cond.initialized RX4, Cond.code yX4_takeTurn cX4_takeTurn 3 none, Cond.fieldLink RX4 10 "BlockCache" "guest" "LBlockCache$Guest;", Cond.fieldLink RX4 60 "BlockCache$Guest" "state" "[I", Cond.fieldLink RX4 19 "BlockCache" "cache" "LBlockCache$Cache;", Cond.fieldLink RX4 133 "BlockCache$Cache" "length" "[I", Cond.methodLink RX4 127 yX4_interruptIfDue, Cond.instanceMethod yX4_interruptIfDue, Cond.selects RX4 yX4_interruptIfDue yX4_interruptIfDue, Cond.code yX4_interruptIfDue cX4_interruptIfDue 1 none, Cond.fieldLink RX4 28 "BlockCache" "requests" "LBlockCache$Queue;", Cond.fieldLink RX4 76 "BlockCache$Queue" "many" "I", Cond.fieldLink RX4 118 "BlockCache" "interrupts" "I", Cond.methodLink RX4 146 yX3_first, Cond.instanceMethod yX3_first, Cond.selects RX3 yX3_first yX3_first]
def wsX4_run_r2 : List Cond := [Cond.initialized RX3, Cond.code yX3_first cX3_first 1 (some .int), Cond.fieldLink RX3 7 "BlockCache$Queue" "ring" "[I", Cond.fieldLink RX3 17 "BlockCache$Queue" "start" "I", Cond.methodLink RX4 150 yX3_takeFirst, Cond.instanceMethod yX3_takeFirst, Cond.selects RX3 yX3_takeFirst yX3_takeFirst, Cond.code yX3_takeFirst cX3_takeFirst 2 (some .int), Cond.fieldLink RX3 13 "BlockCache$Queue" "many" "I", Cond.methodLink RX3 20 yX3_wrapped, Cond.instanceMethod yX3_wrapped, Cond.selects RX3 yX3_wrapped yX3_wrapped, Cond.code yX3_wrapped cX3_wrapped 2 (some .int), Cond.methodLink RX4 153 yX2_interrupt, Cond.instanceMethod yX2_interrupt, Cond.selects RX2 yX2_interrupt yX2_interrupt, Cond.initialized RX2, Cond.code yX2_interrupt cX2_interrupt 1 none, Cond.fieldLink RX2 9 "BlockCache$Guest" "state" "[I", Cond.methodLink RX2 37 yX2_push, Cond.instanceMethod yX2_push, Cond.selects RX2 yX2_push yX2_push, Cond.code yX2_push cX2_push 2 none, Cond.methodLink RX2 110 yX2_write]
def wsX4_run_r3 : List Cond := [Cond.instanceMethod yX2_write, Cond.selects RX2 yX2_write yX2_write, Cond.code yX2_write cX2_write 3 none, Cond.fieldLink RX2 15 "BlockCache$Guest" "memory" "[I", Cond.fieldLink RX2 30 "BlockCache$Guest" "written" "I", Cond.methodLink RX4 156 yX4_dropWritten, Cond.instanceMethod yX4_dropWritten, Cond.selects RX4 yX4_dropWritten yX4_dropWritten, Cond.code yX4_dropWritten cX4_dropWritten 1 none, Cond.fieldLink RX4 201 "BlockCache$Guest" "written" "I", Cond.fieldLink RX4 106 "BlockCache" "invalidated" "I", Cond.methodLink RX4 50 yX0_dropPage, Cond.instanceMethod yX0_dropPage, Cond.selects RX0 yX0_dropPage yX0_dropPage, Cond.initialized RX0, Cond.code yX0_dropPage cX0_dropPage 6 (some .int), Cond.fieldLink RX0 63 "BlockCache$Cache" "blocks" "I", Cond.fieldLink RX0 24 "BlockCache$Cache" "serial" "[I", Cond.fieldLink RX0 48 "BlockCache$Cache" "filled" "I", Cond.fieldLink RX0 21 "BlockCache$Cache" "size" "[I", Cond.methodLink RX0 110 yX0_has, Cond.instanceMethod yX0_has, Cond.selects RX0 yX0_has yX0_has, Cond.code yX0_has cX0_has 2 (some .boolean)]
def wsX4_run_r4 : List Cond := [Cond.methodLink RX0 113 yX0_reaches, Cond.instanceMethod yX0_reaches, Cond.selects RX0 yX0_reaches yX0_reaches, Cond.code yX0_reaches cX0_reaches 4 (some .boolean), Cond.fieldLink RX0 18 "BlockCache$Cache" "behind" "[I", Cond.methodLink RX4 130 yX4_findBlock, Cond.instanceMethod yX4_findBlock, Cond.selects RX4 yX4_findBlock yX4_findBlock, Cond.code yX4_findBlock cX4_findBlock 2 (some .boolean), Cond.fieldLink RX4 112 "BlockCache" "lookups" "I", Cond.fieldLink RX4 46 "BlockCache$Guest" "memory" "[I", Cond.methodLink RX4 159 yX0_isLinked, Cond.instanceMethod yX0_isLinked, Cond.selects RX0 yX0_isLinked yX0_isLinked, Cond.code yX0_isLinked cX0_isLinked 3 (some .boolean), Cond.fieldLink RX0 30 "BlockCache$Cache" "linkedSerial" "[I", Cond.methodLink RX4 162 yX0_has, Cond.methodLink RX4 165 yX0_translate, Cond.instanceMethod yX0_translate, Cond.selects RX0 yX0_translate yX0_translate, Cond.code yX0_translate cX0_translate 4 (some .boolean), Cond.fieldLink RX0 15 "BlockCache$Cache" "length" "[I", Cond.fieldLink RX0 33 "BlockCache$Cache" "limit" "I", Cond.fieldLink RX0 54 "BlockCache$Cache" "flushes" "I"]
def wsX4_run_r5 : List Cond := [Cond.fieldLink RX0 57 "BlockCache$Cache" "translated" "I", Cond.fieldLink RX0 60 "BlockCache$Cache" "deadFlags" "I", Cond.methodLink RX0 37 yX0_decodeBlock, Cond.instanceMethod yX0_decodeBlock, Cond.selects RX0 yX0_decodeBlock yX0_decodeBlock, Cond.code yX0_decodeBlock cX0_decodeBlock 8 none, Cond.fieldLink RX0 11 "BlockCache$Cache" "code" "[I", Cond.methodLink RX0 70 yX1_decode, Cond.static yX1_decode, Cond.initialized RX1, Cond.code yX1_decode cX1_decode 4 (some .int), Cond.methodLink RX1 7 yX1_kindOf, Cond.static yX1_kindOf, Cond.code yX1_kindOf cX1_kindOf 4 (some .int), Cond.methodLink RX0 76 yX1_kind, Cond.static yX1_kind, Cond.code yX1_kind cX1_kind 1 (some .int), Cond.methodLink RX0 79 yX1_bytes, Cond.static yX1_bytes, Cond.code yX1_bytes cX1_bytes 1 (some .int), Cond.methodLink RX0 82 yX1_endsBlock, Cond.static yX1_endsBlock, Cond.code yX1_endsBlock cX1_endsBlock 1 (some .boolean), Cond.methodLink RX1 14 yX1_leavesByItself]
def wsX4_run_r6 : List Cond := [Cond.static yX1_leavesByItself, Cond.code yX1_leavesByItself cX1_leavesByItself 1 (some .boolean), Cond.methodLink RX0 41 yX0_markDead, Cond.instanceMethod yX0_markDead, Cond.selects RX0 yX0_markDead yX0_markDead, Cond.code yX0_markDead cX0_markDead 8 (some .int), Cond.methodLink RX0 86 yX0_wordAt, Cond.instanceMethod yX0_wordAt, Cond.selects RX0 yX0_wordAt yX0_wordAt, Cond.code yX0_wordAt cX0_wordAt 3 (some .int), Cond.methodLink RX0 90 yX1_makesFlags, Cond.static yX1_makesFlags, Cond.code yX1_makesFlags cX1_makesFlags 1 (some .boolean), Cond.methodLink RX0 93 yX1_asDead, Cond.static yX1_asDead, Cond.code yX1_asDead cX1_asDead 1 (some .int), Cond.constant RX1 13 (1048576), Cond.methodLink RX0 96 yX1_needsFlags, Cond.static yX1_needsFlags, Cond.code yX1_needsFlags cX1_needsFlags 1 (some .boolean), Cond.methodLink RX0 45 yX0_sizeOf, Cond.instanceMethod yX0_sizeOf, Cond.selects RX0 yX0_sizeOf yX0_sizeOf, Cond.code yX0_sizeOf cX0_sizeOf 4 (some .int)]
def wsX4_run_r7 : List Cond := [Cond.methodLink RX0 99 yX0_lastKind, Cond.instanceMethod yX0_lastKind, Cond.selects RX0 yX0_lastKind yX0_lastKind, Cond.code yX0_lastKind cX0_lastKind 2 (some .int), Cond.methodLink RX0 102 yX1_leavesByItself, Cond.methodLink RX0 105 yX1_size, Cond.static yX1_size, Cond.code yX1_size cX1_size 2 (some .int), Cond.methodLink RX1 18 yX1_kind, Cond.methodLink RX1 21 yX1_makesFlags, Cond.methodLink RX1 24 yX1_sizeWithoutFlags, Cond.static yX1_sizeWithoutFlags, Cond.code yX1_sizeWithoutFlags cX1_sizeWithoutFlags 1 (some .int), Cond.methodLink RX1 27 yX1_isDead, Cond.static yX1_isDead, Cond.code yX1_isDead cX1_isDead 1 (some .boolean), Cond.methodLink RX1 30 yX1_onlyCompares, Cond.static yX1_onlyCompares, Cond.code yX1_onlyCompares cX1_onlyCompares 1 (some .boolean), Cond.methodLink RX0 51 yX0_empty, Cond.instanceMethod yX0_empty, Cond.selects RX0 yX0_empty yX0_empty, Cond.code yX0_empty cX0_empty 1 none, Cond.methodLink RX0 117 yJ7_fill_53178]
def wsX4_run_r8 : List Cond := [Cond.static yJ7_fill_53178, Cond.initialized RJ7, Cond.code yJ7_fill_53178 cJ7_fill_53178 4 none, Cond.methodLink RX0 66 yX0_layExits, Cond.instanceMethod yX0_layExits, Cond.selects RX0 yX0_layExits yX0_layExits, Cond.code yX0_layExits cX0_layExits 6 none, Cond.fieldLink RX0 27 "BlockCache$Cache" "exitPlace" "[I", Cond.methodLink RX0 107 yX1_n, Cond.static yX1_n, Cond.code yX1_n cX1_n 1 (some .int), Cond.methodLink RX4 136 yX4_mayRunWhole, Cond.instanceMethod yX4_mayRunWhole, Cond.selects RX4 yX4_mayRunWhole yX4_mayRunWhole, Cond.code yX4_mayRunWhole cX4_mayRunWhole 3 (some .boolean), Cond.methodLink RX4 169 yX4_requestComes, Cond.instanceMethod yX4_requestComes, Cond.selects RX4 yX4_requestComes yX4_requestComes, Cond.code yX4_requestComes cX4_requestComes 4 (some .boolean), Cond.methodLink RX4 172 yX3_at, Cond.instanceMethod yX3_at, Cond.selects RX3 yX3_at yX3_at, Cond.code yX3_at cX3_at 2 (some .int), Cond.methodLink RX4 140 yX4_runBlock]
def wsX4_run_r9 : List Cond := [Cond.instanceMethod yX4_runBlock, Cond.selects RX4 yX4_runBlock yX4_runBlock, Cond.code yX4_runBlock cX4_runBlock 4 none, Cond.methodLink RX4 175 yX0_link, Cond.instanceMethod yX0_link, Cond.selects RX0 yX0_link yX0_link, Cond.code yX0_link cX0_link 3 none, Cond.methodLink RX4 179 yX0_wordAt, Cond.methodLink RX4 183 yX4_perform, Cond.instanceMethod yX4_perform, Cond.selects RX4 yX4_perform yX4_perform, Cond.code yX4_perform cX4_perform 2 none, Cond.methodLink RX4 198 yX2_execute, Cond.instanceMethod yX2_execute, Cond.selects RX2 yX2_execute yX2_execute, Cond.code yX2_execute cX2_execute 3 none, Cond.methodLink RX2 40 yX1_kind, Cond.methodLink RX2 46 yX1_bytes, Cond.methodLink RX2 49 yX1_makesFlags, Cond.methodLink RX2 53 yX2_calculate, Cond.instanceMethod yX2_calculate, Cond.selects RX2 yX2_calculate yX2_calculate, Cond.code yX2_calculate cX2_calculate 8 none, Cond.methodLink RX2 66 yX1_isDead]
def wsX4_run_r10 : List Cond := [Cond.methodLink RX2 69 yX1_onlyCompares, Cond.methodLink RX2 72 yX1_d, Cond.static yX1_d, Cond.code yX1_d cX1_d 1 (some .int), Cond.methodLink RX2 75 yX1_n, Cond.methodLink RX2 78 yX1_s, Cond.static yX1_s, Cond.code yX1_s cX1_s 1 (some .int), Cond.methodLink RX2 81 yX2_resultWithCarry, Cond.instanceMethod yX2_resultWithCarry, Cond.selects RX2 yX2_resultWithCarry yX2_resultWithCarry, Cond.code yX2_resultWithCarry cX2_resultWithCarry 4 (some .int), Cond.methodLink RX2 85 yX2_makeFlags, Cond.instanceMethod yX2_makeFlags, Cond.selects RX2 yX2_makeFlags yX2_makeFlags, Cond.code yX2_makeFlags cX2_makeFlags 2 none, Cond.methodLink RX2 57 yX1_endsBlock, Cond.methodLink RX2 60 yX2_steer, Cond.instanceMethod yX2_steer, Cond.selects RX2 yX2_steer yX2_steer, Cond.code yX2_steer cX2_steer 3 none, Cond.methodLink RX2 88 yX1_w, Cond.static yX1_w, Cond.code yX1_w cX1_w 1 (some .int)]
def wsX4_run_r11 : List Cond := [Cond.methodLink RX2 91 yX2_jumpIf, Cond.instanceMethod yX2_jumpIf, Cond.selects RX2 yX2_jumpIf yX2_jumpIf, Cond.code yX2_jumpIf cX2_jumpIf 4 none, Cond.methodLink RX2 94 yX2_pop, Cond.instanceMethod yX2_pop, Cond.selects RX2 yX2_pop yX2_pop, Cond.code yX2_pop cX2_pop 2 (some .int), Cond.methodLink RX2 98 yX2_countDown, Cond.instanceMethod yX2_countDown, Cond.selects RX2 yX2_countDown yX2_countDown, Cond.code yX2_countDown cX2_countDown 3 none, Cond.methodLink RX2 63 yX2_move, Cond.instanceMethod yX2_move, Cond.selects RX2 yX2_move yX2_move, Cond.code yX2_move cX2_move 5 none, Cond.fieldLink RX2 23 "BlockCache$Guest" "inputs" "LBlockCache$Queue;", Cond.fieldLink RX2 104 "BlockCache$Queue" "many" "I", Cond.methodLink RX2 101 yX2_give, Cond.instanceMethod yX2_give, Cond.selects RX2 yX2_give yX2_give, Cond.code yX2_give cX2_give 2 none, Cond.fieldLink RX2 34 "BlockCache$Guest" "given" "I", Cond.fieldLink RX2 27 "BlockCache$Guest" "outputs" "[I"]
def wsX4_run_r12 : List Cond := [Cond.methodLink RX2 107 yX3_takeFirst, Cond.methodLink RX4 195 yX1_kind, Cond.methodLink RX4 186 yX0_exitTo, Cond.instanceMethod yX0_exitTo, Cond.selects RX0 yX0_exitTo yX0_exitTo, Cond.code yX0_exitTo cX0_exitTo 3 (some .int), Cond.methodLink RX4 143 yX4_interpret, Cond.instanceMethod yX4_interpret, Cond.selects RX4 yX4_interpret yX4_interpret, Cond.code yX4_interpret cX4_interpret 3 none, Cond.fieldLink RX4 115 "BlockCache" "interpreted" "I", Cond.methodLink RX4 189 yX1_decode]
def wsX4_run : List Cond := .code yX4_run cX4_run 5 (some .int) :: ((wsX4_run_r1 ++ (wsX4_run_r2 ++ (wsX4_run_r3 ++ (wsX4_run_r4 ++ (wsX4_run_r5 ++ (wsX4_run_r6 ++ (wsX4_run_r7 ++ (wsX4_run_r8 ++ (wsX4_run_r9 ++ (wsX4_run_r10 ++ (wsX4_run_r11 ++ wsX4_run_r12))))))))))) ++ wsX40 ++ wsX20 ++ wsX00 ++ wsX30 ++ (vx_at0 RX4 45 "java/lang/IllegalArgumentException" ["java/lang/RuntimeException", "java/lang/Exception"]).filter goodWord)
def wsX4_output : List Cond := .code yX4_output cX4_output 2 (some .int) :: ([.fieldLink RX4 10 "BlockCache" "guest" "LBlockCache$Guest;", .methodLink RX4 94 yX2_outputAt, .instanceMethod yX2_outputAt, .selects RX2 yX2_outputAt yX2_outputAt, .initialized RX2, .code yX2_outputAt cX2_outputAt 2 (some .int), .fieldLink RX2 34 "BlockCache$Guest" "given" "I", .fieldLink RX2 27 "BlockCache$Guest" "outputs" "[I"] ++ wsX40 ++ wsX20)
def wsX4_count : List Cond := .code yX4_count cX4_count 2 (some .int) :: ([.classLink RX4 43 "java/lang/IllegalArgumentException", .initialized "java/lang/IllegalArgumentException", .fieldLink RX4 79 "BlockCache" "executed" "I", .fieldLink RX4 19 "BlockCache" "cache" "LBlockCache$Cache;", .fieldLink RX4 97 "BlockCache$Cache" "blocks" "I", .fieldLink RX4 100 "BlockCache$Cache" "filled" "I", .fieldLink RX4 103 "BlockCache$Cache" "translated" "I", .fieldLink RX4 106 "BlockCache" "invalidated" "I", .fieldLink RX4 109 "BlockCache$Cache" "flushes" "I", .fieldLink RX4 112 "BlockCache" "lookups" "I", .fieldLink RX4 115 "BlockCache" "interpreted" "I", .fieldLink RX4 118 "BlockCache" "interrupts" "I", .fieldLink RX4 121 "BlockCache$Cache" "deadFlags" "I", .fieldLink RX4 10 "BlockCache" "guest" "LBlockCache$Guest;", .fieldLink RX4 124 "BlockCache$Guest" "given" "I", .fieldLink RX4 88 "BlockCache" "ending" "I"] ++ wsX40 ++ wsX00 ++ wsX20 ++ (vx_at0 RX4 45 "java/lang/IllegalArgumentException" ["java/lang/RuntimeException", "java/lang/Exception"]).filter goodWord)
def wsX5_init : List Cond := .code yX5_init cX5_init 1 none :: ([.methodLink RX5 1 objectInit, .instanceMethod objectInit, .code objectInit ⟨#[0xb1]⟩ 1 none, .arrayClass .int, .fieldLink RX5 7 "BlockCacheModel" "memory" "[I", .fieldLink RX5 13 "BlockCacheModel" "reg" "[I", .fieldLink RX5 16 "BlockCacheModel" "inputs" "[I", .fieldLink RX5 19 "BlockCacheModel" "requests" "[I", .fieldLink RX5 22 "BlockCacheModel" "lastRequest" "I", .fieldLink RX5 26 "BlockCacheModel" "given" "[I", .fieldLink RX5 29 "BlockCacheModel" "size" "[I", .fieldLink RX5 32 "BlockCacheModel" "length" "[I", .fieldLink RX5 35 "BlockCacheModel" "pages" "[I", .fieldLink RX5 38 "BlockCacheModel" "which" "[I", .fieldLink RX5 41 "BlockCacheModel" "exitAt" "[I", .fieldLink RX5 44 "BlockCacheModel" "exitTo" "[I", .fieldLink RX5 47 "BlockCacheModel" "room" "I", .fieldLink RX5 50 "BlockCacheModel" "counts" "[I", .fieldLink RX5 53 "BlockCacheModel" "kinds" "[I", .fieldLink RX5 56 "BlockCacheModel" "leftBy" "I"] ++ wsX50)
def wsX5_thrown : List Cond := .code yX5_thrown cX5_thrown 1 (some .int) :: ([.fieldLink RX5 59 "BlockCacheModel" "refusal" "I"] ++ wsX50)
def wsX5_refused : List Cond := .code yX5_refused cX5_refused 2 (some .boolean) :: ([.fieldLink RX5 59 "BlockCacheModel" "refusal" "I"] ++ wsX50)
def wsX5_isIn : List Cond := .code yX5_isIn cX5_isIn 3 (some .boolean) :: ([])
def wsX5_kindOf : List Cond := .code yX5_kindOf cX5_kindOf 3 (some .int) :: ([])
def wsX5_look : List Cond := .code yX5_look cX5_look 3 none :: ([.fieldLink RX5 7 "BlockCacheModel" "memory" "[I", .fieldLink RX5 66 "BlockCacheModel" "kind" "I", .fieldLink RX5 69 "BlockCacheModel" "bytes" "I", .methodLink RX5 62 yX5_kindOf, .static yX5_kindOf, .initialized RX5, .code yX5_kindOf cX5_kindOf 3 (some .int)] ++ wsX50)
def wsX5_makes : List Cond := .code yX5_makes cX5_makes 1 (some .boolean) :: ([])
def wsX5_ends : List Cond := .code yX5_ends cX5_ends 1 (some .boolean) :: ([])
def wsX5_isAlways : List Cond := .code yX5_isAlways cX5_isAlways 1 (some .boolean) :: ([])
def wsX5_reads : List Cond := .code yX5_reads cX5_reads 3 (some .boolean) :: ([.methodLink RX5 72 yX5_isAlways, .static yX5_isAlways, .initialized RX5, .code yX5_isAlways cX5_isAlways 1 (some .boolean)])
def wsX5_sizeOf : List Cond := .code yX5_sizeOf cX5_sizeOf 1 (some .int) :: ([])
def wsX5_find_r1 : List Cond := [Cond.fieldLink RX5 76 "BlockCacheModel" "foundMany" "I", Cond.fieldLink RX5 79 "BlockCacheModel" "foundSize" "I", Cond.fieldLink RX5 82 "BlockCacheModel" "foundPages" "I", Cond.fieldLink RX5 85 "BlockCacheModel" "foundDead" "I", Cond.fieldLink RX5 66 "BlockCacheModel" "kind" "I", Cond.fieldLink RX5 7 "BlockCacheModel" "memory" "[I", Cond.fieldLink RX5 53 "BlockCacheModel" "kinds" "[I", Cond.fieldLink RX5 69 "BlockCacheModel" "bytes" "I", Cond.methodLink RX5 88 yX5_look, Cond.instanceMethod yX5_look, Cond.selects RX5 yX5_look yX5_look, Cond.initialized RX5, Cond.code yX5_look cX5_look 3 none, Cond.methodLink RX5 62 yX5_kindOf, Cond.static yX5_kindOf, Cond.code yX5_kindOf cX5_kindOf 3 (some .int), Cond.methodLink RX5 92 yX5_reads, Cond.instanceMethod yX5_reads, Cond.selects RX5 yX5_reads yX5_reads, Cond.code yX5_reads cX5_reads 3 (some .boolean), Cond.methodLink RX5 72 yX5_isAlways, Cond.static yX5_isAlways, Cond.code yX5_isAlways cX5_isAlways 1 (some .boolean), Cond.methodLink RX5 96 yX5_sizeOf]
def wsX5_find_r2 : List Cond := [Cond.static yX5_sizeOf, Cond.code yX5_sizeOf cX5_sizeOf 1 (some .int), Cond.methodLink RX5 99 yX5_makes, Cond.static yX5_makes, Cond.code yX5_makes cX5_makes 1 (some .boolean), Cond.methodLink RX5 102 yX5_ends, Cond.static yX5_ends, Cond.code yX5_ends cX5_ends 1 (some .boolean)]
def wsX5_find : List Cond := .code yX5_find cX5_find 7 none :: ((wsX5_find_r1 ++ wsX5_find_r2) ++ wsX50)
def wsX5_remove : List Cond := .code yX5_remove cX5_remove 2 none :: ([.fieldLink RX5 50 "BlockCacheModel" "counts" "[I", .fieldLink RX5 29 "BlockCacheModel" "size" "[I"] ++ wsX50)
def wsX5_empty : List Cond := .code yX5_empty cX5_empty 2 none :: ([.fieldLink RX5 29 "BlockCacheModel" "size" "[I", .methodLink RX5 105 yX5_remove, .instanceMethod yX5_remove, .selects RX5 yX5_remove yX5_remove, .initialized RX5, .code yX5_remove cX5_remove 2 none, .fieldLink RX5 50 "BlockCacheModel" "counts" "[I"] ++ wsX50)
def wsX5_invalidate : List Cond := .code yX5_invalidate cX5_invalidate 4 (some .int) :: ([.fieldLink RX5 29 "BlockCacheModel" "size" "[I", .fieldLink RX5 35 "BlockCacheModel" "pages" "[I", .methodLink RX5 105 yX5_remove, .instanceMethod yX5_remove, .selects RX5 yX5_remove yX5_remove, .initialized RX5, .code yX5_remove cX5_remove 2 none, .fieldLink RX5 50 "BlockCacheModel" "counts" "[I"] ++ wsX50)
def wsX5_write : List Cond := .code yX5_write cX5_write 3 none :: ([.fieldLink RX5 7 "BlockCacheModel" "memory" "[I", .fieldLink RX5 50 "BlockCacheModel" "counts" "[I", .methodLink RX5 108 yX5_invalidate, .instanceMethod yX5_invalidate, .selects RX5 yX5_invalidate yX5_invalidate, .initialized RX5, .code yX5_invalidate cX5_invalidate 4 (some .int), .fieldLink RX5 29 "BlockCacheModel" "size" "[I", .fieldLink RX5 35 "BlockCacheModel" "pages" "[I", .methodLink RX5 105 yX5_remove, .instanceMethod yX5_remove, .selects RX5 yX5_remove yX5_remove, .code yX5_remove cX5_remove 2 none] ++ wsX50)
def wsX5_hasBlock_r1 : List Cond := [Cond.fieldLink RX5 29 "BlockCacheModel" "size" "[I", Cond.fieldLink RX5 76 "BlockCacheModel" "foundMany" "I", Cond.fieldLink RX5 79 "BlockCacheModel" "foundSize" "I", Cond.fieldLink RX5 47 "BlockCacheModel" "room" "I", Cond.fieldLink RX5 50 "BlockCacheModel" "counts" "[I", Cond.fieldLink RX5 32 "BlockCacheModel" "length" "[I", Cond.fieldLink RX5 35 "BlockCacheModel" "pages" "[I", Cond.fieldLink RX5 82 "BlockCacheModel" "foundPages" "I", Cond.fieldLink RX5 117 "BlockCacheModel" "translated" "I", Cond.fieldLink RX5 38 "BlockCacheModel" "which" "[I", Cond.fieldLink RX5 41 "BlockCacheModel" "exitAt" "[I", Cond.fieldLink RX5 85 "BlockCacheModel" "foundDead" "I", Cond.methodLink RX5 111 yX5_find, Cond.instanceMethod yX5_find, Cond.selects RX5 yX5_find yX5_find, Cond.initialized RX5, Cond.code yX5_find cX5_find 7 none, Cond.fieldLink RX5 66 "BlockCacheModel" "kind" "I", Cond.fieldLink RX5 7 "BlockCacheModel" "memory" "[I", Cond.fieldLink RX5 53 "BlockCacheModel" "kinds" "[I", Cond.fieldLink RX5 69 "BlockCacheModel" "bytes" "I", Cond.methodLink RX5 88 yX5_look, Cond.instanceMethod yX5_look, Cond.selects RX5 yX5_look yX5_look]
def wsX5_hasBlock_r2 : List Cond := [Cond.code yX5_look cX5_look 3 none, Cond.methodLink RX5 62 yX5_kindOf, Cond.static yX5_kindOf, Cond.code yX5_kindOf cX5_kindOf 3 (some .int), Cond.methodLink RX5 92 yX5_reads, Cond.instanceMethod yX5_reads, Cond.selects RX5 yX5_reads yX5_reads, Cond.code yX5_reads cX5_reads 3 (some .boolean), Cond.methodLink RX5 72 yX5_isAlways, Cond.static yX5_isAlways, Cond.code yX5_isAlways cX5_isAlways 1 (some .boolean), Cond.methodLink RX5 96 yX5_sizeOf, Cond.static yX5_sizeOf, Cond.code yX5_sizeOf cX5_sizeOf 1 (some .int), Cond.methodLink RX5 99 yX5_makes, Cond.static yX5_makes, Cond.code yX5_makes cX5_makes 1 (some .boolean), Cond.methodLink RX5 102 yX5_ends, Cond.static yX5_ends, Cond.code yX5_ends cX5_ends 1 (some .boolean), Cond.methodLink RX5 114 yX5_empty, Cond.instanceMethod yX5_empty, Cond.selects RX5 yX5_empty yX5_empty, Cond.code yX5_empty cX5_empty 2 none]
def wsX5_hasBlock_r3 : List Cond := [Cond.methodLink RX5 105 yX5_remove, Cond.instanceMethod yX5_remove, Cond.selects RX5 yX5_remove yX5_remove, Cond.code yX5_remove cX5_remove 2 none]
def wsX5_hasBlock : List Cond := .code yX5_hasBlock cX5_hasBlock 2 (some .boolean) :: ((wsX5_hasBlock_r1 ++ (wsX5_hasBlock_r2 ++ wsX5_hasBlock_r3)) ++ wsX50)
def wsX5_setFlags : List Cond := .code yX5_setFlags cX5_setFlags 3 none :: ([.fieldLink RX5 13 "BlockCacheModel" "reg" "[I"] ++ wsX50)
def wsX5_push : List Cond := .code yX5_push cX5_push 2 none :: ([.fieldLink RX5 13 "BlockCacheModel" "reg" "[I", .methodLink RX5 120 yX5_write, .instanceMethod yX5_write, .selects RX5 yX5_write yX5_write, .initialized RX5, .code yX5_write cX5_write 3 none, .fieldLink RX5 7 "BlockCacheModel" "memory" "[I", .fieldLink RX5 50 "BlockCacheModel" "counts" "[I", .methodLink RX5 108 yX5_invalidate, .instanceMethod yX5_invalidate, .selects RX5 yX5_invalidate yX5_invalidate, .code yX5_invalidate cX5_invalidate 4 (some .int), .fieldLink RX5 29 "BlockCacheModel" "size" "[I", .fieldLink RX5 35 "BlockCacheModel" "pages" "[I", .methodLink RX5 105 yX5_remove, .instanceMethod yX5_remove, .selects RX5 yX5_remove yX5_remove, .code yX5_remove cX5_remove 2 none] ++ wsX50)
def wsX5_pop : List Cond := .code yX5_pop cX5_pop 2 (some .int) :: ([.fieldLink RX5 7 "BlockCacheModel" "memory" "[I", .fieldLink RX5 13 "BlockCacheModel" "reg" "[I"] ++ wsX50)
def wsX5_goes : List Cond := .code yX5_goes cX5_goes 2 (some .boolean) :: ([.fieldLink RX5 13 "BlockCacheModel" "reg" "[I"] ++ wsX50)
def wsX5_add : List Cond := .code yX5_add cX5_add 5 none :: ([.fieldLink RX5 13 "BlockCacheModel" "reg" "[I", .methodLink RX5 124 yX5_setFlags, .instanceMethod yX5_setFlags, .selects RX5 yX5_setFlags yX5_setFlags, .initialized RX5, .code yX5_setFlags cX5_setFlags 3 none] ++ wsX50)
def wsX5_less : List Cond := .code yX5_less cX5_less 4 (some .int) :: ([.methodLink RX5 124 yX5_setFlags, .instanceMethod yX5_setFlags, .selects RX5 yX5_setFlags yX5_setFlags, .initialized RX5, .code yX5_setFlags cX5_setFlags 3 none, .fieldLink RX5 13 "BlockCacheModel" "reg" "[I"] ++ wsX50)
def wsX5_shift : List Cond := .code yX5_shift cX5_shift 7 none :: ([.fieldLink RX5 13 "BlockCacheModel" "reg" "[I", .methodLink RX5 124 yX5_setFlags, .instanceMethod yX5_setFlags, .selects RX5 yX5_setFlags yX5_setFlags, .initialized RX5, .code yX5_setFlags cX5_setFlags 3 none] ++ wsX50)
def wsX5_receive : List Cond := .code yX5_receive cX5_receive 2 none :: ([.fieldLink RX5 13 "BlockCacheModel" "reg" "[I", .fieldLink RX5 159 "BlockCacheModel" "inputMany" "I", .fieldLink RX5 16 "BlockCacheModel" "inputs" "[I"] ++ wsX50)
def wsX5_stepOn_r1 : List Cond := [Cond.fieldLink RX5 66 "BlockCacheModel" "kind" "I", Cond.fieldLink RX5 13 "BlockCacheModel" "reg" "[I", Cond.fieldLink RX5 7 "BlockCacheModel" "memory" "[I", Cond.methodLink RX5 134 yX5_add, Cond.instanceMethod yX5_add, Cond.selects RX5 yX5_add yX5_add, Cond.initialized RX5, Cond.code yX5_add cX5_add 5 none, Cond.methodLink RX5 124 yX5_setFlags, Cond.instanceMethod yX5_setFlags, Cond.selects RX5 yX5_setFlags yX5_setFlags, Cond.code yX5_setFlags cX5_setFlags 3 none, Cond.methodLink RX5 138 yX5_less, Cond.instanceMethod yX5_less, Cond.selects RX5 yX5_less yX5_less, Cond.code yX5_less cX5_less 4 (some .int), Cond.methodLink RX5 120 yX5_write, Cond.instanceMethod yX5_write, Cond.selects RX5 yX5_write yX5_write, Cond.code yX5_write cX5_write 3 none, Cond.fieldLink RX5 50 "BlockCacheModel" "counts" "[I", Cond.methodLink RX5 108 yX5_invalidate, Cond.instanceMethod yX5_invalidate, Cond.selects RX5 yX5_invalidate yX5_invalidate]
def wsX5_stepOn_r2 : List Cond := [Cond.code yX5_invalidate cX5_invalidate 4 (some .int), Cond.fieldLink RX5 29 "BlockCacheModel" "size" "[I", Cond.fieldLink RX5 35 "BlockCacheModel" "pages" "[I", Cond.methodLink RX5 105 yX5_remove, Cond.instanceMethod yX5_remove, Cond.selects RX5 yX5_remove yX5_remove, Cond.code yX5_remove cX5_remove 2 none, Cond.methodLink RX5 149 yX5_goes, Cond.instanceMethod yX5_goes, Cond.selects RX5 yX5_goes yX5_goes, Cond.code yX5_goes cX5_goes 2 (some .boolean), Cond.methodLink RX5 152 yX5_push, Cond.instanceMethod yX5_push, Cond.selects RX5 yX5_push yX5_push, Cond.code yX5_push cX5_push 2 none, Cond.methodLink RX5 155 yX5_pop, Cond.instanceMethod yX5_pop, Cond.selects RX5 yX5_pop yX5_pop, Cond.code yX5_pop cX5_pop 2 (some .int)]
def wsX5_stepOn : List Cond := .code yX5_stepOn cX5_stepOn 7 none :: ((wsX5_stepOn_r1 ++ wsX5_stepOn_r2) ++ wsX50)
def wsX5_step_r1 : List Cond := [Cond.fieldLink RX5 7 "BlockCacheModel" "memory" "[I", Cond.fieldLink RX5 13 "BlockCacheModel" "reg" "[I", Cond.fieldLink RX5 69 "BlockCacheModel" "bytes" "I", Cond.fieldLink RX5 50 "BlockCacheModel" "counts" "[I", Cond.fieldLink RX5 66 "BlockCacheModel" "kind" "I", Cond.fieldLink RX5 127 "BlockCacheModel" "isOver" "Z", Cond.fieldLink RX5 26 "BlockCacheModel" "given" "[I", Cond.methodLink RX5 88 yX5_look, Cond.instanceMethod yX5_look, Cond.selects RX5 yX5_look yX5_look, Cond.initialized RX5, Cond.code yX5_look cX5_look 3 none, Cond.methodLink RX5 62 yX5_kindOf, Cond.static yX5_kindOf, Cond.code yX5_kindOf cX5_kindOf 3 (some .int), Cond.methodLink RX5 131 yX5_receive, Cond.instanceMethod yX5_receive, Cond.selects RX5 yX5_receive yX5_receive, Cond.code yX5_receive cX5_receive 2 none, Cond.fieldLink RX5 159 "BlockCacheModel" "inputMany" "I", Cond.fieldLink RX5 16 "BlockCacheModel" "inputs" "[I", Cond.methodLink RX5 134 yX5_add, Cond.instanceMethod yX5_add, Cond.selects RX5 yX5_add yX5_add]
def wsX5_step_r2 : List Cond := [Cond.code yX5_add cX5_add 5 none, Cond.methodLink RX5 124 yX5_setFlags, Cond.instanceMethod yX5_setFlags, Cond.selects RX5 yX5_setFlags yX5_setFlags, Cond.code yX5_setFlags cX5_setFlags 3 none, Cond.methodLink RX5 138 yX5_less, Cond.instanceMethod yX5_less, Cond.selects RX5 yX5_less yX5_less, Cond.code yX5_less cX5_less 4 (some .int), Cond.methodLink RX5 142 yX5_shift, Cond.instanceMethod yX5_shift, Cond.selects RX5 yX5_shift yX5_shift, Cond.code yX5_shift cX5_shift 7 none, Cond.methodLink RX5 145 yX5_stepOn, Cond.instanceMethod yX5_stepOn, Cond.selects RX5 yX5_stepOn yX5_stepOn, Cond.code yX5_stepOn cX5_stepOn 7 none, Cond.methodLink RX5 120 yX5_write, Cond.instanceMethod yX5_write, Cond.selects RX5 yX5_write yX5_write, Cond.code yX5_write cX5_write 3 none, Cond.methodLink RX5 108 yX5_invalidate, Cond.instanceMethod yX5_invalidate, Cond.selects RX5 yX5_invalidate yX5_invalidate]
def wsX5_step_r3 : List Cond := [Cond.code yX5_invalidate cX5_invalidate 4 (some .int), Cond.fieldLink RX5 29 "BlockCacheModel" "size" "[I", Cond.fieldLink RX5 35 "BlockCacheModel" "pages" "[I", Cond.methodLink RX5 105 yX5_remove, Cond.instanceMethod yX5_remove, Cond.selects RX5 yX5_remove yX5_remove, Cond.code yX5_remove cX5_remove 2 none, Cond.methodLink RX5 149 yX5_goes, Cond.instanceMethod yX5_goes, Cond.selects RX5 yX5_goes yX5_goes, Cond.code yX5_goes cX5_goes 2 (some .boolean), Cond.methodLink RX5 152 yX5_push, Cond.instanceMethod yX5_push, Cond.selects RX5 yX5_push yX5_push, Cond.code yX5_push cX5_push 2 none, Cond.methodLink RX5 155 yX5_pop, Cond.instanceMethod yX5_pop, Cond.selects RX5 yX5_pop yX5_pop, Cond.code yX5_pop cX5_pop 2 (some .int)]
def wsX5_step : List Cond := .code yX5_step cX5_step 7 none :: ((wsX5_step_r1 ++ (wsX5_step_r2 ++ wsX5_step_r3)) ++ wsX50)
def wsX5_interrupt_r1 : List Cond := [Cond.fieldLink RX5 13 "BlockCacheModel" "reg" "[I", Cond.fieldLink RX5 162 "BlockCacheModel" "requestMany" "I", Cond.fieldLink RX5 19 "BlockCacheModel" "requests" "[I", Cond.fieldLink RX5 50 "BlockCacheModel" "counts" "[I", Cond.fieldLink RX5 56 "BlockCacheModel" "leftBy" "I", Cond.methodLink RX5 152 yX5_push, Cond.instanceMethod yX5_push, Cond.selects RX5 yX5_push yX5_push, Cond.initialized RX5, Cond.code yX5_push cX5_push 2 none, Cond.methodLink RX5 120 yX5_write, Cond.instanceMethod yX5_write, Cond.selects RX5 yX5_write yX5_write, Cond.code yX5_write cX5_write 3 none, Cond.fieldLink RX5 7 "BlockCacheModel" "memory" "[I", Cond.methodLink RX5 108 yX5_invalidate, Cond.instanceMethod yX5_invalidate, Cond.selects RX5 yX5_invalidate yX5_invalidate, Cond.code yX5_invalidate cX5_invalidate 4 (some .int), Cond.fieldLink RX5 29 "BlockCacheModel" "size" "[I", Cond.fieldLink RX5 35 "BlockCacheModel" "pages" "[I", Cond.methodLink RX5 105 yX5_remove, Cond.instanceMethod yX5_remove, Cond.selects RX5 yX5_remove yX5_remove]
def wsX5_interrupt_r2 : List Cond := [Cond.code yX5_remove cX5_remove 2 none]
def wsX5_interrupt : List Cond := .code yX5_interrupt cX5_interrupt 2 none :: ((wsX5_interrupt_r1 ++ wsX5_interrupt_r2) ++ wsX50)
def wsX5_isDisturbed : List Cond := .code yX5_isDisturbed cX5_isDisturbed 4 (some .boolean) :: ([.fieldLink RX5 162 "BlockCacheModel" "requestMany" "I", .fieldLink RX5 19 "BlockCacheModel" "requests" "[I", .fieldLink RX5 50 "BlockCacheModel" "counts" "[I"] ++ wsX50)
def wsX5_isLinked : List Cond := .code yX5_isLinked cX5_isLinked 2 (some .boolean) :: ([.fieldLink RX5 56 "BlockCacheModel" "leftBy" "I", .fieldLink RX5 29 "BlockCacheModel" "size" "[I", .fieldLink RX5 44 "BlockCacheModel" "exitTo" "[I", .fieldLink RX5 38 "BlockCacheModel" "which" "[I"] ++ wsX50)
def wsX5_leave : List Cond := .code yX5_leave cX5_leave 4 none :: ([.fieldLink RX5 41 "BlockCacheModel" "exitAt" "[I", .fieldLink RX5 44 "BlockCacheModel" "exitTo" "[I", .fieldLink RX5 56 "BlockCacheModel" "leftBy" "I"] ++ wsX50)
def wsX5_runBlock_r1 : List Cond := [Cond.fieldLink RX5 38 "BlockCacheModel" "which" "[I", Cond.fieldLink RX5 56 "BlockCacheModel" "leftBy" "I", Cond.fieldLink RX5 29 "BlockCacheModel" "size" "[I", Cond.fieldLink RX5 44 "BlockCacheModel" "exitTo" "[I", Cond.fieldLink RX5 32 "BlockCacheModel" "length" "[I", Cond.fieldLink RX5 66 "BlockCacheModel" "kind" "I", Cond.fieldLink RX5 13 "BlockCacheModel" "reg" "[I", Cond.methodLink RX5 165 yX5_step, Cond.instanceMethod yX5_step, Cond.selects RX5 yX5_step yX5_step, Cond.initialized RX5, Cond.code yX5_step cX5_step 7 none, Cond.fieldLink RX5 7 "BlockCacheModel" "memory" "[I", Cond.fieldLink RX5 69 "BlockCacheModel" "bytes" "I", Cond.fieldLink RX5 50 "BlockCacheModel" "counts" "[I", Cond.fieldLink RX5 127 "BlockCacheModel" "isOver" "Z", Cond.fieldLink RX5 26 "BlockCacheModel" "given" "[I", Cond.methodLink RX5 88 yX5_look, Cond.instanceMethod yX5_look, Cond.selects RX5 yX5_look yX5_look, Cond.code yX5_look cX5_look 3 none, Cond.methodLink RX5 62 yX5_kindOf, Cond.static yX5_kindOf, Cond.code yX5_kindOf cX5_kindOf 3 (some .int)]
def wsX5_runBlock_r2 : List Cond := [Cond.methodLink RX5 131 yX5_receive, Cond.instanceMethod yX5_receive, Cond.selects RX5 yX5_receive yX5_receive, Cond.code yX5_receive cX5_receive 2 none, Cond.fieldLink RX5 159 "BlockCacheModel" "inputMany" "I", Cond.fieldLink RX5 16 "BlockCacheModel" "inputs" "[I", Cond.methodLink RX5 134 yX5_add, Cond.instanceMethod yX5_add, Cond.selects RX5 yX5_add yX5_add, Cond.code yX5_add cX5_add 5 none, Cond.methodLink RX5 124 yX5_setFlags, Cond.instanceMethod yX5_setFlags, Cond.selects RX5 yX5_setFlags yX5_setFlags, Cond.code yX5_setFlags cX5_setFlags 3 none, Cond.methodLink RX5 138 yX5_less, Cond.instanceMethod yX5_less, Cond.selects RX5 yX5_less yX5_less, Cond.code yX5_less cX5_less 4 (some .int), Cond.methodLink RX5 142 yX5_shift, Cond.instanceMethod yX5_shift, Cond.selects RX5 yX5_shift yX5_shift, Cond.code yX5_shift cX5_shift 7 none, Cond.methodLink RX5 145 yX5_stepOn, Cond.instanceMethod yX5_stepOn]
def wsX5_runBlock_r3 : List Cond := [Cond.selects RX5 yX5_stepOn yX5_stepOn, Cond.code yX5_stepOn cX5_stepOn 7 none, Cond.methodLink RX5 120 yX5_write, Cond.instanceMethod yX5_write, Cond.selects RX5 yX5_write yX5_write, Cond.code yX5_write cX5_write 3 none, Cond.methodLink RX5 108 yX5_invalidate, Cond.instanceMethod yX5_invalidate, Cond.selects RX5 yX5_invalidate yX5_invalidate, Cond.code yX5_invalidate cX5_invalidate 4 (some .int), Cond.fieldLink RX5 35 "BlockCacheModel" "pages" "[I", Cond.methodLink RX5 105 yX5_remove, Cond.instanceMethod yX5_remove, Cond.selects RX5 yX5_remove yX5_remove, Cond.code yX5_remove cX5_remove 2 none, Cond.methodLink RX5 149 yX5_goes, Cond.instanceMethod yX5_goes, Cond.selects RX5 yX5_goes yX5_goes, Cond.code yX5_goes cX5_goes 2 (some .boolean), Cond.methodLink RX5 152 yX5_push, Cond.instanceMethod yX5_push, Cond.selects RX5 yX5_push yX5_push, Cond.code yX5_push cX5_push 2 none, Cond.methodLink RX5 155 yX5_pop]
def wsX5_runBlock_r4 : List Cond := [Cond.instanceMethod yX5_pop, Cond.selects RX5 yX5_pop yX5_pop, Cond.code yX5_pop cX5_pop 2 (some .int), Cond.methodLink RX5 168 yX5_leave, Cond.instanceMethod yX5_leave, Cond.selects RX5 yX5_leave yX5_leave, Cond.code yX5_leave cX5_leave 4 none, Cond.fieldLink RX5 41 "BlockCacheModel" "exitAt" "[I"]
def wsX5_runBlock : List Cond := .code yX5_runBlock cX5_runBlock 7 none :: ((wsX5_runBlock_r1 ++ (wsX5_runBlock_r2 ++ (wsX5_runBlock_r3 ++ wsX5_runBlock_r4))) ++ wsX50)
def wsX5_goOn_r1 : List Cond := [Cond.fieldLink RX5 162 "BlockCacheModel" "requestMany" "I", Cond.fieldLink RX5 13 "BlockCacheModel" "reg" "[I", Cond.fieldLink RX5 19 "BlockCacheModel" "requests" "[I", Cond.fieldLink RX5 50 "BlockCacheModel" "counts" "[I", Cond.fieldLink RX5 32 "BlockCacheModel" "length" "[I", Cond.fieldLink RX5 127 "BlockCacheModel" "isOver" "Z", Cond.fieldLink RX5 56 "BlockCacheModel" "leftBy" "I", Cond.fieldLink RX5 66 "BlockCacheModel" "kind" "I", Cond.methodLink RX5 171 yX5_interrupt, Cond.instanceMethod yX5_interrupt, Cond.selects RX5 yX5_interrupt yX5_interrupt, Cond.initialized RX5, Cond.code yX5_interrupt cX5_interrupt 2 none, Cond.methodLink RX5 152 yX5_push, Cond.instanceMethod yX5_push, Cond.selects RX5 yX5_push yX5_push, Cond.code yX5_push cX5_push 2 none, Cond.methodLink RX5 120 yX5_write, Cond.instanceMethod yX5_write, Cond.selects RX5 yX5_write yX5_write, Cond.code yX5_write cX5_write 3 none, Cond.fieldLink RX5 7 "BlockCacheModel" "memory" "[I", Cond.methodLink RX5 108 yX5_invalidate, Cond.instanceMethod yX5_invalidate]
def wsX5_goOn_r2 : List Cond := [Cond.selects RX5 yX5_invalidate yX5_invalidate, Cond.code yX5_invalidate cX5_invalidate 4 (some .int), Cond.fieldLink RX5 29 "BlockCacheModel" "size" "[I", Cond.fieldLink RX5 35 "BlockCacheModel" "pages" "[I", Cond.methodLink RX5 105 yX5_remove, Cond.instanceMethod yX5_remove, Cond.selects RX5 yX5_remove yX5_remove, Cond.code yX5_remove cX5_remove 2 none, Cond.methodLink RX5 174 yX5_isLinked, Cond.instanceMethod yX5_isLinked, Cond.selects RX5 yX5_isLinked yX5_isLinked, Cond.code yX5_isLinked cX5_isLinked 2 (some .boolean), Cond.fieldLink RX5 44 "BlockCacheModel" "exitTo" "[I", Cond.fieldLink RX5 38 "BlockCacheModel" "which" "[I", Cond.methodLink RX5 177 yX5_hasBlock, Cond.instanceMethod yX5_hasBlock, Cond.selects RX5 yX5_hasBlock yX5_hasBlock, Cond.code yX5_hasBlock cX5_hasBlock 2 (some .boolean), Cond.fieldLink RX5 76 "BlockCacheModel" "foundMany" "I", Cond.fieldLink RX5 79 "BlockCacheModel" "foundSize" "I", Cond.fieldLink RX5 47 "BlockCacheModel" "room" "I", Cond.fieldLink RX5 82 "BlockCacheModel" "foundPages" "I", Cond.fieldLink RX5 117 "BlockCacheModel" "translated" "I", Cond.fieldLink RX5 41 "BlockCacheModel" "exitAt" "[I"]
def wsX5_goOn_r3 : List Cond := [Cond.fieldLink RX5 85 "BlockCacheModel" "foundDead" "I", Cond.methodLink RX5 111 yX5_find, Cond.instanceMethod yX5_find, Cond.selects RX5 yX5_find yX5_find, Cond.code yX5_find cX5_find 7 none, Cond.fieldLink RX5 53 "BlockCacheModel" "kinds" "[I", Cond.fieldLink RX5 69 "BlockCacheModel" "bytes" "I", Cond.methodLink RX5 88 yX5_look, Cond.instanceMethod yX5_look, Cond.selects RX5 yX5_look yX5_look, Cond.code yX5_look cX5_look 3 none, Cond.methodLink RX5 62 yX5_kindOf, Cond.static yX5_kindOf, Cond.code yX5_kindOf cX5_kindOf 3 (some .int), Cond.methodLink RX5 92 yX5_reads, Cond.instanceMethod yX5_reads, Cond.selects RX5 yX5_reads yX5_reads, Cond.code yX5_reads cX5_reads 3 (some .boolean), Cond.methodLink RX5 72 yX5_isAlways, Cond.static yX5_isAlways, Cond.code yX5_isAlways cX5_isAlways 1 (some .boolean), Cond.methodLink RX5 96 yX5_sizeOf, Cond.static yX5_sizeOf, Cond.code yX5_sizeOf cX5_sizeOf 1 (some .int)]
def wsX5_goOn_r4 : List Cond := [Cond.methodLink RX5 99 yX5_makes, Cond.static yX5_makes, Cond.code yX5_makes cX5_makes 1 (some .boolean), Cond.methodLink RX5 102 yX5_ends, Cond.static yX5_ends, Cond.code yX5_ends cX5_ends 1 (some .boolean), Cond.methodLink RX5 114 yX5_empty, Cond.instanceMethod yX5_empty, Cond.selects RX5 yX5_empty yX5_empty, Cond.code yX5_empty cX5_empty 2 none, Cond.methodLink RX5 180 yX5_isDisturbed, Cond.instanceMethod yX5_isDisturbed, Cond.selects RX5 yX5_isDisturbed yX5_isDisturbed, Cond.code yX5_isDisturbed cX5_isDisturbed 4 (some .boolean), Cond.methodLink RX5 183 yX5_runBlock, Cond.instanceMethod yX5_runBlock, Cond.selects RX5 yX5_runBlock yX5_runBlock, Cond.code yX5_runBlock cX5_runBlock 7 none, Cond.methodLink RX5 165 yX5_step, Cond.instanceMethod yX5_step, Cond.selects RX5 yX5_step yX5_step, Cond.code yX5_step cX5_step 7 none, Cond.fieldLink RX5 26 "BlockCacheModel" "given" "[I", Cond.methodLink RX5 131 yX5_receive]
def wsX5_goOn_r5 : List Cond := [Cond.instanceMethod yX5_receive, Cond.selects RX5 yX5_receive yX5_receive, Cond.code yX5_receive cX5_receive 2 none, Cond.fieldLink RX5 159 "BlockCacheModel" "inputMany" "I", Cond.fieldLink RX5 16 "BlockCacheModel" "inputs" "[I", Cond.methodLink RX5 134 yX5_add, Cond.instanceMethod yX5_add, Cond.selects RX5 yX5_add yX5_add, Cond.code yX5_add cX5_add 5 none, Cond.methodLink RX5 124 yX5_setFlags, Cond.instanceMethod yX5_setFlags, Cond.selects RX5 yX5_setFlags yX5_setFlags, Cond.code yX5_setFlags cX5_setFlags 3 none, Cond.methodLink RX5 138 yX5_less, Cond.instanceMethod yX5_less, Cond.selects RX5 yX5_less yX5_less, Cond.code yX5_less cX5_less 4 (some .int), Cond.methodLink RX5 142 yX5_shift, Cond.instanceMethod yX5_shift, Cond.selects RX5 yX5_shift yX5_shift, Cond.code yX5_shift cX5_shift 7 none, Cond.methodLink RX5 145 yX5_stepOn, Cond.instanceMethod yX5_stepOn, Cond.selects RX5 yX5_stepOn yX5_stepOn]
def wsX5_goOn_r6 : List Cond := [Cond.code yX5_stepOn cX5_stepOn 7 none, Cond.methodLink RX5 149 yX5_goes, Cond.instanceMethod yX5_goes, Cond.selects RX5 yX5_goes yX5_goes, Cond.code yX5_goes cX5_goes 2 (some .boolean), Cond.methodLink RX5 155 yX5_pop, Cond.instanceMethod yX5_pop, Cond.selects RX5 yX5_pop yX5_pop, Cond.code yX5_pop cX5_pop 2 (some .int), Cond.methodLink RX5 168 yX5_leave, Cond.instanceMethod yX5_leave, Cond.selects RX5 yX5_leave yX5_leave, Cond.code yX5_leave cX5_leave 4 none]
def wsX5_goOn : List Cond := .code yX5_goOn cX5_goOn 5 (some .boolean) :: ((wsX5_goOn_r1 ++ (wsX5_goOn_r2 ++ (wsX5_goOn_r3 ++ (wsX5_goOn_r4 ++ (wsX5_goOn_r5 ++ wsX5_goOn_r6))))) ++ wsX50)
def wsX5_run_r1 : List Cond := [Cond.fieldLink RX5 50 "BlockCacheModel" "counts" "[I", Cond.fieldLink RX5 56 "BlockCacheModel" "leftBy" "I", Cond.fieldLink RX5 127 "BlockCacheModel" "isOver" "Z", Cond.methodLink RX5 186 yX5_isIn, Cond.static yX5_isIn, Cond.initialized RX5, Cond.code yX5_isIn cX5_isIn 3 (some .boolean), Cond.methodLink RX5 190 yX5_refused, Cond.instanceMethod yX5_refused, Cond.selects RX5 yX5_refused yX5_refused, Cond.code yX5_refused cX5_refused 2 (some .boolean), Cond.fieldLink RX5 59 "BlockCacheModel" "refusal" "I", Cond.methodLink RX5 193 yX5_goOn, Cond.instanceMethod yX5_goOn, Cond.selects RX5 yX5_goOn yX5_goOn, Cond.code yX5_goOn cX5_goOn 5 (some .boolean), Cond.fieldLink RX5 162 "BlockCacheModel" "requestMany" "I", Cond.fieldLink RX5 13 "BlockCacheModel" "reg" "[I", Cond.fieldLink RX5 19 "BlockCacheModel" "requests" "[I", Cond.fieldLink RX5 32 "BlockCacheModel" "length" "[I", Cond.fieldLink RX5 66 "BlockCacheModel" "kind" "I", Cond.methodLink RX5 171 yX5_interrupt, Cond.instanceMethod yX5_interrupt, Cond.selects RX5 yX5_interrupt yX5_interrupt]
def wsX5_run_r2 : List Cond := [Cond.code yX5_interrupt cX5_interrupt 2 none, Cond.methodLink RX5 152 yX5_push, Cond.instanceMethod yX5_push, Cond.selects RX5 yX5_push yX5_push, Cond.code yX5_push cX5_push 2 none, Cond.methodLink RX5 120 yX5_write, Cond.instanceMethod yX5_write, Cond.selects RX5 yX5_write yX5_write, Cond.code yX5_write cX5_write 3 none, Cond.fieldLink RX5 7 "BlockCacheModel" "memory" "[I", Cond.methodLink RX5 108 yX5_invalidate, Cond.instanceMethod yX5_invalidate, Cond.selects RX5 yX5_invalidate yX5_invalidate, Cond.code yX5_invalidate cX5_invalidate 4 (some .int), Cond.fieldLink RX5 29 "BlockCacheModel" "size" "[I", Cond.fieldLink RX5 35 "BlockCacheModel" "pages" "[I", Cond.methodLink RX5 105 yX5_remove, Cond.instanceMethod yX5_remove, Cond.selects RX5 yX5_remove yX5_remove, Cond.code yX5_remove cX5_remove 2 none, Cond.methodLink RX5 174 yX5_isLinked, Cond.instanceMethod yX5_isLinked, Cond.selects RX5 yX5_isLinked yX5_isLinked, Cond.code yX5_isLinked cX5_isLinked 2 (some .boolean)]
def wsX5_run_r3 : List Cond := [Cond.fieldLink RX5 44 "BlockCacheModel" "exitTo" "[I", Cond.fieldLink RX5 38 "BlockCacheModel" "which" "[I", Cond.methodLink RX5 177 yX5_hasBlock, Cond.instanceMethod yX5_hasBlock, Cond.selects RX5 yX5_hasBlock yX5_hasBlock, Cond.code yX5_hasBlock cX5_hasBlock 2 (some .boolean), Cond.fieldLink RX5 76 "BlockCacheModel" "foundMany" "I", Cond.fieldLink RX5 79 "BlockCacheModel" "foundSize" "I", Cond.fieldLink RX5 47 "BlockCacheModel" "room" "I", Cond.fieldLink RX5 82 "BlockCacheModel" "foundPages" "I", Cond.fieldLink RX5 117 "BlockCacheModel" "translated" "I", Cond.fieldLink RX5 41 "BlockCacheModel" "exitAt" "[I", Cond.fieldLink RX5 85 "BlockCacheModel" "foundDead" "I", Cond.methodLink RX5 111 yX5_find, Cond.instanceMethod yX5_find, Cond.selects RX5 yX5_find yX5_find, Cond.code yX5_find cX5_find 7 none, Cond.fieldLink RX5 53 "BlockCacheModel" "kinds" "[I", Cond.fieldLink RX5 69 "BlockCacheModel" "bytes" "I", Cond.methodLink RX5 88 yX5_look, Cond.instanceMethod yX5_look, Cond.selects RX5 yX5_look yX5_look, Cond.code yX5_look cX5_look 3 none, Cond.methodLink RX5 62 yX5_kindOf]
def wsX5_run_r4 : List Cond := [Cond.static yX5_kindOf, Cond.code yX5_kindOf cX5_kindOf 3 (some .int), Cond.methodLink RX5 92 yX5_reads, Cond.instanceMethod yX5_reads, Cond.selects RX5 yX5_reads yX5_reads, Cond.code yX5_reads cX5_reads 3 (some .boolean), Cond.methodLink RX5 72 yX5_isAlways, Cond.static yX5_isAlways, Cond.code yX5_isAlways cX5_isAlways 1 (some .boolean), Cond.methodLink RX5 96 yX5_sizeOf, Cond.static yX5_sizeOf, Cond.code yX5_sizeOf cX5_sizeOf 1 (some .int), Cond.methodLink RX5 99 yX5_makes, Cond.static yX5_makes, Cond.code yX5_makes cX5_makes 1 (some .boolean), Cond.methodLink RX5 102 yX5_ends, Cond.static yX5_ends, Cond.code yX5_ends cX5_ends 1 (some .boolean), Cond.methodLink RX5 114 yX5_empty, Cond.instanceMethod yX5_empty, Cond.selects RX5 yX5_empty yX5_empty, Cond.code yX5_empty cX5_empty 2 none, Cond.methodLink RX5 180 yX5_isDisturbed, Cond.instanceMethod yX5_isDisturbed]
def wsX5_run_r5 : List Cond := [Cond.selects RX5 yX5_isDisturbed yX5_isDisturbed, Cond.code yX5_isDisturbed cX5_isDisturbed 4 (some .boolean), Cond.methodLink RX5 183 yX5_runBlock, Cond.instanceMethod yX5_runBlock, Cond.selects RX5 yX5_runBlock yX5_runBlock, Cond.code yX5_runBlock cX5_runBlock 7 none, Cond.methodLink RX5 165 yX5_step, Cond.instanceMethod yX5_step, Cond.selects RX5 yX5_step yX5_step, Cond.code yX5_step cX5_step 7 none, Cond.fieldLink RX5 26 "BlockCacheModel" "given" "[I", Cond.methodLink RX5 131 yX5_receive, Cond.instanceMethod yX5_receive, Cond.selects RX5 yX5_receive yX5_receive, Cond.code yX5_receive cX5_receive 2 none, Cond.fieldLink RX5 159 "BlockCacheModel" "inputMany" "I", Cond.fieldLink RX5 16 "BlockCacheModel" "inputs" "[I", Cond.methodLink RX5 134 yX5_add, Cond.instanceMethod yX5_add, Cond.selects RX5 yX5_add yX5_add, Cond.code yX5_add cX5_add 5 none, Cond.methodLink RX5 124 yX5_setFlags, Cond.instanceMethod yX5_setFlags, Cond.selects RX5 yX5_setFlags yX5_setFlags]
def wsX5_run_r6 : List Cond := [Cond.code yX5_setFlags cX5_setFlags 3 none, Cond.methodLink RX5 138 yX5_less, Cond.instanceMethod yX5_less, Cond.selects RX5 yX5_less yX5_less, Cond.code yX5_less cX5_less 4 (some .int), Cond.methodLink RX5 142 yX5_shift, Cond.instanceMethod yX5_shift, Cond.selects RX5 yX5_shift yX5_shift, Cond.code yX5_shift cX5_shift 7 none, Cond.methodLink RX5 145 yX5_stepOn, Cond.instanceMethod yX5_stepOn, Cond.selects RX5 yX5_stepOn yX5_stepOn, Cond.code yX5_stepOn cX5_stepOn 7 none, Cond.methodLink RX5 149 yX5_goes, Cond.instanceMethod yX5_goes, Cond.selects RX5 yX5_goes yX5_goes, Cond.code yX5_goes cX5_goes 2 (some .boolean), Cond.methodLink RX5 155 yX5_pop, Cond.instanceMethod yX5_pop, Cond.selects RX5 yX5_pop yX5_pop, Cond.code yX5_pop cX5_pop 2 (some .int), Cond.methodLink RX5 168 yX5_leave, Cond.instanceMethod yX5_leave, Cond.selects RX5 yX5_leave yX5_leave]
def wsX5_run_r7 : List Cond := [Cond.code yX5_leave cX5_leave 4 none]
def wsX5_run : List Cond := .code yX5_run cX5_run 4 (some .int) :: ((wsX5_run_r1 ++ (wsX5_run_r2 ++ (wsX5_run_r3 ++ (wsX5_run_r4 ++ (wsX5_run_r5 ++ (wsX5_run_r6 ++ wsX5_run_r7)))))) ++ wsX50)
def wsX5_poke : List Cond := .code yX5_poke cX5_poke 7 none :: ([.fieldLink RX5 7 "BlockCacheModel" "memory" "[I", .methodLink RX5 186 yX5_isIn, .static yX5_isIn, .initialized RX5, .code yX5_isIn cX5_isIn 3 (some .boolean), .methodLink RX5 190 yX5_refused, .instanceMethod yX5_refused, .selects RX5 yX5_refused yX5_refused, .code yX5_refused cX5_refused 2 (some .boolean), .fieldLink RX5 59 "BlockCacheModel" "refusal" "I", .methodLink RX5 108 yX5_invalidate, .instanceMethod yX5_invalidate, .selects RX5 yX5_invalidate yX5_invalidate, .code yX5_invalidate cX5_invalidate 4 (some .int), .fieldLink RX5 29 "BlockCacheModel" "size" "[I", .fieldLink RX5 35 "BlockCacheModel" "pages" "[I", .methodLink RX5 105 yX5_remove, .instanceMethod yX5_remove, .selects RX5 yX5_remove yX5_remove, .code yX5_remove cX5_remove 2 none, .fieldLink RX5 50 "BlockCacheModel" "counts" "[I"] ++ wsX50)
def wsX5_peek : List Cond := .code yX5_peek cX5_peek 2 (some .int) :: ([.fieldLink RX5 7 "BlockCacheModel" "memory" "[I", .methodLink RX5 186 yX5_isIn, .static yX5_isIn, .initialized RX5, .code yX5_isIn cX5_isIn 3 (some .boolean), .methodLink RX5 190 yX5_refused, .instanceMethod yX5_refused, .selects RX5 yX5_refused yX5_refused, .code yX5_refused cX5_refused 2 (some .boolean), .fieldLink RX5 59 "BlockCacheModel" "refusal" "I"] ++ wsX50)
def wsX5_set : List Cond := .code yX5_set cX5_set 4 none :: ([.fieldLink RX5 13 "BlockCacheModel" "reg" "[I", .methodLink RX5 186 yX5_isIn, .static yX5_isIn, .initialized RX5, .code yX5_isIn cX5_isIn 3 (some .boolean), .methodLink RX5 190 yX5_refused, .instanceMethod yX5_refused, .selects RX5 yX5_refused yX5_refused, .code yX5_refused cX5_refused 2 (some .boolean), .fieldLink RX5 59 "BlockCacheModel" "refusal" "I"] ++ wsX50)
def wsX5_get : List Cond := .code yX5_get cX5_get 2 (some .int) :: ([.fieldLink RX5 13 "BlockCacheModel" "reg" "[I", .methodLink RX5 186 yX5_isIn, .static yX5_isIn, .initialized RX5, .code yX5_isIn cX5_isIn 3 (some .boolean), .methodLink RX5 190 yX5_refused, .instanceMethod yX5_refused, .selects RX5 yX5_refused yX5_refused, .code yX5_refused cX5_refused 2 (some .boolean), .fieldLink RX5 59 "BlockCacheModel" "refusal" "I"] ++ wsX50)
def wsX5_input : List Cond := .code yX5_input cX5_input 2 (some .int) :: ([.fieldLink RX5 159 "BlockCacheModel" "inputMany" "I", .fieldLink RX5 16 "BlockCacheModel" "inputs" "[I", .methodLink RX5 186 yX5_isIn, .static yX5_isIn, .initialized RX5, .code yX5_isIn cX5_isIn 3 (some .boolean), .methodLink RX5 190 yX5_refused, .instanceMethod yX5_refused, .selects RX5 yX5_refused yX5_refused, .code yX5_refused cX5_refused 2 (some .boolean), .fieldLink RX5 59 "BlockCacheModel" "refusal" "I"] ++ wsX50)
def wsX5_request : List Cond := .code yX5_request cX5_request 2 (some .int) :: ([.fieldLink RX5 22 "BlockCacheModel" "lastRequest" "I", .fieldLink RX5 50 "BlockCacheModel" "counts" "[I", .fieldLink RX5 162 "BlockCacheModel" "requestMany" "I", .fieldLink RX5 19 "BlockCacheModel" "requests" "[I", .methodLink RX5 190 yX5_refused, .instanceMethod yX5_refused, .selects RX5 yX5_refused yX5_refused, .initialized RX5, .code yX5_refused cX5_refused 2 (some .boolean), .fieldLink RX5 59 "BlockCacheModel" "refusal" "I"] ++ wsX50)
def wsX5_room : List Cond := .code yX5_room cX5_room 2 none :: ([.fieldLink RX5 47 "BlockCacheModel" "room" "I", .methodLink RX5 186 yX5_isIn, .static yX5_isIn, .initialized RX5, .code yX5_isIn cX5_isIn 3 (some .boolean), .methodLink RX5 190 yX5_refused, .instanceMethod yX5_refused, .selects RX5 yX5_refused yX5_refused, .code yX5_refused cX5_refused 2 (some .boolean), .fieldLink RX5 59 "BlockCacheModel" "refusal" "I", .methodLink RX5 114 yX5_empty, .instanceMethod yX5_empty, .selects RX5 yX5_empty yX5_empty, .code yX5_empty cX5_empty 2 none, .fieldLink RX5 29 "BlockCacheModel" "size" "[I", .methodLink RX5 105 yX5_remove, .instanceMethod yX5_remove, .selects RX5 yX5_remove yX5_remove, .code yX5_remove cX5_remove 2 none, .fieldLink RX5 50 "BlockCacheModel" "counts" "[I"] ++ wsX50)
def wsX5_output : List Cond := .code yX5_output cX5_output 2 (some .int) :: ([.fieldLink RX5 59 "BlockCacheModel" "refusal" "I", .fieldLink RX5 50 "BlockCacheModel" "counts" "[I", .fieldLink RX5 26 "BlockCacheModel" "given" "[I", .methodLink RX5 186 yX5_isIn, .static yX5_isIn, .initialized RX5, .code yX5_isIn cX5_isIn 3 (some .boolean)] ++ wsX50)
def wsX5_count : List Cond := .code yX5_count cX5_count 2 (some .int) :: ([.fieldLink RX5 50 "BlockCacheModel" "counts" "[I", .methodLink RX5 186 yX5_isIn, .static yX5_isIn, .initialized RX5, .code yX5_isIn cX5_isIn 3 (some .boolean), .methodLink RX5 190 yX5_refused, .instanceMethod yX5_refused, .selects RX5 yX5_refused yX5_refused, .code yX5_refused cX5_refused 2 (some .boolean), .fieldLink RX5 59 "BlockCacheModel" "refusal" "I"] ++ wsX50)
def wsL_poke_r1 : List Cond := [Cond.classLink RL 13 "java/lang/IllegalArgumentException", Cond.methodLink RL 7 yX4_poke, Cond.instanceMethod yX4_poke, Cond.selects RX4 yX4_poke yX4_poke, Cond.initialized RX4, Cond.code yX4_poke cX4_poke 6 none, Cond.classLink RX4 43 "java/lang/IllegalArgumentException", Cond.initialized "java/lang/IllegalArgumentException", Cond.fieldLink RX4 10 "BlockCache" "guest" "LBlockCache$Guest;", Cond.fieldLink RX4 46 "BlockCache$Guest" "memory" "[I", Cond.fieldLink RX4 19 "BlockCache" "cache" "LBlockCache$Cache;", Cond.methodLink RX4 39 yX4_isByte, Cond.static yX4_isByte, Cond.code yX4_isByte cX4_isByte 1 (some .boolean), Cond.methodLink RX4 50 yX0_dropPage, Cond.instanceMethod yX0_dropPage, Cond.selects RX0 yX0_dropPage yX0_dropPage, Cond.initialized RX0, Cond.code yX0_dropPage cX0_dropPage 6 (some .int), Cond.fieldLink RX0 63 "BlockCache$Cache" "blocks" "I", Cond.fieldLink RX0 24 "BlockCache$Cache" "serial" "[I", Cond.fieldLink RX0 48 "BlockCache$Cache" "filled" "I", Cond.fieldLink RX0 21 "BlockCache$Cache" "size" "[I", Cond.methodLink RX0 110 yX0_has]
def wsL_poke_r2 : List Cond := [Cond.instanceMethod yX0_has, Cond.selects RX0 yX0_has yX0_has, Cond.code yX0_has cX0_has 2 (some .boolean), Cond.methodLink RX0 113 yX0_reaches, Cond.instanceMethod yX0_reaches, Cond.selects RX0 yX0_reaches yX0_reaches, Cond.code yX0_reaches cX0_reaches 4 (some .boolean), Cond.fieldLink RX0 18 "BlockCache$Cache" "behind" "[I"]
def wsL_poke : List Cond := .codeWith yL_poke cL_poke 5 (some .int) [(0, 7, 10, 13)] :: ((wsL_poke_r1 ++ wsL_poke_r2) ++ wsX40 ++ wsX20 ++ wsX00 ++ (vx_at0 RX4 45 "java/lang/IllegalArgumentException" ["java/lang/RuntimeException", "java/lang/Exception"]).filter goodWord)
def wsL_peek : List Cond := .codeWith yL_peek cL_peek 4 (some .int) [(0, 9, 12, 13)] :: ([.classLink RL 13 "java/lang/IllegalArgumentException", .methodLink RL 15 yX4_peek, .instanceMethod yX4_peek, .selects RX4 yX4_peek yX4_peek, .initialized RX4, .code yX4_peek cX4_peek 2 (some .int), .classLink RX4 43 "java/lang/IllegalArgumentException", .initialized "java/lang/IllegalArgumentException", .fieldLink RX4 10 "BlockCache" "guest" "LBlockCache$Guest;", .fieldLink RX4 46 "BlockCache$Guest" "memory" "[I", .methodLink RX4 39 yX4_isByte, .static yX4_isByte, .code yX4_isByte cX4_isByte 1 (some .boolean)] ++ wsX40 ++ wsX20 ++ (vx_at0 RX4 45 "java/lang/IllegalArgumentException" ["java/lang/RuntimeException", "java/lang/Exception"]).filter goodWord)
def wsL_set : List Cond := .codeWith yL_set cL_set 4 (some .int) [(0, 6, 9, 13)] :: ([.classLink RL 13 "java/lang/IllegalArgumentException", .methodLink RL 19 yX4_set, .instanceMethod yX4_set, .selects RX4 yX4_set yX4_set, .initialized RX4, .code yX4_set cX4_set 3 none, .classLink RX4 43 "java/lang/IllegalArgumentException", .initialized "java/lang/IllegalArgumentException", .fieldLink RX4 10 "BlockCache" "guest" "LBlockCache$Guest;", .fieldLink RX4 60 "BlockCache$Guest" "state" "[I", .methodLink RX4 54 yX4_isState, .static yX4_isState, .code yX4_isState cX4_isState 1 (some .boolean), .methodLink RX4 39 yX4_isByte, .static yX4_isByte, .code yX4_isByte cX4_isByte 1 (some .boolean), .methodLink RX4 57 yX4_isOneBit, .static yX4_isOneBit, .code yX4_isOneBit cX4_isOneBit 1 (some .boolean)] ++ wsX40 ++ wsX20 ++ (vx_at0 RX4 45 "java/lang/IllegalArgumentException" ["java/lang/RuntimeException", "java/lang/Exception"]).filter goodWord)
def wsL_get : List Cond := .codeWith yL_get cL_get 4 (some .int) [(0, 9, 12, 13)] :: ([.classLink RL 13 "java/lang/IllegalArgumentException", .methodLink RL 23 yX4_get, .instanceMethod yX4_get, .selects RX4 yX4_get yX4_get, .initialized RX4, .code yX4_get cX4_get 2 (some .int), .classLink RX4 43 "java/lang/IllegalArgumentException", .initialized "java/lang/IllegalArgumentException", .fieldLink RX4 10 "BlockCache" "guest" "LBlockCache$Guest;", .fieldLink RX4 60 "BlockCache$Guest" "state" "[I", .methodLink RX4 54 yX4_isState, .static yX4_isState, .code yX4_isState cX4_isState 1 (some .boolean)] ++ wsX40 ++ wsX20 ++ (vx_at0 RX4 45 "java/lang/IllegalArgumentException" ["java/lang/RuntimeException", "java/lang/Exception"]).filter goodWord)
def wsL_input_r1 : List Cond := [Cond.classLink RL 13 "java/lang/IllegalArgumentException", Cond.classLink RL 29 "java/lang/IllegalStateException", Cond.methodLink RL 26 yX4_input, Cond.instanceMethod yX4_input, Cond.selects RX4 yX4_input yX4_input, Cond.initialized RX4, Cond.code yX4_input cX4_input 2 (some .int), Cond.classLink RX4 43 "java/lang/IllegalArgumentException", Cond.initialized "java/lang/IllegalArgumentException", Cond.classLink RX4 70 "java/lang/IllegalStateException", Cond.initialized "java/lang/IllegalStateException", Cond.fieldLink RX4 10 "BlockCache" "guest" "LBlockCache$Guest;", Cond.fieldLink RX4 63 "BlockCache$Guest" "inputs" "LBlockCache$Queue;", Cond.fieldLink RX4 76 "BlockCache$Queue" "many" "I", Cond.methodLink RX4 39 yX4_isByte, Cond.static yX4_isByte, Cond.code yX4_isByte cX4_isByte 1 (some .boolean), Cond.methodLink RX4 66 yX3_isFull, Cond.instanceMethod yX3_isFull, Cond.selects RX3 yX3_isFull yX3_isFull, Cond.initialized RX3, Cond.code yX3_isFull cX3_isFull 1 (some .boolean), Cond.fieldLink RX3 13 "BlockCache$Queue" "many" "I", Cond.fieldLink RX3 7 "BlockCache$Queue" "ring" "[I"]
def wsL_input_r2 : List Cond := [Cond.methodLink RX4 73 yX3_append, Cond.instanceMethod yX3_append, Cond.selects RX3 yX3_append yX3_append, Cond.code yX3_append cX3_append 2 none, Cond.fieldLink RX3 17 "BlockCache$Queue" "start" "I", Cond.methodLink RX3 20 yX3_wrapped, Cond.instanceMethod yX3_wrapped, Cond.selects RX3 yX3_wrapped yX3_wrapped, Cond.code yX3_wrapped cX3_wrapped 2 (some .int)]
def wsL_input : List Cond := .codeWith yL_input cL_input 4 (some .int) [(0, 9, 12, 13), (0, 9, 15, 29)] :: ((wsL_input_r1 ++ wsL_input_r2) ++ wsX40 ++ wsX20 ++ wsX30 ++ (vx_at0 RX4 45 "java/lang/IllegalArgumentException" ["java/lang/RuntimeException", "java/lang/Exception"]).filter goodWord ++ (vx_at0 RX4 72 "java/lang/IllegalStateException" ["java/lang/RuntimeException", "java/lang/Exception"]).filter goodWord)
def wsL_request_r1 : List Cond := [Cond.classLink RL 13 "java/lang/IllegalArgumentException", Cond.classLink RL 29 "java/lang/IllegalStateException", Cond.methodLink RL 31 yX4_request, Cond.instanceMethod yX4_request, Cond.selects RX4 yX4_request yX4_request, Cond.initialized RX4, Cond.code yX4_request cX4_request 2 (some .int), Cond.classLink RX4 43 "java/lang/IllegalArgumentException", Cond.initialized "java/lang/IllegalArgumentException", Cond.classLink RX4 70 "java/lang/IllegalStateException", Cond.initialized "java/lang/IllegalStateException", Cond.fieldLink RX4 32 "BlockCache" "latestRequest" "I", Cond.fieldLink RX4 79 "BlockCache" "executed" "I", Cond.fieldLink RX4 28 "BlockCache" "requests" "LBlockCache$Queue;", Cond.fieldLink RX4 76 "BlockCache$Queue" "many" "I", Cond.methodLink RX4 66 yX3_isFull, Cond.instanceMethod yX3_isFull, Cond.selects RX3 yX3_isFull yX3_isFull, Cond.initialized RX3, Cond.code yX3_isFull cX3_isFull 1 (some .boolean), Cond.fieldLink RX3 13 "BlockCache$Queue" "many" "I", Cond.fieldLink RX3 7 "BlockCache$Queue" "ring" "[I", Cond.methodLink RX4 73 yX3_append, Cond.instanceMethod yX3_append]
def wsL_request_r2 : List Cond := [Cond.selects RX3 yX3_append yX3_append, Cond.code yX3_append cX3_append 2 none, Cond.fieldLink RX3 17 "BlockCache$Queue" "start" "I", Cond.methodLink RX3 20 yX3_wrapped, Cond.instanceMethod yX3_wrapped, Cond.selects RX3 yX3_wrapped yX3_wrapped, Cond.code yX3_wrapped cX3_wrapped 2 (some .int)]
def wsL_request : List Cond := .codeWith yL_request cL_request 4 (some .int) [(0, 9, 12, 13), (0, 9, 15, 29)] :: ((wsL_request_r1 ++ wsL_request_r2) ++ wsX40 ++ wsX30 ++ (vx_at0 RX4 45 "java/lang/IllegalArgumentException" ["java/lang/RuntimeException", "java/lang/Exception"]).filter goodWord ++ (vx_at0 RX4 72 "java/lang/IllegalStateException" ["java/lang/RuntimeException", "java/lang/Exception"]).filter goodWord)
def wsL_room : List Cond := .codeWith yL_room cL_room 3 (some .int) [(0, 5, 8, 13)] :: ([.classLink RL 13 "java/lang/IllegalArgumentException", .methodLink RL 34 yX4_room, .instanceMethod yX4_room, .selects RX4 yX4_room yX4_room, .initialized RX4, .code yX4_room cX4_room 2 none, .classLink RX4 43 "java/lang/IllegalArgumentException", .initialized "java/lang/IllegalArgumentException", .fieldLink RX4 19 "BlockCache" "cache" "LBlockCache$Cache;", .fieldLink RX4 82 "BlockCache$Cache" "limit" "I", .methodLink RX4 85 yX0_empty, .instanceMethod yX0_empty, .selects RX0 yX0_empty yX0_empty, .initialized RX0, .code yX0_empty cX0_empty 1 none, .fieldLink RX0 24 "BlockCache$Cache" "serial" "[I", .fieldLink RX0 63 "BlockCache$Cache" "blocks" "I", .fieldLink RX0 48 "BlockCache$Cache" "filled" "I", .methodLink RX0 117 yJ7_fill_53178, .static yJ7_fill_53178, .initialized RJ7, .code yJ7_fill_53178 cJ7_fill_53178 4 none] ++ wsX40 ++ wsX00 ++ (vx_at0 RX4 45 "java/lang/IllegalArgumentException" ["java/lang/RuntimeException", "java/lang/Exception"]).filter goodWord)
def wsL_run_r1 : List Cond := [Cond.classLink RL 13 "java/lang/IllegalArgumentException", Cond.methodLink RL 38 yX4_run, Cond.instanceMethod yX4_run, Cond.selects RX4 yX4_run yX4_run, Cond.initialized RX4, Cond.code yX4_run cX4_run 5 (some .int), Cond.classLink RX4 43 "java/lang/IllegalArgumentException", Cond.initialized "java/lang/IllegalArgumentException", Cond.fieldLink RX4 79 "BlockCache" "executed" "I", Cond.fieldLink RX4 88 "BlockCache" "ending" "I", Cond.fieldLink RX4 36 "BlockCache" "exit" "I", Cond.methodLink RX4 91 yX4_takeTurn, Cond.instanceMethod yX4_takeTurn, Cond.selects RX4 yX4_takeTurn yX4_takeTurn, Cond.code yX4_takeTurn cX4_takeTurn 3 none, Cond.fieldLink RX4 10 "BlockCache" "guest" "LBlockCache$Guest;", Cond.fieldLink RX4 60 "BlockCache$Guest" "state" "[I", Cond.fieldLink RX4 19 "BlockCache" "cache" "LBlockCache$Cache;", Cond.fieldLink RX4 133 "BlockCache$Cache" "length" "[I", Cond.methodLink RX4 127 yX4_interruptIfDue, Cond.instanceMethod yX4_interruptIfDue, Cond.selects RX4 yX4_interruptIfDue yX4_interruptIfDue, Cond.code yX4_interruptIfDue cX4_interruptIfDue 1 none, Cond.fieldLink RX4 28 "BlockCache" "requests" "LBlockCache$Queue;"]
def wsL_run_r2 : List Cond := [Cond.fieldLink RX4 76 "BlockCache$Queue" "many" "I", Cond.fieldLink RX4 118 "BlockCache" "interrupts" "I", Cond.methodLink RX4 146 yX3_first, Cond.instanceMethod yX3_first, Cond.selects RX3 yX3_first yX3_first, Cond.initialized RX3, Cond.code yX3_first cX3_first 1 (some .int), Cond.fieldLink RX3 7 "BlockCache$Queue" "ring" "[I", Cond.fieldLink RX3 17 "BlockCache$Queue" "start" "I", Cond.methodLink RX4 150 yX3_takeFirst, Cond.instanceMethod yX3_takeFirst, Cond.selects RX3 yX3_takeFirst yX3_takeFirst, Cond.code yX3_takeFirst cX3_takeFirst 2 (some .int), Cond.fieldLink RX3 13 "BlockCache$Queue" "many" "I", Cond.methodLink RX3 20 yX3_wrapped, Cond.instanceMethod yX3_wrapped, Cond.selects RX3 yX3_wrapped yX3_wrapped, Cond.code yX3_wrapped cX3_wrapped 2 (some .int), Cond.methodLink RX4 153 yX2_interrupt, Cond.instanceMethod yX2_interrupt, Cond.selects RX2 yX2_interrupt yX2_interrupt, Cond.initialized RX2, Cond.code yX2_interrupt cX2_interrupt 1 none, Cond.fieldLink RX2 9 "BlockCache$Guest" "state" "[I"]
def wsL_run_r3 : List Cond := [Cond.methodLink RX2 37 yX2_push, Cond.instanceMethod yX2_push, Cond.selects RX2 yX2_push yX2_push, Cond.code yX2_push cX2_push 2 none, Cond.methodLink RX2 110 yX2_write, Cond.instanceMethod yX2_write, Cond.selects RX2 yX2_write yX2_write, Cond.code yX2_write cX2_write 3 none, Cond.fieldLink RX2 15 "BlockCache$Guest" "memory" "[I", Cond.fieldLink RX2 30 "BlockCache$Guest" "written" "I", Cond.methodLink RX4 156 yX4_dropWritten, Cond.instanceMethod yX4_dropWritten, Cond.selects RX4 yX4_dropWritten yX4_dropWritten, Cond.code yX4_dropWritten cX4_dropWritten 1 none, Cond.fieldLink RX4 201 "BlockCache$Guest" "written" "I", Cond.fieldLink RX4 106 "BlockCache" "invalidated" "I", Cond.methodLink RX4 50 yX0_dropPage, Cond.instanceMethod yX0_dropPage, Cond.selects RX0 yX0_dropPage yX0_dropPage, Cond.initialized RX0, Cond.code yX0_dropPage cX0_dropPage 6 (some .int), Cond.fieldLink RX0 63 "BlockCache$Cache" "blocks" "I", Cond.fieldLink RX0 24 "BlockCache$Cache" "serial" "[I", Cond.fieldLink RX0 48 "BlockCache$Cache" "filled" "I"]
def wsL_run_r4 : List Cond := [Cond.fieldLink RX0 21 "BlockCache$Cache" "size" "[I", Cond.methodLink RX0 110 yX0_has, Cond.instanceMethod yX0_has, Cond.selects RX0 yX0_has yX0_has, Cond.code yX0_has cX0_has 2 (some .boolean), Cond.methodLink RX0 113 yX0_reaches, Cond.instanceMethod yX0_reaches, Cond.selects RX0 yX0_reaches yX0_reaches, Cond.code yX0_reaches cX0_reaches 4 (some .boolean), Cond.fieldLink RX0 18 "BlockCache$Cache" "behind" "[I", Cond.methodLink RX4 130 yX4_findBlock, Cond.instanceMethod yX4_findBlock, Cond.selects RX4 yX4_findBlock yX4_findBlock, Cond.code yX4_findBlock cX4_findBlock 2 (some .boolean), Cond.fieldLink RX4 112 "BlockCache" "lookups" "I", Cond.fieldLink RX4 46 "BlockCache$Guest" "memory" "[I", Cond.methodLink RX4 159 yX0_isLinked, Cond.instanceMethod yX0_isLinked, Cond.selects RX0 yX0_isLinked yX0_isLinked, Cond.code yX0_isLinked cX0_isLinked 3 (some .boolean), Cond.fieldLink RX0 30 "BlockCache$Cache" "linkedSerial" "[I", Cond.methodLink RX4 162 yX0_has, Cond.methodLink RX4 165 yX0_translate, Cond.instanceMethod yX0_translate]
def wsL_run_r5 : List Cond := [Cond.selects RX0 yX0_translate yX0_translate, Cond.code yX0_translate cX0_translate 4 (some .boolean), Cond.fieldLink RX0 15 "BlockCache$Cache" "length" "[I", Cond.fieldLink RX0 33 "BlockCache$Cache" "limit" "I", Cond.fieldLink RX0 54 "BlockCache$Cache" "flushes" "I", Cond.fieldLink RX0 57 "BlockCache$Cache" "translated" "I", Cond.fieldLink RX0 60 "BlockCache$Cache" "deadFlags" "I", Cond.methodLink RX0 37 yX0_decodeBlock, Cond.instanceMethod yX0_decodeBlock, Cond.selects RX0 yX0_decodeBlock yX0_decodeBlock, Cond.code yX0_decodeBlock cX0_decodeBlock 8 none, Cond.fieldLink RX0 11 "BlockCache$Cache" "code" "[I", Cond.methodLink RX0 70 yX1_decode, Cond.static yX1_decode, Cond.initialized RX1, Cond.code yX1_decode cX1_decode 4 (some .int), Cond.methodLink RX1 7 yX1_kindOf, Cond.static yX1_kindOf, Cond.code yX1_kindOf cX1_kindOf 4 (some .int), Cond.methodLink RX0 76 yX1_kind, Cond.static yX1_kind, Cond.code yX1_kind cX1_kind 1 (some .int), Cond.methodLink RX0 79 yX1_bytes, Cond.static yX1_bytes]
def wsL_run_r6 : List Cond := [Cond.code yX1_bytes cX1_bytes 1 (some .int), Cond.methodLink RX0 82 yX1_endsBlock, Cond.static yX1_endsBlock, Cond.code yX1_endsBlock cX1_endsBlock 1 (some .boolean), Cond.methodLink RX1 14 yX1_leavesByItself, Cond.static yX1_leavesByItself, Cond.code yX1_leavesByItself cX1_leavesByItself 1 (some .boolean), Cond.methodLink RX0 41 yX0_markDead, Cond.instanceMethod yX0_markDead, Cond.selects RX0 yX0_markDead yX0_markDead, Cond.code yX0_markDead cX0_markDead 8 (some .int), Cond.methodLink RX0 86 yX0_wordAt, Cond.instanceMethod yX0_wordAt, Cond.selects RX0 yX0_wordAt yX0_wordAt, Cond.code yX0_wordAt cX0_wordAt 3 (some .int), Cond.methodLink RX0 90 yX1_makesFlags, Cond.static yX1_makesFlags, Cond.code yX1_makesFlags cX1_makesFlags 1 (some .boolean), Cond.methodLink RX0 93 yX1_asDead, Cond.static yX1_asDead, Cond.code yX1_asDead cX1_asDead 1 (some .int), Cond.constant RX1 13 (1048576), Cond.methodLink RX0 96 yX1_needsFlags, Cond.static yX1_needsFlags]
def wsL_run_r7 : List Cond := [Cond.code yX1_needsFlags cX1_needsFlags 1 (some .boolean), Cond.methodLink RX0 45 yX0_sizeOf, Cond.instanceMethod yX0_sizeOf, Cond.selects RX0 yX0_sizeOf yX0_sizeOf, Cond.code yX0_sizeOf cX0_sizeOf 4 (some .int), Cond.methodLink RX0 99 yX0_lastKind, Cond.instanceMethod yX0_lastKind, Cond.selects RX0 yX0_lastKind yX0_lastKind, Cond.code yX0_lastKind cX0_lastKind 2 (some .int), Cond.methodLink RX0 102 yX1_leavesByItself, Cond.methodLink RX0 105 yX1_size, Cond.static yX1_size, Cond.code yX1_size cX1_size 2 (some .int), Cond.methodLink RX1 18 yX1_kind, Cond.methodLink RX1 21 yX1_makesFlags, Cond.methodLink RX1 24 yX1_sizeWithoutFlags, Cond.static yX1_sizeWithoutFlags, Cond.code yX1_sizeWithoutFlags cX1_sizeWithoutFlags 1 (some .int), Cond.methodLink RX1 27 yX1_isDead, Cond.static yX1_isDead, Cond.code yX1_isDead cX1_isDead 1 (some .boolean), Cond.methodLink RX1 30 yX1_onlyCompares, Cond.static yX1_onlyCompares, Cond.code yX1_onlyCompares cX1_onlyCompares 1 (some .boolean)]
def wsL_run_r8 : List Cond := [Cond.methodLink RX0 51 yX0_empty, Cond.instanceMethod yX0_empty, Cond.selects RX0 yX0_empty yX0_empty, Cond.code yX0_empty cX0_empty 1 none, Cond.methodLink RX0 117 yJ7_fill_53178, Cond.static yJ7_fill_53178, Cond.initialized RJ7, Cond.code yJ7_fill_53178 cJ7_fill_53178 4 none, Cond.methodLink RX0 66 yX0_layExits, Cond.instanceMethod yX0_layExits, Cond.selects RX0 yX0_layExits yX0_layExits, Cond.code yX0_layExits cX0_layExits 6 none, Cond.fieldLink RX0 27 "BlockCache$Cache" "exitPlace" "[I", Cond.methodLink RX0 107 yX1_n, Cond.static yX1_n, Cond.code yX1_n cX1_n 1 (some .int), Cond.methodLink RX4 136 yX4_mayRunWhole, Cond.instanceMethod yX4_mayRunWhole, Cond.selects RX4 yX4_mayRunWhole yX4_mayRunWhole, Cond.code yX4_mayRunWhole cX4_mayRunWhole 3 (some .boolean), Cond.methodLink RX4 169 yX4_requestComes, Cond.instanceMethod yX4_requestComes, Cond.selects RX4 yX4_requestComes yX4_requestComes, Cond.code yX4_requestComes cX4_requestComes 4 (some .boolean)]
def wsL_run_r9 : List Cond := [Cond.methodLink RX4 172 yX3_at, Cond.instanceMethod yX3_at, Cond.selects RX3 yX3_at yX3_at, Cond.code yX3_at cX3_at 2 (some .int), Cond.methodLink RX4 140 yX4_runBlock, Cond.instanceMethod yX4_runBlock, Cond.selects RX4 yX4_runBlock yX4_runBlock, Cond.code yX4_runBlock cX4_runBlock 4 none, Cond.methodLink RX4 175 yX0_link, Cond.instanceMethod yX0_link, Cond.selects RX0 yX0_link yX0_link, Cond.code yX0_link cX0_link 3 none, Cond.methodLink RX4 179 yX0_wordAt, Cond.methodLink RX4 183 yX4_perform, Cond.instanceMethod yX4_perform, Cond.selects RX4 yX4_perform yX4_perform, Cond.code yX4_perform cX4_perform 2 none, Cond.methodLink RX4 198 yX2_execute, Cond.instanceMethod yX2_execute, Cond.selects RX2 yX2_execute yX2_execute, Cond.code yX2_execute cX2_execute 3 none, Cond.methodLink RX2 40 yX1_kind, Cond.methodLink RX2 46 yX1_bytes, Cond.methodLink RX2 49 yX1_makesFlags]
def wsL_run_r10 : List Cond := [Cond.methodLink RX2 53 yX2_calculate, Cond.instanceMethod yX2_calculate, Cond.selects RX2 yX2_calculate yX2_calculate, Cond.code yX2_calculate cX2_calculate 8 none, Cond.methodLink RX2 66 yX1_isDead, Cond.methodLink RX2 69 yX1_onlyCompares, Cond.methodLink RX2 72 yX1_d, Cond.static yX1_d, Cond.code yX1_d cX1_d 1 (some .int), Cond.methodLink RX2 75 yX1_n, Cond.methodLink RX2 78 yX1_s, Cond.static yX1_s, Cond.code yX1_s cX1_s 1 (some .int), Cond.methodLink RX2 81 yX2_resultWithCarry, Cond.instanceMethod yX2_resultWithCarry, Cond.selects RX2 yX2_resultWithCarry yX2_resultWithCarry, Cond.code yX2_resultWithCarry cX2_resultWithCarry 4 (some .int), Cond.methodLink RX2 85 yX2_makeFlags, Cond.instanceMethod yX2_makeFlags, Cond.selects RX2 yX2_makeFlags yX2_makeFlags, Cond.code yX2_makeFlags cX2_makeFlags 2 none, Cond.methodLink RX2 57 yX1_endsBlock, Cond.methodLink RX2 60 yX2_steer, Cond.instanceMethod yX2_steer]
def wsL_run_r11 : List Cond := [Cond.selects RX2 yX2_steer yX2_steer, Cond.code yX2_steer cX2_steer 3 none, Cond.methodLink RX2 88 yX1_w, Cond.static yX1_w, Cond.code yX1_w cX1_w 1 (some .int), Cond.methodLink RX2 91 yX2_jumpIf, Cond.instanceMethod yX2_jumpIf, Cond.selects RX2 yX2_jumpIf yX2_jumpIf, Cond.code yX2_jumpIf cX2_jumpIf 4 none, Cond.methodLink RX2 94 yX2_pop, Cond.instanceMethod yX2_pop, Cond.selects RX2 yX2_pop yX2_pop, Cond.code yX2_pop cX2_pop 2 (some .int), Cond.methodLink RX2 98 yX2_countDown, Cond.instanceMethod yX2_countDown, Cond.selects RX2 yX2_countDown yX2_countDown, Cond.code yX2_countDown cX2_countDown 3 none, Cond.methodLink RX2 63 yX2_move, Cond.instanceMethod yX2_move, Cond.selects RX2 yX2_move yX2_move, Cond.code yX2_move cX2_move 5 none, Cond.fieldLink RX2 23 "BlockCache$Guest" "inputs" "LBlockCache$Queue;", Cond.fieldLink RX2 104 "BlockCache$Queue" "many" "I", Cond.methodLink RX2 101 yX2_give]
def wsL_run_r12 : List Cond := [Cond.instanceMethod yX2_give, Cond.selects RX2 yX2_give yX2_give, Cond.code yX2_give cX2_give 2 none, Cond.fieldLink RX2 34 "BlockCache$Guest" "given" "I", Cond.fieldLink RX2 27 "BlockCache$Guest" "outputs" "[I", Cond.methodLink RX2 107 yX3_takeFirst, Cond.methodLink RX4 195 yX1_kind, Cond.methodLink RX4 186 yX0_exitTo, Cond.instanceMethod yX0_exitTo, Cond.selects RX0 yX0_exitTo yX0_exitTo, Cond.code yX0_exitTo cX0_exitTo 3 (some .int), Cond.methodLink RX4 143 yX4_interpret, Cond.instanceMethod yX4_interpret, Cond.selects RX4 yX4_interpret yX4_interpret, Cond.code yX4_interpret cX4_interpret 3 none, Cond.fieldLink RX4 115 "BlockCache" "interpreted" "I", Cond.methodLink RX4 189 yX1_decode]
def wsL_run : List Cond := .codeWith yL_run cL_run 4 (some .int) [(0, 9, 12, 13)] :: ((wsL_run_r1 ++ (wsL_run_r2 ++ (wsL_run_r3 ++ (wsL_run_r4 ++ (wsL_run_r5 ++ (wsL_run_r6 ++ (wsL_run_r7 ++ (wsL_run_r8 ++ (wsL_run_r9 ++ (wsL_run_r10 ++ (wsL_run_r11 ++ wsL_run_r12))))))))))) ++ wsX40 ++ wsX20 ++ wsX00 ++ wsX30 ++ (vx_at0 RX4 45 "java/lang/IllegalArgumentException" ["java/lang/RuntimeException", "java/lang/Exception"]).filter goodWord)
def wsL_count : List Cond := .codeWith yL_count cL_count 4 (some .int) [(0, 9, 12, 13)] :: ([.classLink RL 13 "java/lang/IllegalArgumentException", .methodLink RL 41 yX4_count, .instanceMethod yX4_count, .selects RX4 yX4_count yX4_count, .initialized RX4, .code yX4_count cX4_count 2 (some .int), .classLink RX4 43 "java/lang/IllegalArgumentException", .initialized "java/lang/IllegalArgumentException", .fieldLink RX4 79 "BlockCache" "executed" "I", .fieldLink RX4 19 "BlockCache" "cache" "LBlockCache$Cache;", .fieldLink RX4 97 "BlockCache$Cache" "blocks" "I", .fieldLink RX4 100 "BlockCache$Cache" "filled" "I", .fieldLink RX4 103 "BlockCache$Cache" "translated" "I", .fieldLink RX4 106 "BlockCache" "invalidated" "I", .fieldLink RX4 109 "BlockCache$Cache" "flushes" "I", .fieldLink RX4 112 "BlockCache" "lookups" "I", .fieldLink RX4 115 "BlockCache" "interpreted" "I", .fieldLink RX4 118 "BlockCache" "interrupts" "I", .fieldLink RX4 121 "BlockCache$Cache" "deadFlags" "I", .fieldLink RX4 10 "BlockCache" "guest" "LBlockCache$Guest;", .fieldLink RX4 124 "BlockCache$Guest" "given" "I", .fieldLink RX4 88 "BlockCache" "ending" "I"] ++ wsX40 ++ wsX00 ++ wsX20 ++ (vx_at0 RX4 45 "java/lang/IllegalArgumentException" ["java/lang/RuntimeException", "java/lang/Exception"]).filter goodWord)
def wsL_law0_r1 : List Cond := [Cond.classLink RL 8 RX4, Cond.instantiable RX4 11, Cond.initialized RX4, Cond.classLink RL 45 RX5, Cond.instantiable RX5 27, Cond.initialized RX5, Cond.arrayClass .long, Cond.methodLink RL 44 yX4_init, Cond.instanceMethod yX4_init, Cond.code yX4_init cX4_init 1 none, Cond.methodLink RX4 1 objectInit, Cond.instanceMethod objectInit, Cond.code objectInit ⟨#[0xb1]⟩ 1 none, Cond.classLink RX4 7 RX2, Cond.instantiable RX2 6, Cond.initialized RX2, Cond.fieldLink RX4 10 "BlockCache" "guest" "LBlockCache$Guest;", Cond.classLink RX4 16 RX0, Cond.instantiable RX0 13, Cond.initialized RX0, Cond.fieldLink RX4 19 "BlockCache" "cache" "LBlockCache$Cache;", Cond.classLink RX4 23 RX3, Cond.instantiable RX3 3, Cond.initialized RX3]
def wsL_law0_r2 : List Cond := [Cond.fieldLink RX4 28 "BlockCache" "requests" "LBlockCache$Queue;", Cond.fieldLink RX4 32 "BlockCache" "latestRequest" "I", Cond.fieldLink RX4 36 "BlockCache" "exit" "I", Cond.instanceMethod yX2_init, Cond.code yX2_init cX2_init 1 none, Cond.methodLink RX2 3 objectInit, Cond.arrayClass .int, Cond.fieldLink RX2 9 "BlockCache$Guest" "state" "[I", Cond.fieldLink RX2 15 "BlockCache$Guest" "memory" "[I", Cond.classLink RX2 18 RX3, Cond.fieldLink RX2 23 "BlockCache$Guest" "inputs" "LBlockCache$Queue;", Cond.fieldLink RX2 27 "BlockCache$Guest" "outputs" "[I", Cond.fieldLink RX2 30 "BlockCache$Guest" "written" "I", Cond.methodLink RX2 20 yX3_init, Cond.instanceMethod yX3_init, Cond.code yX3_init cX3_init 2 none, Cond.methodLink RX3 1 objectInit, Cond.fieldLink RX3 7 "BlockCache$Queue" "ring" "[I", Cond.instanceMethod yX0_init, Cond.code yX0_init cX0_init 1 none, Cond.methodLink RX0 5 objectInit, Cond.fieldLink RX0 11 "BlockCache$Cache" "code" "[I", Cond.fieldLink RX0 15 "BlockCache$Cache" "length" "[I", Cond.fieldLink RX0 18 "BlockCache$Cache" "behind" "[I"]
def wsL_law0_r3 : List Cond := [Cond.fieldLink RX0 21 "BlockCache$Cache" "size" "[I", Cond.fieldLink RX0 24 "BlockCache$Cache" "serial" "[I", Cond.fieldLink RX0 27 "BlockCache$Cache" "exitPlace" "[I", Cond.fieldLink RX0 30 "BlockCache$Cache" "linkedSerial" "[I", Cond.fieldLink RX0 33 "BlockCache$Cache" "limit" "I", Cond.methodLink RX4 25 yX3_init, Cond.methodLink RL 47 yX5_init, Cond.instanceMethod yX5_init, Cond.code yX5_init cX5_init 1 none, Cond.methodLink RX5 1 objectInit, Cond.fieldLink RX5 7 "BlockCacheModel" "memory" "[I", Cond.fieldLink RX5 13 "BlockCacheModel" "reg" "[I", Cond.fieldLink RX5 16 "BlockCacheModel" "inputs" "[I", Cond.fieldLink RX5 19 "BlockCacheModel" "requests" "[I", Cond.fieldLink RX5 22 "BlockCacheModel" "lastRequest" "I", Cond.fieldLink RX5 26 "BlockCacheModel" "given" "[I", Cond.fieldLink RX5 29 "BlockCacheModel" "size" "[I", Cond.fieldLink RX5 32 "BlockCacheModel" "length" "[I", Cond.fieldLink RX5 35 "BlockCacheModel" "pages" "[I", Cond.fieldLink RX5 38 "BlockCacheModel" "which" "[I", Cond.fieldLink RX5 41 "BlockCacheModel" "exitAt" "[I", Cond.fieldLink RX5 44 "BlockCacheModel" "exitTo" "[I", Cond.fieldLink RX5 47 "BlockCacheModel" "room" "I", Cond.fieldLink RX5 50 "BlockCacheModel" "counts" "[I"]
def wsL_law0_r4 : List Cond := [Cond.fieldLink RX5 53 "BlockCacheModel" "kinds" "[I", Cond.fieldLink RX5 56 "BlockCacheModel" "leftBy" "I", Cond.methodLink RL 48 yL_poke, Cond.static yL_poke, Cond.initialized RL, Cond.codeWith yL_poke cL_poke 5 (some .int) [(0, 7, 10, 13)], Cond.classLink RL 13 "java/lang/IllegalArgumentException", Cond.methodLink RL 7 yX4_poke, Cond.instanceMethod yX4_poke, Cond.selects RX4 yX4_poke yX4_poke, Cond.code yX4_poke cX4_poke 6 none, Cond.classLink RX4 43 "java/lang/IllegalArgumentException", Cond.initialized "java/lang/IllegalArgumentException", Cond.fieldLink RX4 46 "BlockCache$Guest" "memory" "[I", Cond.methodLink RX4 39 yX4_isByte, Cond.static yX4_isByte, Cond.code yX4_isByte cX4_isByte 1 (some .boolean), Cond.methodLink RX4 50 yX0_dropPage, Cond.instanceMethod yX0_dropPage, Cond.selects RX0 yX0_dropPage yX0_dropPage, Cond.code yX0_dropPage cX0_dropPage 6 (some .int), Cond.fieldLink RX0 63 "BlockCache$Cache" "blocks" "I", Cond.fieldLink RX0 48 "BlockCache$Cache" "filled" "I", Cond.methodLink RX0 110 yX0_has]
def wsL_law0_r5 : List Cond := [Cond.instanceMethod yX0_has, Cond.selects RX0 yX0_has yX0_has, Cond.code yX0_has cX0_has 2 (some .boolean), Cond.methodLink RX0 113 yX0_reaches, Cond.instanceMethod yX0_reaches, Cond.selects RX0 yX0_reaches yX0_reaches, Cond.code yX0_reaches cX0_reaches 4 (some .boolean), Cond.methodLink RL 53 yX5_poke, Cond.instanceMethod yX5_poke, Cond.selects RX5 yX5_poke yX5_poke, Cond.code yX5_poke cX5_poke 7 none, Cond.methodLink RX5 186 yX5_isIn, Cond.static yX5_isIn, Cond.code yX5_isIn cX5_isIn 3 (some .boolean), Cond.methodLink RX5 190 yX5_refused, Cond.instanceMethod yX5_refused, Cond.selects RX5 yX5_refused yX5_refused, Cond.code yX5_refused cX5_refused 2 (some .boolean), Cond.fieldLink RX5 59 "BlockCacheModel" "refusal" "I", Cond.methodLink RX5 108 yX5_invalidate, Cond.instanceMethod yX5_invalidate, Cond.selects RX5 yX5_invalidate yX5_invalidate, Cond.code yX5_invalidate cX5_invalidate 4 (some .int), Cond.methodLink RX5 105 yX5_remove]
end
section
def wsL_law0_r6 : List Cond := [Cond.instanceMethod yX5_remove, Cond.selects RX5 yX5_remove yX5_remove, Cond.code yX5_remove cX5_remove 2 none, Cond.methodLink RL 54 yX5_thrown, Cond.instanceMethod yX5_thrown, Cond.selects RX5 yX5_thrown yX5_thrown, Cond.code yX5_thrown cX5_thrown 1 (some .int), Cond.methodLink RL 58 yL_peek, Cond.static yL_peek, Cond.codeWith yL_peek cL_peek 4 (some .int) [(0, 9, 12, 13)], Cond.methodLink RL 15 yX4_peek, Cond.instanceMethod yX4_peek, Cond.selects RX4 yX4_peek yX4_peek, Cond.code yX4_peek cX4_peek 2 (some .int), Cond.methodLink RL 61 yX5_peek, Cond.instanceMethod yX5_peek, Cond.selects RX5 yX5_peek yX5_peek, Cond.code yX5_peek cX5_peek 2 (some .int), Cond.methodLink RL 62 yL_set, Cond.static yL_set, Cond.codeWith yL_set cL_set 4 (some .int) [(0, 6, 9, 13)], Cond.methodLink RL 19 yX4_set, Cond.instanceMethod yX4_set, Cond.selects RX4 yX4_set yX4_set]
def wsL_law0_r7 : List Cond := [Cond.code yX4_set cX4_set 3 none, Cond.fieldLink RX4 60 "BlockCache$Guest" "state" "[I", Cond.methodLink RX4 54 yX4_isState, Cond.static yX4_isState, Cond.code yX4_isState cX4_isState 1 (some .boolean), Cond.methodLink RX4 57 yX4_isOneBit, Cond.static yX4_isOneBit, Cond.code yX4_isOneBit cX4_isOneBit 1 (some .boolean), Cond.methodLink RL 65 yX5_set, Cond.instanceMethod yX5_set, Cond.selects RX5 yX5_set yX5_set, Cond.code yX5_set cX5_set 4 none, Cond.methodLink RL 66 yL_get, Cond.static yL_get, Cond.codeWith yL_get cL_get 4 (some .int) [(0, 9, 12, 13)], Cond.methodLink RL 23 yX4_get, Cond.instanceMethod yX4_get, Cond.selects RX4 yX4_get yX4_get, Cond.code yX4_get cX4_get 2 (some .int), Cond.methodLink RL 68 yX5_get, Cond.instanceMethod yX5_get, Cond.selects RX5 yX5_get yX5_get, Cond.code yX5_get cX5_get 2 (some .int), Cond.methodLink RL 69 yL_input]
def wsL_law0_r8 : List Cond := [Cond.static yL_input, Cond.codeWith yL_input cL_input 4 (some .int) [(0, 9, 12, 13), (0, 9, 15, 29)], Cond.classLink RL 29 "java/lang/IllegalStateException", Cond.methodLink RL 26 yX4_input, Cond.instanceMethod yX4_input, Cond.selects RX4 yX4_input yX4_input, Cond.code yX4_input cX4_input 2 (some .int), Cond.classLink RX4 70 "java/lang/IllegalStateException", Cond.initialized "java/lang/IllegalStateException", Cond.fieldLink RX4 63 "BlockCache$Guest" "inputs" "LBlockCache$Queue;", Cond.fieldLink RX4 76 "BlockCache$Queue" "many" "I", Cond.methodLink RX4 66 yX3_isFull, Cond.instanceMethod yX3_isFull, Cond.selects RX3 yX3_isFull yX3_isFull, Cond.code yX3_isFull cX3_isFull 1 (some .boolean), Cond.fieldLink RX3 13 "BlockCache$Queue" "many" "I", Cond.methodLink RX4 73 yX3_append, Cond.instanceMethod yX3_append, Cond.selects RX3 yX3_append yX3_append, Cond.code yX3_append cX3_append 2 none, Cond.fieldLink RX3 17 "BlockCache$Queue" "start" "I", Cond.methodLink RX3 20 yX3_wrapped, Cond.instanceMethod yX3_wrapped, Cond.selects RX3 yX3_wrapped yX3_wrapped]
def wsL_law0_r9 : List Cond := [Cond.code yX3_wrapped cX3_wrapped 2 (some .int), Cond.methodLink RL 71 yX5_input, Cond.instanceMethod yX5_input, Cond.selects RX5 yX5_input yX5_input, Cond.code yX5_input cX5_input 2 (some .int), Cond.fieldLink RX5 159 "BlockCacheModel" "inputMany" "I", Cond.methodLink RL 72 yL_request, Cond.static yL_request, Cond.codeWith yL_request cL_request 4 (some .int) [(0, 9, 12, 13), (0, 9, 15, 29)], Cond.methodLink RL 31 yX4_request, Cond.instanceMethod yX4_request, Cond.selects RX4 yX4_request yX4_request, Cond.code yX4_request cX4_request 2 (some .int), Cond.fieldLink RX4 79 "BlockCache" "executed" "I", Cond.methodLink RL 74 yX5_request, Cond.instanceMethod yX5_request, Cond.selects RX5 yX5_request yX5_request, Cond.code yX5_request cX5_request 2 (some .int), Cond.fieldLink RX5 162 "BlockCacheModel" "requestMany" "I", Cond.methodLink RL 75 yL_room, Cond.static yL_room, Cond.codeWith yL_room cL_room 3 (some .int) [(0, 5, 8, 13)], Cond.methodLink RL 34 yX4_room, Cond.instanceMethod yX4_room]
def wsL_law0_r10 : List Cond := [Cond.selects RX4 yX4_room yX4_room, Cond.code yX4_room cX4_room 2 none, Cond.fieldLink RX4 82 "BlockCache$Cache" "limit" "I", Cond.methodLink RX4 85 yX0_empty, Cond.instanceMethod yX0_empty, Cond.selects RX0 yX0_empty yX0_empty, Cond.code yX0_empty cX0_empty 1 none, Cond.methodLink RX0 117 yJ7_fill_53178, Cond.static yJ7_fill_53178, Cond.initialized RJ7, Cond.code yJ7_fill_53178 cJ7_fill_53178 4 none, Cond.methodLink RL 78 yX5_room, Cond.instanceMethod yX5_room, Cond.selects RX5 yX5_room yX5_room, Cond.code yX5_room cX5_room 2 none, Cond.methodLink RX5 114 yX5_empty, Cond.instanceMethod yX5_empty, Cond.selects RX5 yX5_empty yX5_empty, Cond.code yX5_empty cX5_empty 2 none, Cond.methodLink RL 79 yL_run, Cond.static yL_run, Cond.codeWith yL_run cL_run 4 (some .int) [(0, 9, 12, 13)], Cond.methodLink RL 38 yX4_run, Cond.instanceMethod yX4_run]
def wsL_law0_r11 : List Cond := [Cond.selects RX4 yX4_run yX4_run, Cond.code yX4_run cX4_run 5 (some .int), Cond.fieldLink RX4 88 "BlockCache" "ending" "I", Cond.methodLink RX4 91 yX4_takeTurn, Cond.instanceMethod yX4_takeTurn, Cond.selects RX4 yX4_takeTurn yX4_takeTurn, Cond.code yX4_takeTurn cX4_takeTurn 3 none, Cond.fieldLink RX4 133 "BlockCache$Cache" "length" "[I", Cond.methodLink RX4 127 yX4_interruptIfDue, Cond.instanceMethod yX4_interruptIfDue, Cond.selects RX4 yX4_interruptIfDue yX4_interruptIfDue, Cond.code yX4_interruptIfDue cX4_interruptIfDue 1 none, Cond.fieldLink RX4 118 "BlockCache" "interrupts" "I", Cond.methodLink RX4 146 yX3_first, Cond.instanceMethod yX3_first, Cond.selects RX3 yX3_first yX3_first, Cond.code yX3_first cX3_first 1 (some .int), Cond.methodLink RX4 150 yX3_takeFirst, Cond.instanceMethod yX3_takeFirst, Cond.selects RX3 yX3_takeFirst yX3_takeFirst, Cond.code yX3_takeFirst cX3_takeFirst 2 (some .int), Cond.methodLink RX4 153 yX2_interrupt, Cond.instanceMethod yX2_interrupt, Cond.selects RX2 yX2_interrupt yX2_interrupt]
def wsL_law0_r12 : List Cond := [Cond.code yX2_interrupt cX2_interrupt 1 none, Cond.methodLink RX2 37 yX2_push, Cond.instanceMethod yX2_push, Cond.selects RX2 yX2_push yX2_push, Cond.code yX2_push cX2_push 2 none, Cond.methodLink RX2 110 yX2_write, Cond.instanceMethod yX2_write, Cond.selects RX2 yX2_write yX2_write, Cond.code yX2_write cX2_write 3 none, Cond.methodLink RX4 156 yX4_dropWritten, Cond.instanceMethod yX4_dropWritten, Cond.selects RX4 yX4_dropWritten yX4_dropWritten, Cond.code yX4_dropWritten cX4_dropWritten 1 none, Cond.fieldLink RX4 201 "BlockCache$Guest" "written" "I", Cond.fieldLink RX4 106 "BlockCache" "invalidated" "I", Cond.methodLink RX4 130 yX4_findBlock, Cond.instanceMethod yX4_findBlock, Cond.selects RX4 yX4_findBlock yX4_findBlock, Cond.code yX4_findBlock cX4_findBlock 2 (some .boolean), Cond.fieldLink RX4 112 "BlockCache" "lookups" "I", Cond.methodLink RX4 159 yX0_isLinked, Cond.instanceMethod yX0_isLinked, Cond.selects RX0 yX0_isLinked yX0_isLinked, Cond.code yX0_isLinked cX0_isLinked 3 (some .boolean)]
def wsL_law0_r13 : List Cond := [Cond.methodLink RX4 162 yX0_has, Cond.methodLink RX4 165 yX0_translate, Cond.instanceMethod yX0_translate, Cond.selects RX0 yX0_translate yX0_translate, Cond.code yX0_translate cX0_translate 4 (some .boolean), Cond.fieldLink RX0 54 "BlockCache$Cache" "flushes" "I", Cond.fieldLink RX0 57 "BlockCache$Cache" "translated" "I", Cond.fieldLink RX0 60 "BlockCache$Cache" "deadFlags" "I", Cond.methodLink RX0 37 yX0_decodeBlock, Cond.instanceMethod yX0_decodeBlock, Cond.selects RX0 yX0_decodeBlock yX0_decodeBlock, Cond.code yX0_decodeBlock cX0_decodeBlock 8 none, Cond.methodLink RX0 70 yX1_decode, Cond.static yX1_decode, Cond.initialized RX1, Cond.code yX1_decode cX1_decode 4 (some .int), Cond.methodLink RX1 7 yX1_kindOf, Cond.static yX1_kindOf, Cond.code yX1_kindOf cX1_kindOf 4 (some .int), Cond.methodLink RX0 76 yX1_kind, Cond.static yX1_kind, Cond.code yX1_kind cX1_kind 1 (some .int), Cond.methodLink RX0 79 yX1_bytes, Cond.static yX1_bytes]
def wsL_law0_r14 : List Cond := [Cond.code yX1_bytes cX1_bytes 1 (some .int), Cond.methodLink RX0 82 yX1_endsBlock, Cond.static yX1_endsBlock, Cond.code yX1_endsBlock cX1_endsBlock 1 (some .boolean), Cond.methodLink RX1 14 yX1_leavesByItself, Cond.static yX1_leavesByItself, Cond.code yX1_leavesByItself cX1_leavesByItself 1 (some .boolean), Cond.methodLink RX0 41 yX0_markDead, Cond.instanceMethod yX0_markDead, Cond.selects RX0 yX0_markDead yX0_markDead, Cond.code yX0_markDead cX0_markDead 8 (some .int), Cond.methodLink RX0 86 yX0_wordAt, Cond.instanceMethod yX0_wordAt, Cond.selects RX0 yX0_wordAt yX0_wordAt, Cond.code yX0_wordAt cX0_wordAt 3 (some .int), Cond.methodLink RX0 90 yX1_makesFlags, Cond.static yX1_makesFlags, Cond.code yX1_makesFlags cX1_makesFlags 1 (some .boolean), Cond.methodLink RX0 93 yX1_asDead, Cond.static yX1_asDead, Cond.code yX1_asDead cX1_asDead 1 (some .int), Cond.constant RX1 13 (1048576), Cond.methodLink RX0 96 yX1_needsFlags, Cond.static yX1_needsFlags]
def wsL_law0_r15 : List Cond := [Cond.code yX1_needsFlags cX1_needsFlags 1 (some .boolean), Cond.methodLink RX0 45 yX0_sizeOf, Cond.instanceMethod yX0_sizeOf, Cond.selects RX0 yX0_sizeOf yX0_sizeOf, Cond.code yX0_sizeOf cX0_sizeOf 4 (some .int), Cond.methodLink RX0 99 yX0_lastKind, Cond.instanceMethod yX0_lastKind, Cond.selects RX0 yX0_lastKind yX0_lastKind, Cond.code yX0_lastKind cX0_lastKind 2 (some .int), Cond.methodLink RX0 102 yX1_leavesByItself, Cond.methodLink RX0 105 yX1_size, Cond.static yX1_size, Cond.code yX1_size cX1_size 2 (some .int), Cond.methodLink RX1 18 yX1_kind, Cond.methodLink RX1 21 yX1_makesFlags, Cond.methodLink RX1 24 yX1_sizeWithoutFlags, Cond.static yX1_sizeWithoutFlags, Cond.code yX1_sizeWithoutFlags cX1_sizeWithoutFlags 1 (some .int), Cond.methodLink RX1 27 yX1_isDead, Cond.static yX1_isDead, Cond.code yX1_isDead cX1_isDead 1 (some .boolean), Cond.methodLink RX1 30 yX1_onlyCompares, Cond.static yX1_onlyCompares, Cond.code yX1_onlyCompares cX1_onlyCompares 1 (some .boolean)]
def wsL_law0_r16 : List Cond := [Cond.methodLink RX0 51 yX0_empty, Cond.methodLink RX0 66 yX0_layExits, Cond.instanceMethod yX0_layExits, Cond.selects RX0 yX0_layExits yX0_layExits, Cond.code yX0_layExits cX0_layExits 6 none, Cond.methodLink RX0 107 yX1_n, Cond.static yX1_n, Cond.code yX1_n cX1_n 1 (some .int), Cond.methodLink RX4 136 yX4_mayRunWhole, Cond.instanceMethod yX4_mayRunWhole, Cond.selects RX4 yX4_mayRunWhole yX4_mayRunWhole, Cond.code yX4_mayRunWhole cX4_mayRunWhole 3 (some .boolean), Cond.methodLink RX4 169 yX4_requestComes, Cond.instanceMethod yX4_requestComes, Cond.selects RX4 yX4_requestComes yX4_requestComes, Cond.code yX4_requestComes cX4_requestComes 4 (some .boolean), Cond.methodLink RX4 172 yX3_at, Cond.instanceMethod yX3_at, Cond.selects RX3 yX3_at yX3_at, Cond.code yX3_at cX3_at 2 (some .int), Cond.methodLink RX4 140 yX4_runBlock, Cond.instanceMethod yX4_runBlock, Cond.selects RX4 yX4_runBlock yX4_runBlock, Cond.code yX4_runBlock cX4_runBlock 4 none]
def wsL_law0_r17 : List Cond := [Cond.methodLink RX4 175 yX0_link, Cond.instanceMethod yX0_link, Cond.selects RX0 yX0_link yX0_link, Cond.code yX0_link cX0_link 3 none, Cond.methodLink RX4 179 yX0_wordAt, Cond.methodLink RX4 183 yX4_perform, Cond.instanceMethod yX4_perform, Cond.selects RX4 yX4_perform yX4_perform, Cond.code yX4_perform cX4_perform 2 none, Cond.methodLink RX4 198 yX2_execute, Cond.instanceMethod yX2_execute, Cond.selects RX2 yX2_execute yX2_execute, Cond.code yX2_execute cX2_execute 3 none, Cond.methodLink RX2 40 yX1_kind, Cond.methodLink RX2 46 yX1_bytes, Cond.methodLink RX2 49 yX1_makesFlags, Cond.methodLink RX2 53 yX2_calculate, Cond.instanceMethod yX2_calculate, Cond.selects RX2 yX2_calculate yX2_calculate, Cond.code yX2_calculate cX2_calculate 8 none, Cond.methodLink RX2 66 yX1_isDead, Cond.methodLink RX2 69 yX1_onlyCompares, Cond.methodLink RX2 72 yX1_d, Cond.static yX1_d]
def wsL_law0_r18 : List Cond := [Cond.code yX1_d cX1_d 1 (some .int), Cond.methodLink RX2 75 yX1_n, Cond.methodLink RX2 78 yX1_s, Cond.static yX1_s, Cond.code yX1_s cX1_s 1 (some .int), Cond.methodLink RX2 81 yX2_resultWithCarry, Cond.instanceMethod yX2_resultWithCarry, Cond.selects RX2 yX2_resultWithCarry yX2_resultWithCarry, Cond.code yX2_resultWithCarry cX2_resultWithCarry 4 (some .int), Cond.methodLink RX2 85 yX2_makeFlags, Cond.instanceMethod yX2_makeFlags, Cond.selects RX2 yX2_makeFlags yX2_makeFlags, Cond.code yX2_makeFlags cX2_makeFlags 2 none, Cond.methodLink RX2 57 yX1_endsBlock, Cond.methodLink RX2 60 yX2_steer, Cond.instanceMethod yX2_steer, Cond.selects RX2 yX2_steer yX2_steer, Cond.code yX2_steer cX2_steer 3 none, Cond.methodLink RX2 88 yX1_w, Cond.static yX1_w, Cond.code yX1_w cX1_w 1 (some .int), Cond.methodLink RX2 91 yX2_jumpIf, Cond.instanceMethod yX2_jumpIf, Cond.selects RX2 yX2_jumpIf yX2_jumpIf]
def wsL_law0_r19 : List Cond := [Cond.code yX2_jumpIf cX2_jumpIf 4 none, Cond.methodLink RX2 94 yX2_pop, Cond.instanceMethod yX2_pop, Cond.selects RX2 yX2_pop yX2_pop, Cond.code yX2_pop cX2_pop 2 (some .int), Cond.methodLink RX2 98 yX2_countDown, Cond.instanceMethod yX2_countDown, Cond.selects RX2 yX2_countDown yX2_countDown, Cond.code yX2_countDown cX2_countDown 3 none, Cond.methodLink RX2 63 yX2_move, Cond.instanceMethod yX2_move, Cond.selects RX2 yX2_move yX2_move, Cond.code yX2_move cX2_move 5 none, Cond.fieldLink RX2 104 "BlockCache$Queue" "many" "I", Cond.methodLink RX2 101 yX2_give, Cond.instanceMethod yX2_give, Cond.selects RX2 yX2_give yX2_give, Cond.code yX2_give cX2_give 2 none, Cond.fieldLink RX2 34 "BlockCache$Guest" "given" "I", Cond.methodLink RX2 107 yX3_takeFirst, Cond.methodLink RX4 195 yX1_kind, Cond.methodLink RX4 186 yX0_exitTo, Cond.instanceMethod yX0_exitTo, Cond.selects RX0 yX0_exitTo yX0_exitTo]
def wsL_law0_r20 : List Cond := [Cond.code yX0_exitTo cX0_exitTo 3 (some .int), Cond.methodLink RX4 143 yX4_interpret, Cond.instanceMethod yX4_interpret, Cond.selects RX4 yX4_interpret yX4_interpret, Cond.code yX4_interpret cX4_interpret 3 none, Cond.fieldLink RX4 115 "BlockCache" "interpreted" "I", Cond.methodLink RX4 189 yX1_decode, Cond.methodLink RL 81 yX5_run, Cond.instanceMethod yX5_run, Cond.selects RX5 yX5_run yX5_run, Cond.code yX5_run cX5_run 4 (some .int), Cond.fieldLink RX5 127 "BlockCacheModel" "isOver" "Z", Cond.methodLink RX5 193 yX5_goOn, Cond.instanceMethod yX5_goOn, Cond.selects RX5 yX5_goOn yX5_goOn, Cond.code yX5_goOn cX5_goOn 5 (some .boolean), Cond.fieldLink RX5 66 "BlockCacheModel" "kind" "I", Cond.methodLink RX5 171 yX5_interrupt, Cond.instanceMethod yX5_interrupt, Cond.selects RX5 yX5_interrupt yX5_interrupt, Cond.code yX5_interrupt cX5_interrupt 2 none, Cond.methodLink RX5 152 yX5_push, Cond.instanceMethod yX5_push, Cond.selects RX5 yX5_push yX5_push]
def wsL_law0_r21 : List Cond := [Cond.code yX5_push cX5_push 2 none, Cond.methodLink RX5 120 yX5_write, Cond.instanceMethod yX5_write, Cond.selects RX5 yX5_write yX5_write, Cond.code yX5_write cX5_write 3 none, Cond.methodLink RX5 174 yX5_isLinked, Cond.instanceMethod yX5_isLinked, Cond.selects RX5 yX5_isLinked yX5_isLinked, Cond.code yX5_isLinked cX5_isLinked 2 (some .boolean), Cond.methodLink RX5 177 yX5_hasBlock, Cond.instanceMethod yX5_hasBlock, Cond.selects RX5 yX5_hasBlock yX5_hasBlock, Cond.code yX5_hasBlock cX5_hasBlock 2 (some .boolean), Cond.fieldLink RX5 76 "BlockCacheModel" "foundMany" "I", Cond.fieldLink RX5 79 "BlockCacheModel" "foundSize" "I", Cond.fieldLink RX5 82 "BlockCacheModel" "foundPages" "I", Cond.fieldLink RX5 117 "BlockCacheModel" "translated" "I", Cond.fieldLink RX5 85 "BlockCacheModel" "foundDead" "I", Cond.methodLink RX5 111 yX5_find, Cond.instanceMethod yX5_find, Cond.selects RX5 yX5_find yX5_find, Cond.code yX5_find cX5_find 7 none, Cond.fieldLink RX5 69 "BlockCacheModel" "bytes" "I", Cond.methodLink RX5 88 yX5_look]
def wsL_law0_r22 : List Cond := [Cond.instanceMethod yX5_look, Cond.selects RX5 yX5_look yX5_look, Cond.code yX5_look cX5_look 3 none, Cond.methodLink RX5 62 yX5_kindOf, Cond.static yX5_kindOf, Cond.code yX5_kindOf cX5_kindOf 3 (some .int), Cond.methodLink RX5 92 yX5_reads, Cond.instanceMethod yX5_reads, Cond.selects RX5 yX5_reads yX5_reads, Cond.code yX5_reads cX5_reads 3 (some .boolean), Cond.methodLink RX5 72 yX5_isAlways, Cond.static yX5_isAlways, Cond.code yX5_isAlways cX5_isAlways 1 (some .boolean), Cond.methodLink RX5 96 yX5_sizeOf, Cond.static yX5_sizeOf, Cond.code yX5_sizeOf cX5_sizeOf 1 (some .int), Cond.methodLink RX5 99 yX5_makes, Cond.static yX5_makes, Cond.code yX5_makes cX5_makes 1 (some .boolean), Cond.methodLink RX5 102 yX5_ends, Cond.static yX5_ends, Cond.code yX5_ends cX5_ends 1 (some .boolean), Cond.methodLink RX5 180 yX5_isDisturbed, Cond.instanceMethod yX5_isDisturbed]
def wsL_law0_r23 : List Cond := [Cond.selects RX5 yX5_isDisturbed yX5_isDisturbed, Cond.code yX5_isDisturbed cX5_isDisturbed 4 (some .boolean), Cond.methodLink RX5 183 yX5_runBlock, Cond.instanceMethod yX5_runBlock, Cond.selects RX5 yX5_runBlock yX5_runBlock, Cond.code yX5_runBlock cX5_runBlock 7 none, Cond.methodLink RX5 165 yX5_step, Cond.instanceMethod yX5_step, Cond.selects RX5 yX5_step yX5_step, Cond.code yX5_step cX5_step 7 none, Cond.methodLink RX5 131 yX5_receive, Cond.instanceMethod yX5_receive, Cond.selects RX5 yX5_receive yX5_receive, Cond.code yX5_receive cX5_receive 2 none, Cond.methodLink RX5 134 yX5_add, Cond.instanceMethod yX5_add, Cond.selects RX5 yX5_add yX5_add, Cond.code yX5_add cX5_add 5 none, Cond.methodLink RX5 124 yX5_setFlags, Cond.instanceMethod yX5_setFlags, Cond.selects RX5 yX5_setFlags yX5_setFlags, Cond.code yX5_setFlags cX5_setFlags 3 none, Cond.methodLink RX5 138 yX5_less, Cond.instanceMethod yX5_less]
def wsL_law0_r24 : List Cond := [Cond.selects RX5 yX5_less yX5_less, Cond.code yX5_less cX5_less 4 (some .int), Cond.methodLink RX5 142 yX5_shift, Cond.instanceMethod yX5_shift, Cond.selects RX5 yX5_shift yX5_shift, Cond.code yX5_shift cX5_shift 7 none, Cond.methodLink RX5 145 yX5_stepOn, Cond.instanceMethod yX5_stepOn, Cond.selects RX5 yX5_stepOn yX5_stepOn, Cond.code yX5_stepOn cX5_stepOn 7 none, Cond.methodLink RX5 149 yX5_goes, Cond.instanceMethod yX5_goes, Cond.selects RX5 yX5_goes yX5_goes, Cond.code yX5_goes cX5_goes 2 (some .boolean), Cond.methodLink RX5 155 yX5_pop, Cond.instanceMethod yX5_pop, Cond.selects RX5 yX5_pop yX5_pop, Cond.code yX5_pop cX5_pop 2 (some .int), Cond.methodLink RX5 168 yX5_leave, Cond.instanceMethod yX5_leave, Cond.selects RX5 yX5_leave yX5_leave, Cond.code yX5_leave cX5_leave 4 none, Cond.methodLink RL 82 yX4_output, Cond.instanceMethod yX4_output]
def wsL_law0_r25 : List Cond := [Cond.selects RX4 yX4_output yX4_output, Cond.code yX4_output cX4_output 2 (some .int), Cond.methodLink RX4 94 yX2_outputAt, Cond.instanceMethod yX2_outputAt, Cond.selects RX2 yX2_outputAt yX2_outputAt, Cond.code yX2_outputAt cX2_outputAt 2 (some .int), Cond.methodLink RL 85 yX5_output, Cond.instanceMethod yX5_output, Cond.selects RX5 yX5_output yX5_output, Cond.code yX5_output cX5_output 2 (some .int), Cond.methodLink RL 86 yL_count, Cond.static yL_count, Cond.codeWith yL_count cL_count 4 (some .int) [(0, 9, 12, 13)], Cond.methodLink RL 41 yX4_count, Cond.instanceMethod yX4_count, Cond.selects RX4 yX4_count yX4_count, Cond.code yX4_count cX4_count 2 (some .int), Cond.fieldLink RX4 97 "BlockCache$Cache" "blocks" "I", Cond.fieldLink RX4 100 "BlockCache$Cache" "filled" "I", Cond.fieldLink RX4 103 "BlockCache$Cache" "translated" "I", Cond.fieldLink RX4 109 "BlockCache$Cache" "flushes" "I", Cond.fieldLink RX4 121 "BlockCache$Cache" "deadFlags" "I", Cond.fieldLink RX4 124 "BlockCache$Guest" "given" "I", Cond.methodLink RL 88 yX5_count]
def wsL_law0_r26 : List Cond := [Cond.instanceMethod yX5_count, Cond.selects RX5 yX5_count yX5_count, Cond.code yX5_count cX5_count 2 (some .int)]
def wsL_law0 : List Cond := (wsL_law0_r1 ++ (wsL_law0_r2 ++ (wsL_law0_r3 ++ (wsL_law0_r4 ++ (wsL_law0_r5 ++ (wsL_law0_r6 ++ (wsL_law0_r7 ++ (wsL_law0_r8 ++ (wsL_law0_r9 ++ (wsL_law0_r10 ++ (wsL_law0_r11 ++ (wsL_law0_r12 ++ (wsL_law0_r13 ++ (wsL_law0_r14 ++ (wsL_law0_r15 ++ (wsL_law0_r16 ++ (wsL_law0_r17 ++ (wsL_law0_r18 ++ (wsL_law0_r19 ++ (wsL_law0_r20 ++ (wsL_law0_r21 ++ (wsL_law0_r22 ++ (wsL_law0_r23 ++ (wsL_law0_r24 ++ (wsL_law0_r25 ++ wsL_law0_r26))))))))))))))))))))))))) ++ wsX40 ++ wsX50 ++ wsX20 ++ wsX00 ++ wsX30 ++ ([] : List Cond)
def wsL_law : List Cond := wsL_law0 ++ (vx_at0 RX4 45 "java/lang/IllegalArgumentException" ["java/lang/RuntimeException", "java/lang/Exception"]).filter goodWord ++ (vx_at0 RX4 72 "java/lang/IllegalStateException" ["java/lang/RuntimeException", "java/lang/Exception"]).filter goodWord
theorem mem_fm {big ws : List Cond} (ps : List Nat) (h : ws = ps.filterMap (fun i => big[i]?)) : ∀ w ∈ ws, w ∈ big := by
  intro w hw
  rw [h] at hw
  obtain ⟨i, -, hi⟩ := List.mem_filterMap.mp hw
  exact List.mem_of_getElem? hi
set_option maxRecDepth 100000 in
theorem lwc1 : wsL_law0_r1 = [66, 67, 54, 610, 611, 58, 860, 68, 69, 70, 71, 72, 73, 74, 75, 55, 178, 123, 124, 57, 179, 176, 81, 56].filterMap (fun i => lw_tbl[i]?) := rfl
set_option maxRecDepth 100000 in
theorem lwc2 : wsL_law0_r2 = [180, 181, 188, 77, 78, 79, 98, 99, 101, 80, 103, 105, 108, 82, 83, 84, 85, 86, 126, 127, 128, 129, 130, 132].filterMap (fun i => lw_tbl[i]?) := rfl
set_option maxRecDepth 100000 in
theorem lwc3 : wsL_law0_r3 = [133, 134, 135, 136, 137, 177, 612, 613, 614, 615, 617, 618, 619, 621, 623, 624, 625, 626, 627, 628, 629, 630, 631, 633].filterMap (fun i => lw_tbl[i]?) := rfl
set_option maxRecDepth 100000 in
theorem lwc4 : wsL_law0_r4 = [640, 641, 220, 221, 53, 222, 223, 224, 225, 226, 227, 231, 62, 102, 228, 229, 230, 293, 294, 295, 296, 139, 141, 297].filterMap (fun i => lw_tbl[i]?) := rfl
set_option maxRecDepth 100000 in
theorem lwc5 : wsL_law0_r5 = [298, 299, 300, 301, 303, 1, 304, 824, 825, 826, 827, 706, 707, 708, 709, 711, 28, 712, 616, 729, 731, 33, 732, 733].filterMap (fun i => lw_tbl[i]?) := rfl
set_option maxRecDepth 100000 in
theorem lwc6 : wsL_law0_r6 = [735, 34, 736, 698, 699, 700, 701, 305, 306, 307, 308, 309, 310, 311, 828, 829, 830, 831, 312, 313, 314, 315, 316, 317].filterMap (fun i => lw_tbl[i]?) := rfl
set_option maxRecDepth 100000 in
theorem lwc7 : wsL_law0_r7 = [318, 100, 319, 320, 321, 322, 323, 324, 832, 833, 834, 835, 325, 326, 327, 328, 329, 330, 331, 836, 837, 838, 839, 332].filterMap (fun i => lw_tbl[i]?) := rfl
set_option maxRecDepth 100000 in
theorem lwc8 : wsL_law0_r8 = [333, 334, 335, 336, 337, 338, 339, 344, 63, 104, 89, 340, 341, 342, 343, 88, 359, 360, 361, 362, 87, 363, 365, 2].filterMap (fun i => lw_tbl[i]?) := rfl
set_option maxRecDepth 100000 in
theorem lwc9 : wsL_law0_r9 = [366, 840, 841, 842, 843, 620, 367, 368, 369, 370, 371, 372, 373, 182, 844, 845, 846, 847, 622, 374, 375, 376, 377, 378].filterMap (fun i => lw_tbl[i]?) := rfl
set_option maxRecDepth 100000 in
theorem lwc10 : wsL_law0_r10 = [379, 380, 138, 381, 382, 383, 384, 385, 386, 64, 387, 848, 849, 850, 851, 772, 774, 40, 775, 388, 389, 390, 391, 392].filterMap (fun i => lw_tbl[i]?) := rfl
set_option maxRecDepth 100000 in
theorem lwc11 : wsL_law0_r11 = [393, 394, 187, 395, 397, 3, 398, 131, 399, 401, 4, 402, 186, 403, 404, 405, 406, 407, 408, 409, 410, 411, 412, 413].filterMap (fun i => lw_tbl[i]?) := rfl
set_option maxRecDepth 100000 in
theorem lwc12 : wsL_law0_r12 = [414, 415, 417, 5, 418, 419, 421, 6, 422, 423, 425, 7, 426, 109, 183, 427, 429, 8, 430, 184, 431, 432, 433, 434].filterMap (fun i => lw_tbl[i]?) := rfl
set_option maxRecDepth 100000 in
theorem lwc13 : wsL_law0_r13 = [435, 436, 437, 438, 439, 145, 143, 147, 440, 442, 9, 443, 444, 445, 65, 446, 447, 448, 449, 450, 451, 452, 453, 454].filterMap (fun i => lw_tbl[i]?) := rfl
set_option maxRecDepth 100000 in
theorem lwc14 : wsL_law0_r14 = [455, 456, 457, 458, 459, 460, 461, 462, 464, 10, 465, 466, 467, 468, 469, 470, 471, 472, 473, 474, 475, 476, 477, 478].filterMap (fun i => lw_tbl[i]?) := rfl
set_option maxRecDepth 100000 in
theorem lwc15 : wsL_law0_r15 = [479, 480, 482, 11, 483, 484, 486, 12, 487, 488, 489, 490, 491, 492, 493, 494, 495, 496, 497, 498, 499, 500, 501, 502].filterMap (fun i => lw_tbl[i]?) := rfl
set_option maxRecDepth 100000 in
theorem lwc16 : wsL_law0_r16 = [503, 504, 506, 13, 507, 508, 509, 510, 511, 513, 14, 514, 515, 517, 15, 518, 519, 520, 521, 522, 523, 525, 16, 526].filterMap (fun i => lw_tbl[i]?) := rfl
set_option maxRecDepth 100000 in
theorem lwc17 : wsL_law0_r17 = [527, 528, 529, 530, 531, 532, 534, 17, 535, 536, 537, 538, 539, 540, 541, 542, 543, 545, 18, 546, 547, 548, 549, 550].filterMap (fun i => lw_tbl[i]?) := rfl
set_option maxRecDepth 100000 in
theorem lwc18 : wsL_law0_r18 = [551, 552, 553, 554, 555, 556, 558, 19, 559, 560, 562, 20, 563, 564, 565, 567, 21, 568, 569, 570, 571, 572, 574, 22].filterMap (fun i => lw_tbl[i]?) := rfl
set_option maxRecDepth 100000 in
theorem lwc19 : wsL_law0_r19 = [575, 576, 578, 23, 579, 580, 582, 24, 583, 584, 586, 25, 587, 90, 588, 590, 26, 591, 106, 592, 593, 594, 595, 596].filterMap (fun i => lw_tbl[i]?) := rfl
set_option maxRecDepth 100000 in
theorem lwc20 : wsL_law0_r20 = [597, 598, 600, 27, 601, 185, 602, 702, 703, 704, 705, 642, 713, 715, 29, 716, 634, 717, 719, 30, 720, 721, 723, 31].filterMap (fun i => lw_tbl[i]?) := rfl
set_option maxRecDepth 100000 in
theorem lwc21 : wsL_law0_r21 = [724, 725, 727, 32, 728, 737, 739, 35, 740, 741, 743, 36, 744, 636, 637, 638, 632, 639, 745, 747, 37, 748, 635, 749].filterMap (fun i => lw_tbl[i]?) := rfl
set_option maxRecDepth 100000 in
theorem lwc22 : wsL_law0_r22 = [751, 38, 752, 753, 754, 755, 756, 758, 39, 759, 760, 761, 762, 763, 764, 765, 766, 767, 768, 769, 770, 771, 776, 778].filterMap (fun i => lw_tbl[i]?) := rfl
set_option maxRecDepth 100000 in
theorem lwc23 : wsL_law0_r23 = [41, 779, 780, 782, 42, 783, 784, 786, 43, 787, 788, 790, 44, 791, 792, 794, 45, 795, 796, 798, 46, 799, 800, 802].filterMap (fun i => lw_tbl[i]?) := rfl
set_option maxRecDepth 100000 in
theorem lwc24 : wsL_law0_r24 = [47, 803, 804, 806, 48, 807, 808, 810, 49, 811, 812, 814, 50, 815, 816, 818, 51, 819, 820, 822, 52, 823, 212, 213].filterMap (fun i => lw_tbl[i]?) := rfl
set_option maxRecDepth 100000 in
theorem lwc25 : wsL_law0_r25 = [214, 215, 216, 217, 218, 219, 852, 853, 854, 855, 603, 604, 605, 606, 607, 608, 609, 140, 142, 144, 146, 148, 107, 856].filterMap (fun i => lw_tbl[i]?) := rfl
set_option maxRecDepth 100000 in
theorem lwc26 : wsL_law0_r26 = [857, 858, 859].filterMap (fun i => lw_tbl[i]?) := rfl
theorem lwcX4 : ∀ w ∈ wsX40, w ∈ lw_tbl := by decide +kernel
theorem lwcX5 : ∀ w ∈ wsX50, w ∈ lw_tbl := by decide +kernel
theorem lwcX2 : ∀ w ∈ wsX20, w ∈ lw_tbl := by decide +kernel
theorem lwcX0 : ∀ w ∈ wsX00, w ∈ lw_tbl := by decide +kernel
theorem lwcX3 : ∀ w ∈ wsX30, w ∈ lw_tbl := by decide +kernel
theorem wsL_law_in0 : ∀ w ∈ wsL_law0, w ∈ lw_tbl := List.forall_mem_append.mpr ⟨List.forall_mem_append.mpr ⟨List.forall_mem_append.mpr ⟨List.forall_mem_append.mpr ⟨List.forall_mem_append.mpr ⟨List.forall_mem_append.mpr ⟨List.forall_mem_append.mpr ⟨mem_fm _ lwc1, List.forall_mem_append.mpr ⟨mem_fm _ lwc2, List.forall_mem_append.mpr ⟨mem_fm _ lwc3, List.forall_mem_append.mpr ⟨mem_fm _ lwc4, List.forall_mem_append.mpr ⟨mem_fm _ lwc5, List.forall_mem_append.mpr ⟨mem_fm _ lwc6, List.forall_mem_append.mpr ⟨mem_fm _ lwc7, List.forall_mem_append.mpr ⟨mem_fm _ lwc8, List.forall_mem_append.mpr ⟨mem_fm _ lwc9, List.forall_mem_append.mpr ⟨mem_fm _ lwc10, List.forall_mem_append.mpr ⟨mem_fm _ lwc11, List.forall_mem_append.mpr ⟨mem_fm _ lwc12, List.forall_mem_append.mpr ⟨mem_fm _ lwc13, List.forall_mem_append.mpr ⟨mem_fm _ lwc14, List.forall_mem_append.mpr ⟨mem_fm _ lwc15, List.forall_mem_append.mpr ⟨mem_fm _ lwc16, List.forall_mem_append.mpr ⟨mem_fm _ lwc17, List.forall_mem_append.mpr ⟨mem_fm _ lwc18, List.forall_mem_append.mpr ⟨mem_fm _ lwc19, List.forall_mem_append.mpr ⟨mem_fm _ lwc20, List.forall_mem_append.mpr ⟨mem_fm _ lwc21, List.forall_mem_append.mpr ⟨mem_fm _ lwc22, List.forall_mem_append.mpr ⟨mem_fm _ lwc23, List.forall_mem_append.mpr ⟨mem_fm _ lwc24, List.forall_mem_append.mpr ⟨mem_fm _ lwc25, mem_fm _ lwc26⟩⟩⟩⟩⟩⟩⟩⟩⟩⟩⟩⟩⟩⟩⟩⟩⟩⟩⟩⟩⟩⟩⟩⟩⟩, lwcX4⟩, lwcX5⟩, lwcX2⟩, lwcX0⟩, lwcX3⟩, fun _ h => absurd h List.not_mem_nil⟩
theorem wsL_law_x0 : ∀ w ∈ (vx_at0 RX4 45 "java/lang/IllegalArgumentException" ["java/lang/RuntimeException", "java/lang/Exception"]).filter goodWord, w ∈ lw_tbl := by decide +kernel
theorem wsL_law_x1 : ∀ w ∈ (vx_at0 RX4 72 "java/lang/IllegalStateException" ["java/lang/RuntimeException", "java/lang/Exception"]).filter goodWord, w ∈ lw_tbl := by decide +kernel
theorem wsL_law_in : ∀ w ∈ wsL_law, w ∈ lw_tbl := fun w h => (List.mem_append.mp h).elim (fun h => (List.mem_append.mp h).elim (fun h => wsL_law_in0 w h) (fun h => wsL_law_x0 w h)) (fun h => wsL_law_x1 w h)
theorem inlX0 : ∀ w ∈ wsX00, w ∈ wsL_law := fun _ h => List.mem_append_left _ (List.mem_append_left _ (List.mem_append_left _ (List.mem_append_left _ (List.mem_append_right _ h))))
theorem inX0 : ∀ w ∈ wsX00, w ∈ lw_tbl := fun w h => wsL_law_in w (inlX0 w h)
theorem inX1 : ∀ w ∈ wsX10, w ∈ lw_tbl := by decide +kernel
theorem inlX2 : ∀ w ∈ wsX20, w ∈ wsL_law := fun _ h => List.mem_append_left _ (List.mem_append_left _ (List.mem_append_left _ (List.mem_append_left _ (List.mem_append_left _ (List.mem_append_right _ h)))))
theorem inX2 : ∀ w ∈ wsX20, w ∈ lw_tbl := fun w h => wsL_law_in w (inlX2 w h)
theorem inlX3 : ∀ w ∈ wsX30, w ∈ wsL_law := fun _ h => List.mem_append_left _ (List.mem_append_left _ (List.mem_append_left _ (List.mem_append_right _ h)))
theorem inX3 : ∀ w ∈ wsX30, w ∈ lw_tbl := fun w h => wsL_law_in w (inlX3 w h)
theorem inlX4 : ∀ w ∈ wsX40, w ∈ wsL_law := fun _ h => List.mem_append_left _ (List.mem_append_left _ (List.mem_append_left _ (List.mem_append_left _ (List.mem_append_left _ (List.mem_append_left _ (List.mem_append_left _ (List.mem_append_right _ h)))))))
theorem inX4 : ∀ w ∈ wsX40, w ∈ lw_tbl := fun w h => wsL_law_in w (inlX4 w h)
theorem inlX5 : ∀ w ∈ wsX50, w ∈ wsL_law := fun _ h => List.mem_append_left _ (List.mem_append_left _ (List.mem_append_left _ (List.mem_append_left _ (List.mem_append_left _ (List.mem_append_left _ (List.mem_append_right _ h))))))
theorem inX5 : ∀ w ∈ wsX50, w ∈ lw_tbl := fun w h => wsL_law_in w (inlX5 w h)
theorem inJ7 : ∀ w ∈ wsJ70, w ∈ lw_tbl := by decide +kernel
end
section
theorem dX0_init_0 : decode cX0_init 0 = .ok (.aload_n 0, 1) := by decide +kernel
theorem dX0_init_1 : decode cX0_init 1 = .ok (.invokespecial 5, 3) := by decide +kernel
theorem dX0_init_4 : decode cX0_init 4 = .ok (.aload_n 0, 1) := by decide +kernel
theorem dX0_init_5 : decode cX0_init 5 = .ok (.sipush 2048, 3) := by decide +kernel
theorem dX0_init_8 : decode cX0_init 8 = .ok (.newarray .int, 2) := by decide +kernel
theorem dX0_init_10 : decode cX0_init 10 = .ok (.putfield 11, 3) := by decide +kernel
theorem dX0_init_13 : decode cX0_init 13 = .ok (.aload_n 0, 1) := by decide +kernel
theorem dX0_init_14 : decode cX0_init 14 = .ok (.sipush 256, 3) := by decide +kernel
theorem dX0_init_17 : decode cX0_init 17 = .ok (.newarray .int, 2) := by decide +kernel
theorem dX0_init_19 : decode cX0_init 19 = .ok (.putfield 15, 3) := by decide +kernel
theorem dX0_init_22 : decode cX0_init 22 = .ok (.aload_n 0, 1) := by decide +kernel
theorem dX0_init_23 : decode cX0_init 23 = .ok (.sipush 256, 3) := by decide +kernel
theorem dX0_init_26 : decode cX0_init 26 = .ok (.newarray .int, 2) := by decide +kernel
theorem dX0_init_28 : decode cX0_init 28 = .ok (.putfield 18, 3) := by decide +kernel
theorem dX0_init_31 : decode cX0_init 31 = .ok (.aload_n 0, 1) := by decide +kernel
theorem dX0_init_32 : decode cX0_init 32 = .ok (.sipush 256, 3) := by decide +kernel
theorem dX0_init_35 : decode cX0_init 35 = .ok (.newarray .int, 2) := by decide +kernel
theorem dX0_init_37 : decode cX0_init 37 = .ok (.putfield 21, 3) := by decide +kernel
theorem dX0_init_40 : decode cX0_init 40 = .ok (.aload_n 0, 1) := by decide +kernel
theorem dX0_init_41 : decode cX0_init 41 = .ok (.sipush 256, 3) := by decide +kernel
theorem dX0_init_44 : decode cX0_init 44 = .ok (.newarray .int, 2) := by decide +kernel
theorem dX0_init_46 : decode cX0_init 46 = .ok (.putfield 24, 3) := by decide +kernel
theorem dX0_init_49 : decode cX0_init 49 = .ok (.aload_n 0, 1) := by decide +kernel
theorem dX0_init_50 : decode cX0_init 50 = .ok (.sipush 512, 3) := by decide +kernel
theorem dX0_init_53 : decode cX0_init 53 = .ok (.newarray .int, 2) := by decide +kernel
theorem dX0_init_55 : decode cX0_init 55 = .ok (.putfield 27, 3) := by decide +kernel
theorem dX0_init_58 : decode cX0_init 58 = .ok (.aload_n 0, 1) := by decide +kernel
theorem dX0_init_59 : decode cX0_init 59 = .ok (.sipush 512, 3) := by decide +kernel
theorem dX0_init_62 : decode cX0_init 62 = .ok (.newarray .int, 2) := by decide +kernel
theorem dX0_init_64 : decode cX0_init 64 = .ok (.putfield 30, 3) := by decide +kernel
theorem dX0_init_67 : decode cX0_init 67 = .ok (.aload_n 0, 1) := by decide +kernel
theorem dX0_init_68 : decode cX0_init 68 = .ok (.bipush 100, 2) := by decide +kernel
theorem dX0_init_70 : decode cX0_init 70 = .ok (.putfield 33, 3) := by decide +kernel
theorem dX0_init_73 : decode cX0_init 73 = .ok (.return_, 1) := by decide +kernel
theorem dX0_has_0 : decode cX0_has 0 = .ok (.aload_n 0, 1) := by decide +kernel
theorem dX0_has_1 : decode cX0_has 1 = .ok (.getfield 24, 3) := by decide +kernel
theorem dX0_has_4 : decode cX0_has 4 = .ok (.iload_n 1, 1) := by decide +kernel
theorem dX0_has_5 : decode cX0_has 5 = .ok (.iaload, 1) := by decide +kernel
theorem dX0_has_6 : decode cX0_has 6 = .ok (.ifCond .eq 7, 3) := by decide +kernel
theorem dX0_has_9 : decode cX0_has 9 = .ok (.iconst 1, 1) := by decide +kernel
theorem dX0_has_10 : decode cX0_has 10 = .ok (.goto 4, 3) := by decide +kernel
theorem dX0_has_13 : decode cX0_has 13 = .ok (.iconst 0, 1) := by decide +kernel
theorem dX0_has_14 : decode cX0_has 14 = .ok (.ireturn, 1) := by decide +kernel
theorem dX0_wordAt_0 : decode cX0_wordAt 0 = .ok (.aload_n 0, 1) := by decide +kernel
theorem dX0_wordAt_1 : decode cX0_wordAt 1 = .ok (.getfield 11, 3) := by decide +kernel
theorem dX0_wordAt_4 : decode cX0_wordAt 4 = .ok (.iload_n 1, 1) := by decide +kernel
theorem dX0_wordAt_5 : decode cX0_wordAt 5 = .ok (.bipush 8, 2) := by decide +kernel
theorem dX0_wordAt_7 : decode cX0_wordAt 7 = .ok (.imul, 1) := by decide +kernel
theorem dX0_wordAt_8 : decode cX0_wordAt 8 = .ok (.iload_n 2, 1) := by decide +kernel
theorem dX0_wordAt_9 : decode cX0_wordAt 9 = .ok (.iadd, 1) := by decide +kernel
theorem dX0_wordAt_10 : decode cX0_wordAt 10 = .ok (.iaload, 1) := by decide +kernel
theorem dX0_wordAt_11 : decode cX0_wordAt 11 = .ok (.ireturn, 1) := by decide +kernel
set_option maxRecDepth 20000 in
theorem ggX0_translate_X0_decodeBlock : GoodIn wsX0_translate wsX0_decodeBlock := goodIn_r _ [14, 15, 2, 16, 17, 18, 19, 20, 21, 22, 23, 24, 25, 26, 27, 28, 29, 30, 31, 32, 33, 34, 35, 94, 95, 96, 97, 98, 99, 100, 101, 102, 103, 104, 105, 106] (by decide +kernel) (by decide +kernel)
set_option maxRecDepth 20000 in
theorem gX0_translate_X0_decodeBlock : GoodIn wsX0_translate (wsV RX0 37 RX0 yX0_decodeBlock wsX0_decodeBlock) := goodIn_app (goodIn_of _ (by decide +kernel)) ggX0_translate_X0_decodeBlock
set_option maxRecDepth 20000 in
theorem ggX0_translate_X0_markDead : GoodIn wsX0_translate wsX0_markDead := goodIn_r _ [39, 2, 15, 40, 41, 42, 13, 43, 24, 25, 19, 26, 44, 45, 46, 47, 48, 49, 50, 51, 52, 53, 94, 95, 96, 97, 98, 99, 100, 101, 102, 103, 104, 105, 106] (by decide +kernel) (by decide +kernel)
set_option maxRecDepth 20000 in
theorem gX0_translate_X0_markDead : GoodIn wsX0_translate (wsV RX0 41 RX0 yX0_markDead wsX0_markDead) := goodIn_app (goodIn_of _ (by decide +kernel)) ggX0_translate_X0_markDead
set_option maxRecDepth 20000 in
theorem ggX0_translate_X0_sizeOf : GoodIn wsX0_translate wsX0_sizeOf := goodIn_r _ [57, 2, 58, 59, 60, 13, 61, 40, 41, 42, 43, 15, 24, 25, 19, 26, 62, 34, 35, 63, 64, 65, 66, 67, 45, 46, 68, 69, 70, 71, 72, 73, 50, 74, 75, 76, 94, 95, 96, 97, 98, 99, 100, 101, 102, 103, 104, 105, 106] (by decide +kernel) (by decide +kernel)
set_option maxRecDepth 20000 in
theorem gX0_translate_X0_sizeOf : GoodIn wsX0_translate (wsV RX0 45 RX0 yX0_sizeOf wsX0_sizeOf) := goodIn_app (goodIn_of _ (by decide +kernel)) ggX0_translate_X0_sizeOf
set_option maxRecDepth 20000 in
theorem ggX0_translate_X0_empty : GoodIn wsX0_translate wsX0_empty := goodIn_r _ [80, 8, 9, 4, 81, 82, 83, 84, 94, 95, 96, 97, 98, 99, 100, 101, 102, 103, 104, 105, 106] (by decide +kernel) (by decide +kernel)
set_option maxRecDepth 20000 in
theorem gX0_translate_X0_empty : GoodIn wsX0_translate (wsV RX0 51 RX0 yX0_empty wsX0_empty) := goodIn_app (goodIn_of _ (by decide +kernel)) ggX0_translate_X0_empty
set_option maxRecDepth 20000 in
theorem ggX0_translate_X0_layExits : GoodIn wsX0_translate wsX0_layExits := goodIn_r _ [88, 2, 89, 16, 90, 40, 41, 42, 13, 43, 15, 24, 25, 19, 26, 62, 34, 35, 27, 28, 29, 91, 92, 93, 94, 95, 96, 97, 98, 99, 100, 101, 102, 103, 104, 105, 106] (by decide +kernel) (by decide +kernel)
set_option maxRecDepth 20000 in
theorem gX0_translate_X0_layExits : GoodIn wsX0_translate (wsV RX0 66 RX0 yX0_layExits wsX0_layExits) := goodIn_app (goodIn_of _ (by decide +kernel)) ggX0_translate_X0_layExits
theorem dX0_translate_0 : decode cX0_translate 0 = .ok (.aload_n 0, 1) := by decide +kernel
theorem dX0_translate_1 : decode cX0_translate 1 = .ok (.aload_n 1, 1) := by decide +kernel
theorem dX0_translate_2 : decode cX0_translate 2 = .ok (.iload_n 2, 1) := by decide +kernel
theorem dX0_translate_3 : decode cX0_translate 3 = .ok (.invokevirtual 37, 3) := by decide +kernel
theorem dX0_translate_6 : decode cX0_translate 6 = .ok (.aload_n 0, 1) := by decide +kernel
theorem dX0_translate_7 : decode cX0_translate 7 = .ok (.iload_n 2, 1) := by decide +kernel
theorem dX0_translate_8 : decode cX0_translate 8 = .ok (.invokevirtual 41, 3) := by decide +kernel
theorem dX0_translate_11 : decode cX0_translate 11 = .ok (.istore_n 3, 1) := by decide +kernel
theorem dX0_translate_12 : decode cX0_translate 12 = .ok (.aload_n 0, 1) := by decide +kernel
theorem dX0_translate_13 : decode cX0_translate 13 = .ok (.getfield 21, 3) := by decide +kernel
theorem dX0_translate_16 : decode cX0_translate 16 = .ok (.iload_n 2, 1) := by decide +kernel
theorem dX0_translate_17 : decode cX0_translate 17 = .ok (.aload_n 0, 1) := by decide +kernel
theorem dX0_translate_18 : decode cX0_translate 18 = .ok (.iload_n 2, 1) := by decide +kernel
theorem dX0_translate_19 : decode cX0_translate 19 = .ok (.invokevirtual 45, 3) := by decide +kernel
theorem dX0_translate_22 : decode cX0_translate 22 = .ok (.iastore, 1) := by decide +kernel
theorem dX0_translate_23 : decode cX0_translate 23 = .ok (.aload_n 0, 1) := by decide +kernel
theorem dX0_translate_24 : decode cX0_translate 24 = .ok (.getfield 15, 3) := by decide +kernel
theorem dX0_translate_27 : decode cX0_translate 27 = .ok (.iload_n 2, 1) := by decide +kernel
theorem dX0_translate_28 : decode cX0_translate 28 = .ok (.iaload, 1) := by decide +kernel
theorem dX0_translate_29 : decode cX0_translate 29 = .ok (.ifCond .eq 16, 3) := by decide +kernel
theorem dX0_translate_32 : decode cX0_translate 32 = .ok (.aload_n 0, 1) := by decide +kernel
theorem dX0_translate_33 : decode cX0_translate 33 = .ok (.getfield 21, 3) := by decide +kernel
theorem dX0_translate_36 : decode cX0_translate 36 = .ok (.iload_n 2, 1) := by decide +kernel
theorem dX0_translate_37 : decode cX0_translate 37 = .ok (.iaload, 1) := by decide +kernel
theorem dX0_translate_38 : decode cX0_translate 38 = .ok (.aload_n 0, 1) := by decide +kernel
theorem dX0_translate_39 : decode cX0_translate 39 = .ok (.getfield 33, 3) := by decide +kernel
theorem dX0_translate_42 : decode cX0_translate 42 = .ok (.if_icmp .le 5, 3) := by decide +kernel
theorem dX0_translate_45 : decode cX0_translate 45 = .ok (.iconst 0, 1) := by decide +kernel
theorem dX0_translate_46 : decode cX0_translate 46 = .ok (.ireturn, 1) := by decide +kernel
theorem dX0_translate_47 : decode cX0_translate 47 = .ok (.aload_n 0, 1) := by decide +kernel
theorem dX0_translate_48 : decode cX0_translate 48 = .ok (.getfield 48, 3) := by decide +kernel
theorem dX0_translate_51 : decode cX0_translate 51 = .ok (.aload_n 0, 1) := by decide +kernel
theorem dX0_translate_52 : decode cX0_translate 52 = .ok (.getfield 21, 3) := by decide +kernel
theorem dX0_translate_55 : decode cX0_translate 55 = .ok (.iload_n 2, 1) := by decide +kernel
theorem dX0_translate_56 : decode cX0_translate 56 = .ok (.iaload, 1) := by decide +kernel
theorem dX0_translate_57 : decode cX0_translate 57 = .ok (.iadd, 1) := by decide +kernel
theorem dX0_translate_58 : decode cX0_translate 58 = .ok (.aload_n 0, 1) := by decide +kernel
theorem dX0_translate_59 : decode cX0_translate 59 = .ok (.getfield 33, 3) := by decide +kernel
theorem dX0_translate_62 : decode cX0_translate 62 = .ok (.if_icmp .le 17, 3) := by decide +kernel
theorem dX0_translate_65 : decode cX0_translate 65 = .ok (.aload_n 0, 1) := by decide +kernel
theorem dX0_translate_66 : decode cX0_translate 66 = .ok (.invokevirtual 51, 3) := by decide +kernel
theorem dX0_translate_69 : decode cX0_translate 69 = .ok (.aload_n 0, 1) := by decide +kernel
theorem dX0_translate_70 : decode cX0_translate 70 = .ok (.dup, 1) := by decide +kernel
theorem dX0_translate_71 : decode cX0_translate 71 = .ok (.getfield 54, 3) := by decide +kernel
theorem dX0_translate_74 : decode cX0_translate 74 = .ok (.iconst 1, 1) := by decide +kernel
theorem dX0_translate_75 : decode cX0_translate 75 = .ok (.iadd, 1) := by decide +kernel
theorem dX0_translate_76 : decode cX0_translate 76 = .ok (.putfield 54, 3) := by decide +kernel
theorem dX0_translate_79 : decode cX0_translate 79 = .ok (.aload_n 0, 1) := by decide +kernel
theorem dX0_translate_80 : decode cX0_translate 80 = .ok (.dup, 1) := by decide +kernel
theorem dX0_translate_81 : decode cX0_translate 81 = .ok (.getfield 57, 3) := by decide +kernel
theorem dX0_translate_84 : decode cX0_translate 84 = .ok (.iconst 1, 1) := by decide +kernel
theorem dX0_translate_85 : decode cX0_translate 85 = .ok (.iadd, 1) := by decide +kernel
theorem dX0_translate_86 : decode cX0_translate 86 = .ok (.putfield 57, 3) := by decide +kernel
theorem dX0_translate_89 : decode cX0_translate 89 = .ok (.aload_n 0, 1) := by decide +kernel
theorem dX0_translate_90 : decode cX0_translate 90 = .ok (.dup, 1) := by decide +kernel
theorem dX0_translate_91 : decode cX0_translate 91 = .ok (.getfield 60, 3) := by decide +kernel
theorem dX0_translate_94 : decode cX0_translate 94 = .ok (.iload_n 3, 1) := by decide +kernel
theorem dX0_translate_95 : decode cX0_translate 95 = .ok (.iadd, 1) := by decide +kernel
theorem dX0_translate_96 : decode cX0_translate 96 = .ok (.putfield 60, 3) := by decide +kernel
theorem dX0_translate_99 : decode cX0_translate 99 = .ok (.aload_n 0, 1) := by decide +kernel
theorem dX0_translate_100 : decode cX0_translate 100 = .ok (.getfield 24, 3) := by decide +kernel
theorem dX0_translate_103 : decode cX0_translate 103 = .ok (.iload_n 2, 1) := by decide +kernel
theorem dX0_translate_104 : decode cX0_translate 104 = .ok (.aload_n 0, 1) := by decide +kernel
theorem dX0_translate_105 : decode cX0_translate 105 = .ok (.getfield 57, 3) := by decide +kernel
theorem dX0_translate_108 : decode cX0_translate 108 = .ok (.iastore, 1) := by decide +kernel
theorem dX0_translate_109 : decode cX0_translate 109 = .ok (.aload_n 0, 1) := by decide +kernel
theorem dX0_translate_110 : decode cX0_translate 110 = .ok (.dup, 1) := by decide +kernel
theorem dX0_translate_111 : decode cX0_translate 111 = .ok (.getfield 63, 3) := by decide +kernel
theorem dX0_translate_114 : decode cX0_translate 114 = .ok (.iconst 1, 1) := by decide +kernel
theorem dX0_translate_115 : decode cX0_translate 115 = .ok (.iadd, 1) := by decide +kernel
theorem dX0_translate_116 : decode cX0_translate 116 = .ok (.putfield 63, 3) := by decide +kernel
theorem dX0_translate_119 : decode cX0_translate 119 = .ok (.aload_n 0, 1) := by decide +kernel
theorem dX0_translate_120 : decode cX0_translate 120 = .ok (.dup, 1) := by decide +kernel
theorem dX0_translate_121 : decode cX0_translate 121 = .ok (.getfield 48, 3) := by decide +kernel
theorem dX0_translate_124 : decode cX0_translate 124 = .ok (.aload_n 0, 1) := by decide +kernel
theorem dX0_translate_125 : decode cX0_translate 125 = .ok (.getfield 21, 3) := by decide +kernel
theorem dX0_translate_128 : decode cX0_translate 128 = .ok (.iload_n 2, 1) := by decide +kernel
theorem dX0_translate_129 : decode cX0_translate 129 = .ok (.iaload, 1) := by decide +kernel
theorem dX0_translate_130 : decode cX0_translate 130 = .ok (.iadd, 1) := by decide +kernel
theorem dX0_translate_131 : decode cX0_translate 131 = .ok (.putfield 48, 3) := by decide +kernel
theorem dX0_translate_134 : decode cX0_translate 134 = .ok (.aload_n 0, 1) := by decide +kernel
theorem dX0_translate_135 : decode cX0_translate 135 = .ok (.iload_n 2, 1) := by decide +kernel
theorem dX0_translate_136 : decode cX0_translate 136 = .ok (.invokevirtual 66, 3) := by decide +kernel
theorem dX0_translate_139 : decode cX0_translate 139 = .ok (.iconst 1, 1) := by decide +kernel
theorem dX0_translate_140 : decode cX0_translate 140 = .ok (.ireturn, 1) := by decide +kernel
set_option maxRecDepth 20000 in
theorem ggX0_decodeBlock_X1_decode : GoodIn wsX0_decodeBlock wsX1_decode := goodIn_r _ [7, 8, 9, 6, 10] (by decide +kernel) (by decide +kernel)
set_option maxRecDepth 20000 in
theorem gX0_decodeBlock_X1_decode : GoodIn wsX0_decodeBlock (va_wsS RX0 70 yX1_decode wsX1_decode) := goodIn_app (goodIn_of _ (by decide +kernel)) ggX0_decodeBlock_X1_decode
set_option maxRecDepth 20000 in
theorem ggX0_decodeBlock_X1_kind : GoodIn wsX0_decodeBlock wsX1_kind := goodIn_r _ [13] (by decide +kernel) (by decide +kernel)
set_option maxRecDepth 20000 in
theorem gX0_decodeBlock_X1_kind : GoodIn wsX0_decodeBlock (va_wsS RX0 76 yX1_kind wsX1_kind) := goodIn_app (goodIn_of _ (by decide +kernel)) ggX0_decodeBlock_X1_kind
set_option maxRecDepth 20000 in
theorem ggX0_decodeBlock_X1_bytes : GoodIn wsX0_decodeBlock wsX1_bytes := goodIn_r _ [16] (by decide +kernel) (by decide +kernel)
set_option maxRecDepth 20000 in
theorem gX0_decodeBlock_X1_bytes : GoodIn wsX0_decodeBlock (va_wsS RX0 79 yX1_bytes wsX1_bytes) := goodIn_app (goodIn_of _ (by decide +kernel)) ggX0_decodeBlock_X1_bytes
set_option maxRecDepth 20000 in
theorem ggX0_decodeBlock_X1_endsBlock : GoodIn wsX0_decodeBlock wsX1_endsBlock := goodIn_r _ [19, 20, 21, 6, 22] (by decide +kernel) (by decide +kernel)
set_option maxRecDepth 20000 in
theorem gX0_decodeBlock_X1_endsBlock : GoodIn wsX0_decodeBlock (va_wsS RX0 82 yX1_endsBlock wsX1_endsBlock) := goodIn_app (goodIn_of _ (by decide +kernel)) ggX0_decodeBlock_X1_endsBlock
theorem dX0_decodeBlock_0 : decode cX0_decodeBlock 0 = .ok (.iload_n 2, 1) := by decide +kernel
theorem dX0_decodeBlock_1 : decode cX0_decodeBlock 1 = .ok (.istore_n 3, 1) := by decide +kernel
theorem dX0_decodeBlock_2 : decode cX0_decodeBlock 2 = .ok (.iconst 0, 1) := by decide +kernel
theorem dX0_decodeBlock_3 : decode cX0_decodeBlock 3 = .ok (.istore 4, 2) := by decide +kernel
theorem dX0_decodeBlock_5 : decode cX0_decodeBlock 5 = .ok (.iconst 0, 1) := by decide +kernel
theorem dX0_decodeBlock_6 : decode cX0_decodeBlock 6 = .ok (.istore 5, 2) := by decide +kernel
theorem dX0_decodeBlock_8 : decode cX0_decodeBlock 8 = .ok (.iload 5, 2) := by decide +kernel
theorem dX0_decodeBlock_10 : decode cX0_decodeBlock 10 = .ok (.bipush 8, 2) := by decide +kernel
theorem dX0_decodeBlock_12 : decode cX0_decodeBlock 12 = .ok (.if_icmp .ge 71, 3) := by decide +kernel
theorem dX0_decodeBlock_15 : decode cX0_decodeBlock 15 = .ok (.aload_n 1, 1) := by decide +kernel
theorem dX0_decodeBlock_16 : decode cX0_decodeBlock 16 = .ok (.iload_n 3, 1) := by decide +kernel
theorem dX0_decodeBlock_17 : decode cX0_decodeBlock 17 = .ok (.invokestatic 70, 3) := by decide +kernel
theorem dX0_decodeBlock_20 : decode cX0_decodeBlock 20 = .ok (.istore 6, 2) := by decide +kernel
theorem dX0_decodeBlock_22 : decode cX0_decodeBlock 22 = .ok (.iload 6, 2) := by decide +kernel
theorem dX0_decodeBlock_24 : decode cX0_decodeBlock 24 = .ok (.invokestatic 76, 3) := by decide +kernel
theorem dX0_decodeBlock_27 : decode cX0_decodeBlock 27 = .ok (.istore 7, 2) := by decide +kernel
theorem dX0_decodeBlock_29 : decode cX0_decodeBlock 29 = .ok (.iload 7, 2) := by decide +kernel
theorem dX0_decodeBlock_31 : decode cX0_decodeBlock 31 = .ok (.ifCond .ne 6, 3) := by decide +kernel
theorem dX0_decodeBlock_34 : decode cX0_decodeBlock 34 = .ok (.goto 49, 3) := by decide +kernel
theorem dX0_decodeBlock_37 : decode cX0_decodeBlock 37 = .ok (.aload_n 0, 1) := by decide +kernel
theorem dX0_decodeBlock_38 : decode cX0_decodeBlock 38 = .ok (.getfield 11, 3) := by decide +kernel
theorem dX0_decodeBlock_41 : decode cX0_decodeBlock 41 = .ok (.iload_n 2, 1) := by decide +kernel
theorem dX0_decodeBlock_42 : decode cX0_decodeBlock 42 = .ok (.bipush 8, 2) := by decide +kernel
theorem dX0_decodeBlock_44 : decode cX0_decodeBlock 44 = .ok (.imul, 1) := by decide +kernel
theorem dX0_decodeBlock_45 : decode cX0_decodeBlock 45 = .ok (.iload 5, 2) := by decide +kernel
theorem dX0_decodeBlock_47 : decode cX0_decodeBlock 47 = .ok (.iadd, 1) := by decide +kernel
theorem dX0_decodeBlock_48 : decode cX0_decodeBlock 48 = .ok (.iload 6, 2) := by decide +kernel
theorem dX0_decodeBlock_50 : decode cX0_decodeBlock 50 = .ok (.iastore, 1) := by decide +kernel
theorem dX0_decodeBlock_51 : decode cX0_decodeBlock 51 = .ok (.iinc 4 1, 3) := by decide +kernel
theorem dX0_decodeBlock_54 : decode cX0_decodeBlock 54 = .ok (.iload_n 3, 1) := by decide +kernel
theorem dX0_decodeBlock_55 : decode cX0_decodeBlock 55 = .ok (.iload 7, 2) := by decide +kernel
theorem dX0_decodeBlock_57 : decode cX0_decodeBlock 57 = .ok (.invokestatic 79, 3) := by decide +kernel
theorem dX0_decodeBlock_60 : decode cX0_decodeBlock 60 = .ok (.iadd, 1) := by decide +kernel
theorem dX0_decodeBlock_61 : decode cX0_decodeBlock 61 = .ok (.sipush 255, 3) := by decide +kernel
theorem dX0_decodeBlock_64 : decode cX0_decodeBlock 64 = .ok (.iand, 1) := by decide +kernel
theorem dX0_decodeBlock_65 : decode cX0_decodeBlock 65 = .ok (.istore_n 3, 1) := by decide +kernel
theorem dX0_decodeBlock_66 : decode cX0_decodeBlock 66 = .ok (.iload 7, 2) := by decide +kernel
theorem dX0_decodeBlock_68 : decode cX0_decodeBlock 68 = .ok (.invokestatic 82, 3) := by decide +kernel
theorem dX0_decodeBlock_71 : decode cX0_decodeBlock 71 = .ok (.ifCond .eq 6, 3) := by decide +kernel
theorem dX0_decodeBlock_74 : decode cX0_decodeBlock 74 = .ok (.goto 9, 3) := by decide +kernel
theorem dX0_decodeBlock_77 : decode cX0_decodeBlock 77 = .ok (.iinc 5 1, 3) := by decide +kernel
theorem dX0_decodeBlock_80 : decode cX0_decodeBlock 80 = .ok (.goto (-72), 3) := by decide +kernel
theorem dX0_decodeBlock_83 : decode cX0_decodeBlock 83 = .ok (.aload_n 0, 1) := by decide +kernel
theorem dX0_decodeBlock_84 : decode cX0_decodeBlock 84 = .ok (.getfield 15, 3) := by decide +kernel
theorem dX0_decodeBlock_87 : decode cX0_decodeBlock 87 = .ok (.iload_n 2, 1) := by decide +kernel
theorem dX0_decodeBlock_88 : decode cX0_decodeBlock 88 = .ok (.iload 4, 2) := by decide +kernel
theorem dX0_decodeBlock_90 : decode cX0_decodeBlock 90 = .ok (.iastore, 1) := by decide +kernel
theorem dX0_decodeBlock_91 : decode cX0_decodeBlock 91 = .ok (.aload_n 0, 1) := by decide +kernel
theorem dX0_decodeBlock_92 : decode cX0_decodeBlock 92 = .ok (.getfield 18, 3) := by decide +kernel
theorem dX0_decodeBlock_95 : decode cX0_decodeBlock 95 = .ok (.iload_n 2, 1) := by decide +kernel
theorem dX0_decodeBlock_96 : decode cX0_decodeBlock 96 = .ok (.iload_n 3, 1) := by decide +kernel
theorem dX0_decodeBlock_97 : decode cX0_decodeBlock 97 = .ok (.iastore, 1) := by decide +kernel
theorem dX0_decodeBlock_98 : decode cX0_decodeBlock 98 = .ok (.return_, 1) := by decide +kernel
set_option maxRecDepth 20000 in
theorem ggX0_markDead_X0_wordAt : GoodIn wsX0_markDead wsX0_wordAt := goodIn_r _ [7, 2, 22, 23, 24, 25, 26, 27, 28, 29, 30, 31, 32, 33, 34] (by decide +kernel) (by decide +kernel)
set_option maxRecDepth 20000 in
theorem gX0_markDead_X0_wordAt : GoodIn wsX0_markDead (wsV RX0 86 RX0 yX0_wordAt wsX0_wordAt) := goodIn_app (goodIn_of _ (by decide +kernel)) ggX0_markDead_X0_wordAt
set_option maxRecDepth 20000 in
theorem ggX0_markDead_X1_kind : GoodIn wsX0_markDead wsX1_kind := goodIn_r _ [11] (by decide +kernel) (by decide +kernel)
set_option maxRecDepth 20000 in
theorem gX0_markDead_X1_kind : GoodIn wsX0_markDead (va_wsS RX0 76 yX1_kind wsX1_kind) := goodIn_app (goodIn_of _ (by decide +kernel)) ggX0_markDead_X1_kind
set_option maxRecDepth 20000 in
theorem ggX0_markDead_X1_makesFlags : GoodIn wsX0_markDead wsX1_makesFlags := goodIn_r _ [14] (by decide +kernel) (by decide +kernel)
set_option maxRecDepth 20000 in
theorem gX0_markDead_X1_makesFlags : GoodIn wsX0_markDead (va_wsS RX0 90 yX1_makesFlags wsX1_makesFlags) := goodIn_app (goodIn_of _ (by decide +kernel)) ggX0_markDead_X1_makesFlags
set_option maxRecDepth 20000 in
theorem ggX0_markDead_X1_asDead : GoodIn wsX0_markDead wsX1_asDead := goodIn_r _ [17, 18] (by decide +kernel) (by decide +kernel)
set_option maxRecDepth 20000 in
theorem gX0_markDead_X1_asDead : GoodIn wsX0_markDead (va_wsS RX0 93 yX1_asDead wsX1_asDead) := goodIn_app (goodIn_of _ (by decide +kernel)) ggX0_markDead_X1_asDead
set_option maxRecDepth 20000 in
theorem ggX0_markDead_X1_needsFlags : GoodIn wsX0_markDead wsX1_needsFlags := goodIn_r _ [21] (by decide +kernel) (by decide +kernel)
set_option maxRecDepth 20000 in
theorem gX0_markDead_X1_needsFlags : GoodIn wsX0_markDead (va_wsS RX0 96 yX1_needsFlags wsX1_needsFlags) := goodIn_app (goodIn_of _ (by decide +kernel)) ggX0_markDead_X1_needsFlags
theorem dX0_markDead_0 : decode cX0_markDead 0 = .ok (.iconst 0, 1) := by decide +kernel
theorem dX0_markDead_1 : decode cX0_markDead 1 = .ok (.istore_n 2, 1) := by decide +kernel
theorem dX0_markDead_2 : decode cX0_markDead 2 = .ok (.iconst 0, 1) := by decide +kernel
theorem dX0_markDead_3 : decode cX0_markDead 3 = .ok (.istore_n 3, 1) := by decide +kernel
theorem dX0_markDead_4 : decode cX0_markDead 4 = .ok (.aload_n 0, 1) := by decide +kernel
theorem dX0_markDead_5 : decode cX0_markDead 5 = .ok (.getfield 15, 3) := by decide +kernel
theorem dX0_markDead_8 : decode cX0_markDead 8 = .ok (.iload_n 1, 1) := by decide +kernel
theorem dX0_markDead_9 : decode cX0_markDead 9 = .ok (.iaload, 1) := by decide +kernel
theorem dX0_markDead_10 : decode cX0_markDead 10 = .ok (.iconst 1, 1) := by decide +kernel
theorem dX0_markDead_11 : decode cX0_markDead 11 = .ok (.isub, 1) := by decide +kernel
theorem dX0_markDead_12 : decode cX0_markDead 12 = .ok (.istore 4, 2) := by decide +kernel
theorem dX0_markDead_14 : decode cX0_markDead 14 = .ok (.iload 4, 2) := by decide +kernel
theorem dX0_markDead_16 : decode cX0_markDead 16 = .ok (.ifCond .lt 84, 3) := by decide +kernel
theorem dX0_markDead_19 : decode cX0_markDead 19 = .ok (.aload_n 0, 1) := by decide +kernel
theorem dX0_markDead_20 : decode cX0_markDead 20 = .ok (.iload_n 1, 1) := by decide +kernel
theorem dX0_markDead_21 : decode cX0_markDead 21 = .ok (.iload 4, 2) := by decide +kernel
theorem dX0_markDead_23 : decode cX0_markDead 23 = .ok (.invokevirtual 86, 3) := by decide +kernel
theorem dX0_markDead_26 : decode cX0_markDead 26 = .ok (.istore 5, 2) := by decide +kernel
theorem dX0_markDead_28 : decode cX0_markDead 28 = .ok (.iload 5, 2) := by decide +kernel
theorem dX0_markDead_30 : decode cX0_markDead 30 = .ok (.invokestatic 76, 3) := by decide +kernel
theorem dX0_markDead_33 : decode cX0_markDead 33 = .ok (.istore 6, 2) := by decide +kernel
theorem dX0_markDead_35 : decode cX0_markDead 35 = .ok (.iload 6, 2) := by decide +kernel
theorem dX0_markDead_37 : decode cX0_markDead 37 = .ok (.invokestatic 90, 3) := by decide +kernel
theorem dX0_markDead_40 : decode cX0_markDead 40 = .ok (.istore 7, 2) := by decide +kernel
theorem dX0_markDead_42 : decode cX0_markDead 42 = .ok (.iload 7, 2) := by decide +kernel
theorem dX0_markDead_44 : decode cX0_markDead 44 = .ok (.ifCond .eq 27, 3) := by decide +kernel
theorem dX0_markDead_47 : decode cX0_markDead 47 = .ok (.iload_n 3, 1) := by decide +kernel
theorem dX0_markDead_48 : decode cX0_markDead 48 = .ok (.ifCond .eq 23, 3) := by decide +kernel
theorem dX0_markDead_51 : decode cX0_markDead 51 = .ok (.aload_n 0, 1) := by decide +kernel
theorem dX0_markDead_52 : decode cX0_markDead 52 = .ok (.getfield 11, 3) := by decide +kernel
theorem dX0_markDead_55 : decode cX0_markDead 55 = .ok (.iload_n 1, 1) := by decide +kernel
theorem dX0_markDead_56 : decode cX0_markDead 56 = .ok (.bipush 8, 2) := by decide +kernel
theorem dX0_markDead_58 : decode cX0_markDead 58 = .ok (.imul, 1) := by decide +kernel
theorem dX0_markDead_59 : decode cX0_markDead 59 = .ok (.iload 4, 2) := by decide +kernel
theorem dX0_markDead_61 : decode cX0_markDead 61 = .ok (.iadd, 1) := by decide +kernel
theorem dX0_markDead_62 : decode cX0_markDead 62 = .ok (.iload 5, 2) := by decide +kernel
theorem dX0_markDead_64 : decode cX0_markDead 64 = .ok (.invokestatic 93, 3) := by decide +kernel
theorem dX0_markDead_67 : decode cX0_markDead 67 = .ok (.iastore, 1) := by decide +kernel
theorem dX0_markDead_68 : decode cX0_markDead 68 = .ok (.iinc 2 1, 3) := by decide +kernel
theorem dX0_markDead_71 : decode cX0_markDead 71 = .ok (.iload 6, 2) := by decide +kernel
theorem dX0_markDead_73 : decode cX0_markDead 73 = .ok (.invokestatic 96, 3) := by decide +kernel
theorem dX0_markDead_76 : decode cX0_markDead 76 = .ok (.ifCond .ne 16, 3) := by decide +kernel
theorem dX0_markDead_79 : decode cX0_markDead 79 = .ok (.iload 7, 2) := by decide +kernel
theorem dX0_markDead_81 : decode cX0_markDead 81 = .ok (.ifCond .ne 7, 3) := by decide +kernel
theorem dX0_markDead_84 : decode cX0_markDead 84 = .ok (.iload_n 3, 1) := by decide +kernel
theorem dX0_markDead_85 : decode cX0_markDead 85 = .ok (.ifCond .eq 7, 3) := by decide +kernel
theorem dX0_markDead_88 : decode cX0_markDead 88 = .ok (.iconst 1, 1) := by decide +kernel
theorem dX0_markDead_89 : decode cX0_markDead 89 = .ok (.goto 4, 3) := by decide +kernel
theorem dX0_markDead_92 : decode cX0_markDead 92 = .ok (.iconst 0, 1) := by decide +kernel
theorem dX0_markDead_93 : decode cX0_markDead 93 = .ok (.istore_n 3, 1) := by decide +kernel
theorem dX0_markDead_94 : decode cX0_markDead 94 = .ok (.iinc 4 (-1), 3) := by decide +kernel
theorem dX0_markDead_97 : decode cX0_markDead 97 = .ok (.goto (-83), 3) := by decide +kernel
theorem dX0_markDead_100 : decode cX0_markDead 100 = .ok (.iload_n 2, 1) := by decide +kernel
theorem dX0_markDead_101 : decode cX0_markDead 101 = .ok (.ireturn, 1) := by decide +kernel
set_option maxRecDepth 20000 in
theorem ggX0_sizeOf_X0_lastKind : GoodIn wsX0_sizeOf wsX0_lastKind := goodIn_r _ [6, 1, 7, 8, 9, 5, 10, 11, 12, 13, 14, 15, 36, 37, 38, 39, 40, 41, 42, 43, 44, 45, 46, 47, 48] (by decide +kernel) (by decide +kernel)
set_option maxRecDepth 20000 in
theorem gX0_sizeOf_X0_lastKind : GoodIn wsX0_sizeOf (wsV RX0 99 RX0 yX0_lastKind wsX0_lastKind) := goodIn_app (goodIn_of _ (by decide +kernel)) ggX0_sizeOf_X0_lastKind
set_option maxRecDepth 20000 in
theorem ggX0_sizeOf_X1_leavesByItself : GoodIn wsX0_sizeOf wsX1_leavesByItself := goodIn_r _ [18] (by decide +kernel) (by decide +kernel)
set_option maxRecDepth 20000 in
theorem gX0_sizeOf_X1_leavesByItself : GoodIn wsX0_sizeOf (va_wsS RX0 102 yX1_leavesByItself wsX1_leavesByItself) := goodIn_app (goodIn_of _ (by decide +kernel)) ggX0_sizeOf_X1_leavesByItself
set_option maxRecDepth 20000 in
theorem ggX0_sizeOf_X0_wordAt : GoodIn wsX0_sizeOf wsX0_wordAt := goodIn_r _ [10, 11, 36, 37, 38, 39, 40, 41, 42, 43, 44, 45, 46, 47, 48] (by decide +kernel) (by decide +kernel)
set_option maxRecDepth 20000 in
theorem gX0_sizeOf_X0_wordAt : GoodIn wsX0_sizeOf (wsV RX0 86 RX0 yX0_wordAt wsX0_wordAt) := goodIn_app (goodIn_of _ (by decide +kernel)) ggX0_sizeOf_X0_wordAt
set_option maxRecDepth 20000 in
theorem ggX0_sizeOf_X1_size : GoodIn wsX0_sizeOf wsX1_size := goodIn_r _ [21, 22, 13, 14, 15, 23, 24, 25, 26, 27, 28, 29, 30, 31, 32, 33, 34, 35] (by decide +kernel) (by decide +kernel)
set_option maxRecDepth 20000 in
theorem gX0_sizeOf_X1_size : GoodIn wsX0_sizeOf (va_wsS RX0 105 yX1_size wsX1_size) := goodIn_app (goodIn_of _ (by decide +kernel)) ggX0_sizeOf_X1_size
theorem dX0_sizeOf_0 : decode cX0_sizeOf 0 = .ok (.aload_n 0, 1) := by decide +kernel
theorem dX0_sizeOf_1 : decode cX0_sizeOf 1 = .ok (.iload_n 1, 1) := by decide +kernel
theorem dX0_sizeOf_2 : decode cX0_sizeOf 2 = .ok (.invokevirtual 99, 3) := by decide +kernel
theorem dX0_sizeOf_5 : decode cX0_sizeOf 5 = .ok (.invokestatic 102, 3) := by decide +kernel
theorem dX0_sizeOf_8 : decode cX0_sizeOf 8 = .ok (.ifCond .eq 7, 3) := by decide +kernel
theorem dX0_sizeOf_11 : decode cX0_sizeOf 11 = .ok (.iconst 0, 1) := by decide +kernel
theorem dX0_sizeOf_12 : decode cX0_sizeOf 12 = .ok (.goto 4, 3) := by decide +kernel
theorem dX0_sizeOf_15 : decode cX0_sizeOf 15 = .ok (.iconst 1, 1) := by decide +kernel
theorem dX0_sizeOf_16 : decode cX0_sizeOf 16 = .ok (.istore_n 2, 1) := by decide +kernel
theorem dX0_sizeOf_17 : decode cX0_sizeOf 17 = .ok (.iconst 0, 1) := by decide +kernel
theorem dX0_sizeOf_18 : decode cX0_sizeOf 18 = .ok (.istore_n 3, 1) := by decide +kernel
theorem dX0_sizeOf_19 : decode cX0_sizeOf 19 = .ok (.iload_n 3, 1) := by decide +kernel
theorem dX0_sizeOf_20 : decode cX0_sizeOf 20 = .ok (.aload_n 0, 1) := by decide +kernel
theorem dX0_sizeOf_21 : decode cX0_sizeOf 21 = .ok (.getfield 15, 3) := by decide +kernel
theorem dX0_sizeOf_24 : decode cX0_sizeOf 24 = .ok (.iload_n 1, 1) := by decide +kernel
theorem dX0_sizeOf_25 : decode cX0_sizeOf 25 = .ok (.iaload, 1) := by decide +kernel
theorem dX0_sizeOf_26 : decode cX0_sizeOf 26 = .ok (.if_icmp .ge 21, 3) := by decide +kernel
theorem dX0_sizeOf_29 : decode cX0_sizeOf 29 = .ok (.iload_n 2, 1) := by decide +kernel
theorem dX0_sizeOf_30 : decode cX0_sizeOf 30 = .ok (.aload_n 0, 1) := by decide +kernel
theorem dX0_sizeOf_31 : decode cX0_sizeOf 31 = .ok (.iload_n 1, 1) := by decide +kernel
theorem dX0_sizeOf_32 : decode cX0_sizeOf 32 = .ok (.iload_n 3, 1) := by decide +kernel
theorem dX0_sizeOf_33 : decode cX0_sizeOf 33 = .ok (.invokevirtual 86, 3) := by decide +kernel
theorem dX0_sizeOf_36 : decode cX0_sizeOf 36 = .ok (.invokestatic 105, 3) := by decide +kernel
theorem dX0_sizeOf_39 : decode cX0_sizeOf 39 = .ok (.iadd, 1) := by decide +kernel
theorem dX0_sizeOf_40 : decode cX0_sizeOf 40 = .ok (.istore_n 2, 1) := by decide +kernel
theorem dX0_sizeOf_41 : decode cX0_sizeOf 41 = .ok (.iinc 3 1, 3) := by decide +kernel
theorem dX0_sizeOf_44 : decode cX0_sizeOf 44 = .ok (.goto (-25), 3) := by decide +kernel
theorem dX0_sizeOf_47 : decode cX0_sizeOf 47 = .ok (.iload_n 2, 1) := by decide +kernel
theorem dX0_sizeOf_48 : decode cX0_sizeOf 48 = .ok (.ireturn, 1) := by decide +kernel
set_option maxRecDepth 20000 in
theorem ggX0_lastKind_X0_wordAt : GoodIn wsX0_lastKind wsX0_wordAt := goodIn_r _ [6, 7, 12, 13, 14, 15, 16, 17, 18, 19, 20, 21, 22, 23, 24] (by decide +kernel) (by decide +kernel)
set_option maxRecDepth 20000 in
theorem gX0_lastKind_X0_wordAt : GoodIn wsX0_lastKind (wsV RX0 86 RX0 yX0_wordAt wsX0_wordAt) := goodIn_app (goodIn_of _ (by decide +kernel)) ggX0_lastKind_X0_wordAt
set_option maxRecDepth 20000 in
theorem ggX0_lastKind_X1_kind : GoodIn wsX0_lastKind wsX1_kind := goodIn_r _ [11] (by decide +kernel) (by decide +kernel)
set_option maxRecDepth 20000 in
theorem gX0_lastKind_X1_kind : GoodIn wsX0_lastKind (va_wsS RX0 76 yX1_kind wsX1_kind) := goodIn_app (goodIn_of _ (by decide +kernel)) ggX0_lastKind_X1_kind
theorem dX0_lastKind_0 : decode cX0_lastKind 0 = .ok (.aload_n 0, 1) := by decide +kernel
theorem dX0_lastKind_1 : decode cX0_lastKind 1 = .ok (.getfield 15, 3) := by decide +kernel
theorem dX0_lastKind_4 : decode cX0_lastKind 4 = .ok (.iload_n 1, 1) := by decide +kernel
theorem dX0_lastKind_5 : decode cX0_lastKind 5 = .ok (.iaload, 1) := by decide +kernel
theorem dX0_lastKind_6 : decode cX0_lastKind 6 = .ok (.ifCond .ne 7, 3) := by decide +kernel
theorem dX0_lastKind_9 : decode cX0_lastKind 9 = .ok (.iconst 0, 1) := by decide +kernel
theorem dX0_lastKind_10 : decode cX0_lastKind 10 = .ok (.goto 19, 3) := by decide +kernel
theorem dX0_lastKind_13 : decode cX0_lastKind 13 = .ok (.aload_n 0, 1) := by decide +kernel
theorem dX0_lastKind_14 : decode cX0_lastKind 14 = .ok (.iload_n 1, 1) := by decide +kernel
theorem dX0_lastKind_15 : decode cX0_lastKind 15 = .ok (.aload_n 0, 1) := by decide +kernel
theorem dX0_lastKind_16 : decode cX0_lastKind 16 = .ok (.getfield 15, 3) := by decide +kernel
theorem dX0_lastKind_19 : decode cX0_lastKind 19 = .ok (.iload_n 1, 1) := by decide +kernel
theorem dX0_lastKind_20 : decode cX0_lastKind 20 = .ok (.iaload, 1) := by decide +kernel
theorem dX0_lastKind_21 : decode cX0_lastKind 21 = .ok (.iconst 1, 1) := by decide +kernel
theorem dX0_lastKind_22 : decode cX0_lastKind 22 = .ok (.isub, 1) := by decide +kernel
theorem dX0_lastKind_23 : decode cX0_lastKind 23 = .ok (.invokevirtual 86, 3) := by decide +kernel
theorem dX0_lastKind_26 : decode cX0_lastKind 26 = .ok (.invokestatic 76, 3) := by decide +kernel
theorem dX0_lastKind_29 : decode cX0_lastKind 29 = .ok (.ireturn, 1) := by decide +kernel
set_option maxRecDepth 20000 in
theorem ggX0_layExits_X0_wordAt : GoodIn wsX0_layExits wsX0_wordAt := goodIn_r _ [9, 10, 24, 25, 26, 27, 28, 29, 30, 31, 32, 33, 34, 35, 36] (by decide +kernel) (by decide +kernel)
set_option maxRecDepth 20000 in
theorem gX0_layExits_X0_wordAt : GoodIn wsX0_layExits (wsV RX0 86 RX0 yX0_wordAt wsX0_wordAt) := goodIn_app (goodIn_of _ (by decide +kernel)) ggX0_layExits_X0_wordAt
set_option maxRecDepth 20000 in
theorem ggX0_layExits_X1_kind : GoodIn wsX0_layExits wsX1_kind := goodIn_r _ [14] (by decide +kernel) (by decide +kernel)
set_option maxRecDepth 20000 in
theorem gX0_layExits_X1_kind : GoodIn wsX0_layExits (va_wsS RX0 76 yX1_kind wsX1_kind) := goodIn_app (goodIn_of _ (by decide +kernel)) ggX0_layExits_X1_kind
set_option maxRecDepth 20000 in
theorem ggX0_layExits_X1_leavesByItself : GoodIn wsX0_layExits wsX1_leavesByItself := goodIn_r _ [17] (by decide +kernel) (by decide +kernel)
set_option maxRecDepth 20000 in
theorem gX0_layExits_X1_leavesByItself : GoodIn wsX0_layExits (va_wsS RX0 102 yX1_leavesByItself wsX1_leavesByItself) := goodIn_app (goodIn_of _ (by decide +kernel)) ggX0_layExits_X1_leavesByItself
set_option maxRecDepth 20000 in
theorem ggX0_layExits_X1_bytes : GoodIn wsX0_layExits wsX1_bytes := goodIn_r _ [20] (by decide +kernel) (by decide +kernel)
set_option maxRecDepth 20000 in
theorem gX0_layExits_X1_bytes : GoodIn wsX0_layExits (va_wsS RX0 79 yX1_bytes wsX1_bytes) := goodIn_app (goodIn_of _ (by decide +kernel)) ggX0_layExits_X1_bytes
set_option maxRecDepth 20000 in
theorem ggX0_layExits_X1_n : GoodIn wsX0_layExits wsX1_n := goodIn_r _ [23] (by decide +kernel) (by decide +kernel)
set_option maxRecDepth 20000 in
theorem gX0_layExits_X1_n : GoodIn wsX0_layExits (va_wsS RX0 107 yX1_n wsX1_n) := goodIn_app (goodIn_of _ (by decide +kernel)) ggX0_layExits_X1_n
theorem dX0_layExits_0 : decode cX0_layExits 0 = .ok (.aload_n 0, 1) := by decide +kernel
theorem dX0_layExits_1 : decode cX0_layExits 1 = .ok (.iload_n 1, 1) := by decide +kernel
theorem dX0_layExits_2 : decode cX0_layExits 2 = .ok (.aload_n 0, 1) := by decide +kernel
theorem dX0_layExits_3 : decode cX0_layExits 3 = .ok (.getfield 15, 3) := by decide +kernel
theorem dX0_layExits_6 : decode cX0_layExits 6 = .ok (.iload_n 1, 1) := by decide +kernel
theorem dX0_layExits_7 : decode cX0_layExits 7 = .ok (.iaload, 1) := by decide +kernel
theorem dX0_layExits_8 : decode cX0_layExits 8 = .ok (.iconst 1, 1) := by decide +kernel
theorem dX0_layExits_9 : decode cX0_layExits 9 = .ok (.isub, 1) := by decide +kernel
theorem dX0_layExits_10 : decode cX0_layExits 10 = .ok (.invokevirtual 86, 3) := by decide +kernel
theorem dX0_layExits_13 : decode cX0_layExits 13 = .ok (.istore_n 2, 1) := by decide +kernel
theorem dX0_layExits_14 : decode cX0_layExits 14 = .ok (.iload_n 2, 1) := by decide +kernel
theorem dX0_layExits_15 : decode cX0_layExits 15 = .ok (.invokestatic 76, 3) := by decide +kernel
theorem dX0_layExits_18 : decode cX0_layExits 18 = .ok (.istore_n 3, 1) := by decide +kernel
theorem dX0_layExits_19 : decode cX0_layExits 19 = .ok (.iload_n 3, 1) := by decide +kernel
theorem dX0_layExits_20 : decode cX0_layExits 20 = .ok (.invokestatic 102, 3) := by decide +kernel
theorem dX0_layExits_23 : decode cX0_layExits 23 = .ok (.ifCond .eq 15, 3) := by decide +kernel
theorem dX0_layExits_26 : decode cX0_layExits 26 = .ok (.iload_n 3, 1) := by decide +kernel
theorem dX0_layExits_27 : decode cX0_layExits 27 = .ok (.invokestatic 79, 3) := by decide +kernel
theorem dX0_layExits_30 : decode cX0_layExits 30 = .ok (.iconst 2, 1) := by decide +kernel
theorem dX0_layExits_31 : decode cX0_layExits 31 = .ok (.if_icmp .ne 7, 3) := by decide +kernel
theorem dX0_layExits_34 : decode cX0_layExits 34 = .ok (.iconst 1, 1) := by decide +kernel
theorem dX0_layExits_35 : decode cX0_layExits 35 = .ok (.goto 4, 3) := by decide +kernel
theorem dX0_layExits_38 : decode cX0_layExits 38 = .ok (.iconst 0, 1) := by decide +kernel
theorem dX0_layExits_39 : decode cX0_layExits 39 = .ok (.istore 4, 2) := by decide +kernel
theorem dX0_layExits_41 : decode cX0_layExits 41 = .ok (.iload_n 3, 1) := by decide +kernel
theorem dX0_layExits_42 : decode cX0_layExits 42 = .ok (.bipush 24, 2) := by decide +kernel
theorem dX0_layExits_44 : decode cX0_layExits 44 = .ok (.if_icmp .eq 16, 3) := by decide +kernel
theorem dX0_layExits_47 : decode cX0_layExits 47 = .ok (.iload_n 3, 1) := by decide +kernel
theorem dX0_layExits_48 : decode cX0_layExits 48 = .ok (.bipush 29, 2) := by decide +kernel
theorem dX0_layExits_50 : decode cX0_layExits 50 = .ok (.if_icmp .eq 10, 3) := by decide +kernel
theorem dX0_layExits_53 : decode cX0_layExits 53 = .ok (.iload_n 3, 1) := by decide +kernel
theorem dX0_layExits_54 : decode cX0_layExits 54 = .ok (.invokestatic 102, 3) := by decide +kernel
theorem dX0_layExits_57 : decode cX0_layExits 57 = .ok (.ifCond .ne 7, 3) := by decide +kernel
theorem dX0_layExits_60 : decode cX0_layExits 60 = .ok (.iconst 1, 1) := by decide +kernel
theorem dX0_layExits_61 : decode cX0_layExits 61 = .ok (.goto 4, 3) := by decide +kernel
theorem dX0_layExits_64 : decode cX0_layExits 64 = .ok (.iconst 0, 1) := by decide +kernel
theorem dX0_layExits_65 : decode cX0_layExits 65 = .ok (.istore 5, 2) := by decide +kernel
theorem dX0_layExits_67 : decode cX0_layExits 67 = .ok (.aload_n 0, 1) := by decide +kernel
theorem dX0_layExits_68 : decode cX0_layExits 68 = .ok (.getfield 27, 3) := by decide +kernel
theorem dX0_layExits_71 : decode cX0_layExits 71 = .ok (.iconst 2, 1) := by decide +kernel
theorem dX0_layExits_72 : decode cX0_layExits 72 = .ok (.iload_n 1, 1) := by decide +kernel
theorem dX0_layExits_73 : decode cX0_layExits 73 = .ok (.imul, 1) := by decide +kernel
theorem dX0_layExits_74 : decode cX0_layExits 74 = .ok (.iload 4, 2) := by decide +kernel
theorem dX0_layExits_76 : decode cX0_layExits 76 = .ok (.ifCond .eq 10, 3) := by decide +kernel
theorem dX0_layExits_79 : decode cX0_layExits 79 = .ok (.iload_n 2, 1) := by decide +kernel
theorem dX0_layExits_80 : decode cX0_layExits 80 = .ok (.invokestatic 107, 3) := by decide +kernel
theorem dX0_layExits_83 : decode cX0_layExits 83 = .ok (.goto 4, 3) := by decide +kernel
theorem dX0_layExits_86 : decode cX0_layExits 86 = .ok (.iconst (-1), 1) := by decide +kernel
theorem dX0_layExits_87 : decode cX0_layExits 87 = .ok (.iastore, 1) := by decide +kernel
theorem dX0_layExits_88 : decode cX0_layExits 88 = .ok (.aload_n 0, 1) := by decide +kernel
theorem dX0_layExits_89 : decode cX0_layExits 89 = .ok (.getfield 27, 3) := by decide +kernel
theorem dX0_layExits_92 : decode cX0_layExits 92 = .ok (.iconst 2, 1) := by decide +kernel
theorem dX0_layExits_93 : decode cX0_layExits 93 = .ok (.iload_n 1, 1) := by decide +kernel
theorem dX0_layExits_94 : decode cX0_layExits 94 = .ok (.imul, 1) := by decide +kernel
theorem dX0_layExits_95 : decode cX0_layExits 95 = .ok (.iconst 1, 1) := by decide +kernel
theorem dX0_layExits_96 : decode cX0_layExits 96 = .ok (.iadd, 1) := by decide +kernel
theorem dX0_layExits_97 : decode cX0_layExits 97 = .ok (.iload 5, 2) := by decide +kernel
theorem dX0_layExits_99 : decode cX0_layExits 99 = .ok (.ifCond .eq 12, 3) := by decide +kernel
theorem dX0_layExits_102 : decode cX0_layExits 102 = .ok (.aload_n 0, 1) := by decide +kernel
theorem dX0_layExits_103 : decode cX0_layExits 103 = .ok (.getfield 18, 3) := by decide +kernel
theorem dX0_layExits_106 : decode cX0_layExits 106 = .ok (.iload_n 1, 1) := by decide +kernel
theorem dX0_layExits_107 : decode cX0_layExits 107 = .ok (.iaload, 1) := by decide +kernel
theorem dX0_layExits_108 : decode cX0_layExits 108 = .ok (.goto 4, 3) := by decide +kernel
theorem dX0_layExits_111 : decode cX0_layExits 111 = .ok (.iconst (-1), 1) := by decide +kernel
theorem dX0_layExits_112 : decode cX0_layExits 112 = .ok (.iastore, 1) := by decide +kernel
theorem dX0_layExits_113 : decode cX0_layExits 113 = .ok (.aload_n 0, 1) := by decide +kernel
theorem dX0_layExits_114 : decode cX0_layExits 114 = .ok (.getfield 30, 3) := by decide +kernel
theorem dX0_layExits_117 : decode cX0_layExits 117 = .ok (.iconst 2, 1) := by decide +kernel
theorem dX0_layExits_118 : decode cX0_layExits 118 = .ok (.iload_n 1, 1) := by decide +kernel
theorem dX0_layExits_119 : decode cX0_layExits 119 = .ok (.imul, 1) := by decide +kernel
theorem dX0_layExits_120 : decode cX0_layExits 120 = .ok (.iconst 0, 1) := by decide +kernel
theorem dX0_layExits_121 : decode cX0_layExits 121 = .ok (.iastore, 1) := by decide +kernel
theorem dX0_layExits_122 : decode cX0_layExits 122 = .ok (.aload_n 0, 1) := by decide +kernel
theorem dX0_layExits_123 : decode cX0_layExits 123 = .ok (.getfield 30, 3) := by decide +kernel
theorem dX0_layExits_126 : decode cX0_layExits 126 = .ok (.iconst 2, 1) := by decide +kernel
theorem dX0_layExits_127 : decode cX0_layExits 127 = .ok (.iload_n 1, 1) := by decide +kernel
theorem dX0_layExits_128 : decode cX0_layExits 128 = .ok (.imul, 1) := by decide +kernel
theorem dX0_layExits_129 : decode cX0_layExits 129 = .ok (.iconst 1, 1) := by decide +kernel
theorem dX0_layExits_130 : decode cX0_layExits 130 = .ok (.iadd, 1) := by decide +kernel
theorem dX0_layExits_131 : decode cX0_layExits 131 = .ok (.iconst 0, 1) := by decide +kernel
theorem dX0_layExits_132 : decode cX0_layExits 132 = .ok (.iastore, 1) := by decide +kernel
theorem dX0_layExits_133 : decode cX0_layExits 133 = .ok (.return_, 1) := by decide +kernel
theorem dX0_exitTo_0 : decode cX0_exitTo 0 = .ok (.aload_n 0, 1) := by decide +kernel
theorem dX0_exitTo_1 : decode cX0_exitTo 1 = .ok (.getfield 27, 3) := by decide +kernel
theorem dX0_exitTo_4 : decode cX0_exitTo 4 = .ok (.iconst 2, 1) := by decide +kernel
theorem dX0_exitTo_5 : decode cX0_exitTo 5 = .ok (.iload_n 1, 1) := by decide +kernel
theorem dX0_exitTo_6 : decode cX0_exitTo 6 = .ok (.imul, 1) := by decide +kernel
theorem dX0_exitTo_7 : decode cX0_exitTo 7 = .ok (.iaload, 1) := by decide +kernel
theorem dX0_exitTo_8 : decode cX0_exitTo 8 = .ok (.iload_n 2, 1) := by decide +kernel
theorem dX0_exitTo_9 : decode cX0_exitTo 9 = .ok (.if_icmp .ne 7, 3) := by decide +kernel
theorem dX0_exitTo_12 : decode cX0_exitTo 12 = .ok (.iconst 2, 1) := by decide +kernel
theorem dX0_exitTo_13 : decode cX0_exitTo 13 = .ok (.iload_n 1, 1) := by decide +kernel
theorem dX0_exitTo_14 : decode cX0_exitTo 14 = .ok (.imul, 1) := by decide +kernel
theorem dX0_exitTo_15 : decode cX0_exitTo 15 = .ok (.ireturn, 1) := by decide +kernel
theorem dX0_exitTo_16 : decode cX0_exitTo 16 = .ok (.aload_n 0, 1) := by decide +kernel
theorem dX0_exitTo_17 : decode cX0_exitTo 17 = .ok (.getfield 27, 3) := by decide +kernel
theorem dX0_exitTo_20 : decode cX0_exitTo 20 = .ok (.iconst 2, 1) := by decide +kernel
theorem dX0_exitTo_21 : decode cX0_exitTo 21 = .ok (.iload_n 1, 1) := by decide +kernel
theorem dX0_exitTo_22 : decode cX0_exitTo 22 = .ok (.imul, 1) := by decide +kernel
theorem dX0_exitTo_23 : decode cX0_exitTo 23 = .ok (.iconst 1, 1) := by decide +kernel
theorem dX0_exitTo_24 : decode cX0_exitTo 24 = .ok (.iadd, 1) := by decide +kernel
theorem dX0_exitTo_25 : decode cX0_exitTo 25 = .ok (.iaload, 1) := by decide +kernel
theorem dX0_exitTo_26 : decode cX0_exitTo 26 = .ok (.iload_n 2, 1) := by decide +kernel
theorem dX0_exitTo_27 : decode cX0_exitTo 27 = .ok (.if_icmp .ne 11, 3) := by decide +kernel
theorem dX0_exitTo_30 : decode cX0_exitTo 30 = .ok (.iconst 2, 1) := by decide +kernel
theorem dX0_exitTo_31 : decode cX0_exitTo 31 = .ok (.iload_n 1, 1) := by decide +kernel
theorem dX0_exitTo_32 : decode cX0_exitTo 32 = .ok (.imul, 1) := by decide +kernel
theorem dX0_exitTo_33 : decode cX0_exitTo 33 = .ok (.iconst 1, 1) := by decide +kernel
theorem dX0_exitTo_34 : decode cX0_exitTo 34 = .ok (.iadd, 1) := by decide +kernel
theorem dX0_exitTo_35 : decode cX0_exitTo 35 = .ok (.goto 4, 3) := by decide +kernel
theorem dX0_exitTo_38 : decode cX0_exitTo 38 = .ok (.iconst (-1), 1) := by decide +kernel
theorem dX0_exitTo_39 : decode cX0_exitTo 39 = .ok (.ireturn, 1) := by decide +kernel
set_option maxRecDepth 20000 in
theorem ggX0_isLinked_X0_has : GoodIn wsX0_isLinked wsX0_has := goodIn_r _ [7, 2, 8, 9, 10, 11, 12, 13, 14, 15, 16, 17, 18, 19, 20] (by decide +kernel) (by decide +kernel)
set_option maxRecDepth 20000 in
theorem gX0_isLinked_X0_has : GoodIn wsX0_isLinked (wsV RX0 110 RX0 yX0_has wsX0_has) := goodIn_app (goodIn_of _ (by decide +kernel)) ggX0_isLinked_X0_has
theorem dX0_isLinked_0 : decode cX0_isLinked 0 = .ok (.iload_n 1, 1) := by decide +kernel
theorem dX0_isLinked_1 : decode cX0_isLinked 1 = .ok (.iconst (-1), 1) := by decide +kernel
theorem dX0_isLinked_2 : decode cX0_isLinked 2 = .ok (.if_icmp .eq 30, 3) := by decide +kernel
theorem dX0_isLinked_5 : decode cX0_isLinked 5 = .ok (.aload_n 0, 1) := by decide +kernel
theorem dX0_isLinked_6 : decode cX0_isLinked 6 = .ok (.iload_n 2, 1) := by decide +kernel
theorem dX0_isLinked_7 : decode cX0_isLinked 7 = .ok (.invokevirtual 110, 3) := by decide +kernel
theorem dX0_isLinked_10 : decode cX0_isLinked 10 = .ok (.ifCond .eq 22, 3) := by decide +kernel
theorem dX0_isLinked_13 : decode cX0_isLinked 13 = .ok (.aload_n 0, 1) := by decide +kernel
theorem dX0_isLinked_14 : decode cX0_isLinked 14 = .ok (.getfield 30, 3) := by decide +kernel
theorem dX0_isLinked_17 : decode cX0_isLinked 17 = .ok (.iload_n 1, 1) := by decide +kernel
theorem dX0_isLinked_18 : decode cX0_isLinked 18 = .ok (.iaload, 1) := by decide +kernel
theorem dX0_isLinked_19 : decode cX0_isLinked 19 = .ok (.aload_n 0, 1) := by decide +kernel
theorem dX0_isLinked_20 : decode cX0_isLinked 20 = .ok (.getfield 24, 3) := by decide +kernel
theorem dX0_isLinked_23 : decode cX0_isLinked 23 = .ok (.iload_n 2, 1) := by decide +kernel
theorem dX0_isLinked_24 : decode cX0_isLinked 24 = .ok (.iaload, 1) := by decide +kernel
theorem dX0_isLinked_25 : decode cX0_isLinked 25 = .ok (.if_icmp .ne 7, 3) := by decide +kernel
theorem dX0_isLinked_28 : decode cX0_isLinked 28 = .ok (.iconst 1, 1) := by decide +kernel
theorem dX0_isLinked_29 : decode cX0_isLinked 29 = .ok (.goto 4, 3) := by decide +kernel
theorem dX0_isLinked_32 : decode cX0_isLinked 32 = .ok (.iconst 0, 1) := by decide +kernel
theorem dX0_isLinked_33 : decode cX0_isLinked 33 = .ok (.ireturn, 1) := by decide +kernel
set_option maxRecDepth 20000 in
theorem ggX0_link_X0_has : GoodIn wsX0_link wsX0_has := goodIn_r _ [7, 2, 8, 9, 10, 11, 12, 13, 14, 15, 16, 17, 18, 19, 20] (by decide +kernel) (by decide +kernel)
set_option maxRecDepth 20000 in
theorem gX0_link_X0_has : GoodIn wsX0_link (wsV RX0 110 RX0 yX0_has wsX0_has) := goodIn_app (goodIn_of _ (by decide +kernel)) ggX0_link_X0_has
theorem dX0_link_0 : decode cX0_link 0 = .ok (.iload_n 1, 1) := by decide +kernel
theorem dX0_link_1 : decode cX0_link 1 = .ok (.iconst (-1), 1) := by decide +kernel
theorem dX0_link_2 : decode cX0_link 2 = .ok (.if_icmp .eq 25, 3) := by decide +kernel
theorem dX0_link_5 : decode cX0_link 5 = .ok (.aload_n 0, 1) := by decide +kernel
theorem dX0_link_6 : decode cX0_link 6 = .ok (.iload_n 1, 1) := by decide +kernel
theorem dX0_link_7 : decode cX0_link 7 = .ok (.iconst 2, 1) := by decide +kernel
theorem dX0_link_8 : decode cX0_link 8 = .ok (.idiv, 1) := by decide +kernel
theorem dX0_link_9 : decode cX0_link 9 = .ok (.invokevirtual 110, 3) := by decide +kernel
theorem dX0_link_12 : decode cX0_link 12 = .ok (.ifCond .eq 15, 3) := by decide +kernel
theorem dX0_link_15 : decode cX0_link 15 = .ok (.aload_n 0, 1) := by decide +kernel
theorem dX0_link_16 : decode cX0_link 16 = .ok (.getfield 30, 3) := by decide +kernel
theorem dX0_link_19 : decode cX0_link 19 = .ok (.iload_n 1, 1) := by decide +kernel
theorem dX0_link_20 : decode cX0_link 20 = .ok (.aload_n 0, 1) := by decide +kernel
theorem dX0_link_21 : decode cX0_link 21 = .ok (.getfield 24, 3) := by decide +kernel
theorem dX0_link_24 : decode cX0_link 24 = .ok (.iload_n 2, 1) := by decide +kernel
theorem dX0_link_25 : decode cX0_link 25 = .ok (.iaload, 1) := by decide +kernel
theorem dX0_link_26 : decode cX0_link 26 = .ok (.iastore, 1) := by decide +kernel
theorem dX0_link_27 : decode cX0_link 27 = .ok (.return_, 1) := by decide +kernel
set_option maxRecDepth 20000 in
theorem ggX0_dropPage_X0_has : GoodIn wsX0_dropPage wsX0_has := goodIn_r _ [9, 2, 15, 16, 17, 18, 19, 20, 21, 22, 23, 24, 25, 26, 27] (by decide +kernel) (by decide +kernel)
set_option maxRecDepth 20000 in
theorem gX0_dropPage_X0_has : GoodIn wsX0_dropPage (wsV RX0 110 RX0 yX0_has wsX0_has) := goodIn_app (goodIn_of _ (by decide +kernel)) ggX0_dropPage_X0_has
set_option maxRecDepth 20000 in
theorem ggX0_dropPage_X0_reaches : GoodIn wsX0_dropPage wsX0_reaches := goodIn_r _ [13, 14, 15, 16, 17, 18, 19, 20, 21, 22, 23, 24, 25, 26, 27] (by decide +kernel) (by decide +kernel)
set_option maxRecDepth 20000 in
theorem gX0_dropPage_X0_reaches : GoodIn wsX0_dropPage (wsV RX0 113 RX0 yX0_reaches wsX0_reaches) := goodIn_app (goodIn_of _ (by decide +kernel)) ggX0_dropPage_X0_reaches
theorem dX0_dropPage_0 : decode cX0_dropPage 0 = .ok (.aload_n 0, 1) := by decide +kernel
theorem dX0_dropPage_1 : decode cX0_dropPage 1 = .ok (.getfield 63, 3) := by decide +kernel
theorem dX0_dropPage_4 : decode cX0_dropPage 4 = .ok (.istore_n 2, 1) := by decide +kernel
theorem dX0_dropPage_5 : decode cX0_dropPage 5 = .ok (.iload_n 1, 1) := by decide +kernel
theorem dX0_dropPage_6 : decode cX0_dropPage 6 = .ok (.bipush 32, 2) := by decide +kernel
theorem dX0_dropPage_8 : decode cX0_dropPage 8 = .ok (.imul, 1) := by decide +kernel
theorem dX0_dropPage_9 : decode cX0_dropPage 9 = .ok (.bipush 15, 2) := by decide +kernel
theorem dX0_dropPage_11 : decode cX0_dropPage 11 = .ok (.isub, 1) := by decide +kernel
theorem dX0_dropPage_12 : decode cX0_dropPage 12 = .ok (.istore_n 3, 1) := by decide +kernel
theorem dX0_dropPage_13 : decode cX0_dropPage 13 = .ok (.iconst 0, 1) := by decide +kernel
theorem dX0_dropPage_14 : decode cX0_dropPage 14 = .ok (.istore 4, 2) := by decide +kernel
theorem dX0_dropPage_16 : decode cX0_dropPage 16 = .ok (.iload 4, 2) := by decide +kernel
theorem dX0_dropPage_18 : decode cX0_dropPage 18 = .ok (.bipush 47, 2) := by decide +kernel
theorem dX0_dropPage_20 : decode cX0_dropPage 20 = .ok (.if_icmp .ge 72, 3) := by decide +kernel
theorem dX0_dropPage_23 : decode cX0_dropPage 23 = .ok (.iload_n 3, 1) := by decide +kernel
theorem dX0_dropPage_24 : decode cX0_dropPage 24 = .ok (.iload 4, 2) := by decide +kernel
theorem dX0_dropPage_26 : decode cX0_dropPage 26 = .ok (.iadd, 1) := by decide +kernel
theorem dX0_dropPage_27 : decode cX0_dropPage 27 = .ok (.sipush 255, 3) := by decide +kernel
theorem dX0_dropPage_30 : decode cX0_dropPage 30 = .ok (.iand, 1) := by decide +kernel
theorem dX0_dropPage_31 : decode cX0_dropPage 31 = .ok (.istore 5, 2) := by decide +kernel
theorem dX0_dropPage_33 : decode cX0_dropPage 33 = .ok (.aload_n 0, 1) := by decide +kernel
theorem dX0_dropPage_34 : decode cX0_dropPage 34 = .ok (.iload 5, 2) := by decide +kernel
theorem dX0_dropPage_36 : decode cX0_dropPage 36 = .ok (.invokevirtual 110, 3) := by decide +kernel
theorem dX0_dropPage_39 : decode cX0_dropPage 39 = .ok (.ifCond .eq 47, 3) := by decide +kernel
theorem dX0_dropPage_42 : decode cX0_dropPage 42 = .ok (.aload_n 0, 1) := by decide +kernel
theorem dX0_dropPage_43 : decode cX0_dropPage 43 = .ok (.iload 5, 2) := by decide +kernel
theorem dX0_dropPage_45 : decode cX0_dropPage 45 = .ok (.iload_n 1, 1) := by decide +kernel
theorem dX0_dropPage_46 : decode cX0_dropPage 46 = .ok (.invokevirtual 113, 3) := by decide +kernel
theorem dX0_dropPage_49 : decode cX0_dropPage 49 = .ok (.ifCond .eq 37, 3) := by decide +kernel
theorem dX0_dropPage_52 : decode cX0_dropPage 52 = .ok (.aload_n 0, 1) := by decide +kernel
theorem dX0_dropPage_53 : decode cX0_dropPage 53 = .ok (.getfield 24, 3) := by decide +kernel
theorem dX0_dropPage_56 : decode cX0_dropPage 56 = .ok (.iload 5, 2) := by decide +kernel
theorem dX0_dropPage_58 : decode cX0_dropPage 58 = .ok (.iconst 0, 1) := by decide +kernel
theorem dX0_dropPage_59 : decode cX0_dropPage 59 = .ok (.iastore, 1) := by decide +kernel
theorem dX0_dropPage_60 : decode cX0_dropPage 60 = .ok (.aload_n 0, 1) := by decide +kernel
theorem dX0_dropPage_61 : decode cX0_dropPage 61 = .ok (.dup, 1) := by decide +kernel
theorem dX0_dropPage_62 : decode cX0_dropPage 62 = .ok (.getfield 63, 3) := by decide +kernel
theorem dX0_dropPage_65 : decode cX0_dropPage 65 = .ok (.iconst 1, 1) := by decide +kernel
theorem dX0_dropPage_66 : decode cX0_dropPage 66 = .ok (.isub, 1) := by decide +kernel
theorem dX0_dropPage_67 : decode cX0_dropPage 67 = .ok (.putfield 63, 3) := by decide +kernel
theorem dX0_dropPage_70 : decode cX0_dropPage 70 = .ok (.aload_n 0, 1) := by decide +kernel
theorem dX0_dropPage_71 : decode cX0_dropPage 71 = .ok (.dup, 1) := by decide +kernel
theorem dX0_dropPage_72 : decode cX0_dropPage 72 = .ok (.getfield 48, 3) := by decide +kernel
theorem dX0_dropPage_75 : decode cX0_dropPage 75 = .ok (.aload_n 0, 1) := by decide +kernel
theorem dX0_dropPage_76 : decode cX0_dropPage 76 = .ok (.getfield 21, 3) := by decide +kernel
theorem dX0_dropPage_79 : decode cX0_dropPage 79 = .ok (.iload 5, 2) := by decide +kernel
theorem dX0_dropPage_81 : decode cX0_dropPage 81 = .ok (.iaload, 1) := by decide +kernel
theorem dX0_dropPage_82 : decode cX0_dropPage 82 = .ok (.isub, 1) := by decide +kernel
theorem dX0_dropPage_83 : decode cX0_dropPage 83 = .ok (.putfield 48, 3) := by decide +kernel
theorem dX0_dropPage_86 : decode cX0_dropPage 86 = .ok (.iinc 4 1, 3) := by decide +kernel
theorem dX0_dropPage_89 : decode cX0_dropPage 89 = .ok (.goto (-73), 3) := by decide +kernel
theorem dX0_dropPage_92 : decode cX0_dropPage 92 = .ok (.iload_n 2, 1) := by decide +kernel
theorem dX0_dropPage_93 : decode cX0_dropPage 93 = .ok (.aload_n 0, 1) := by decide +kernel
theorem dX0_dropPage_94 : decode cX0_dropPage 94 = .ok (.getfield 63, 3) := by decide +kernel
theorem dX0_dropPage_97 : decode cX0_dropPage 97 = .ok (.isub, 1) := by decide +kernel
theorem dX0_dropPage_98 : decode cX0_dropPage 98 = .ok (.ireturn, 1) := by decide +kernel
theorem dX0_reaches_0 : decode cX0_reaches 0 = .ok (.aload_n 0, 1) := by decide +kernel
theorem dX0_reaches_1 : decode cX0_reaches 1 = .ok (.getfield 18, 3) := by decide +kernel
theorem dX0_reaches_4 : decode cX0_reaches 4 = .ok (.iload_n 1, 1) := by decide +kernel
theorem dX0_reaches_5 : decode cX0_reaches 5 = .ok (.iaload, 1) := by decide +kernel
theorem dX0_reaches_6 : decode cX0_reaches 6 = .ok (.iconst 1, 1) := by decide +kernel
theorem dX0_reaches_7 : decode cX0_reaches 7 = .ok (.isub, 1) := by decide +kernel
theorem dX0_reaches_8 : decode cX0_reaches 8 = .ok (.sipush 255, 3) := by decide +kernel
theorem dX0_reaches_11 : decode cX0_reaches 11 = .ok (.iand, 1) := by decide +kernel
theorem dX0_reaches_12 : decode cX0_reaches 12 = .ok (.istore_n 3, 1) := by decide +kernel
theorem dX0_reaches_13 : decode cX0_reaches 13 = .ok (.iload_n 1, 1) := by decide +kernel
theorem dX0_reaches_14 : decode cX0_reaches 14 = .ok (.bipush 32, 2) := by decide +kernel
theorem dX0_reaches_16 : decode cX0_reaches 16 = .ok (.idiv, 1) := by decide +kernel
theorem dX0_reaches_17 : decode cX0_reaches 17 = .ok (.iload_n 2, 1) := by decide +kernel
theorem dX0_reaches_18 : decode cX0_reaches 18 = .ok (.if_icmp .eq 11, 3) := by decide +kernel
theorem dX0_reaches_21 : decode cX0_reaches 21 = .ok (.iload_n 3, 1) := by decide +kernel
theorem dX0_reaches_22 : decode cX0_reaches 22 = .ok (.bipush 32, 2) := by decide +kernel
theorem dX0_reaches_24 : decode cX0_reaches 24 = .ok (.idiv, 1) := by decide +kernel
theorem dX0_reaches_25 : decode cX0_reaches 25 = .ok (.iload_n 2, 1) := by decide +kernel
theorem dX0_reaches_26 : decode cX0_reaches 26 = .ok (.if_icmp .ne 7, 3) := by decide +kernel
theorem dX0_reaches_29 : decode cX0_reaches 29 = .ok (.iconst 1, 1) := by decide +kernel
theorem dX0_reaches_30 : decode cX0_reaches 30 = .ok (.goto 4, 3) := by decide +kernel
theorem dX0_reaches_33 : decode cX0_reaches 33 = .ok (.iconst 0, 1) := by decide +kernel
theorem dX0_reaches_34 : decode cX0_reaches 34 = .ok (.ireturn, 1) := by decide +kernel
set_option maxRecDepth 20000 in
theorem ggX0_empty_J7_fill_53178 : GoodIn wsX0_empty wsJ7_fill_53178 := goodIn_r _ [7] (by decide +kernel) (by decide +kernel)
set_option maxRecDepth 20000 in
theorem gX0_empty_J7_fill_53178 : GoodIn wsX0_empty (va_wsS RX0 117 yJ7_fill_53178 wsJ7_fill_53178) := goodIn_app (goodIn_of _ (by decide +kernel)) ggX0_empty_J7_fill_53178
theorem dX0_empty_0 : decode cX0_empty 0 = .ok (.aload_n 0, 1) := by decide +kernel
theorem dX0_empty_1 : decode cX0_empty 1 = .ok (.getfield 24, 3) := by decide +kernel
theorem dX0_empty_4 : decode cX0_empty 4 = .ok (.iconst 0, 1) := by decide +kernel
theorem dX0_empty_5 : decode cX0_empty 5 = .ok (.invokestatic 117, 3) := by decide +kernel
theorem dX0_empty_8 : decode cX0_empty 8 = .ok (.aload_n 0, 1) := by decide +kernel
theorem dX0_empty_9 : decode cX0_empty 9 = .ok (.iconst 0, 1) := by decide +kernel
theorem dX0_empty_10 : decode cX0_empty 10 = .ok (.putfield 63, 3) := by decide +kernel
theorem dX0_empty_13 : decode cX0_empty 13 = .ok (.aload_n 0, 1) := by decide +kernel
theorem dX0_empty_14 : decode cX0_empty 14 = .ok (.iconst 0, 1) := by decide +kernel
theorem dX0_empty_15 : decode cX0_empty 15 = .ok (.putfield 48, 3) := by decide +kernel
theorem dX0_empty_18 : decode cX0_empty 18 = .ok (.return_, 1) := by decide +kernel
set_option maxRecDepth 20000 in
theorem ggX1_decode_X1_kindOf : GoodIn wsX1_decode wsX1_kindOf := goodIn_r _ [4] (by decide +kernel) (by decide +kernel)
set_option maxRecDepth 20000 in
theorem gX1_decode_X1_kindOf : GoodIn wsX1_decode (va_wsS RX1 7 yX1_kindOf wsX1_kindOf) := goodIn_app (goodIn_of _ (by decide +kernel)) ggX1_decode_X1_kindOf
theorem dX1_decode_0 : decode cX1_decode 0 = .ok (.aload_n 0, 1) := by decide +kernel
theorem dX1_decode_1 : decode cX1_decode 1 = .ok (.iload_n 1, 1) := by decide +kernel
theorem dX1_decode_2 : decode cX1_decode 2 = .ok (.sipush 255, 3) := by decide +kernel
theorem dX1_decode_5 : decode cX1_decode 5 = .ok (.iand, 1) := by decide +kernel
theorem dX1_decode_6 : decode cX1_decode 6 = .ok (.iaload, 1) := by decide +kernel
theorem dX1_decode_7 : decode cX1_decode 7 = .ok (.istore_n 2, 1) := by decide +kernel
theorem dX1_decode_8 : decode cX1_decode 8 = .ok (.aload_n 0, 1) := by decide +kernel
theorem dX1_decode_9 : decode cX1_decode 9 = .ok (.iload_n 1, 1) := by decide +kernel
theorem dX1_decode_10 : decode cX1_decode 10 = .ok (.iconst 1, 1) := by decide +kernel
theorem dX1_decode_11 : decode cX1_decode 11 = .ok (.iadd, 1) := by decide +kernel
theorem dX1_decode_12 : decode cX1_decode 12 = .ok (.sipush 255, 3) := by decide +kernel
theorem dX1_decode_15 : decode cX1_decode 15 = .ok (.iand, 1) := by decide +kernel
theorem dX1_decode_16 : decode cX1_decode 16 = .ok (.iaload, 1) := by decide +kernel
theorem dX1_decode_17 : decode cX1_decode 17 = .ok (.istore_n 3, 1) := by decide +kernel
theorem dX1_decode_18 : decode cX1_decode 18 = .ok (.iload_n 2, 1) := by decide +kernel
theorem dX1_decode_19 : decode cX1_decode 19 = .ok (.invokestatic 7, 3) := by decide +kernel
theorem dX1_decode_22 : decode cX1_decode 22 = .ok (.bipush 12, 2) := by decide +kernel
theorem dX1_decode_24 : decode cX1_decode 24 = .ok (.ishl, 1) := by decide +kernel
theorem dX1_decode_25 : decode cX1_decode 25 = .ok (.iload_n 2, 1) := by decide +kernel
theorem dX1_decode_26 : decode cX1_decode 26 = .ok (.bipush 15, 2) := by decide +kernel
theorem dX1_decode_28 : decode cX1_decode 28 = .ok (.iand, 1) := by decide +kernel
theorem dX1_decode_29 : decode cX1_decode 29 = .ok (.bipush 8, 2) := by decide +kernel
theorem dX1_decode_31 : decode cX1_decode 31 = .ok (.ishl, 1) := by decide +kernel
theorem dX1_decode_32 : decode cX1_decode 32 = .ok (.ior, 1) := by decide +kernel
theorem dX1_decode_33 : decode cX1_decode 33 = .ok (.iload_n 3, 1) := by decide +kernel
theorem dX1_decode_34 : decode cX1_decode 34 = .ok (.ior, 1) := by decide +kernel
theorem dX1_decode_35 : decode cX1_decode 35 = .ok (.ireturn, 1) := by decide +kernel
theorem dX1_kindOf_0 : decode cX1_kindOf 0 = .ok (.iload_n 0, 1) := by decide +kernel
theorem dX1_kindOf_1 : decode cX1_kindOf 1 = .ok (.iconst 4, 1) := by decide +kernel
theorem dX1_kindOf_2 : decode cX1_kindOf 2 = .ok (.ishr, 1) := by decide +kernel
theorem dX1_kindOf_3 : decode cX1_kindOf 3 = .ok (.istore_n 1, 1) := by decide +kernel
theorem dX1_kindOf_4 : decode cX1_kindOf 4 = .ok (.iload_n 0, 1) := by decide +kernel
theorem dX1_kindOf_5 : decode cX1_kindOf 5 = .ok (.bipush 15, 2) := by decide +kernel
theorem dX1_kindOf_7 : decode cX1_kindOf 7 = .ok (.iand, 1) := by decide +kernel
theorem dX1_kindOf_8 : decode cX1_kindOf 8 = .ok (.istore_n 2, 1) := by decide +kernel
theorem dX1_kindOf_9 : decode cX1_kindOf 9 = .ok (.iload_n 0, 1) := by decide +kernel
theorem dX1_kindOf_10 : decode cX1_kindOf 10 = .ok (.iconst 3, 1) := by decide +kernel
theorem dX1_kindOf_11 : decode cX1_kindOf 11 = .ok (.iand, 1) := by decide +kernel
theorem dX1_kindOf_12 : decode cX1_kindOf 12 = .ok (.istore_n 3, 1) := by decide +kernel
theorem dX1_kindOf_13 : decode cX1_kindOf 13 = .ok (.iload_n 1, 1) := by decide +kernel
theorem dX1_kindOf_14 : decode cX1_kindOf 14 = .ok (.tableswitch 182 0 15 #[78, 182, 182, 182, 182, 182, 182, 182, 91, 96, 101, 104, 107, 129, 150, 171], 78) := by decide +kernel
theorem dX1_kindOf_92 : decode cX1_kindOf 92 = .ok (.iload_n 2, 1) := by decide +kernel
theorem dX1_kindOf_93 : decode cX1_kindOf 93 = .ok (.iconst 4, 1) := by decide +kernel
theorem dX1_kindOf_94 : decode cX1_kindOf 94 = .ok (.if_icmp .gt 9, 3) := by decide +kernel
theorem dX1_kindOf_97 : decode cX1_kindOf 97 = .ok (.iconst 1, 1) := by decide +kernel
theorem dX1_kindOf_98 : decode cX1_kindOf 98 = .ok (.iload_n 2, 1) := by decide +kernel
theorem dX1_kindOf_99 : decode cX1_kindOf 99 = .ok (.iadd, 1) := by decide +kernel
theorem dX1_kindOf_100 : decode cX1_kindOf 100 = .ok (.goto 4, 3) := by decide +kernel
theorem dX1_kindOf_103 : decode cX1_kindOf 103 = .ok (.iconst 0, 1) := by decide +kernel
theorem dX1_kindOf_104 : decode cX1_kindOf 104 = .ok (.ireturn, 1) := by decide +kernel
theorem dX1_kindOf_105 : decode cX1_kindOf 105 = .ok (.bipush 13, 2) := by decide +kernel
theorem dX1_kindOf_107 : decode cX1_kindOf 107 = .ok (.iload_n 3, 1) := by decide +kernel
theorem dX1_kindOf_108 : decode cX1_kindOf 108 = .ok (.iadd, 1) := by decide +kernel
theorem dX1_kindOf_109 : decode cX1_kindOf 109 = .ok (.ireturn, 1) := by decide +kernel
theorem dX1_kindOf_110 : decode cX1_kindOf 110 = .ok (.bipush 17, 2) := by decide +kernel
theorem dX1_kindOf_112 : decode cX1_kindOf 112 = .ok (.iload_n 3, 1) := by decide +kernel
theorem dX1_kindOf_113 : decode cX1_kindOf 113 = .ok (.iadd, 1) := by decide +kernel
theorem dX1_kindOf_114 : decode cX1_kindOf 114 = .ok (.ireturn, 1) := by decide +kernel
theorem dX1_kindOf_115 : decode cX1_kindOf 115 = .ok (.bipush 21, 2) := by decide +kernel
theorem dX1_kindOf_117 : decode cX1_kindOf 117 = .ok (.ireturn, 1) := by decide +kernel
theorem dX1_kindOf_118 : decode cX1_kindOf 118 = .ok (.bipush 22, 2) := by decide +kernel
theorem dX1_kindOf_120 : decode cX1_kindOf 120 = .ok (.ireturn, 1) := by decide +kernel
theorem dX1_kindOf_121 : decode cX1_kindOf 121 = .ok (.iload_n 2, 1) := by decide +kernel
theorem dX1_kindOf_122 : decode cX1_kindOf 122 = .ok (.ifCond .ne 8, 3) := by decide +kernel
theorem dX1_kindOf_125 : decode cX1_kindOf 125 = .ok (.bipush 23, 2) := by decide +kernel
theorem dX1_kindOf_127 : decode cX1_kindOf 127 = .ok (.goto 15, 3) := by decide +kernel
theorem dX1_kindOf_130 : decode cX1_kindOf 130 = .ok (.iload_n 2, 1) := by decide +kernel
theorem dX1_kindOf_131 : decode cX1_kindOf 131 = .ok (.bipush 6, 2) := by decide +kernel
theorem dX1_kindOf_133 : decode cX1_kindOf 133 = .ok (.if_icmp .gt 8, 3) := by decide +kernel
theorem dX1_kindOf_136 : decode cX1_kindOf 136 = .ok (.bipush 24, 2) := by decide +kernel
theorem dX1_kindOf_138 : decode cX1_kindOf 138 = .ok (.goto 4, 3) := by decide +kernel
theorem dX1_kindOf_141 : decode cX1_kindOf 141 = .ok (.iconst 0, 1) := by decide +kernel
theorem dX1_kindOf_142 : decode cX1_kindOf 142 = .ok (.ireturn, 1) := by decide +kernel
end
section
theorem dX1_kindOf_143 : decode cX1_kindOf 143 = .ok (.iload_n 2, 1) := by decide +kernel
theorem dX1_kindOf_144 : decode cX1_kindOf 144 = .ok (.ifCond .ne 8, 3) := by decide +kernel
theorem dX1_kindOf_147 : decode cX1_kindOf 147 = .ok (.bipush 25, 2) := by decide +kernel
theorem dX1_kindOf_149 : decode cX1_kindOf 149 = .ok (.goto 14, 3) := by decide +kernel
theorem dX1_kindOf_152 : decode cX1_kindOf 152 = .ok (.iload_n 2, 1) := by decide +kernel
theorem dX1_kindOf_153 : decode cX1_kindOf 153 = .ok (.iconst 1, 1) := by decide +kernel
theorem dX1_kindOf_154 : decode cX1_kindOf 154 = .ok (.if_icmp .ne 8, 3) := by decide +kernel
theorem dX1_kindOf_157 : decode cX1_kindOf 157 = .ok (.bipush 26, 2) := by decide +kernel
theorem dX1_kindOf_159 : decode cX1_kindOf 159 = .ok (.goto 4, 3) := by decide +kernel
theorem dX1_kindOf_162 : decode cX1_kindOf 162 = .ok (.iconst 0, 1) := by decide +kernel
theorem dX1_kindOf_163 : decode cX1_kindOf 163 = .ok (.ireturn, 1) := by decide +kernel
theorem dX1_kindOf_164 : decode cX1_kindOf 164 = .ok (.iload_n 3, 1) := by decide +kernel
theorem dX1_kindOf_165 : decode cX1_kindOf 165 = .ok (.ifCond .ne 8, 3) := by decide +kernel
theorem dX1_kindOf_168 : decode cX1_kindOf 168 = .ok (.bipush 27, 2) := by decide +kernel
theorem dX1_kindOf_170 : decode cX1_kindOf 170 = .ok (.goto 14, 3) := by decide +kernel
theorem dX1_kindOf_173 : decode cX1_kindOf 173 = .ok (.iload_n 3, 1) := by decide +kernel
theorem dX1_kindOf_174 : decode cX1_kindOf 174 = .ok (.iconst 1, 1) := by decide +kernel
theorem dX1_kindOf_175 : decode cX1_kindOf 175 = .ok (.if_icmp .ne 8, 3) := by decide +kernel
theorem dX1_kindOf_178 : decode cX1_kindOf 178 = .ok (.bipush 28, 2) := by decide +kernel
theorem dX1_kindOf_180 : decode cX1_kindOf 180 = .ok (.goto 4, 3) := by decide +kernel
theorem dX1_kindOf_183 : decode cX1_kindOf 183 = .ok (.iconst 0, 1) := by decide +kernel
theorem dX1_kindOf_184 : decode cX1_kindOf 184 = .ok (.ireturn, 1) := by decide +kernel
theorem dX1_kindOf_185 : decode cX1_kindOf 185 = .ok (.iload_n 3, 1) := by decide +kernel
theorem dX1_kindOf_186 : decode cX1_kindOf 186 = .ok (.ifCond .ne 8, 3) := by decide +kernel
theorem dX1_kindOf_189 : decode cX1_kindOf 189 = .ok (.bipush 29, 2) := by decide +kernel
theorem dX1_kindOf_191 : decode cX1_kindOf 191 = .ok (.goto 4, 3) := by decide +kernel
theorem dX1_kindOf_194 : decode cX1_kindOf 194 = .ok (.iconst 0, 1) := by decide +kernel
theorem dX1_kindOf_195 : decode cX1_kindOf 195 = .ok (.ireturn, 1) := by decide +kernel
theorem dX1_kindOf_196 : decode cX1_kindOf 196 = .ok (.bipush 6, 2) := by decide +kernel
theorem dX1_kindOf_198 : decode cX1_kindOf 198 = .ok (.iload_n 1, 1) := by decide +kernel
theorem dX1_kindOf_199 : decode cX1_kindOf 199 = .ok (.iadd, 1) := by decide +kernel
theorem dX1_kindOf_200 : decode cX1_kindOf 200 = .ok (.iconst 1, 1) := by decide +kernel
theorem dX1_kindOf_201 : decode cX1_kindOf 201 = .ok (.isub, 1) := by decide +kernel
theorem dX1_kindOf_202 : decode cX1_kindOf 202 = .ok (.ireturn, 1) := by decide +kernel
theorem dX1_kind_0 : decode cX1_kind 0 = .ok (.iload_n 0, 1) := by decide +kernel
theorem dX1_kind_1 : decode cX1_kind 1 = .ok (.bipush 12, 2) := by decide +kernel
theorem dX1_kind_3 : decode cX1_kind 3 = .ok (.ishr, 1) := by decide +kernel
theorem dX1_kind_4 : decode cX1_kind 4 = .ok (.bipush 31, 2) := by decide +kernel
theorem dX1_kind_6 : decode cX1_kind 6 = .ok (.iand, 1) := by decide +kernel
theorem dX1_kind_7 : decode cX1_kind 7 = .ok (.ireturn, 1) := by decide +kernel
theorem dX1_w_0 : decode cX1_w 0 = .ok (.iload_n 0, 1) := by decide +kernel
theorem dX1_w_1 : decode cX1_w 1 = .ok (.bipush 8, 2) := by decide +kernel
theorem dX1_w_3 : decode cX1_w 3 = .ok (.ishr, 1) := by decide +kernel
theorem dX1_w_4 : decode cX1_w 4 = .ok (.bipush 15, 2) := by decide +kernel
theorem dX1_w_6 : decode cX1_w 6 = .ok (.iand, 1) := by decide +kernel
theorem dX1_w_7 : decode cX1_w 7 = .ok (.ireturn, 1) := by decide +kernel
theorem dX1_d_0 : decode cX1_d 0 = .ok (.iload_n 0, 1) := by decide +kernel
theorem dX1_d_1 : decode cX1_d 1 = .ok (.bipush 10, 2) := by decide +kernel
theorem dX1_d_3 : decode cX1_d 3 = .ok (.ishr, 1) := by decide +kernel
theorem dX1_d_4 : decode cX1_d 4 = .ok (.iconst 3, 1) := by decide +kernel
theorem dX1_d_5 : decode cX1_d 5 = .ok (.iand, 1) := by decide +kernel
theorem dX1_d_6 : decode cX1_d 6 = .ok (.ireturn, 1) := by decide +kernel
theorem dX1_s_0 : decode cX1_s 0 = .ok (.iload_n 0, 1) := by decide +kernel
theorem dX1_s_1 : decode cX1_s 1 = .ok (.bipush 8, 2) := by decide +kernel
theorem dX1_s_3 : decode cX1_s 3 = .ok (.ishr, 1) := by decide +kernel
theorem dX1_s_4 : decode cX1_s 4 = .ok (.iconst 3, 1) := by decide +kernel
theorem dX1_s_5 : decode cX1_s 5 = .ok (.iand, 1) := by decide +kernel
theorem dX1_s_6 : decode cX1_s 6 = .ok (.ireturn, 1) := by decide +kernel
theorem dX1_n_0 : decode cX1_n 0 = .ok (.iload_n 0, 1) := by decide +kernel
theorem dX1_n_1 : decode cX1_n 1 = .ok (.sipush 255, 3) := by decide +kernel
theorem dX1_n_4 : decode cX1_n 4 = .ok (.iand, 1) := by decide +kernel
theorem dX1_n_5 : decode cX1_n 5 = .ok (.ireturn, 1) := by decide +kernel
theorem dX1_isDead_0 : decode cX1_isDead 0 = .ok (.iload_n 0, 1) := by decide +kernel
theorem dX1_isDead_1 : decode cX1_isDead 1 = .ok (.ldc 13, 2) := by decide +kernel
theorem dX1_isDead_3 : decode cX1_isDead 3 = .ok (.iand, 1) := by decide +kernel
theorem dX1_isDead_4 : decode cX1_isDead 4 = .ok (.ifCond .eq 7, 3) := by decide +kernel
theorem dX1_isDead_7 : decode cX1_isDead 7 = .ok (.iconst 1, 1) := by decide +kernel
theorem dX1_isDead_8 : decode cX1_isDead 8 = .ok (.goto 4, 3) := by decide +kernel
theorem dX1_isDead_11 : decode cX1_isDead 11 = .ok (.iconst 0, 1) := by decide +kernel
theorem dX1_isDead_12 : decode cX1_isDead 12 = .ok (.ireturn, 1) := by decide +kernel
theorem dX1_asDead_0 : decode cX1_asDead 0 = .ok (.iload_n 0, 1) := by decide +kernel
theorem dX1_asDead_1 : decode cX1_asDead 1 = .ok (.ldc 13, 2) := by decide +kernel
theorem dX1_asDead_3 : decode cX1_asDead 3 = .ok (.ior, 1) := by decide +kernel
theorem dX1_asDead_4 : decode cX1_asDead 4 = .ok (.ireturn, 1) := by decide +kernel
theorem dX1_bytes_0 : decode cX1_bytes 0 = .ok (.iload_n 0, 1) := by decide +kernel
theorem dX1_bytes_1 : decode cX1_bytes 1 = .ok (.tableswitch 69 17 29 #[67, 67, 67, 67, 67, 67, 67, 67, 67, 69, 69, 69, 67], 67) := by decide +kernel
theorem dX1_bytes_68 : decode cX1_bytes 68 = .ok (.iconst 2, 1) := by decide +kernel
theorem dX1_bytes_69 : decode cX1_bytes 69 = .ok (.ireturn, 1) := by decide +kernel
theorem dX1_bytes_70 : decode cX1_bytes 70 = .ok (.iconst 1, 1) := by decide +kernel
theorem dX1_bytes_71 : decode cX1_bytes 71 = .ok (.ireturn, 1) := by decide +kernel
set_option maxRecDepth 100000 in
theorem ggX1_endsBlock_X1_leavesByItself : GoodIn wsX1_endsBlock wsX1_leavesByItself := goodIn_r _ [4] rfl (by decide +kernel)
set_option maxRecDepth 100000 in
theorem gX1_endsBlock_X1_leavesByItself : GoodIn wsX1_endsBlock (va_wsS RX1 14 yX1_leavesByItself wsX1_leavesByItself) := goodIn_app (goodIn_of _ (by decide +kernel)) ggX1_endsBlock_X1_leavesByItself
theorem dX1_endsBlock_0 : decode cX1_endsBlock 0 = .ok (.iload_n 0, 1) := by decide +kernel
theorem dX1_endsBlock_1 : decode cX1_endsBlock 1 = .ok (.iconst 4, 1) := by decide +kernel
theorem dX1_endsBlock_2 : decode cX1_endsBlock 2 = .ok (.if_icmp .eq 10, 3) := by decide +kernel
theorem dX1_endsBlock_5 : decode cX1_endsBlock 5 = .ok (.iload_n 0, 1) := by decide +kernel
theorem dX1_endsBlock_6 : decode cX1_endsBlock 6 = .ok (.invokestatic 14, 3) := by decide +kernel
theorem dX1_endsBlock_9 : decode cX1_endsBlock 9 = .ok (.ifCond .eq 7, 3) := by decide +kernel
theorem dX1_endsBlock_12 : decode cX1_endsBlock 12 = .ok (.iconst 1, 1) := by decide +kernel
theorem dX1_endsBlock_13 : decode cX1_endsBlock 13 = .ok (.goto 4, 3) := by decide +kernel
theorem dX1_endsBlock_16 : decode cX1_endsBlock 16 = .ok (.iconst 0, 1) := by decide +kernel
theorem dX1_endsBlock_17 : decode cX1_endsBlock 17 = .ok (.ireturn, 1) := by decide +kernel
theorem dX1_leavesByItself_0 : decode cX1_leavesByItself 0 = .ok (.iload_n 0, 1) := by decide +kernel
theorem dX1_leavesByItself_1 : decode cX1_leavesByItself 1 = .ok (.lookupswitch 61 #[(1, 59), (23, 59), (24, 59), (25, 59), (26, 59), (29, 59)], 59) := by decide +kernel
theorem dX1_leavesByItself_60 : decode cX1_leavesByItself 60 = .ok (.iconst 1, 1) := by decide +kernel
theorem dX1_leavesByItself_61 : decode cX1_leavesByItself 61 = .ok (.ireturn, 1) := by decide +kernel
theorem dX1_leavesByItself_62 : decode cX1_leavesByItself 62 = .ok (.iconst 0, 1) := by decide +kernel
theorem dX1_leavesByItself_63 : decode cX1_leavesByItself 63 = .ok (.ireturn, 1) := by decide +kernel
theorem dX1_makesFlags_0 : decode cX1_makesFlags 0 = .ok (.iload_n 0, 1) := by decide +kernel
theorem dX1_makesFlags_1 : decode cX1_makesFlags 1 = .ok (.bipush 7, 2) := by decide +kernel
theorem dX1_makesFlags_3 : decode cX1_makesFlags 3 = .ok (.if_icmp .lt 9, 3) := by decide +kernel
theorem dX1_makesFlags_6 : decode cX1_makesFlags 6 = .ok (.iload_n 0, 1) := by decide +kernel
theorem dX1_makesFlags_7 : decode cX1_makesFlags 7 = .ok (.bipush 16, 2) := by decide +kernel
theorem dX1_makesFlags_9 : decode cX1_makesFlags 9 = .ok (.if_icmp .le 15, 3) := by decide +kernel
theorem dX1_makesFlags_12 : decode cX1_makesFlags 12 = .ok (.iload_n 0, 1) := by decide +kernel
theorem dX1_makesFlags_13 : decode cX1_makesFlags 13 = .ok (.bipush 18, 2) := by decide +kernel
theorem dX1_makesFlags_15 : decode cX1_makesFlags 15 = .ok (.if_icmp .lt 13, 3) := by decide +kernel
theorem dX1_makesFlags_18 : decode cX1_makesFlags 18 = .ok (.iload_n 0, 1) := by decide +kernel
theorem dX1_makesFlags_19 : decode cX1_makesFlags 19 = .ok (.bipush 20, 2) := by decide +kernel
theorem dX1_makesFlags_21 : decode cX1_makesFlags 21 = .ok (.if_icmp .gt 7, 3) := by decide +kernel
theorem dX1_makesFlags_24 : decode cX1_makesFlags 24 = .ok (.iconst 1, 1) := by decide +kernel
theorem dX1_makesFlags_25 : decode cX1_makesFlags 25 = .ok (.goto 4, 3) := by decide +kernel
theorem dX1_makesFlags_28 : decode cX1_makesFlags 28 = .ok (.iconst 0, 1) := by decide +kernel
theorem dX1_makesFlags_29 : decode cX1_makesFlags 29 = .ok (.ireturn, 1) := by decide +kernel
theorem dX1_onlyCompares_0 : decode cX1_onlyCompares 0 = .ok (.iload_n 0, 1) := by decide +kernel
theorem dX1_onlyCompares_1 : decode cX1_onlyCompares 1 = .ok (.bipush 10, 2) := by decide +kernel
theorem dX1_onlyCompares_3 : decode cX1_onlyCompares 3 = .ok (.if_icmp .eq 9, 3) := by decide +kernel
theorem dX1_onlyCompares_6 : decode cX1_onlyCompares 6 = .ok (.iload_n 0, 1) := by decide +kernel
theorem dX1_onlyCompares_7 : decode cX1_onlyCompares 7 = .ok (.bipush 19, 2) := by decide +kernel
theorem dX1_onlyCompares_9 : decode cX1_onlyCompares 9 = .ok (.if_icmp .ne 7, 3) := by decide +kernel
theorem dX1_onlyCompares_12 : decode cX1_onlyCompares 12 = .ok (.iconst 1, 1) := by decide +kernel
theorem dX1_onlyCompares_13 : decode cX1_onlyCompares 13 = .ok (.goto 4, 3) := by decide +kernel
theorem dX1_onlyCompares_16 : decode cX1_onlyCompares 16 = .ok (.iconst 0, 1) := by decide +kernel
theorem dX1_onlyCompares_17 : decode cX1_onlyCompares 17 = .ok (.ireturn, 1) := by decide +kernel
theorem dX1_needsFlags_0 : decode cX1_needsFlags 0 = .ok (.iload_n 0, 1) := by decide +kernel
theorem dX1_needsFlags_1 : decode cX1_needsFlags 1 = .ok (.tableswitch 97 8 27 #[95, 97, 97, 97, 97, 97, 97, 95, 95, 97, 97, 97, 97, 97, 95, 97, 95, 95, 97, 95], 95) := by decide +kernel
theorem dX1_needsFlags_96 : decode cX1_needsFlags 96 = .ok (.iconst 1, 1) := by decide +kernel
theorem dX1_needsFlags_97 : decode cX1_needsFlags 97 = .ok (.ireturn, 1) := by decide +kernel
theorem dX1_needsFlags_98 : decode cX1_needsFlags 98 = .ok (.iconst 0, 1) := by decide +kernel
theorem dX1_needsFlags_99 : decode cX1_needsFlags 99 = .ok (.ireturn, 1) := by decide +kernel
set_option maxRecDepth 100000 in
theorem ggX1_size_X1_kind : GoodIn wsX1_size wsX1_kind := goodIn_r _ [4] rfl (by decide +kernel)
set_option maxRecDepth 100000 in
theorem gX1_size_X1_kind : GoodIn wsX1_size (va_wsS RX1 18 yX1_kind wsX1_kind) := goodIn_app (goodIn_of _ (by decide +kernel)) ggX1_size_X1_kind
set_option maxRecDepth 100000 in
theorem ggX1_size_X1_makesFlags : GoodIn wsX1_size wsX1_makesFlags := goodIn_r _ [7] rfl (by decide +kernel)
set_option maxRecDepth 100000 in
theorem gX1_size_X1_makesFlags : GoodIn wsX1_size (va_wsS RX1 21 yX1_makesFlags wsX1_makesFlags) := goodIn_app (goodIn_of _ (by decide +kernel)) ggX1_size_X1_makesFlags
set_option maxRecDepth 100000 in
theorem ggX1_size_X1_sizeWithoutFlags : GoodIn wsX1_size wsX1_sizeWithoutFlags := goodIn_r _ [10] rfl (by decide +kernel)
set_option maxRecDepth 100000 in
theorem gX1_size_X1_sizeWithoutFlags : GoodIn wsX1_size (va_wsS RX1 24 yX1_sizeWithoutFlags wsX1_sizeWithoutFlags) := goodIn_app (goodIn_of _ (by decide +kernel)) ggX1_size_X1_sizeWithoutFlags
set_option maxRecDepth 100000 in
theorem ggX1_size_X1_isDead : GoodIn wsX1_size wsX1_isDead := goodIn_r _ [13, 14] rfl (by decide +kernel)
set_option maxRecDepth 100000 in
theorem gX1_size_X1_isDead : GoodIn wsX1_size (va_wsS RX1 27 yX1_isDead wsX1_isDead) := goodIn_app (goodIn_of _ (by decide +kernel)) ggX1_size_X1_isDead
set_option maxRecDepth 100000 in
theorem ggX1_size_X1_onlyCompares : GoodIn wsX1_size wsX1_onlyCompares := goodIn_r _ [17] rfl (by decide +kernel)
set_option maxRecDepth 100000 in
theorem gX1_size_X1_onlyCompares : GoodIn wsX1_size (va_wsS RX1 30 yX1_onlyCompares wsX1_onlyCompares) := goodIn_app (goodIn_of _ (by decide +kernel)) ggX1_size_X1_onlyCompares
theorem dX1_size_0 : decode cX1_size 0 = .ok (.iload_n 0, 1) := by decide +kernel
theorem dX1_size_1 : decode cX1_size 1 = .ok (.invokestatic 18, 3) := by decide +kernel
theorem dX1_size_4 : decode cX1_size 4 = .ok (.istore_n 1, 1) := by decide +kernel
theorem dX1_size_5 : decode cX1_size 5 = .ok (.iload_n 1, 1) := by decide +kernel
theorem dX1_size_6 : decode cX1_size 6 = .ok (.invokestatic 21, 3) := by decide +kernel
theorem dX1_size_9 : decode cX1_size 9 = .ok (.ifCond .ne 8, 3) := by decide +kernel
theorem dX1_size_12 : decode cX1_size 12 = .ok (.iload_n 1, 1) := by decide +kernel
theorem dX1_size_13 : decode cX1_size 13 = .ok (.invokestatic 24, 3) := by decide +kernel
theorem dX1_size_16 : decode cX1_size 16 = .ok (.ireturn, 1) := by decide +kernel
theorem dX1_size_17 : decode cX1_size 17 = .ok (.iload_n 0, 1) := by decide +kernel
theorem dX1_size_18 : decode cX1_size 18 = .ok (.invokestatic 27, 3) := by decide +kernel
theorem dX1_size_21 : decode cX1_size 21 = .ok (.ifCond .eq 19, 3) := by decide +kernel
theorem dX1_size_24 : decode cX1_size 24 = .ok (.iload_n 1, 1) := by decide +kernel
theorem dX1_size_25 : decode cX1_size 25 = .ok (.invokestatic 30, 3) := by decide +kernel
theorem dX1_size_28 : decode cX1_size 28 = .ok (.ifCond .eq 7, 3) := by decide +kernel
theorem dX1_size_31 : decode cX1_size 31 = .ok (.iconst 0, 1) := by decide +kernel
theorem dX1_size_32 : decode cX1_size 32 = .ok (.goto 7, 3) := by decide +kernel
theorem dX1_size_35 : decode cX1_size 35 = .ok (.iload_n 1, 1) := by decide +kernel
theorem dX1_size_36 : decode cX1_size 36 = .ok (.invokestatic 24, 3) := by decide +kernel
theorem dX1_size_39 : decode cX1_size 39 = .ok (.ireturn, 1) := by decide +kernel
theorem dX1_size_40 : decode cX1_size 40 = .ok (.iload_n 1, 1) := by decide +kernel
theorem dX1_size_41 : decode cX1_size 41 = .ok (.invokestatic 24, 3) := by decide +kernel
theorem dX1_size_44 : decode cX1_size 44 = .ok (.iload_n 1, 1) := by decide +kernel
theorem dX1_size_45 : decode cX1_size 45 = .ok (.bipush 16, 2) := by decide +kernel
theorem dX1_size_47 : decode cX1_size 47 = .ok (.if_icmp .ne 7, 3) := by decide +kernel
theorem dX1_size_50 : decode cX1_size 50 = .ok (.iconst 4, 1) := by decide +kernel
theorem dX1_size_51 : decode cX1_size 51 = .ok (.goto 4, 3) := by decide +kernel
theorem dX1_size_54 : decode cX1_size 54 = .ok (.iconst 3, 1) := by decide +kernel
theorem dX1_size_55 : decode cX1_size 55 = .ok (.iadd, 1) := by decide +kernel
theorem dX1_size_56 : decode cX1_size 56 = .ok (.ireturn, 1) := by decide +kernel
theorem dX1_sizeWithoutFlags_0 : decode cX1_sizeWithoutFlags 0 = .ok (.iload_n 0, 1) := by decide +kernel
theorem dX1_sizeWithoutFlags_1 : decode cX1_sizeWithoutFlags 1 = .ok (.tableswitch 113 7 29 #[107, 109, 107, 107, 113, 113, 107, 113, 109, 109, 113, 109, 109, 107, 111, 111, 113, 109, 109, 107, 113, 113, 111], 107) := by decide +kernel
theorem dX1_sizeWithoutFlags_108 : decode cX1_sizeWithoutFlags 108 = .ok (.iconst 2, 1) := by decide +kernel
theorem dX1_sizeWithoutFlags_109 : decode cX1_sizeWithoutFlags 109 = .ok (.ireturn, 1) := by decide +kernel
theorem dX1_sizeWithoutFlags_110 : decode cX1_sizeWithoutFlags 110 = .ok (.iconst 3, 1) := by decide +kernel
theorem dX1_sizeWithoutFlags_111 : decode cX1_sizeWithoutFlags 111 = .ok (.ireturn, 1) := by decide +kernel
theorem dX1_sizeWithoutFlags_112 : decode cX1_sizeWithoutFlags 112 = .ok (.iconst 4, 1) := by decide +kernel
theorem dX1_sizeWithoutFlags_113 : decode cX1_sizeWithoutFlags 113 = .ok (.ireturn, 1) := by decide +kernel
theorem dX1_sizeWithoutFlags_114 : decode cX1_sizeWithoutFlags 114 = .ok (.iconst 1, 1) := by decide +kernel
theorem dX1_sizeWithoutFlags_115 : decode cX1_sizeWithoutFlags 115 = .ok (.ireturn, 1) := by decide +kernel
set_option maxRecDepth 100000 in
theorem ggX2_init_X3_init : GoodIn wsX2_init wsX3_init := goodIn_r _ [15, 16, 2, 3, 4, 17, 24, 25, 26] rfl (by decide +kernel)
set_option maxRecDepth 100000 in
theorem gX2_init_X3_init : GoodIn wsX2_init (wsX3_init) := ggX2_init_X3_init
theorem dX2_init_0 : decode cX2_init 0 = .ok (.aload_n 0, 1) := by decide +kernel
theorem dX2_init_1 : decode cX2_init 1 = .ok (.invokespecial 3, 3) := by decide +kernel
theorem dX2_init_4 : decode cX2_init 4 = .ok (.aload_n 0, 1) := by decide +kernel
theorem dX2_init_5 : decode cX2_init 5 = .ok (.bipush 10, 2) := by decide +kernel
theorem dX2_init_7 : decode cX2_init 7 = .ok (.newarray .int, 2) := by decide +kernel
theorem dX2_init_9 : decode cX2_init 9 = .ok (.putfield 9, 3) := by decide +kernel
theorem dX2_init_12 : decode cX2_init 12 = .ok (.aload_n 0, 1) := by decide +kernel
theorem dX2_init_13 : decode cX2_init 13 = .ok (.sipush 256, 3) := by decide +kernel
theorem dX2_init_16 : decode cX2_init 16 = .ok (.newarray .int, 2) := by decide +kernel
theorem dX2_init_18 : decode cX2_init 18 = .ok (.putfield 15, 3) := by decide +kernel
theorem dX2_init_21 : decode cX2_init 21 = .ok (.aload_n 0, 1) := by decide +kernel
theorem dX2_init_22 : decode cX2_init 22 = .ok (.new 18, 3) := by decide +kernel
theorem dX2_init_25 : decode cX2_init 25 = .ok (.dup, 1) := by decide +kernel
theorem dX2_init_26 : decode cX2_init 26 = .ok (.bipush 32, 2) := by decide +kernel
theorem dX2_init_28 : decode cX2_init 28 = .ok (.invokespecial 20, 3) := by decide +kernel
theorem dX2_init_31 : decode cX2_init 31 = .ok (.putfield 23, 3) := by decide +kernel
theorem dX2_init_34 : decode cX2_init 34 = .ok (.aload_n 0, 1) := by decide +kernel
theorem dX2_init_35 : decode cX2_init 35 = .ok (.bipush 100, 2) := by decide +kernel
theorem dX2_init_37 : decode cX2_init 37 = .ok (.newarray .int, 2) := by decide +kernel
theorem dX2_init_39 : decode cX2_init 39 = .ok (.putfield 27, 3) := by decide +kernel
theorem dX2_init_42 : decode cX2_init 42 = .ok (.aload_n 0, 1) := by decide +kernel
theorem dX2_init_43 : decode cX2_init 43 = .ok (.iconst (-1), 1) := by decide +kernel
theorem dX2_init_44 : decode cX2_init 44 = .ok (.putfield 30, 3) := by decide +kernel
theorem dX2_init_47 : decode cX2_init 47 = .ok (.return_, 1) := by decide +kernel
theorem dX2_outputAt_0 : decode cX2_outputAt 0 = .ok (.iload_n 1, 1) := by decide +kernel
theorem dX2_outputAt_1 : decode cX2_outputAt 1 = .ok (.ifCond .lt 26, 3) := by decide +kernel
theorem dX2_outputAt_4 : decode cX2_outputAt 4 = .ok (.iload_n 1, 1) := by decide +kernel
theorem dX2_outputAt_5 : decode cX2_outputAt 5 = .ok (.aload_n 0, 1) := by decide +kernel
theorem dX2_outputAt_6 : decode cX2_outputAt 6 = .ok (.getfield 34, 3) := by decide +kernel
theorem dX2_outputAt_9 : decode cX2_outputAt 9 = .ok (.if_icmp .ge 18, 3) := by decide +kernel
theorem dX2_outputAt_12 : decode cX2_outputAt 12 = .ok (.iload_n 1, 1) := by decide +kernel
theorem dX2_outputAt_13 : decode cX2_outputAt 13 = .ok (.bipush 100, 2) := by decide +kernel
theorem dX2_outputAt_15 : decode cX2_outputAt 15 = .ok (.if_icmp .ge 12, 3) := by decide +kernel
theorem dX2_outputAt_18 : decode cX2_outputAt 18 = .ok (.aload_n 0, 1) := by decide +kernel
theorem dX2_outputAt_19 : decode cX2_outputAt 19 = .ok (.getfield 27, 3) := by decide +kernel
theorem dX2_outputAt_22 : decode cX2_outputAt 22 = .ok (.iload_n 1, 1) := by decide +kernel
theorem dX2_outputAt_23 : decode cX2_outputAt 23 = .ok (.iaload, 1) := by decide +kernel
theorem dX2_outputAt_24 : decode cX2_outputAt 24 = .ok (.goto 4, 3) := by decide +kernel
theorem dX2_outputAt_27 : decode cX2_outputAt 27 = .ok (.iconst (-1), 1) := by decide +kernel
theorem dX2_outputAt_28 : decode cX2_outputAt 28 = .ok (.ireturn, 1) := by decide +kernel
set_option maxRecDepth 100000 in
theorem ggX2_interrupt_X2_push : GoodIn wsX2_interrupt wsX2_push := goodIn_r _ [6, 1, 7, 8, 9, 5, 10, 11, 12, 13, 14, 15, 16, 17, 18] rfl (by decide +kernel)
set_option maxRecDepth 100000 in
theorem gX2_interrupt_X2_push : GoodIn wsX2_interrupt (wsV RX2 37 RX2 yX2_push wsX2_push) := goodIn_app (goodIn_of _ (by decide +kernel)) ggX2_interrupt_X2_push
theorem dX2_interrupt_0 : decode cX2_interrupt 0 = .ok (.aload_n 0, 1) := by decide +kernel
theorem dX2_interrupt_1 : decode cX2_interrupt 1 = .ok (.getfield 9, 3) := by decide +kernel
theorem dX2_interrupt_4 : decode cX2_interrupt 4 = .ok (.bipush 8, 2) := by decide +kernel
theorem dX2_interrupt_6 : decode cX2_interrupt 6 = .ok (.iconst 0, 1) := by decide +kernel
theorem dX2_interrupt_7 : decode cX2_interrupt 7 = .ok (.iastore, 1) := by decide +kernel
theorem dX2_interrupt_8 : decode cX2_interrupt 8 = .ok (.aload_n 0, 1) := by decide +kernel
theorem dX2_interrupt_9 : decode cX2_interrupt 9 = .ok (.aload_n 0, 1) := by decide +kernel
theorem dX2_interrupt_10 : decode cX2_interrupt 10 = .ok (.getfield 9, 3) := by decide +kernel
theorem dX2_interrupt_13 : decode cX2_interrupt 13 = .ok (.bipush 9, 2) := by decide +kernel
theorem dX2_interrupt_15 : decode cX2_interrupt 15 = .ok (.iaload, 1) := by decide +kernel
theorem dX2_interrupt_16 : decode cX2_interrupt 16 = .ok (.invokevirtual 37, 3) := by decide +kernel
theorem dX2_interrupt_19 : decode cX2_interrupt 19 = .ok (.aload_n 0, 1) := by decide +kernel
theorem dX2_interrupt_20 : decode cX2_interrupt 20 = .ok (.getfield 9, 3) := by decide +kernel
theorem dX2_interrupt_23 : decode cX2_interrupt 23 = .ok (.bipush 9, 2) := by decide +kernel
theorem dX2_interrupt_25 : decode cX2_interrupt 25 = .ok (.sipush 240, 3) := by decide +kernel
theorem dX2_interrupt_28 : decode cX2_interrupt 28 = .ok (.iastore, 1) := by decide +kernel
theorem dX2_interrupt_29 : decode cX2_interrupt 29 = .ok (.return_, 1) := by decide +kernel
set_option maxRecDepth 100000 in
theorem ggX2_execute_X1_kind : GoodIn wsX2_execute wsX1_kind := goodIn_r _ [5] rfl (by decide +kernel)
set_option maxRecDepth 100000 in
theorem gX2_execute_X1_kind : GoodIn wsX2_execute (va_wsS RX2 40 yX1_kind wsX1_kind) := goodIn_app (goodIn_of _ (by decide +kernel)) ggX2_execute_X1_kind
set_option maxRecDepth 100000 in
theorem ggX2_execute_X1_bytes : GoodIn wsX2_execute wsX1_bytes := goodIn_r _ [8] rfl (by decide +kernel)
set_option maxRecDepth 100000 in
theorem gX2_execute_X1_bytes : GoodIn wsX2_execute (va_wsS RX2 46 yX1_bytes wsX1_bytes) := goodIn_app (goodIn_of _ (by decide +kernel)) ggX2_execute_X1_bytes
set_option maxRecDepth 100000 in
theorem ggX2_execute_X1_makesFlags : GoodIn wsX2_execute wsX1_makesFlags := goodIn_r _ [11] rfl (by decide +kernel)
set_option maxRecDepth 100000 in
theorem gX2_execute_X1_makesFlags : GoodIn wsX2_execute (va_wsS RX2 49 yX1_makesFlags wsX1_makesFlags) := goodIn_app (goodIn_of _ (by decide +kernel)) ggX2_execute_X1_makesFlags
set_option maxRecDepth 100000 in
theorem ggX2_execute_X2_calculate : GoodIn wsX2_execute wsX2_calculate := goodIn_r _ [16, 1, 17, 18, 4, 19, 20, 21, 22, 23, 24, 25, 26, 6, 7, 8, 27, 28, 29, 30, 31, 32, 33, 34, 35, 15, 36, 37, 38, 39, 40, 100, 101, 102, 103, 104, 105] rfl (by decide +kernel)
set_option maxRecDepth 100000 in
theorem gX2_execute_X2_calculate : GoodIn wsX2_execute (wsV RX2 53 RX2 yX2_calculate wsX2_calculate) := goodIn_app (goodIn_of _ (by decide +kernel)) ggX2_execute_X2_calculate
set_option maxRecDepth 100000 in
theorem ggX2_execute_X1_endsBlock : GoodIn wsX2_execute wsX1_endsBlock := goodIn_r _ [43, 44, 45, 4, 46] rfl (by decide +kernel)
set_option maxRecDepth 100000 in
theorem gX2_execute_X1_endsBlock : GoodIn wsX2_execute (va_wsS RX2 57 yX1_endsBlock wsX1_endsBlock) := goodIn_app (goodIn_of _ (by decide +kernel)) ggX2_execute_X1_endsBlock
set_option maxRecDepth 100000 in
theorem ggX2_execute_X2_steer : GoodIn wsX2_execute wsX2_steer := goodIn_r _ [50, 1, 27, 28, 4, 29, 51, 52, 53, 54, 55, 56, 15, 57, 58, 59, 60, 61, 62, 63, 64, 65, 66, 67, 68, 69, 70, 71, 24, 25, 26, 72, 73, 74, 75, 100, 101, 102, 103, 104, 105] rfl (by decide +kernel)
set_option maxRecDepth 100000 in
theorem gX2_execute_X2_steer : GoodIn wsX2_execute (wsV RX2 60 RX2 yX2_steer wsX2_steer) := goodIn_app (goodIn_of _ (by decide +kernel)) ggX2_execute_X2_steer
set_option maxRecDepth 100000 in
theorem ggX2_execute_X2_move : GoodIn wsX2_execute wsX2_move := goodIn_r _ [79, 1, 80, 81, 66, 24, 25, 4, 26, 30, 31, 32, 27, 28, 29, 82, 83, 84, 15, 85, 86, 87, 88, 89, 90, 91, 92, 93, 94, 95, 96, 97, 98, 99, 62, 63, 64, 65, 67, 58, 59, 60, 61, 68, 69, 70, 71, 100, 101, 102, 103, 104, 105, 106, 107, 108] rfl (by decide +kernel)
set_option maxRecDepth 100000 in
theorem gX2_execute_X2_move : GoodIn wsX2_execute (wsV RX2 63 RX2 yX2_move wsX2_move) := goodIn_app (goodIn_of _ (by decide +kernel)) ggX2_execute_X2_move
theorem dX2_execute_0 : decode cX2_execute 0 = .ok (.iload_n 1, 1) := by decide +kernel
theorem dX2_execute_1 : decode cX2_execute 1 = .ok (.invokestatic 40, 3) := by decide +kernel
theorem dX2_execute_4 : decode cX2_execute 4 = .ok (.istore_n 2, 1) := by decide +kernel
theorem dX2_execute_5 : decode cX2_execute 5 = .ok (.aload_n 0, 1) := by decide +kernel
theorem dX2_execute_6 : decode cX2_execute 6 = .ok (.getfield 9, 3) := by decide +kernel
theorem dX2_execute_9 : decode cX2_execute 9 = .ok (.bipush 9, 2) := by decide +kernel
theorem dX2_execute_11 : decode cX2_execute 11 = .ok (.aload_n 0, 1) := by decide +kernel
theorem dX2_execute_12 : decode cX2_execute 12 = .ok (.getfield 9, 3) := by decide +kernel
theorem dX2_execute_15 : decode cX2_execute 15 = .ok (.bipush 9, 2) := by decide +kernel
theorem dX2_execute_17 : decode cX2_execute 17 = .ok (.iaload, 1) := by decide +kernel
theorem dX2_execute_18 : decode cX2_execute 18 = .ok (.iload_n 2, 1) := by decide +kernel
theorem dX2_execute_19 : decode cX2_execute 19 = .ok (.invokestatic 46, 3) := by decide +kernel
theorem dX2_execute_22 : decode cX2_execute 22 = .ok (.iadd, 1) := by decide +kernel
theorem dX2_execute_23 : decode cX2_execute 23 = .ok (.sipush 255, 3) := by decide +kernel
theorem dX2_execute_26 : decode cX2_execute 26 = .ok (.iand, 1) := by decide +kernel
theorem dX2_execute_27 : decode cX2_execute 27 = .ok (.iastore, 1) := by decide +kernel
theorem dX2_execute_28 : decode cX2_execute 28 = .ok (.iload_n 2, 1) := by decide +kernel
theorem dX2_execute_29 : decode cX2_execute 29 = .ok (.invokestatic 49, 3) := by decide +kernel
theorem dX2_execute_32 : decode cX2_execute 32 = .ok (.ifCond .eq 12, 3) := by decide +kernel
theorem dX2_execute_35 : decode cX2_execute 35 = .ok (.aload_n 0, 1) := by decide +kernel
theorem dX2_execute_36 : decode cX2_execute 36 = .ok (.iload_n 2, 1) := by decide +kernel
theorem dX2_execute_37 : decode cX2_execute 37 = .ok (.iload_n 1, 1) := by decide +kernel
theorem dX2_execute_38 : decode cX2_execute 38 = .ok (.invokevirtual 53, 3) := by decide +kernel
theorem dX2_execute_41 : decode cX2_execute 41 = .ok (.goto 25, 3) := by decide +kernel
theorem dX2_execute_44 : decode cX2_execute 44 = .ok (.iload_n 2, 1) := by decide +kernel
theorem dX2_execute_45 : decode cX2_execute 45 = .ok (.invokestatic 57, 3) := by decide +kernel
theorem dX2_execute_48 : decode cX2_execute 48 = .ok (.ifCond .eq 12, 3) := by decide +kernel
theorem dX2_execute_51 : decode cX2_execute 51 = .ok (.aload_n 0, 1) := by decide +kernel
theorem dX2_execute_52 : decode cX2_execute 52 = .ok (.iload_n 2, 1) := by decide +kernel
theorem dX2_execute_53 : decode cX2_execute 53 = .ok (.iload_n 1, 1) := by decide +kernel
theorem dX2_execute_54 : decode cX2_execute 54 = .ok (.invokevirtual 60, 3) := by decide +kernel
theorem dX2_execute_57 : decode cX2_execute 57 = .ok (.goto 9, 3) := by decide +kernel
theorem dX2_execute_60 : decode cX2_execute 60 = .ok (.aload_n 0, 1) := by decide +kernel
theorem dX2_execute_61 : decode cX2_execute 61 = .ok (.iload_n 2, 1) := by decide +kernel
theorem dX2_execute_62 : decode cX2_execute 62 = .ok (.iload_n 1, 1) := by decide +kernel
theorem dX2_execute_63 : decode cX2_execute 63 = .ok (.invokevirtual 63, 3) := by decide +kernel
theorem dX2_execute_66 : decode cX2_execute 66 = .ok (.return_, 1) := by decide +kernel
set_option maxRecDepth 100000 in
theorem ggX2_calculate_X1_isDead : GoodIn wsX2_calculate wsX1_isDead := goodIn_r _ [5, 6] rfl (by decide +kernel)
set_option maxRecDepth 100000 in
theorem gX2_calculate_X1_isDead : GoodIn wsX2_calculate (va_wsS RX2 66 yX1_isDead wsX1_isDead) := goodIn_app (goodIn_of _ (by decide +kernel)) ggX2_calculate_X1_isDead
set_option maxRecDepth 100000 in
theorem ggX2_calculate_X1_onlyCompares : GoodIn wsX2_calculate wsX1_onlyCompares := goodIn_r _ [9] rfl (by decide +kernel)
set_option maxRecDepth 100000 in
theorem gX2_calculate_X1_onlyCompares : GoodIn wsX2_calculate (va_wsS RX2 69 yX1_onlyCompares wsX1_onlyCompares) := goodIn_app (goodIn_of _ (by decide +kernel)) ggX2_calculate_X1_onlyCompares
set_option maxRecDepth 100000 in
theorem ggX2_calculate_X1_d : GoodIn wsX2_calculate wsX1_d := goodIn_r _ [12] rfl (by decide +kernel)
set_option maxRecDepth 100000 in
theorem gX2_calculate_X1_d : GoodIn wsX2_calculate (va_wsS RX2 72 yX1_d wsX1_d) := goodIn_app (goodIn_of _ (by decide +kernel)) ggX2_calculate_X1_d
set_option maxRecDepth 100000 in
theorem ggX2_calculate_X1_bytes : GoodIn wsX2_calculate wsX1_bytes := goodIn_r _ [15] rfl (by decide +kernel)
set_option maxRecDepth 100000 in
theorem gX2_calculate_X1_bytes : GoodIn wsX2_calculate (va_wsS RX2 46 yX1_bytes wsX1_bytes) := goodIn_app (goodIn_of _ (by decide +kernel)) ggX2_calculate_X1_bytes
set_option maxRecDepth 100000 in
theorem ggX2_calculate_X1_n : GoodIn wsX2_calculate wsX1_n := goodIn_r _ [18] rfl (by decide +kernel)
set_option maxRecDepth 100000 in
theorem gX2_calculate_X1_n : GoodIn wsX2_calculate (va_wsS RX2 75 yX1_n wsX1_n) := goodIn_app (goodIn_of _ (by decide +kernel)) ggX2_calculate_X1_n
set_option maxRecDepth 100000 in
theorem ggX2_calculate_X1_s : GoodIn wsX2_calculate wsX1_s := goodIn_r _ [21] rfl (by decide +kernel)
set_option maxRecDepth 100000 in
theorem gX2_calculate_X1_s : GoodIn wsX2_calculate (va_wsS RX2 78 yX1_s wsX1_s) := goodIn_app (goodIn_of _ (by decide +kernel)) ggX2_calculate_X1_s
set_option maxRecDepth 100000 in
theorem ggX2_calculate_X2_resultWithCarry : GoodIn wsX2_calculate wsX2_resultWithCarry := goodIn_r _ [26, 1, 31, 32, 33, 34, 35, 36] rfl (by decide +kernel)
set_option maxRecDepth 100000 in
theorem gX2_calculate_X2_resultWithCarry : GoodIn wsX2_calculate (wsV RX2 81 RX2 yX2_resultWithCarry wsX2_resultWithCarry) := goodIn_app (goodIn_of _ (by decide +kernel)) ggX2_calculate_X2_resultWithCarry
set_option maxRecDepth 100000 in
theorem ggX2_calculate_X2_makeFlags : GoodIn wsX2_calculate wsX2_makeFlags := goodIn_r _ [30, 1, 31, 32, 33, 34, 35, 36] rfl (by decide +kernel)
set_option maxRecDepth 100000 in
theorem gX2_calculate_X2_makeFlags : GoodIn wsX2_calculate (wsV RX2 85 RX2 yX2_makeFlags wsX2_makeFlags) := goodIn_app (goodIn_of _ (by decide +kernel)) ggX2_calculate_X2_makeFlags
theorem dX2_calculate_0 : decode cX2_calculate 0 = .ok (.iload_n 2, 1) := by decide +kernel
theorem dX2_calculate_1 : decode cX2_calculate 1 = .ok (.invokestatic 66, 3) := by decide +kernel
theorem dX2_calculate_4 : decode cX2_calculate 4 = .ok (.istore_n 3, 1) := by decide +kernel
theorem dX2_calculate_5 : decode cX2_calculate 5 = .ok (.iload_n 1, 1) := by decide +kernel
theorem dX2_calculate_6 : decode cX2_calculate 6 = .ok (.invokestatic 69, 3) := by decide +kernel
theorem dX2_calculate_9 : decode cX2_calculate 9 = .ok (.istore 4, 2) := by decide +kernel
theorem dX2_calculate_11 : decode cX2_calculate 11 = .ok (.iload_n 3, 1) := by decide +kernel
theorem dX2_calculate_12 : decode cX2_calculate 12 = .ok (.ifCond .eq 9, 3) := by decide +kernel
theorem dX2_calculate_15 : decode cX2_calculate 15 = .ok (.iload 4, 2) := by decide +kernel
theorem dX2_calculate_17 : decode cX2_calculate 17 = .ok (.ifCond .eq 4, 3) := by decide +kernel
theorem dX2_calculate_20 : decode cX2_calculate 20 = .ok (.return_, 1) := by decide +kernel
theorem dX2_calculate_21 : decode cX2_calculate 21 = .ok (.aload_n 0, 1) := by decide +kernel
theorem dX2_calculate_22 : decode cX2_calculate 22 = .ok (.getfield 9, 3) := by decide +kernel
theorem dX2_calculate_25 : decode cX2_calculate 25 = .ok (.iload_n 2, 1) := by decide +kernel
theorem dX2_calculate_26 : decode cX2_calculate 26 = .ok (.invokestatic 72, 3) := by decide +kernel
theorem dX2_calculate_29 : decode cX2_calculate 29 = .ok (.iaload, 1) := by decide +kernel
theorem dX2_calculate_30 : decode cX2_calculate 30 = .ok (.istore 5, 2) := by decide +kernel
theorem dX2_calculate_32 : decode cX2_calculate 32 = .ok (.iload_n 1, 1) := by decide +kernel
theorem dX2_calculate_33 : decode cX2_calculate 33 = .ok (.invokestatic 46, 3) := by decide +kernel
theorem dX2_calculate_36 : decode cX2_calculate 36 = .ok (.iconst 2, 1) := by decide +kernel
theorem dX2_calculate_37 : decode cX2_calculate 37 = .ok (.if_icmp .ne 10, 3) := by decide +kernel
theorem dX2_calculate_40 : decode cX2_calculate 40 = .ok (.iload_n 2, 1) := by decide +kernel
theorem dX2_calculate_41 : decode cX2_calculate 41 = .ok (.invokestatic 75, 3) := by decide +kernel
theorem dX2_calculate_44 : decode cX2_calculate 44 = .ok (.goto 12, 3) := by decide +kernel
theorem dX2_calculate_47 : decode cX2_calculate 47 = .ok (.aload_n 0, 1) := by decide +kernel
theorem dX2_calculate_48 : decode cX2_calculate 48 = .ok (.getfield 9, 3) := by decide +kernel
theorem dX2_calculate_51 : decode cX2_calculate 51 = .ok (.iload_n 2, 1) := by decide +kernel
theorem dX2_calculate_52 : decode cX2_calculate 52 = .ok (.invokestatic 78, 3) := by decide +kernel
theorem dX2_calculate_55 : decode cX2_calculate 55 = .ok (.iaload, 1) := by decide +kernel
theorem dX2_calculate_56 : decode cX2_calculate 56 = .ok (.istore 6, 2) := by decide +kernel
theorem dX2_calculate_58 : decode cX2_calculate 58 = .ok (.aload_n 0, 1) := by decide +kernel
theorem dX2_calculate_59 : decode cX2_calculate 59 = .ok (.iload_n 1, 1) := by decide +kernel
theorem dX2_calculate_60 : decode cX2_calculate 60 = .ok (.iload 5, 2) := by decide +kernel
theorem dX2_calculate_62 : decode cX2_calculate 62 = .ok (.iload 6, 2) := by decide +kernel
theorem dX2_calculate_64 : decode cX2_calculate 64 = .ok (.invokevirtual 81, 3) := by decide +kernel
theorem dX2_calculate_67 : decode cX2_calculate 67 = .ok (.istore 7, 2) := by decide +kernel
theorem dX2_calculate_69 : decode cX2_calculate 69 = .ok (.iload 4, 2) := by decide +kernel
theorem dX2_calculate_71 : decode cX2_calculate 71 = .ok (.ifCond .ne 18, 3) := by decide +kernel
theorem dX2_calculate_74 : decode cX2_calculate 74 = .ok (.aload_n 0, 1) := by decide +kernel
theorem dX2_calculate_75 : decode cX2_calculate 75 = .ok (.getfield 9, 3) := by decide +kernel
theorem dX2_calculate_78 : decode cX2_calculate 78 = .ok (.iload_n 2, 1) := by decide +kernel
theorem dX2_calculate_79 : decode cX2_calculate 79 = .ok (.invokestatic 72, 3) := by decide +kernel
theorem dX2_calculate_82 : decode cX2_calculate 82 = .ok (.iload 7, 2) := by decide +kernel
theorem dX2_calculate_84 : decode cX2_calculate 84 = .ok (.sipush 255, 3) := by decide +kernel
theorem dX2_calculate_87 : decode cX2_calculate 87 = .ok (.iand, 1) := by decide +kernel
theorem dX2_calculate_88 : decode cX2_calculate 88 = .ok (.iastore, 1) := by decide +kernel
theorem dX2_calculate_89 : decode cX2_calculate 89 = .ok (.iload_n 3, 1) := by decide +kernel
theorem dX2_calculate_90 : decode cX2_calculate 90 = .ok (.ifCond .ne 9, 3) := by decide +kernel
theorem dX2_calculate_93 : decode cX2_calculate 93 = .ok (.aload_n 0, 1) := by decide +kernel
theorem dX2_calculate_94 : decode cX2_calculate 94 = .ok (.iload 7, 2) := by decide +kernel
theorem dX2_calculate_96 : decode cX2_calculate 96 = .ok (.invokevirtual 85, 3) := by decide +kernel
theorem dX2_calculate_99 : decode cX2_calculate 99 = .ok (.return_, 1) := by decide +kernel
theorem dX2_resultWithCarry_0 : decode cX2_resultWithCarry 0 = .ok (.iload_n 1, 1) := by decide +kernel
theorem dX2_resultWithCarry_1 : decode cX2_resultWithCarry 1 = .ok (.tableswitch 144 7 20 #[71, 75, 144, 144, 87, 91, 95, 99, 110, 122, 144, 71, 144, 91], 71) := by decide +kernel
theorem dX2_resultWithCarry_72 : decode cX2_resultWithCarry 72 = .ok (.iload_n 2, 1) := by decide +kernel
theorem dX2_resultWithCarry_73 : decode cX2_resultWithCarry 73 = .ok (.iload_n 3, 1) := by decide +kernel
theorem dX2_resultWithCarry_74 : decode cX2_resultWithCarry 74 = .ok (.iadd, 1) := by decide +kernel
theorem dX2_resultWithCarry_75 : decode cX2_resultWithCarry 75 = .ok (.ireturn, 1) := by decide +kernel
theorem dX2_resultWithCarry_76 : decode cX2_resultWithCarry 76 = .ok (.iload_n 2, 1) := by decide +kernel
theorem dX2_resultWithCarry_77 : decode cX2_resultWithCarry 77 = .ok (.iload_n 3, 1) := by decide +kernel
theorem dX2_resultWithCarry_78 : decode cX2_resultWithCarry 78 = .ok (.iadd, 1) := by decide +kernel
theorem dX2_resultWithCarry_79 : decode cX2_resultWithCarry 79 = .ok (.aload_n 0, 1) := by decide +kernel
theorem dX2_resultWithCarry_80 : decode cX2_resultWithCarry 80 = .ok (.getfield 9, 3) := by decide +kernel
theorem dX2_resultWithCarry_83 : decode cX2_resultWithCarry 83 = .ok (.bipush 6, 2) := by decide +kernel
theorem dX2_resultWithCarry_85 : decode cX2_resultWithCarry 85 = .ok (.iaload, 1) := by decide +kernel
theorem dX2_resultWithCarry_86 : decode cX2_resultWithCarry 86 = .ok (.iadd, 1) := by decide +kernel
theorem dX2_resultWithCarry_87 : decode cX2_resultWithCarry 87 = .ok (.ireturn, 1) := by decide +kernel
theorem dX2_resultWithCarry_88 : decode cX2_resultWithCarry 88 = .ok (.iload_n 2, 1) := by decide +kernel
theorem dX2_resultWithCarry_89 : decode cX2_resultWithCarry 89 = .ok (.iload_n 3, 1) := by decide +kernel
theorem dX2_resultWithCarry_90 : decode cX2_resultWithCarry 90 = .ok (.iand, 1) := by decide +kernel
theorem dX2_resultWithCarry_91 : decode cX2_resultWithCarry 91 = .ok (.ireturn, 1) := by decide +kernel
theorem dX2_resultWithCarry_92 : decode cX2_resultWithCarry 92 = .ok (.iload_n 2, 1) := by decide +kernel
theorem dX2_resultWithCarry_93 : decode cX2_resultWithCarry 93 = .ok (.iload_n 3, 1) := by decide +kernel
theorem dX2_resultWithCarry_94 : decode cX2_resultWithCarry 94 = .ok (.ixor, 1) := by decide +kernel
theorem dX2_resultWithCarry_95 : decode cX2_resultWithCarry 95 = .ok (.ireturn, 1) := by decide +kernel
theorem dX2_resultWithCarry_96 : decode cX2_resultWithCarry 96 = .ok (.iload_n 2, 1) := by decide +kernel
theorem dX2_resultWithCarry_97 : decode cX2_resultWithCarry 97 = .ok (.iconst 1, 1) := by decide +kernel
theorem dX2_resultWithCarry_98 : decode cX2_resultWithCarry 98 = .ok (.ishl, 1) := by decide +kernel
theorem dX2_resultWithCarry_99 : decode cX2_resultWithCarry 99 = .ok (.ireturn, 1) := by decide +kernel
theorem dX2_resultWithCarry_100 : decode cX2_resultWithCarry 100 = .ok (.iload_n 2, 1) := by decide +kernel
theorem dX2_resultWithCarry_101 : decode cX2_resultWithCarry 101 = .ok (.iconst 1, 1) := by decide +kernel
theorem dX2_resultWithCarry_102 : decode cX2_resultWithCarry 102 = .ok (.ishr, 1) := by decide +kernel
theorem dX2_resultWithCarry_103 : decode cX2_resultWithCarry 103 = .ok (.iload_n 2, 1) := by decide +kernel
theorem dX2_resultWithCarry_104 : decode cX2_resultWithCarry 104 = .ok (.iconst 1, 1) := by decide +kernel
theorem dX2_resultWithCarry_105 : decode cX2_resultWithCarry 105 = .ok (.iand, 1) := by decide +kernel
theorem dX2_resultWithCarry_106 : decode cX2_resultWithCarry 106 = .ok (.bipush 8, 2) := by decide +kernel
theorem dX2_resultWithCarry_108 : decode cX2_resultWithCarry 108 = .ok (.ishl, 1) := by decide +kernel
theorem dX2_resultWithCarry_109 : decode cX2_resultWithCarry 109 = .ok (.ior, 1) := by decide +kernel
theorem dX2_resultWithCarry_110 : decode cX2_resultWithCarry 110 = .ok (.ireturn, 1) := by decide +kernel
theorem dX2_resultWithCarry_111 : decode cX2_resultWithCarry 111 = .ok (.iload_n 2, 1) := by decide +kernel
theorem dX2_resultWithCarry_112 : decode cX2_resultWithCarry 112 = .ok (.iconst 1, 1) := by decide +kernel
theorem dX2_resultWithCarry_113 : decode cX2_resultWithCarry 113 = .ok (.ishl, 1) := by decide +kernel
theorem dX2_resultWithCarry_114 : decode cX2_resultWithCarry 114 = .ok (.aload_n 0, 1) := by decide +kernel
theorem dX2_resultWithCarry_115 : decode cX2_resultWithCarry 115 = .ok (.getfield 9, 3) := by decide +kernel
theorem dX2_resultWithCarry_118 : decode cX2_resultWithCarry 118 = .ok (.bipush 6, 2) := by decide +kernel
theorem dX2_resultWithCarry_120 : decode cX2_resultWithCarry 120 = .ok (.iaload, 1) := by decide +kernel
theorem dX2_resultWithCarry_121 : decode cX2_resultWithCarry 121 = .ok (.ior, 1) := by decide +kernel
theorem dX2_resultWithCarry_122 : decode cX2_resultWithCarry 122 = .ok (.ireturn, 1) := by decide +kernel
theorem dX2_resultWithCarry_123 : decode cX2_resultWithCarry 123 = .ok (.iload_n 2, 1) := by decide +kernel
theorem dX2_resultWithCarry_124 : decode cX2_resultWithCarry 124 = .ok (.iconst 1, 1) := by decide +kernel
theorem dX2_resultWithCarry_125 : decode cX2_resultWithCarry 125 = .ok (.ishr, 1) := by decide +kernel
theorem dX2_resultWithCarry_126 : decode cX2_resultWithCarry 126 = .ok (.aload_n 0, 1) := by decide +kernel
theorem dX2_resultWithCarry_127 : decode cX2_resultWithCarry 127 = .ok (.getfield 9, 3) := by decide +kernel
theorem dX2_resultWithCarry_130 : decode cX2_resultWithCarry 130 = .ok (.bipush 6, 2) := by decide +kernel
theorem dX2_resultWithCarry_132 : decode cX2_resultWithCarry 132 = .ok (.iaload, 1) := by decide +kernel
theorem dX2_resultWithCarry_133 : decode cX2_resultWithCarry 133 = .ok (.bipush 7, 2) := by decide +kernel
theorem dX2_resultWithCarry_135 : decode cX2_resultWithCarry 135 = .ok (.ishl, 1) := by decide +kernel
theorem dX2_resultWithCarry_136 : decode cX2_resultWithCarry 136 = .ok (.ior, 1) := by decide +kernel
theorem dX2_resultWithCarry_137 : decode cX2_resultWithCarry 137 = .ok (.iload_n 2, 1) := by decide +kernel
theorem dX2_resultWithCarry_138 : decode cX2_resultWithCarry 138 = .ok (.iconst 1, 1) := by decide +kernel
theorem dX2_resultWithCarry_139 : decode cX2_resultWithCarry 139 = .ok (.iand, 1) := by decide +kernel
theorem dX2_resultWithCarry_140 : decode cX2_resultWithCarry 140 = .ok (.bipush 8, 2) := by decide +kernel
theorem dX2_resultWithCarry_142 : decode cX2_resultWithCarry 142 = .ok (.ishl, 1) := by decide +kernel
theorem dX2_resultWithCarry_143 : decode cX2_resultWithCarry 143 = .ok (.ior, 1) := by decide +kernel
theorem dX2_resultWithCarry_144 : decode cX2_resultWithCarry 144 = .ok (.ireturn, 1) := by decide +kernel
theorem dX2_resultWithCarry_145 : decode cX2_resultWithCarry 145 = .ok (.iload_n 2, 1) := by decide +kernel
theorem dX2_resultWithCarry_146 : decode cX2_resultWithCarry 146 = .ok (.iload_n 3, 1) := by decide +kernel
theorem dX2_resultWithCarry_147 : decode cX2_resultWithCarry 147 = .ok (.isub, 1) := by decide +kernel
theorem dX2_resultWithCarry_148 : decode cX2_resultWithCarry 148 = .ok (.ireturn, 1) := by decide +kernel
theorem dX2_makeFlags_0 : decode cX2_makeFlags 0 = .ok (.aload_n 0, 1) := by decide +kernel
theorem dX2_makeFlags_1 : decode cX2_makeFlags 1 = .ok (.getfield 9, 3) := by decide +kernel
theorem dX2_makeFlags_4 : decode cX2_makeFlags 4 = .ok (.iconst 5, 1) := by decide +kernel
theorem dX2_makeFlags_5 : decode cX2_makeFlags 5 = .ok (.iload_n 1, 1) := by decide +kernel
theorem dX2_makeFlags_6 : decode cX2_makeFlags 6 = .ok (.sipush 255, 3) := by decide +kernel
theorem dX2_makeFlags_9 : decode cX2_makeFlags 9 = .ok (.iand, 1) := by decide +kernel
theorem dX2_makeFlags_10 : decode cX2_makeFlags 10 = .ok (.ifCond .ne 7, 3) := by decide +kernel
theorem dX2_makeFlags_13 : decode cX2_makeFlags 13 = .ok (.iconst 1, 1) := by decide +kernel
theorem dX2_makeFlags_14 : decode cX2_makeFlags 14 = .ok (.goto 4, 3) := by decide +kernel
theorem dX2_makeFlags_17 : decode cX2_makeFlags 17 = .ok (.iconst 0, 1) := by decide +kernel
theorem dX2_makeFlags_18 : decode cX2_makeFlags 18 = .ok (.iastore, 1) := by decide +kernel
theorem dX2_makeFlags_19 : decode cX2_makeFlags 19 = .ok (.aload_n 0, 1) := by decide +kernel
theorem dX2_makeFlags_20 : decode cX2_makeFlags 20 = .ok (.getfield 9, 3) := by decide +kernel
theorem dX2_makeFlags_23 : decode cX2_makeFlags 23 = .ok (.bipush 6, 2) := by decide +kernel
theorem dX2_makeFlags_25 : decode cX2_makeFlags 25 = .ok (.iload_n 1, 1) := by decide +kernel
theorem dX2_makeFlags_26 : decode cX2_makeFlags 26 = .ok (.bipush 8, 2) := by decide +kernel
theorem dX2_makeFlags_28 : decode cX2_makeFlags 28 = .ok (.ishr, 1) := by decide +kernel
theorem dX2_makeFlags_29 : decode cX2_makeFlags 29 = .ok (.iconst 1, 1) := by decide +kernel
theorem dX2_makeFlags_30 : decode cX2_makeFlags 30 = .ok (.iand, 1) := by decide +kernel
theorem dX2_makeFlags_31 : decode cX2_makeFlags 31 = .ok (.iastore, 1) := by decide +kernel
theorem dX2_makeFlags_32 : decode cX2_makeFlags 32 = .ok (.aload_n 0, 1) := by decide +kernel
theorem dX2_makeFlags_33 : decode cX2_makeFlags 33 = .ok (.getfield 9, 3) := by decide +kernel
theorem dX2_makeFlags_36 : decode cX2_makeFlags 36 = .ok (.bipush 7, 2) := by decide +kernel
theorem dX2_makeFlags_38 : decode cX2_makeFlags 38 = .ok (.iload_n 1, 1) := by decide +kernel
theorem dX2_makeFlags_39 : decode cX2_makeFlags 39 = .ok (.bipush 7, 2) := by decide +kernel
theorem dX2_makeFlags_41 : decode cX2_makeFlags 41 = .ok (.ishr, 1) := by decide +kernel
theorem dX2_makeFlags_42 : decode cX2_makeFlags 42 = .ok (.iconst 1, 1) := by decide +kernel
theorem dX2_makeFlags_43 : decode cX2_makeFlags 43 = .ok (.iand, 1) := by decide +kernel
theorem dX2_makeFlags_44 : decode cX2_makeFlags 44 = .ok (.iastore, 1) := by decide +kernel
theorem dX2_makeFlags_45 : decode cX2_makeFlags 45 = .ok (.return_, 1) := by decide +kernel
set_option maxRecDepth 100000 in
theorem ggX2_steer_X1_n : GoodIn wsX2_steer wsX1_n := goodIn_r _ [5] rfl (by decide +kernel)
set_option maxRecDepth 100000 in
theorem gX2_steer_X1_n : GoodIn wsX2_steer (va_wsS RX2 75 yX1_n wsX1_n) := goodIn_app (goodIn_of _ (by decide +kernel)) ggX2_steer_X1_n
set_option maxRecDepth 100000 in
theorem ggX2_steer_X1_w : GoodIn wsX2_steer wsX1_w := goodIn_r _ [8] rfl (by decide +kernel)
set_option maxRecDepth 100000 in
theorem gX2_steer_X1_w : GoodIn wsX2_steer (va_wsS RX2 88 yX1_w wsX1_w) := goodIn_app (goodIn_of _ (by decide +kernel)) ggX2_steer_X1_w
set_option maxRecDepth 100000 in
theorem ggX2_steer_X2_jumpIf : GoodIn wsX2_steer wsX2_jumpIf := goodIn_r _ [13, 1, 35, 36, 37, 38, 39, 40] rfl (by decide +kernel)
set_option maxRecDepth 100000 in
theorem gX2_steer_X2_jumpIf : GoodIn wsX2_steer (wsV RX2 91 RX2 yX2_jumpIf wsX2_jumpIf) := goodIn_app (goodIn_of _ (by decide +kernel)) ggX2_steer_X2_jumpIf
set_option maxRecDepth 100000 in
theorem ggX2_steer_X2_push : GoodIn wsX2_steer wsX2_push := goodIn_r _ [17, 1, 18, 19, 20, 12, 21, 22, 23, 35, 36, 37, 38, 39, 40] rfl (by decide +kernel)
set_option maxRecDepth 100000 in
theorem gX2_steer_X2_push : GoodIn wsX2_steer (wsV RX2 37 RX2 yX2_push wsX2_push) := goodIn_app (goodIn_of _ (by decide +kernel)) ggX2_steer_X2_push
set_option maxRecDepth 100000 in
theorem ggX2_steer_X2_pop : GoodIn wsX2_steer wsX2_pop := goodIn_r _ [27, 22, 1, 35, 36, 37, 38, 39, 40] rfl (by decide +kernel)
set_option maxRecDepth 100000 in
theorem gX2_steer_X2_pop : GoodIn wsX2_steer (wsV RX2 94 RX2 yX2_pop wsX2_pop) := goodIn_app (goodIn_of _ (by decide +kernel)) ggX2_steer_X2_pop
set_option maxRecDepth 100000 in
theorem ggX2_steer_X1_d : GoodIn wsX2_steer wsX1_d := goodIn_r _ [30] rfl (by decide +kernel)
set_option maxRecDepth 100000 in
theorem gX2_steer_X1_d : GoodIn wsX2_steer (va_wsS RX2 72 yX1_d wsX1_d) := goodIn_app (goodIn_of _ (by decide +kernel)) ggX2_steer_X1_d
set_option maxRecDepth 100000 in
theorem ggX2_steer_X2_countDown : GoodIn wsX2_steer wsX2_countDown := goodIn_r _ [34, 1, 35, 36, 37, 38, 39, 40] rfl (by decide +kernel)
set_option maxRecDepth 100000 in
theorem gX2_steer_X2_countDown : GoodIn wsX2_steer (wsV RX2 98 RX2 yX2_countDown wsX2_countDown) := goodIn_app (goodIn_of _ (by decide +kernel)) ggX2_steer_X2_countDown
theorem dX2_steer_0 : decode cX2_steer 0 = .ok (.iload_n 1, 1) := by decide +kernel
theorem dX2_steer_1 : decode cX2_steer 1 = .ok (.lookupswitch 153 #[(4, 59), (23, 70), (24, 84), (25, 99), (26, 124), (29, 138)], 59) := by decide +kernel
theorem dX2_steer_60 : decode cX2_steer 60 = .ok (.aload_n 0, 1) := by decide +kernel
theorem dX2_steer_61 : decode cX2_steer 61 = .ok (.getfield 9, 3) := by decide +kernel
theorem dX2_steer_64 : decode cX2_steer 64 = .ok (.bipush 8, 2) := by decide +kernel
theorem dX2_steer_66 : decode cX2_steer 66 = .ok (.iconst 1, 1) := by decide +kernel
theorem dX2_steer_67 : decode cX2_steer 67 = .ok (.iastore, 1) := by decide +kernel
theorem dX2_steer_68 : decode cX2_steer 68 = .ok (.goto 86, 3) := by decide +kernel
theorem dX2_steer_71 : decode cX2_steer 71 = .ok (.aload_n 0, 1) := by decide +kernel
theorem dX2_steer_72 : decode cX2_steer 72 = .ok (.getfield 9, 3) := by decide +kernel
theorem dX2_steer_75 : decode cX2_steer 75 = .ok (.bipush 9, 2) := by decide +kernel
theorem dX2_steer_77 : decode cX2_steer 77 = .ok (.iload_n 2, 1) := by decide +kernel
theorem dX2_steer_78 : decode cX2_steer 78 = .ok (.invokestatic 75, 3) := by decide +kernel
theorem dX2_steer_81 : decode cX2_steer 81 = .ok (.iastore, 1) := by decide +kernel
theorem dX2_steer_82 : decode cX2_steer 82 = .ok (.goto 72, 3) := by decide +kernel
theorem dX2_steer_85 : decode cX2_steer 85 = .ok (.aload_n 0, 1) := by decide +kernel
theorem dX2_steer_86 : decode cX2_steer 86 = .ok (.iload_n 2, 1) := by decide +kernel
theorem dX2_steer_87 : decode cX2_steer 87 = .ok (.invokestatic 88, 3) := by decide +kernel
theorem dX2_steer_90 : decode cX2_steer 90 = .ok (.iload_n 2, 1) := by decide +kernel
theorem dX2_steer_91 : decode cX2_steer 91 = .ok (.invokestatic 75, 3) := by decide +kernel
theorem dX2_steer_94 : decode cX2_steer 94 = .ok (.invokevirtual 91, 3) := by decide +kernel
theorem dX2_steer_97 : decode cX2_steer 97 = .ok (.goto 57, 3) := by decide +kernel
theorem dX2_steer_100 : decode cX2_steer 100 = .ok (.aload_n 0, 1) := by decide +kernel
theorem dX2_steer_101 : decode cX2_steer 101 = .ok (.aload_n 0, 1) := by decide +kernel
theorem dX2_steer_102 : decode cX2_steer 102 = .ok (.getfield 9, 3) := by decide +kernel
theorem dX2_steer_105 : decode cX2_steer 105 = .ok (.bipush 9, 2) := by decide +kernel
theorem dX2_steer_107 : decode cX2_steer 107 = .ok (.iaload, 1) := by decide +kernel
theorem dX2_steer_108 : decode cX2_steer 108 = .ok (.invokevirtual 37, 3) := by decide +kernel
theorem dX2_steer_111 : decode cX2_steer 111 = .ok (.aload_n 0, 1) := by decide +kernel
theorem dX2_steer_112 : decode cX2_steer 112 = .ok (.getfield 9, 3) := by decide +kernel
theorem dX2_steer_115 : decode cX2_steer 115 = .ok (.bipush 9, 2) := by decide +kernel
theorem dX2_steer_117 : decode cX2_steer 117 = .ok (.iload_n 2, 1) := by decide +kernel
theorem dX2_steer_118 : decode cX2_steer 118 = .ok (.invokestatic 75, 3) := by decide +kernel
theorem dX2_steer_121 : decode cX2_steer 121 = .ok (.iastore, 1) := by decide +kernel
theorem dX2_steer_122 : decode cX2_steer 122 = .ok (.goto 32, 3) := by decide +kernel
theorem dX2_steer_125 : decode cX2_steer 125 = .ok (.aload_n 0, 1) := by decide +kernel
theorem dX2_steer_126 : decode cX2_steer 126 = .ok (.getfield 9, 3) := by decide +kernel
theorem dX2_steer_129 : decode cX2_steer 129 = .ok (.bipush 9, 2) := by decide +kernel
theorem dX2_steer_131 : decode cX2_steer 131 = .ok (.aload_n 0, 1) := by decide +kernel
theorem dX2_steer_132 : decode cX2_steer 132 = .ok (.invokevirtual 94, 3) := by decide +kernel
theorem dX2_steer_135 : decode cX2_steer 135 = .ok (.iastore, 1) := by decide +kernel
theorem dX2_steer_136 : decode cX2_steer 136 = .ok (.goto 18, 3) := by decide +kernel
theorem dX2_steer_139 : decode cX2_steer 139 = .ok (.aload_n 0, 1) := by decide +kernel
theorem dX2_steer_140 : decode cX2_steer 140 = .ok (.iload_n 2, 1) := by decide +kernel
theorem dX2_steer_141 : decode cX2_steer 141 = .ok (.invokestatic 72, 3) := by decide +kernel
theorem dX2_steer_144 : decode cX2_steer 144 = .ok (.iload_n 2, 1) := by decide +kernel
theorem dX2_steer_145 : decode cX2_steer 145 = .ok (.invokestatic 75, 3) := by decide +kernel
theorem dX2_steer_148 : decode cX2_steer 148 = .ok (.invokevirtual 98, 3) := by decide +kernel
theorem dX2_steer_151 : decode cX2_steer 151 = .ok (.goto 3, 3) := by decide +kernel
theorem dX2_steer_154 : decode cX2_steer 154 = .ok (.return_, 1) := by decide +kernel
theorem dX2_jumpIf_0 : decode cX2_jumpIf 0 = .ok (.iload_n 1, 1) := by decide +kernel
theorem dX2_jumpIf_1 : decode cX2_jumpIf 1 = .ok (.iconst 2, 1) := by decide +kernel
theorem dX2_jumpIf_2 : decode cX2_jumpIf 2 = .ok (.if_icmp .gt 7, 3) := by decide +kernel
theorem dX2_jumpIf_5 : decode cX2_jumpIf 5 = .ok (.iconst 5, 1) := by decide +kernel
theorem dX2_jumpIf_6 : decode cX2_jumpIf 6 = .ok (.goto 15, 3) := by decide +kernel
theorem dX2_jumpIf_9 : decode cX2_jumpIf 9 = .ok (.iload_n 1, 1) := by decide +kernel
theorem dX2_jumpIf_10 : decode cX2_jumpIf 10 = .ok (.iconst 4, 1) := by decide +kernel
theorem dX2_jumpIf_11 : decode cX2_jumpIf 11 = .ok (.if_icmp .gt 8, 3) := by decide +kernel
theorem dX2_jumpIf_14 : decode cX2_jumpIf 14 = .ok (.bipush 6, 2) := by decide +kernel
theorem dX2_jumpIf_16 : decode cX2_jumpIf 16 = .ok (.goto 5, 3) := by decide +kernel
theorem dX2_jumpIf_19 : decode cX2_jumpIf 19 = .ok (.bipush 7, 2) := by decide +kernel
theorem dX2_jumpIf_21 : decode cX2_jumpIf 21 = .ok (.istore_n 3, 1) := by decide +kernel
theorem dX2_jumpIf_22 : decode cX2_jumpIf 22 = .ok (.aload_n 0, 1) := by decide +kernel
theorem dX2_jumpIf_23 : decode cX2_jumpIf 23 = .ok (.getfield 9, 3) := by decide +kernel
theorem dX2_jumpIf_26 : decode cX2_jumpIf 26 = .ok (.iload_n 3, 1) := by decide +kernel
theorem dX2_jumpIf_27 : decode cX2_jumpIf 27 = .ok (.iaload, 1) := by decide +kernel
theorem dX2_jumpIf_28 : decode cX2_jumpIf 28 = .ok (.iload_n 1, 1) := by decide +kernel
theorem dX2_jumpIf_29 : decode cX2_jumpIf 29 = .ok (.iconst 1, 1) := by decide +kernel
theorem dX2_jumpIf_30 : decode cX2_jumpIf 30 = .ok (.iand, 1) := by decide +kernel
theorem dX2_jumpIf_31 : decode cX2_jumpIf 31 = .ok (.if_icmp .ne 11, 3) := by decide +kernel
theorem dX2_jumpIf_34 : decode cX2_jumpIf 34 = .ok (.aload_n 0, 1) := by decide +kernel
theorem dX2_jumpIf_35 : decode cX2_jumpIf 35 = .ok (.getfield 9, 3) := by decide +kernel
theorem dX2_jumpIf_38 : decode cX2_jumpIf 38 = .ok (.bipush 9, 2) := by decide +kernel
theorem dX2_jumpIf_40 : decode cX2_jumpIf 40 = .ok (.iload_n 2, 1) := by decide +kernel
theorem dX2_jumpIf_41 : decode cX2_jumpIf 41 = .ok (.iastore, 1) := by decide +kernel
theorem dX2_jumpIf_42 : decode cX2_jumpIf 42 = .ok (.return_, 1) := by decide +kernel
theorem dX2_countDown_0 : decode cX2_countDown 0 = .ok (.aload_n 0, 1) := by decide +kernel
theorem dX2_countDown_1 : decode cX2_countDown 1 = .ok (.getfield 9, 3) := by decide +kernel
theorem dX2_countDown_4 : decode cX2_countDown 4 = .ok (.iload_n 1, 1) := by decide +kernel
theorem dX2_countDown_5 : decode cX2_countDown 5 = .ok (.aload_n 0, 1) := by decide +kernel
theorem dX2_countDown_6 : decode cX2_countDown 6 = .ok (.getfield 9, 3) := by decide +kernel
theorem dX2_countDown_9 : decode cX2_countDown 9 = .ok (.iload_n 1, 1) := by decide +kernel
theorem dX2_countDown_10 : decode cX2_countDown 10 = .ok (.iaload, 1) := by decide +kernel
theorem dX2_countDown_11 : decode cX2_countDown 11 = .ok (.iconst 1, 1) := by decide +kernel
theorem dX2_countDown_12 : decode cX2_countDown 12 = .ok (.isub, 1) := by decide +kernel
theorem dX2_countDown_13 : decode cX2_countDown 13 = .ok (.sipush 255, 3) := by decide +kernel
theorem dX2_countDown_16 : decode cX2_countDown 16 = .ok (.iand, 1) := by decide +kernel
theorem dX2_countDown_17 : decode cX2_countDown 17 = .ok (.iastore, 1) := by decide +kernel
theorem dX2_countDown_18 : decode cX2_countDown 18 = .ok (.aload_n 0, 1) := by decide +kernel
theorem dX2_countDown_19 : decode cX2_countDown 19 = .ok (.getfield 9, 3) := by decide +kernel
theorem dX2_countDown_22 : decode cX2_countDown 22 = .ok (.iload_n 1, 1) := by decide +kernel
theorem dX2_countDown_23 : decode cX2_countDown 23 = .ok (.iaload, 1) := by decide +kernel
theorem dX2_countDown_24 : decode cX2_countDown 24 = .ok (.ifCond .eq 11, 3) := by decide +kernel
theorem dX2_countDown_27 : decode cX2_countDown 27 = .ok (.aload_n 0, 1) := by decide +kernel
theorem dX2_countDown_28 : decode cX2_countDown 28 = .ok (.getfield 9, 3) := by decide +kernel
theorem dX2_countDown_31 : decode cX2_countDown 31 = .ok (.bipush 9, 2) := by decide +kernel
theorem dX2_countDown_33 : decode cX2_countDown 33 = .ok (.iload_n 2, 1) := by decide +kernel
theorem dX2_countDown_34 : decode cX2_countDown 34 = .ok (.iastore, 1) := by decide +kernel
theorem dX2_countDown_35 : decode cX2_countDown 35 = .ok (.return_, 1) := by decide +kernel
set_option maxRecDepth 100000 in
theorem ggX2_move_X1_d : GoodIn wsX2_move wsX1_d := goodIn_r _ [8] rfl (by decide +kernel)
set_option maxRecDepth 100000 in
theorem gX2_move_X1_d : GoodIn wsX2_move (va_wsS RX2 72 yX1_d wsX1_d) := goodIn_app (goodIn_of _ (by decide +kernel)) ggX2_move_X1_d
set_option maxRecDepth 100000 in
theorem ggX2_move_X1_s : GoodIn wsX2_move wsX1_s := goodIn_r _ [11] rfl (by decide +kernel)
set_option maxRecDepth 100000 in
theorem gX2_move_X1_s : GoodIn wsX2_move (va_wsS RX2 78 yX1_s wsX1_s) := goodIn_app (goodIn_of _ (by decide +kernel)) ggX2_move_X1_s
set_option maxRecDepth 100000 in
theorem ggX2_move_X1_n : GoodIn wsX2_move wsX1_n := goodIn_r _ [14] rfl (by decide +kernel)
set_option maxRecDepth 100000 in
theorem gX2_move_X1_n : GoodIn wsX2_move (va_wsS RX2 75 yX1_n wsX1_n) := goodIn_app (goodIn_of _ (by decide +kernel)) ggX2_move_X1_n
set_option maxRecDepth 100000 in
theorem ggX2_move_X2_give : GoodIn wsX2_move wsX2_give := goodIn_r _ [19, 20, 21, 47, 48, 49, 50, 51, 52] rfl (by decide +kernel)
set_option maxRecDepth 100000 in
theorem gX2_move_X2_give : GoodIn wsX2_move (wsV RX2 101 RX2 yX2_give wsX2_give) := goodIn_app (goodIn_of _ (by decide +kernel)) ggX2_move_X2_give
set_option maxRecDepth 100000 in
theorem ggX2_move_X3_takeFirst : GoodIn wsX2_move wsX3_takeFirst := goodIn_r _ [26, 27, 28, 29, 30, 31, 32, 25, 33, 53, 54, 55] rfl (by decide +kernel)
set_option maxRecDepth 100000 in
theorem gX2_move_X3_takeFirst : GoodIn wsX2_move (wsV RX2 107 RX3 yX3_takeFirst wsX3_takeFirst) := goodIn_app (goodIn_of _ (by decide +kernel)) ggX2_move_X3_takeFirst
set_option maxRecDepth 100000 in
theorem ggX2_move_X2_write : GoodIn wsX2_move wsX2_write := goodIn_r _ [37, 4, 38, 47, 48, 49, 50, 51, 52] rfl (by decide +kernel)
set_option maxRecDepth 100000 in
theorem gX2_move_X2_write : GoodIn wsX2_move (wsV RX2 110 RX2 yX2_write wsX2_write) := goodIn_app (goodIn_of _ (by decide +kernel)) ggX2_move_X2_write
set_option maxRecDepth 100000 in
theorem ggX2_move_X2_push : GoodIn wsX2_move wsX2_push := goodIn_r _ [42, 1, 34, 35, 36, 18, 37, 4, 38, 47, 48, 49, 50, 51, 52] rfl (by decide +kernel)
set_option maxRecDepth 100000 in
theorem gX2_move_X2_push : GoodIn wsX2_move (wsV RX2 37 RX2 yX2_push wsX2_push) := goodIn_app (goodIn_of _ (by decide +kernel)) ggX2_move_X2_push
set_option maxRecDepth 100000 in
theorem ggX2_move_X2_pop : GoodIn wsX2_move wsX2_pop := goodIn_r _ [46, 4, 1, 47, 48, 49, 50, 51, 52] rfl (by decide +kernel)
set_option maxRecDepth 100000 in
theorem gX2_move_X2_pop : GoodIn wsX2_move (wsV RX2 94 RX2 yX2_pop wsX2_pop) := goodIn_app (goodIn_of _ (by decide +kernel)) ggX2_move_X2_pop
theorem dX2_move_0 : decode cX2_move 0 = .ok (.iload_n 2, 1) := by decide +kernel
theorem dX2_move_1 : decode cX2_move 1 = .ok (.invokestatic 72, 3) := by decide +kernel
theorem dX2_move_4 : decode cX2_move 4 = .ok (.istore_n 3, 1) := by decide +kernel
theorem dX2_move_5 : decode cX2_move 5 = .ok (.aload_n 0, 1) := by decide +kernel
theorem dX2_move_6 : decode cX2_move 6 = .ok (.getfield 9, 3) := by decide +kernel
theorem dX2_move_9 : decode cX2_move 9 = .ok (.iload_n 2, 1) := by decide +kernel
theorem dX2_move_10 : decode cX2_move 10 = .ok (.invokestatic 78, 3) := by decide +kernel
theorem dX2_move_13 : decode cX2_move 13 = .ok (.iaload, 1) := by decide +kernel
theorem dX2_move_14 : decode cX2_move 14 = .ok (.iload_n 2, 1) := by decide +kernel
theorem dX2_move_15 : decode cX2_move 15 = .ok (.invokestatic 75, 3) := by decide +kernel
theorem dX2_move_18 : decode cX2_move 18 = .ok (.iadd, 1) := by decide +kernel
theorem dX2_move_19 : decode cX2_move 19 = .ok (.sipush 255, 3) := by decide +kernel
theorem dX2_move_22 : decode cX2_move 22 = .ok (.iand, 1) := by decide +kernel
theorem dX2_move_23 : decode cX2_move 23 = .ok (.istore 4, 2) := by decide +kernel
theorem dX2_move_25 : decode cX2_move 25 = .ok (.iload_n 1, 1) := by decide +kernel
theorem dX2_move_26 : decode cX2_move 26 = .ok (.tableswitch 264 2 28 #[122, 135, 264, 165, 176, 264, 264, 264, 264, 264, 264, 264, 264, 264, 264, 194, 264, 264, 264, 207, 223, 264, 264, 264, 264, 238, 251], 122) := by decide +kernel
theorem dX2_move_148 : decode cX2_move 148 = .ok (.aload_n 0, 1) := by decide +kernel
theorem dX2_move_149 : decode cX2_move 149 = .ok (.aload_n 0, 1) := by decide +kernel
theorem dX2_move_150 : decode cX2_move 150 = .ok (.getfield 9, 3) := by decide +kernel
theorem dX2_move_153 : decode cX2_move 153 = .ok (.iconst 0, 1) := by decide +kernel
theorem dX2_move_154 : decode cX2_move 154 = .ok (.iaload, 1) := by decide +kernel
theorem dX2_move_155 : decode cX2_move 155 = .ok (.invokevirtual 101, 3) := by decide +kernel
theorem dX2_move_158 : decode cX2_move 158 = .ok (.goto 132, 3) := by decide +kernel
theorem dX2_move_161 : decode cX2_move 161 = .ok (.aload_n 0, 1) := by decide +kernel
theorem dX2_move_162 : decode cX2_move 162 = .ok (.getfield 9, 3) := by decide +kernel
theorem dX2_move_165 : decode cX2_move 165 = .ok (.iconst 0, 1) := by decide +kernel
theorem dX2_move_166 : decode cX2_move 166 = .ok (.aload_n 0, 1) := by decide +kernel
theorem dX2_move_167 : decode cX2_move 167 = .ok (.getfield 23, 3) := by decide +kernel
theorem dX2_move_170 : decode cX2_move 170 = .ok (.getfield 104, 3) := by decide +kernel
theorem dX2_move_173 : decode cX2_move 173 = .ok (.ifCond .ne 7, 3) := by decide +kernel
theorem dX2_move_176 : decode cX2_move 176 = .ok (.iconst 0, 1) := by decide +kernel
theorem dX2_move_177 : decode cX2_move 177 = .ok (.goto 10, 3) := by decide +kernel
theorem dX2_move_180 : decode cX2_move 180 = .ok (.aload_n 0, 1) := by decide +kernel
theorem dX2_move_181 : decode cX2_move 181 = .ok (.getfield 23, 3) := by decide +kernel
theorem dX2_move_184 : decode cX2_move 184 = .ok (.invokevirtual 107, 3) := by decide +kernel
theorem dX2_move_187 : decode cX2_move 187 = .ok (.iastore, 1) := by decide +kernel
theorem dX2_move_188 : decode cX2_move 188 = .ok (.goto 102, 3) := by decide +kernel
theorem dX2_move_191 : decode cX2_move 191 = .ok (.aload_n 0, 1) := by decide +kernel
theorem dX2_move_192 : decode cX2_move 192 = .ok (.getfield 9, 3) := by decide +kernel
theorem dX2_move_195 : decode cX2_move 195 = .ok (.bipush 8, 2) := by decide +kernel
theorem dX2_move_197 : decode cX2_move 197 = .ok (.iconst 0, 1) := by decide +kernel
theorem dX2_move_198 : decode cX2_move 198 = .ok (.iastore, 1) := by decide +kernel
theorem dX2_move_199 : decode cX2_move 199 = .ok (.goto 91, 3) := by decide +kernel
theorem dX2_move_202 : decode cX2_move 202 = .ok (.aload_n 0, 1) := by decide +kernel
theorem dX2_move_203 : decode cX2_move 203 = .ok (.getfield 9, 3) := by decide +kernel
theorem dX2_move_206 : decode cX2_move 206 = .ok (.iload_n 3, 1) := by decide +kernel
theorem dX2_move_207 : decode cX2_move 207 = .ok (.aload_n 0, 1) := by decide +kernel
theorem dX2_move_208 : decode cX2_move 208 = .ok (.getfield 9, 3) := by decide +kernel
theorem dX2_move_211 : decode cX2_move 211 = .ok (.iload_n 2, 1) := by decide +kernel
theorem dX2_move_212 : decode cX2_move 212 = .ok (.invokestatic 78, 3) := by decide +kernel
theorem dX2_move_215 : decode cX2_move 215 = .ok (.iaload, 1) := by decide +kernel
theorem dX2_move_216 : decode cX2_move 216 = .ok (.iastore, 1) := by decide +kernel
theorem dX2_move_217 : decode cX2_move 217 = .ok (.goto 73, 3) := by decide +kernel
theorem dX2_move_220 : decode cX2_move 220 = .ok (.aload_n 0, 1) := by decide +kernel
theorem dX2_move_221 : decode cX2_move 221 = .ok (.getfield 9, 3) := by decide +kernel
theorem dX2_move_224 : decode cX2_move 224 = .ok (.iload_n 3, 1) := by decide +kernel
theorem dX2_move_225 : decode cX2_move 225 = .ok (.iload_n 2, 1) := by decide +kernel
theorem dX2_move_226 : decode cX2_move 226 = .ok (.invokestatic 75, 3) := by decide +kernel
theorem dX2_move_229 : decode cX2_move 229 = .ok (.iastore, 1) := by decide +kernel
theorem dX2_move_230 : decode cX2_move 230 = .ok (.goto 60, 3) := by decide +kernel
theorem dX2_move_233 : decode cX2_move 233 = .ok (.aload_n 0, 1) := by decide +kernel
theorem dX2_move_234 : decode cX2_move 234 = .ok (.getfield 9, 3) := by decide +kernel
theorem dX2_move_237 : decode cX2_move 237 = .ok (.iload_n 3, 1) := by decide +kernel
theorem dX2_move_238 : decode cX2_move 238 = .ok (.aload_n 0, 1) := by decide +kernel
theorem dX2_move_239 : decode cX2_move 239 = .ok (.getfield 15, 3) := by decide +kernel
theorem dX2_move_242 : decode cX2_move 242 = .ok (.iload 4, 2) := by decide +kernel
theorem dX2_move_244 : decode cX2_move 244 = .ok (.iaload, 1) := by decide +kernel
theorem dX2_move_245 : decode cX2_move 245 = .ok (.iastore, 1) := by decide +kernel
theorem dX2_move_246 : decode cX2_move 246 = .ok (.goto 44, 3) := by decide +kernel
theorem dX2_move_249 : decode cX2_move 249 = .ok (.aload_n 0, 1) := by decide +kernel
theorem dX2_move_250 : decode cX2_move 250 = .ok (.iload 4, 2) := by decide +kernel
theorem dX2_move_252 : decode cX2_move 252 = .ok (.aload_n 0, 1) := by decide +kernel
theorem dX2_move_253 : decode cX2_move 253 = .ok (.getfield 9, 3) := by decide +kernel
theorem dX2_move_256 : decode cX2_move 256 = .ok (.iload_n 3, 1) := by decide +kernel
theorem dX2_move_257 : decode cX2_move 257 = .ok (.iaload, 1) := by decide +kernel
theorem dX2_move_258 : decode cX2_move 258 = .ok (.invokevirtual 110, 3) := by decide +kernel
theorem dX2_move_261 : decode cX2_move 261 = .ok (.goto 29, 3) := by decide +kernel
theorem dX2_move_264 : decode cX2_move 264 = .ok (.aload_n 0, 1) := by decide +kernel
theorem dX2_move_265 : decode cX2_move 265 = .ok (.aload_n 0, 1) := by decide +kernel
theorem dX2_move_266 : decode cX2_move 266 = .ok (.getfield 9, 3) := by decide +kernel
theorem dX2_move_269 : decode cX2_move 269 = .ok (.iload_n 3, 1) := by decide +kernel
theorem dX2_move_270 : decode cX2_move 270 = .ok (.iaload, 1) := by decide +kernel
theorem dX2_move_271 : decode cX2_move 271 = .ok (.invokevirtual 37, 3) := by decide +kernel
theorem dX2_move_274 : decode cX2_move 274 = .ok (.goto 16, 3) := by decide +kernel
theorem dX2_move_277 : decode cX2_move 277 = .ok (.aload_n 0, 1) := by decide +kernel
theorem dX2_move_278 : decode cX2_move 278 = .ok (.getfield 9, 3) := by decide +kernel
theorem dX2_move_281 : decode cX2_move 281 = .ok (.iload_n 3, 1) := by decide +kernel
theorem dX2_move_282 : decode cX2_move 282 = .ok (.aload_n 0, 1) := by decide +kernel
theorem dX2_move_283 : decode cX2_move 283 = .ok (.invokevirtual 94, 3) := by decide +kernel
theorem dX2_move_286 : decode cX2_move 286 = .ok (.iastore, 1) := by decide +kernel
theorem dX2_move_287 : decode cX2_move 287 = .ok (.goto 3, 3) := by decide +kernel
theorem dX2_move_290 : decode cX2_move 290 = .ok (.return_, 1) := by decide +kernel
theorem dX2_give_0 : decode cX2_give 0 = .ok (.aload_n 0, 1) := by decide +kernel
theorem dX2_give_1 : decode cX2_give 1 = .ok (.getfield 34, 3) := by decide +kernel
theorem dX2_give_4 : decode cX2_give 4 = .ok (.bipush 100, 2) := by decide +kernel
theorem dX2_give_6 : decode cX2_give 6 = .ok (.if_icmp .ge 13, 3) := by decide +kernel
theorem dX2_give_9 : decode cX2_give 9 = .ok (.aload_n 0, 1) := by decide +kernel
theorem dX2_give_10 : decode cX2_give 10 = .ok (.getfield 27, 3) := by decide +kernel
theorem dX2_give_13 : decode cX2_give 13 = .ok (.aload_n 0, 1) := by decide +kernel
theorem dX2_give_14 : decode cX2_give 14 = .ok (.getfield 34, 3) := by decide +kernel
theorem dX2_give_17 : decode cX2_give 17 = .ok (.iload_n 1, 1) := by decide +kernel
theorem dX2_give_18 : decode cX2_give 18 = .ok (.iastore, 1) := by decide +kernel
theorem dX2_give_19 : decode cX2_give 19 = .ok (.aload_n 0, 1) := by decide +kernel
theorem dX2_give_20 : decode cX2_give 20 = .ok (.dup, 1) := by decide +kernel
theorem dX2_give_21 : decode cX2_give 21 = .ok (.getfield 34, 3) := by decide +kernel
theorem dX2_give_24 : decode cX2_give 24 = .ok (.iconst 1, 1) := by decide +kernel
theorem dX2_give_25 : decode cX2_give 25 = .ok (.iadd, 1) := by decide +kernel
theorem dX2_give_26 : decode cX2_give 26 = .ok (.putfield 34, 3) := by decide +kernel
theorem dX2_give_29 : decode cX2_give 29 = .ok (.return_, 1) := by decide +kernel
set_option maxRecDepth 100000 in
theorem ggX2_push_X2_write : GoodIn wsX2_push wsX2_write := goodIn_r _ [6, 7, 8, 9, 10, 11, 12, 13, 14] rfl (by decide +kernel)
set_option maxRecDepth 100000 in
theorem gX2_push_X2_write : GoodIn wsX2_push (wsV RX2 110 RX2 yX2_write wsX2_write) := goodIn_app (goodIn_of _ (by decide +kernel)) ggX2_push_X2_write
theorem dX2_push_0 : decode cX2_push 0 = .ok (.aload_n 0, 1) := by decide +kernel
theorem dX2_push_1 : decode cX2_push 1 = .ok (.getfield 9, 3) := by decide +kernel
theorem dX2_push_4 : decode cX2_push 4 = .ok (.iconst 4, 1) := by decide +kernel
theorem dX2_push_5 : decode cX2_push 5 = .ok (.aload_n 0, 1) := by decide +kernel
theorem dX2_push_6 : decode cX2_push 6 = .ok (.getfield 9, 3) := by decide +kernel
theorem dX2_push_9 : decode cX2_push 9 = .ok (.iconst 4, 1) := by decide +kernel
theorem dX2_push_10 : decode cX2_push 10 = .ok (.iaload, 1) := by decide +kernel
theorem dX2_push_11 : decode cX2_push 11 = .ok (.iconst 1, 1) := by decide +kernel
theorem dX2_push_12 : decode cX2_push 12 = .ok (.isub, 1) := by decide +kernel
theorem dX2_push_13 : decode cX2_push 13 = .ok (.sipush 255, 3) := by decide +kernel
theorem dX2_push_16 : decode cX2_push 16 = .ok (.iand, 1) := by decide +kernel
theorem dX2_push_17 : decode cX2_push 17 = .ok (.iastore, 1) := by decide +kernel
theorem dX2_push_18 : decode cX2_push 18 = .ok (.aload_n 0, 1) := by decide +kernel
theorem dX2_push_19 : decode cX2_push 19 = .ok (.aload_n 0, 1) := by decide +kernel
theorem dX2_push_20 : decode cX2_push 20 = .ok (.getfield 9, 3) := by decide +kernel
theorem dX2_push_23 : decode cX2_push 23 = .ok (.iconst 4, 1) := by decide +kernel
theorem dX2_push_24 : decode cX2_push 24 = .ok (.iaload, 1) := by decide +kernel
theorem dX2_push_25 : decode cX2_push 25 = .ok (.iload_n 1, 1) := by decide +kernel
theorem dX2_push_26 : decode cX2_push 26 = .ok (.invokevirtual 110, 3) := by decide +kernel
theorem dX2_push_29 : decode cX2_push 29 = .ok (.return_, 1) := by decide +kernel
theorem dX2_pop_0 : decode cX2_pop 0 = .ok (.aload_n 0, 1) := by decide +kernel
theorem dX2_pop_1 : decode cX2_pop 1 = .ok (.getfield 15, 3) := by decide +kernel
theorem dX2_pop_4 : decode cX2_pop 4 = .ok (.aload_n 0, 1) := by decide +kernel
theorem dX2_pop_5 : decode cX2_pop 5 = .ok (.getfield 9, 3) := by decide +kernel
theorem dX2_pop_8 : decode cX2_pop 8 = .ok (.iconst 4, 1) := by decide +kernel
theorem dX2_pop_9 : decode cX2_pop 9 = .ok (.iaload, 1) := by decide +kernel
theorem dX2_pop_10 : decode cX2_pop 10 = .ok (.iaload, 1) := by decide +kernel
theorem dX2_pop_11 : decode cX2_pop 11 = .ok (.istore_n 1, 1) := by decide +kernel
theorem dX2_pop_12 : decode cX2_pop 12 = .ok (.aload_n 0, 1) := by decide +kernel
theorem dX2_pop_13 : decode cX2_pop 13 = .ok (.getfield 9, 3) := by decide +kernel
theorem dX2_pop_16 : decode cX2_pop 16 = .ok (.iconst 4, 1) := by decide +kernel
theorem dX2_pop_17 : decode cX2_pop 17 = .ok (.aload_n 0, 1) := by decide +kernel
theorem dX2_pop_18 : decode cX2_pop 18 = .ok (.getfield 9, 3) := by decide +kernel
theorem dX2_pop_21 : decode cX2_pop 21 = .ok (.iconst 4, 1) := by decide +kernel
theorem dX2_pop_22 : decode cX2_pop 22 = .ok (.iaload, 1) := by decide +kernel
theorem dX2_pop_23 : decode cX2_pop 23 = .ok (.iconst 1, 1) := by decide +kernel
theorem dX2_pop_24 : decode cX2_pop 24 = .ok (.iadd, 1) := by decide +kernel
theorem dX2_pop_25 : decode cX2_pop 25 = .ok (.sipush 255, 3) := by decide +kernel
theorem dX2_pop_28 : decode cX2_pop 28 = .ok (.iand, 1) := by decide +kernel
theorem dX2_pop_29 : decode cX2_pop 29 = .ok (.iastore, 1) := by decide +kernel
theorem dX2_pop_30 : decode cX2_pop 30 = .ok (.iload_n 1, 1) := by decide +kernel
theorem dX2_pop_31 : decode cX2_pop 31 = .ok (.ireturn, 1) := by decide +kernel
theorem dX2_write_0 : decode cX2_write 0 = .ok (.aload_n 0, 1) := by decide +kernel
theorem dX2_write_1 : decode cX2_write 1 = .ok (.getfield 15, 3) := by decide +kernel
theorem dX2_write_4 : decode cX2_write 4 = .ok (.iload_n 1, 1) := by decide +kernel
theorem dX2_write_5 : decode cX2_write 5 = .ok (.iload_n 2, 1) := by decide +kernel
theorem dX2_write_6 : decode cX2_write 6 = .ok (.iastore, 1) := by decide +kernel
theorem dX2_write_7 : decode cX2_write 7 = .ok (.aload_n 0, 1) := by decide +kernel
theorem dX2_write_8 : decode cX2_write 8 = .ok (.iload_n 1, 1) := by decide +kernel
theorem dX2_write_9 : decode cX2_write 9 = .ok (.putfield 30, 3) := by decide +kernel
theorem dX2_write_12 : decode cX2_write 12 = .ok (.return_, 1) := by decide +kernel
theorem dX3_init_0 : decode cX3_init 0 = .ok (.aload_n 0, 1) := by decide +kernel
theorem dX3_init_1 : decode cX3_init 1 = .ok (.invokespecial 1, 3) := by decide +kernel
theorem dX3_init_4 : decode cX3_init 4 = .ok (.aload_n 0, 1) := by decide +kernel
theorem dX3_init_5 : decode cX3_init 5 = .ok (.iload_n 1, 1) := by decide +kernel
theorem dX3_init_6 : decode cX3_init 6 = .ok (.newarray .int, 2) := by decide +kernel
theorem dX3_init_8 : decode cX3_init 8 = .ok (.putfield 7, 3) := by decide +kernel
theorem dX3_init_11 : decode cX3_init 11 = .ok (.return_, 1) := by decide +kernel
theorem dX3_isFull_0 : decode cX3_isFull 0 = .ok (.aload_n 0, 1) := by decide +kernel
theorem dX3_isFull_1 : decode cX3_isFull 1 = .ok (.getfield 13, 3) := by decide +kernel
theorem dX3_isFull_4 : decode cX3_isFull 4 = .ok (.aload_n 0, 1) := by decide +kernel
theorem dX3_isFull_5 : decode cX3_isFull 5 = .ok (.getfield 7, 3) := by decide +kernel
theorem dX3_isFull_8 : decode cX3_isFull 8 = .ok (.arraylength, 1) := by decide +kernel
theorem dX3_isFull_9 : decode cX3_isFull 9 = .ok (.if_icmp .lt 7, 3) := by decide +kernel
theorem dX3_isFull_12 : decode cX3_isFull 12 = .ok (.iconst 1, 1) := by decide +kernel
theorem dX3_isFull_13 : decode cX3_isFull 13 = .ok (.goto 4, 3) := by decide +kernel
theorem dX3_isFull_16 : decode cX3_isFull 16 = .ok (.iconst 0, 1) := by decide +kernel
theorem dX3_isFull_17 : decode cX3_isFull 17 = .ok (.ireturn, 1) := by decide +kernel
set_option maxRecDepth 100000 in
theorem ggX3_at_X3_wrapped : GoodIn wsX3_at wsX3_wrapped := goodIn_r _ [7, 1, 8, 9, 10] rfl (by decide +kernel)
set_option maxRecDepth 100000 in
theorem gX3_at_X3_wrapped : GoodIn wsX3_at (wsV RX3 20 RX3 yX3_wrapped wsX3_wrapped) := goodIn_app (goodIn_of _ (by decide +kernel)) ggX3_at_X3_wrapped
theorem dX3_at_0 : decode cX3_at 0 = .ok (.aload_n 0, 1) := by decide +kernel
theorem dX3_at_1 : decode cX3_at 1 = .ok (.getfield 7, 3) := by decide +kernel
theorem dX3_at_4 : decode cX3_at 4 = .ok (.aload_n 0, 1) := by decide +kernel
theorem dX3_at_5 : decode cX3_at 5 = .ok (.aload_n 0, 1) := by decide +kernel
theorem dX3_at_6 : decode cX3_at 6 = .ok (.getfield 17, 3) := by decide +kernel
theorem dX3_at_9 : decode cX3_at 9 = .ok (.iload_n 1, 1) := by decide +kernel
theorem dX3_at_10 : decode cX3_at 10 = .ok (.iadd, 1) := by decide +kernel
theorem dX3_at_11 : decode cX3_at 11 = .ok (.invokevirtual 20, 3) := by decide +kernel
theorem dX3_at_14 : decode cX3_at 14 = .ok (.iaload, 1) := by decide +kernel
theorem dX3_at_15 : decode cX3_at 15 = .ok (.ireturn, 1) := by decide +kernel
theorem dX3_first_0 : decode cX3_first 0 = .ok (.aload_n 0, 1) := by decide +kernel
theorem dX3_first_1 : decode cX3_first 1 = .ok (.getfield 7, 3) := by decide +kernel
theorem dX3_first_4 : decode cX3_first 4 = .ok (.aload_n 0, 1) := by decide +kernel
theorem dX3_first_5 : decode cX3_first 5 = .ok (.getfield 17, 3) := by decide +kernel
theorem dX3_first_8 : decode cX3_first 8 = .ok (.iaload, 1) := by decide +kernel
theorem dX3_first_9 : decode cX3_first 9 = .ok (.ireturn, 1) := by decide +kernel
set_option maxRecDepth 100000 in
theorem ggX3_append_X3_wrapped : GoodIn wsX3_append wsX3_wrapped := goodIn_r _ [8, 1, 9, 10, 11] rfl (by decide +kernel)
set_option maxRecDepth 100000 in
theorem gX3_append_X3_wrapped : GoodIn wsX3_append (wsV RX3 20 RX3 yX3_wrapped wsX3_wrapped) := goodIn_app (goodIn_of _ (by decide +kernel)) ggX3_append_X3_wrapped
theorem dX3_append_0 : decode cX3_append 0 = .ok (.aload_n 0, 1) := by decide +kernel
theorem dX3_append_1 : decode cX3_append 1 = .ok (.getfield 7, 3) := by decide +kernel
theorem dX3_append_4 : decode cX3_append 4 = .ok (.aload_n 0, 1) := by decide +kernel
theorem dX3_append_5 : decode cX3_append 5 = .ok (.aload_n 0, 1) := by decide +kernel
theorem dX3_append_6 : decode cX3_append 6 = .ok (.getfield 17, 3) := by decide +kernel
theorem dX3_append_9 : decode cX3_append 9 = .ok (.aload_n 0, 1) := by decide +kernel
theorem dX3_append_10 : decode cX3_append 10 = .ok (.getfield 13, 3) := by decide +kernel
theorem dX3_append_13 : decode cX3_append 13 = .ok (.iadd, 1) := by decide +kernel
theorem dX3_append_14 : decode cX3_append 14 = .ok (.invokevirtual 20, 3) := by decide +kernel
theorem dX3_append_17 : decode cX3_append 17 = .ok (.iload_n 1, 1) := by decide +kernel
theorem dX3_append_18 : decode cX3_append 18 = .ok (.iastore, 1) := by decide +kernel
theorem dX3_append_19 : decode cX3_append 19 = .ok (.aload_n 0, 1) := by decide +kernel
theorem dX3_append_20 : decode cX3_append 20 = .ok (.dup, 1) := by decide +kernel
theorem dX3_append_21 : decode cX3_append 21 = .ok (.getfield 13, 3) := by decide +kernel
theorem dX3_append_24 : decode cX3_append 24 = .ok (.iconst 1, 1) := by decide +kernel
theorem dX3_append_25 : decode cX3_append 25 = .ok (.iadd, 1) := by decide +kernel
theorem dX3_append_26 : decode cX3_append 26 = .ok (.putfield 13, 3) := by decide +kernel
theorem dX3_append_29 : decode cX3_append 29 = .ok (.return_, 1) := by decide +kernel
set_option maxRecDepth 100000 in
theorem ggX3_takeFirst_X3_wrapped : GoodIn wsX3_takeFirst wsX3_wrapped := goodIn_r _ [8, 1, 9, 10, 11] rfl (by decide +kernel)
set_option maxRecDepth 100000 in
theorem gX3_takeFirst_X3_wrapped : GoodIn wsX3_takeFirst (wsV RX3 20 RX3 yX3_wrapped wsX3_wrapped) := goodIn_app (goodIn_of _ (by decide +kernel)) ggX3_takeFirst_X3_wrapped
theorem dX3_takeFirst_0 : decode cX3_takeFirst 0 = .ok (.aload_n 0, 1) := by decide +kernel
theorem dX3_takeFirst_1 : decode cX3_takeFirst 1 = .ok (.getfield 7, 3) := by decide +kernel
theorem dX3_takeFirst_4 : decode cX3_takeFirst 4 = .ok (.aload_n 0, 1) := by decide +kernel
theorem dX3_takeFirst_5 : decode cX3_takeFirst 5 = .ok (.getfield 17, 3) := by decide +kernel
theorem dX3_takeFirst_8 : decode cX3_takeFirst 8 = .ok (.iaload, 1) := by decide +kernel
theorem dX3_takeFirst_9 : decode cX3_takeFirst 9 = .ok (.istore_n 1, 1) := by decide +kernel
theorem dX3_takeFirst_10 : decode cX3_takeFirst 10 = .ok (.aload_n 0, 1) := by decide +kernel
theorem dX3_takeFirst_11 : decode cX3_takeFirst 11 = .ok (.aload_n 0, 1) := by decide +kernel
theorem dX3_takeFirst_12 : decode cX3_takeFirst 12 = .ok (.aload_n 0, 1) := by decide +kernel
theorem dX3_takeFirst_13 : decode cX3_takeFirst 13 = .ok (.getfield 17, 3) := by decide +kernel
theorem dX3_takeFirst_16 : decode cX3_takeFirst 16 = .ok (.iconst 1, 1) := by decide +kernel
theorem dX3_takeFirst_17 : decode cX3_takeFirst 17 = .ok (.iadd, 1) := by decide +kernel
theorem dX3_takeFirst_18 : decode cX3_takeFirst 18 = .ok (.invokevirtual 20, 3) := by decide +kernel
theorem dX3_takeFirst_21 : decode cX3_takeFirst 21 = .ok (.putfield 17, 3) := by decide +kernel
theorem dX3_takeFirst_24 : decode cX3_takeFirst 24 = .ok (.aload_n 0, 1) := by decide +kernel
theorem dX3_takeFirst_25 : decode cX3_takeFirst 25 = .ok (.dup, 1) := by decide +kernel
theorem dX3_takeFirst_26 : decode cX3_takeFirst 26 = .ok (.getfield 13, 3) := by decide +kernel
theorem dX3_takeFirst_29 : decode cX3_takeFirst 29 = .ok (.iconst 1, 1) := by decide +kernel
theorem dX3_takeFirst_30 : decode cX3_takeFirst 30 = .ok (.isub, 1) := by decide +kernel
theorem dX3_takeFirst_31 : decode cX3_takeFirst 31 = .ok (.putfield 13, 3) := by decide +kernel
theorem dX3_takeFirst_34 : decode cX3_takeFirst 34 = .ok (.iload_n 1, 1) := by decide +kernel
theorem dX3_takeFirst_35 : decode cX3_takeFirst 35 = .ok (.ireturn, 1) := by decide +kernel
theorem dX3_wrapped_0 : decode cX3_wrapped 0 = .ok (.iload_n 1, 1) := by decide +kernel
theorem dX3_wrapped_1 : decode cX3_wrapped 1 = .ok (.aload_n 0, 1) := by decide +kernel
theorem dX3_wrapped_2 : decode cX3_wrapped 2 = .ok (.getfield 7, 3) := by decide +kernel
theorem dX3_wrapped_5 : decode cX3_wrapped 5 = .ok (.arraylength, 1) := by decide +kernel
theorem dX3_wrapped_6 : decode cX3_wrapped 6 = .ok (.if_icmp .ge 7, 3) := by decide +kernel
theorem dX3_wrapped_9 : decode cX3_wrapped 9 = .ok (.iload_n 1, 1) := by decide +kernel
theorem dX3_wrapped_10 : decode cX3_wrapped 10 = .ok (.goto 10, 3) := by decide +kernel
theorem dX3_wrapped_13 : decode cX3_wrapped 13 = .ok (.iload_n 1, 1) := by decide +kernel
theorem dX3_wrapped_14 : decode cX3_wrapped 14 = .ok (.aload_n 0, 1) := by decide +kernel
theorem dX3_wrapped_15 : decode cX3_wrapped 15 = .ok (.getfield 7, 3) := by decide +kernel
theorem dX3_wrapped_18 : decode cX3_wrapped 18 = .ok (.arraylength, 1) := by decide +kernel
theorem dX3_wrapped_19 : decode cX3_wrapped 19 = .ok (.isub, 1) := by decide +kernel
theorem dX3_wrapped_20 : decode cX3_wrapped 20 = .ok (.ireturn, 1) := by decide +kernel
set_option maxRecDepth 100000 in
theorem ggX4_init_X2_init : GoodIn wsX4_init wsX2_init := goodIn_r _ [19, 20, 2, 3, 21, 22, 23, 24, 13, 14, 25, 26, 27, 28, 29, 30, 31, 32, 45, 46, 47, 48, 49, 50, 75, 76, 77] rfl (by decide +kernel)
set_option maxRecDepth 100000 in
theorem gX4_init_X2_init_n9 : GoodIn wsX4_init (wsX2_init) := ggX4_init_X2_init
set_option maxRecDepth 100000 in
theorem ggX4_init_X0_init : GoodIn wsX4_init wsX0_init := goodIn_r _ [34, 35, 2, 3, 21, 36, 37, 38, 39, 40, 41, 42, 43, 62, 63, 64, 65, 66, 67, 68, 69, 70, 71, 72, 73, 74] rfl (by decide +kernel)
set_option maxRecDepth 100000 in
theorem gX4_init_X0_init_n18 : GoodIn wsX4_init (wsX0_init) := ggX4_init_X0_init
set_option maxRecDepth 100000 in
theorem ggX4_init_X3_init : GoodIn wsX4_init wsX3_init := goodIn_r _ [30, 31, 2, 3, 21, 32, 75, 76, 77] rfl (by decide +kernel)
set_option maxRecDepth 100000 in
theorem gX4_init_X3_init : GoodIn wsX4_init (wsX3_init) := ggX4_init_X3_init
theorem dX4_init_0 : decode cX4_init 0 = .ok (.aload_n 0, 1) := by decide +kernel
theorem dX4_init_1 : decode cX4_init 1 = .ok (.invokespecial 1, 3) := by decide +kernel
theorem dX4_init_4 : decode cX4_init 4 = .ok (.aload_n 0, 1) := by decide +kernel
theorem dX4_init_5 : decode cX4_init 5 = .ok (.new 7, 3) := by decide +kernel
theorem dX4_init_8 : decode cX4_init 8 = .ok (.dup, 1) := by decide +kernel
theorem dX4_init_9 : decode cX4_init 9 = .ok (.invokespecial 9, 3) := by decide +kernel
theorem dX4_init_12 : decode cX4_init 12 = .ok (.putfield 10, 3) := by decide +kernel
theorem dX4_init_15 : decode cX4_init 15 = .ok (.aload_n 0, 1) := by decide +kernel
theorem dX4_init_16 : decode cX4_init 16 = .ok (.new 16, 3) := by decide +kernel
theorem dX4_init_19 : decode cX4_init 19 = .ok (.dup, 1) := by decide +kernel
theorem dX4_init_20 : decode cX4_init 20 = .ok (.invokespecial 18, 3) := by decide +kernel
theorem dX4_init_23 : decode cX4_init 23 = .ok (.putfield 19, 3) := by decide +kernel
theorem dX4_init_26 : decode cX4_init 26 = .ok (.aload_n 0, 1) := by decide +kernel
theorem dX4_init_27 : decode cX4_init 27 = .ok (.new 23, 3) := by decide +kernel
theorem dX4_init_30 : decode cX4_init 30 = .ok (.dup, 1) := by decide +kernel
theorem dX4_init_31 : decode cX4_init 31 = .ok (.bipush 16, 2) := by decide +kernel
theorem dX4_init_33 : decode cX4_init 33 = .ok (.invokespecial 25, 3) := by decide +kernel
theorem dX4_init_36 : decode cX4_init 36 = .ok (.putfield 28, 3) := by decide +kernel
theorem dX4_init_39 : decode cX4_init 39 = .ok (.aload_n 0, 1) := by decide +kernel
theorem dX4_init_40 : decode cX4_init 40 = .ok (.iconst (-1), 1) := by decide +kernel
theorem dX4_init_41 : decode cX4_init 41 = .ok (.putfield 32, 3) := by decide +kernel
theorem dX4_init_44 : decode cX4_init 44 = .ok (.aload_n 0, 1) := by decide +kernel
theorem dX4_init_45 : decode cX4_init 45 = .ok (.iconst (-1), 1) := by decide +kernel
theorem dX4_init_46 : decode cX4_init 46 = .ok (.putfield 36, 3) := by decide +kernel
theorem dX4_init_49 : decode cX4_init 49 = .ok (.return_, 1) := by decide +kernel
set_option maxRecDepth 100000 in
theorem ggX4_poke_X4_isByte : GoodIn wsX4_poke wsX4_isByte := goodIn_r _ [9] rfl (by decide +kernel)
set_option maxRecDepth 100000 in
theorem gX4_poke_X4_isByte : GoodIn wsX4_poke (va_wsS RX4 39 yX4_isByte wsX4_isByte) := goodIn_app (goodIn_of _ (by decide +kernel)) ggX4_poke_X4_isByte
set_option maxRecDepth 100000 in
theorem ggX4_poke_X0_dropPage : GoodIn wsX4_poke wsX0_dropPage := goodIn_r _ [14, 15, 16, 17, 18, 19, 20, 21, 13, 22, 23, 24, 25, 26, 27, 45, 46, 47, 48, 49, 50, 51, 52, 53, 54, 55, 56, 57] rfl (by decide +kernel)
set_option maxRecDepth 100000 in
theorem gX4_poke_X0_dropPage : GoodIn wsX4_poke (wsV RX4 50 RX0 yX0_dropPage wsX0_dropPage) := goodIn_app (goodIn_of _ (by decide +kernel)) ggX4_poke_X0_dropPage
theorem dX4_poke_0 : decode cX4_poke 0 = .ok (.iload_n 1, 1) := by decide +kernel
theorem dX4_poke_1 : decode cX4_poke 1 = .ok (.invokestatic 39, 3) := by decide +kernel
theorem dX4_poke_4 : decode cX4_poke 4 = .ok (.ifCond .eq 13, 3) := by decide +kernel
theorem dX4_poke_7 : decode cX4_poke 7 = .ok (.iload_n 3, 1) := by decide +kernel
theorem dX4_poke_8 : decode cX4_poke 8 = .ok (.iconst 1, 1) := by decide +kernel
theorem dX4_poke_9 : decode cX4_poke 9 = .ok (.if_icmp .lt 8, 3) := by decide +kernel
theorem dX4_poke_12 : decode cX4_poke 12 = .ok (.iload_n 3, 1) := by decide +kernel
theorem dX4_poke_13 : decode cX4_poke 13 = .ok (.iconst 4, 1) := by decide +kernel
theorem dX4_poke_14 : decode cX4_poke 14 = .ok (.if_icmp .le 11, 3) := by decide +kernel
theorem dX4_poke_17 : decode cX4_poke 17 = .ok (.new 43, 3) := by decide +kernel
theorem dX4_poke_20 : decode cX4_poke 20 = .ok (.dup, 1) := by decide +kernel
theorem dX4_poke_21 : decode cX4_poke 21 = .ok (.invokespecial 45, 3) := by decide +kernel
theorem dX4_poke_24 : decode cX4_poke 24 = .ok (.athrow, 1) := by decide +kernel
theorem dX4_poke_25 : decode cX4_poke 25 = .ok (.iconst 0, 1) := by decide +kernel
theorem dX4_poke_26 : decode cX4_poke 26 = .ok (.istore 4, 2) := by decide +kernel
theorem dX4_poke_28 : decode cX4_poke 28 = .ok (.iload 4, 2) := by decide +kernel
theorem dX4_poke_30 : decode cX4_poke 30 = .ok (.iload_n 3, 1) := by decide +kernel
theorem dX4_poke_31 : decode cX4_poke 31 = .ok (.if_icmp .ge 56, 3) := by decide +kernel
theorem dX4_poke_34 : decode cX4_poke 34 = .ok (.iload_n 1, 1) := by decide +kernel
theorem dX4_poke_35 : decode cX4_poke 35 = .ok (.iload 4, 2) := by decide +kernel
theorem dX4_poke_37 : decode cX4_poke 37 = .ok (.iadd, 1) := by decide +kernel
theorem dX4_poke_38 : decode cX4_poke 38 = .ok (.sipush 255, 3) := by decide +kernel
theorem dX4_poke_41 : decode cX4_poke 41 = .ok (.iand, 1) := by decide +kernel
theorem dX4_poke_42 : decode cX4_poke 42 = .ok (.istore 5, 2) := by decide +kernel
theorem dX4_poke_44 : decode cX4_poke 44 = .ok (.aload_n 0, 1) := by decide +kernel
theorem dX4_poke_45 : decode cX4_poke 45 = .ok (.getfield 10, 3) := by decide +kernel
theorem dX4_poke_48 : decode cX4_poke 48 = .ok (.getfield 46, 3) := by decide +kernel
theorem dX4_poke_51 : decode cX4_poke 51 = .ok (.iload 5, 2) := by decide +kernel
theorem dX4_poke_53 : decode cX4_poke 53 = .ok (.iload_n 2, 1) := by decide +kernel
theorem dX4_poke_54 : decode cX4_poke 54 = .ok (.bipush 24, 2) := by decide +kernel
theorem dX4_poke_56 : decode cX4_poke 56 = .ok (.bipush 8, 2) := by decide +kernel
theorem dX4_poke_58 : decode cX4_poke 58 = .ok (.iload 4, 2) := by decide +kernel
theorem dX4_poke_60 : decode cX4_poke 60 = .ok (.imul, 1) := by decide +kernel
theorem dX4_poke_61 : decode cX4_poke 61 = .ok (.isub, 1) := by decide +kernel
theorem dX4_poke_62 : decode cX4_poke 62 = .ok (.iushr, 1) := by decide +kernel
end
section
theorem dX4_poke_63 : decode cX4_poke 63 = .ok (.sipush 255, 3) := by decide +kernel
theorem dX4_poke_66 : decode cX4_poke 66 = .ok (.iand, 1) := by decide +kernel
theorem dX4_poke_67 : decode cX4_poke 67 = .ok (.iastore, 1) := by decide +kernel
theorem dX4_poke_68 : decode cX4_poke 68 = .ok (.aload_n 0, 1) := by decide +kernel
theorem dX4_poke_69 : decode cX4_poke 69 = .ok (.getfield 19, 3) := by decide +kernel
theorem dX4_poke_72 : decode cX4_poke 72 = .ok (.iload 5, 2) := by decide +kernel
theorem dX4_poke_74 : decode cX4_poke 74 = .ok (.bipush 32, 2) := by decide +kernel
theorem dX4_poke_76 : decode cX4_poke 76 = .ok (.idiv, 1) := by decide +kernel
theorem dX4_poke_77 : decode cX4_poke 77 = .ok (.invokevirtual 50, 3) := by decide +kernel
theorem dX4_poke_80 : decode cX4_poke 80 = .ok (.pop, 1) := by decide +kernel
theorem dX4_poke_81 : decode cX4_poke 81 = .ok (.iinc 4 1, 3) := by decide +kernel
theorem dX4_poke_84 : decode cX4_poke 84 = .ok (.goto (-56), 3) := by decide +kernel
theorem dX4_poke_87 : decode cX4_poke 87 = .ok (.return_, 1) := by decide +kernel
set_option maxRecDepth 100000 in
theorem ggX4_peek_X4_isByte : GoodIn wsX4_peek wsX4_isByte := goodIn_r _ [8] rfl (by decide +kernel)
set_option maxRecDepth 100000 in
theorem gX4_peek_X4_isByte : GoodIn wsX4_peek (va_wsS RX4 39 yX4_isByte wsX4_isByte) := goodIn_app (goodIn_of _ (by decide +kernel)) ggX4_peek_X4_isByte
theorem dX4_peek_0 : decode cX4_peek 0 = .ok (.iload_n 1, 1) := by decide +kernel
theorem dX4_peek_1 : decode cX4_peek 1 = .ok (.invokestatic 39, 3) := by decide +kernel
theorem dX4_peek_4 : decode cX4_peek 4 = .ok (.ifCond .ne 11, 3) := by decide +kernel
theorem dX4_peek_7 : decode cX4_peek 7 = .ok (.new 43, 3) := by decide +kernel
theorem dX4_peek_10 : decode cX4_peek 10 = .ok (.dup, 1) := by decide +kernel
theorem dX4_peek_11 : decode cX4_peek 11 = .ok (.invokespecial 45, 3) := by decide +kernel
theorem dX4_peek_14 : decode cX4_peek 14 = .ok (.athrow, 1) := by decide +kernel
theorem dX4_peek_15 : decode cX4_peek 15 = .ok (.aload_n 0, 1) := by decide +kernel
theorem dX4_peek_16 : decode cX4_peek 16 = .ok (.getfield 10, 3) := by decide +kernel
theorem dX4_peek_19 : decode cX4_peek 19 = .ok (.getfield 46, 3) := by decide +kernel
theorem dX4_peek_22 : decode cX4_peek 22 = .ok (.iload_n 1, 1) := by decide +kernel
theorem dX4_peek_23 : decode cX4_peek 23 = .ok (.iaload, 1) := by decide +kernel
theorem dX4_peek_24 : decode cX4_peek 24 = .ok (.ireturn, 1) := by decide +kernel
set_option maxRecDepth 100000 in
theorem ggX4_set_X4_isState : GoodIn wsX4_set wsX4_isState := goodIn_r _ [8] rfl (by decide +kernel)
set_option maxRecDepth 100000 in
theorem gX4_set_X4_isState : GoodIn wsX4_set (va_wsS RX4 54 yX4_isState wsX4_isState) := goodIn_app (goodIn_of _ (by decide +kernel)) ggX4_set_X4_isState
set_option maxRecDepth 100000 in
theorem ggX4_set_X4_isByte : GoodIn wsX4_set wsX4_isByte := goodIn_r _ [11] rfl (by decide +kernel)
set_option maxRecDepth 100000 in
theorem gX4_set_X4_isByte : GoodIn wsX4_set (va_wsS RX4 39 yX4_isByte wsX4_isByte) := goodIn_app (goodIn_of _ (by decide +kernel)) ggX4_set_X4_isByte
set_option maxRecDepth 100000 in
theorem ggX4_set_X4_isOneBit : GoodIn wsX4_set wsX4_isOneBit := goodIn_r _ [14] rfl (by decide +kernel)
set_option maxRecDepth 100000 in
theorem gX4_set_X4_isOneBit : GoodIn wsX4_set (va_wsS RX4 57 yX4_isOneBit wsX4_isOneBit) := goodIn_app (goodIn_of _ (by decide +kernel)) ggX4_set_X4_isOneBit
theorem dX4_set_0 : decode cX4_set 0 = .ok (.iload_n 1, 1) := by decide +kernel
theorem dX4_set_1 : decode cX4_set 1 = .ok (.invokestatic 54, 3) := by decide +kernel
theorem dX4_set_4 : decode cX4_set 4 = .ok (.ifCond .eq 22, 3) := by decide +kernel
theorem dX4_set_7 : decode cX4_set 7 = .ok (.iload_n 2, 1) := by decide +kernel
theorem dX4_set_8 : decode cX4_set 8 = .ok (.invokestatic 39, 3) := by decide +kernel
theorem dX4_set_11 : decode cX4_set 11 = .ok (.ifCond .eq 15, 3) := by decide +kernel
theorem dX4_set_14 : decode cX4_set 14 = .ok (.iload_n 1, 1) := by decide +kernel
theorem dX4_set_15 : decode cX4_set 15 = .ok (.invokestatic 57, 3) := by decide +kernel
theorem dX4_set_18 : decode cX4_set 18 = .ok (.ifCond .eq 16, 3) := by decide +kernel
theorem dX4_set_21 : decode cX4_set 21 = .ok (.iload_n 2, 1) := by decide +kernel
theorem dX4_set_22 : decode cX4_set 22 = .ok (.iconst 1, 1) := by decide +kernel
theorem dX4_set_23 : decode cX4_set 23 = .ok (.if_icmp .le 11, 3) := by decide +kernel
theorem dX4_set_26 : decode cX4_set 26 = .ok (.new 43, 3) := by decide +kernel
theorem dX4_set_29 : decode cX4_set 29 = .ok (.dup, 1) := by decide +kernel
theorem dX4_set_30 : decode cX4_set 30 = .ok (.invokespecial 45, 3) := by decide +kernel
theorem dX4_set_33 : decode cX4_set 33 = .ok (.athrow, 1) := by decide +kernel
theorem dX4_set_34 : decode cX4_set 34 = .ok (.aload_n 0, 1) := by decide +kernel
theorem dX4_set_35 : decode cX4_set 35 = .ok (.getfield 10, 3) := by decide +kernel
theorem dX4_set_38 : decode cX4_set 38 = .ok (.getfield 60, 3) := by decide +kernel
theorem dX4_set_41 : decode cX4_set 41 = .ok (.iload_n 1, 1) := by decide +kernel
theorem dX4_set_42 : decode cX4_set 42 = .ok (.iload_n 2, 1) := by decide +kernel
theorem dX4_set_43 : decode cX4_set 43 = .ok (.iastore, 1) := by decide +kernel
theorem dX4_set_44 : decode cX4_set 44 = .ok (.return_, 1) := by decide +kernel
set_option maxRecDepth 100000 in
theorem ggX4_get_X4_isState : GoodIn wsX4_get wsX4_isState := goodIn_r _ [8] rfl (by decide +kernel)
set_option maxRecDepth 100000 in
theorem gX4_get_X4_isState : GoodIn wsX4_get (va_wsS RX4 54 yX4_isState wsX4_isState) := goodIn_app (goodIn_of _ (by decide +kernel)) ggX4_get_X4_isState
theorem dX4_get_0 : decode cX4_get 0 = .ok (.iload_n 1, 1) := by decide +kernel
theorem dX4_get_1 : decode cX4_get 1 = .ok (.invokestatic 54, 3) := by decide +kernel
theorem dX4_get_4 : decode cX4_get 4 = .ok (.ifCond .ne 11, 3) := by decide +kernel
theorem dX4_get_7 : decode cX4_get 7 = .ok (.new 43, 3) := by decide +kernel
theorem dX4_get_10 : decode cX4_get 10 = .ok (.dup, 1) := by decide +kernel
theorem dX4_get_11 : decode cX4_get 11 = .ok (.invokespecial 45, 3) := by decide +kernel
theorem dX4_get_14 : decode cX4_get 14 = .ok (.athrow, 1) := by decide +kernel
theorem dX4_get_15 : decode cX4_get 15 = .ok (.aload_n 0, 1) := by decide +kernel
theorem dX4_get_16 : decode cX4_get 16 = .ok (.getfield 10, 3) := by decide +kernel
theorem dX4_get_19 : decode cX4_get 19 = .ok (.getfield 60, 3) := by decide +kernel
theorem dX4_get_22 : decode cX4_get 22 = .ok (.iload_n 1, 1) := by decide +kernel
theorem dX4_get_23 : decode cX4_get 23 = .ok (.iaload, 1) := by decide +kernel
theorem dX4_get_24 : decode cX4_get 24 = .ok (.ireturn, 1) := by decide +kernel
set_option maxRecDepth 100000 in
theorem ggX4_input_X4_isByte : GoodIn wsX4_input wsX4_isByte := goodIn_r _ [11] rfl (by decide +kernel)
set_option maxRecDepth 100000 in
theorem gX4_input_X4_isByte : GoodIn wsX4_input (va_wsS RX4 39 yX4_isByte wsX4_isByte) := goodIn_app (goodIn_of _ (by decide +kernel)) ggX4_input_X4_isByte
set_option maxRecDepth 100000 in
theorem ggX4_input_X3_isFull : GoodIn wsX4_input wsX3_isFull := goodIn_r _ [16, 17, 18, 45, 46, 47] rfl (by decide +kernel)
set_option maxRecDepth 100000 in
theorem gX4_input_X3_isFull : GoodIn wsX4_input (wsV RX4 66 RX3 yX3_isFull wsX3_isFull) := goodIn_app (goodIn_of _ (by decide +kernel)) ggX4_input_X3_isFull
set_option maxRecDepth 100000 in
theorem ggX4_input_X3_append : GoodIn wsX4_input wsX3_append := goodIn_r _ [22, 18, 23, 17, 24, 25, 26, 15, 27, 45, 46, 47] rfl (by decide +kernel)
set_option maxRecDepth 100000 in
theorem gX4_input_X3_append : GoodIn wsX4_input (wsV RX4 73 RX3 yX3_append wsX3_append) := goodIn_app (goodIn_of _ (by decide +kernel)) ggX4_input_X3_append
theorem dX4_input_0 : decode cX4_input 0 = .ok (.iload_n 1, 1) := by decide +kernel
theorem dX4_input_1 : decode cX4_input 1 = .ok (.invokestatic 39, 3) := by decide +kernel
theorem dX4_input_4 : decode cX4_input 4 = .ok (.ifCond .ne 11, 3) := by decide +kernel
theorem dX4_input_7 : decode cX4_input 7 = .ok (.new 43, 3) := by decide +kernel
theorem dX4_input_10 : decode cX4_input 10 = .ok (.dup, 1) := by decide +kernel
theorem dX4_input_11 : decode cX4_input 11 = .ok (.invokespecial 45, 3) := by decide +kernel
theorem dX4_input_14 : decode cX4_input 14 = .ok (.athrow, 1) := by decide +kernel
theorem dX4_input_15 : decode cX4_input 15 = .ok (.aload_n 0, 1) := by decide +kernel
theorem dX4_input_16 : decode cX4_input 16 = .ok (.getfield 10, 3) := by decide +kernel
theorem dX4_input_19 : decode cX4_input 19 = .ok (.getfield 63, 3) := by decide +kernel
theorem dX4_input_22 : decode cX4_input 22 = .ok (.invokevirtual 66, 3) := by decide +kernel
theorem dX4_input_25 : decode cX4_input 25 = .ok (.ifCond .eq 11, 3) := by decide +kernel
theorem dX4_input_28 : decode cX4_input 28 = .ok (.new 70, 3) := by decide +kernel
theorem dX4_input_31 : decode cX4_input 31 = .ok (.dup, 1) := by decide +kernel
theorem dX4_input_32 : decode cX4_input 32 = .ok (.invokespecial 72, 3) := by decide +kernel
theorem dX4_input_35 : decode cX4_input 35 = .ok (.athrow, 1) := by decide +kernel
theorem dX4_input_36 : decode cX4_input 36 = .ok (.aload_n 0, 1) := by decide +kernel
theorem dX4_input_37 : decode cX4_input 37 = .ok (.getfield 10, 3) := by decide +kernel
theorem dX4_input_40 : decode cX4_input 40 = .ok (.getfield 63, 3) := by decide +kernel
theorem dX4_input_43 : decode cX4_input 43 = .ok (.iload_n 1, 1) := by decide +kernel
theorem dX4_input_44 : decode cX4_input 44 = .ok (.invokevirtual 73, 3) := by decide +kernel
theorem dX4_input_47 : decode cX4_input 47 = .ok (.aload_n 0, 1) := by decide +kernel
theorem dX4_input_48 : decode cX4_input 48 = .ok (.getfield 10, 3) := by decide +kernel
theorem dX4_input_51 : decode cX4_input 51 = .ok (.getfield 63, 3) := by decide +kernel
theorem dX4_input_54 : decode cX4_input 54 = .ok (.getfield 76, 3) := by decide +kernel
theorem dX4_input_57 : decode cX4_input 57 = .ok (.ireturn, 1) := by decide +kernel
set_option maxRecDepth 100000 in
theorem ggX4_request_X3_isFull : GoodIn wsX4_request wsX3_isFull := goodIn_r _ [13, 14, 15, 36, 37, 38] rfl (by decide +kernel)
set_option maxRecDepth 100000 in
theorem gX4_request_X3_isFull : GoodIn wsX4_request (wsV RX4 66 RX3 yX3_isFull wsX3_isFull) := goodIn_app (goodIn_of _ (by decide +kernel)) ggX4_request_X3_isFull
set_option maxRecDepth 100000 in
theorem ggX4_request_X3_append : GoodIn wsX4_request wsX3_append := goodIn_r _ [19, 15, 20, 14, 21, 22, 23, 12, 24, 36, 37, 38] rfl (by decide +kernel)
set_option maxRecDepth 100000 in
theorem gX4_request_X3_append : GoodIn wsX4_request (wsV RX4 73 RX3 yX3_append wsX3_append) := goodIn_app (goodIn_of _ (by decide +kernel)) ggX4_request_X3_append
theorem dX4_request_0 : decode cX4_request 0 = .ok (.iload_n 1, 1) := by decide +kernel
theorem dX4_request_1 : decode cX4_request 1 = .ok (.aload_n 0, 1) := by decide +kernel
theorem dX4_request_2 : decode cX4_request 2 = .ok (.getfield 32, 3) := by decide +kernel
theorem dX4_request_5 : decode cX4_request 5 = .ok (.if_icmp .le 11, 3) := by decide +kernel
theorem dX4_request_8 : decode cX4_request 8 = .ok (.iload_n 1, 1) := by decide +kernel
theorem dX4_request_9 : decode cX4_request 9 = .ok (.aload_n 0, 1) := by decide +kernel
theorem dX4_request_10 : decode cX4_request 10 = .ok (.getfield 79, 3) := by decide +kernel
theorem dX4_request_13 : decode cX4_request 13 = .ok (.if_icmp .ge 11, 3) := by decide +kernel
theorem dX4_request_16 : decode cX4_request 16 = .ok (.new 43, 3) := by decide +kernel
theorem dX4_request_19 : decode cX4_request 19 = .ok (.dup, 1) := by decide +kernel
theorem dX4_request_20 : decode cX4_request 20 = .ok (.invokespecial 45, 3) := by decide +kernel
theorem dX4_request_23 : decode cX4_request 23 = .ok (.athrow, 1) := by decide +kernel
theorem dX4_request_24 : decode cX4_request 24 = .ok (.aload_n 0, 1) := by decide +kernel
theorem dX4_request_25 : decode cX4_request 25 = .ok (.getfield 28, 3) := by decide +kernel
theorem dX4_request_28 : decode cX4_request 28 = .ok (.invokevirtual 66, 3) := by decide +kernel
theorem dX4_request_31 : decode cX4_request 31 = .ok (.ifCond .eq 11, 3) := by decide +kernel
theorem dX4_request_34 : decode cX4_request 34 = .ok (.new 70, 3) := by decide +kernel
theorem dX4_request_37 : decode cX4_request 37 = .ok (.dup, 1) := by decide +kernel
theorem dX4_request_38 : decode cX4_request 38 = .ok (.invokespecial 72, 3) := by decide +kernel
theorem dX4_request_41 : decode cX4_request 41 = .ok (.athrow, 1) := by decide +kernel
theorem dX4_request_42 : decode cX4_request 42 = .ok (.aload_n 0, 1) := by decide +kernel
theorem dX4_request_43 : decode cX4_request 43 = .ok (.getfield 28, 3) := by decide +kernel
theorem dX4_request_46 : decode cX4_request 46 = .ok (.iload_n 1, 1) := by decide +kernel
theorem dX4_request_47 : decode cX4_request 47 = .ok (.invokevirtual 73, 3) := by decide +kernel
theorem dX4_request_50 : decode cX4_request 50 = .ok (.aload_n 0, 1) := by decide +kernel
theorem dX4_request_51 : decode cX4_request 51 = .ok (.iload_n 1, 1) := by decide +kernel
theorem dX4_request_52 : decode cX4_request 52 = .ok (.putfield 32, 3) := by decide +kernel
theorem dX4_request_55 : decode cX4_request 55 = .ok (.aload_n 0, 1) := by decide +kernel
theorem dX4_request_56 : decode cX4_request 56 = .ok (.getfield 28, 3) := by decide +kernel
theorem dX4_request_59 : decode cX4_request 59 = .ok (.getfield 76, 3) := by decide +kernel
theorem dX4_request_62 : decode cX4_request 62 = .ok (.ireturn, 1) := by decide +kernel
set_option maxRecDepth 100000 in
theorem ggX4_room_X0_empty : GoodIn wsX4_room wsX0_empty := goodIn_r _ [9, 10, 11, 12, 13, 14, 15, 16, 28, 29, 30, 31, 32, 33, 34, 35, 36, 37, 38, 39, 40] rfl (by decide +kernel)
set_option maxRecDepth 100000 in
theorem gX4_room_X0_empty : GoodIn wsX4_room (wsV RX4 85 RX0 yX0_empty wsX0_empty) := goodIn_app (goodIn_of _ (by decide +kernel)) ggX4_room_X0_empty
theorem dX4_room_0 : decode cX4_room 0 = .ok (.iload_n 1, 1) := by decide +kernel
theorem dX4_room_1 : decode cX4_room 1 = .ok (.iconst 1, 1) := by decide +kernel
theorem dX4_room_2 : decode cX4_room 2 = .ok (.if_icmp .lt 10, 3) := by decide +kernel
theorem dX4_room_5 : decode cX4_room 5 = .ok (.iload_n 1, 1) := by decide +kernel
theorem dX4_room_6 : decode cX4_room 6 = .ok (.sipush 400, 3) := by decide +kernel
theorem dX4_room_9 : decode cX4_room 9 = .ok (.if_icmp .le 11, 3) := by decide +kernel
theorem dX4_room_12 : decode cX4_room 12 = .ok (.new 43, 3) := by decide +kernel
theorem dX4_room_15 : decode cX4_room 15 = .ok (.dup, 1) := by decide +kernel
theorem dX4_room_16 : decode cX4_room 16 = .ok (.invokespecial 45, 3) := by decide +kernel
theorem dX4_room_19 : decode cX4_room 19 = .ok (.athrow, 1) := by decide +kernel
theorem dX4_room_20 : decode cX4_room 20 = .ok (.aload_n 0, 1) := by decide +kernel
theorem dX4_room_21 : decode cX4_room 21 = .ok (.getfield 19, 3) := by decide +kernel
theorem dX4_room_24 : decode cX4_room 24 = .ok (.iload_n 1, 1) := by decide +kernel
theorem dX4_room_25 : decode cX4_room 25 = .ok (.putfield 82, 3) := by decide +kernel
theorem dX4_room_28 : decode cX4_room 28 = .ok (.aload_n 0, 1) := by decide +kernel
theorem dX4_room_29 : decode cX4_room 29 = .ok (.getfield 19, 3) := by decide +kernel
theorem dX4_room_32 : decode cX4_room 32 = .ok (.invokevirtual 85, 3) := by decide +kernel
theorem dX4_room_35 : decode cX4_room 35 = .ok (.return_, 1) := by decide +kernel
set_option maxRecDepth 100000 in
theorem ggX4_run_X4_takeTurn : GoodIn wsX4_run wsX4_takeTurn := goodIn_r _ [10, 11, 12, 13, 14, 15, 16, 17, 9, 18, 19, 20, 3, 21, 5, 22, 23, 24, 25, 26, 27, 28, 29, 30, 31, 32, 33, 34, 35, 36, 37, 38, 39, 40, 41, 42, 43, 44, 45, 46, 47, 48, 49, 50, 51, 52, 53, 54, 55, 56, 57, 58, 59, 60, 61, 62, 63, 64, 65, 66, 67, 68, 69, 70, 71, 72, 73, 74, 75, 76, 77, 78, 79, 80, 81, 82, 83, 84, 85, 86, 87, 88, 89, 90, 91, 92, 93, 94, 95, 96, 97, 98, 99, 100, 101, 102, 103, 104, 105, 106, 107, 108, 109, 110, 111, 112, 113, 114, 115, 116, 117, 118, 119, 120, 121, 122, 123, 124, 125, 126, 127, 128, 129, 130, 131, 132, 133, 134, 135, 136, 137, 138, 139, 140, 141, 142, 143, 144, 145, 146, 147, 148, 149, 150, 151, 152, 153, 154, 155, 156, 157, 158, 159, 160, 161, 162, 163, 164, 165, 166, 167, 168, 169, 170, 171, 172, 173, 174, 175, 176, 177, 178, 179, 180, 181, 182, 183, 184, 185, 186, 187, 188, 189, 190, 191, 192, 193, 194, 195, 196, 197, 198, 199, 200, 201, 202, 203, 204, 4, 205, 206, 207, 208, 209, 210, 211, 212, 213, 214, 215, 216, 217, 218, 219, 220, 221, 222, 223, 224, 225, 226, 227, 228, 229, 230, 231, 232, 233, 234, 235, 236, 237, 238, 239, 240, 241, 242, 243, 244, 245, 246, 247, 248, 249, 250, 251, 252, 253, 254, 255, 256, 257, 258, 259, 260, 261, 262, 263, 264, 265, 266, 267, 268, 269, 270, 271, 272, 273, 274, 275, 276, 277, 278, 279, 280, 281, 282, 283, 284, 285, 286, 287, 288, 289, 290, 291, 292, 293, 294, 295, 296, 297, 298, 299, 300, 301, 302, 303, 304, 305, 306, 307, 308, 309] rfl (by decide +kernel)
set_option maxRecDepth 100000 in
theorem gX4_run_X4_takeTurn : GoodIn wsX4_run (wsV RX4 91 RX4 yX4_takeTurn wsX4_takeTurn) := goodIn_app (goodIn_of _ (by decide +kernel)) ggX4_run_X4_takeTurn
theorem dX4_run_0 : decode cX4_run 0 = .ok (.iload_n 1, 1) := by decide +kernel
theorem dX4_run_1 : decode cX4_run 1 = .ok (.iconst 1, 1) := by decide +kernel
theorem dX4_run_2 : decode cX4_run 2 = .ok (.if_icmp .lt 10, 3) := by decide +kernel
theorem dX4_run_5 : decode cX4_run 5 = .ok (.iload_n 1, 1) := by decide +kernel
theorem dX4_run_6 : decode cX4_run 6 = .ok (.sipush 5000, 3) := by decide +kernel
theorem dX4_run_9 : decode cX4_run 9 = .ok (.if_icmp .le 11, 3) := by decide +kernel
theorem dX4_run_12 : decode cX4_run 12 = .ok (.new 43, 3) := by decide +kernel
theorem dX4_run_15 : decode cX4_run 15 = .ok (.dup, 1) := by decide +kernel
theorem dX4_run_16 : decode cX4_run 16 = .ok (.invokespecial 45, 3) := by decide +kernel
theorem dX4_run_19 : decode cX4_run 19 = .ok (.athrow, 1) := by decide +kernel
theorem dX4_run_20 : decode cX4_run 20 = .ok (.aload_n 0, 1) := by decide +kernel
theorem dX4_run_21 : decode cX4_run 21 = .ok (.getfield 79, 3) := by decide +kernel
theorem dX4_run_24 : decode cX4_run 24 = .ok (.istore_n 2, 1) := by decide +kernel
theorem dX4_run_25 : decode cX4_run 25 = .ok (.aload_n 0, 1) := by decide +kernel
theorem dX4_run_26 : decode cX4_run 26 = .ok (.iconst 0, 1) := by decide +kernel
theorem dX4_run_27 : decode cX4_run 27 = .ok (.putfield 88, 3) := by decide +kernel
theorem dX4_run_30 : decode cX4_run 30 = .ok (.aload_n 0, 1) := by decide +kernel
theorem dX4_run_31 : decode cX4_run 31 = .ok (.iconst (-1), 1) := by decide +kernel
theorem dX4_run_32 : decode cX4_run 32 = .ok (.putfield 36, 3) := by decide +kernel
theorem dX4_run_35 : decode cX4_run 35 = .ok (.iconst 0, 1) := by decide +kernel
theorem dX4_run_36 : decode cX4_run 36 = .ok (.istore_n 3, 1) := by decide +kernel
theorem dX4_run_37 : decode cX4_run 37 = .ok (.iload_n 3, 1) := by decide +kernel
theorem dX4_run_38 : decode cX4_run 38 = .ok (.iload_n 1, 1) := by decide +kernel
theorem dX4_run_39 : decode cX4_run 39 = .ok (.if_icmp .ge 40, 3) := by decide +kernel
theorem dX4_run_42 : decode cX4_run 42 = .ok (.iload_n 1, 1) := by decide +kernel
theorem dX4_run_43 : decode cX4_run 43 = .ok (.aload_n 0, 1) := by decide +kernel
theorem dX4_run_44 : decode cX4_run 44 = .ok (.getfield 79, 3) := by decide +kernel
theorem dX4_run_47 : decode cX4_run 47 = .ok (.iload_n 2, 1) := by decide +kernel
theorem dX4_run_48 : decode cX4_run 48 = .ok (.isub, 1) := by decide +kernel
theorem dX4_run_49 : decode cX4_run 49 = .ok (.isub, 1) := by decide +kernel
theorem dX4_run_50 : decode cX4_run 50 = .ok (.istore 4, 2) := by decide +kernel
theorem dX4_run_52 : decode cX4_run 52 = .ok (.iload 4, 2) := by decide +kernel
theorem dX4_run_54 : decode cX4_run 54 = .ok (.ifCond .le 25, 3) := by decide +kernel
theorem dX4_run_57 : decode cX4_run 57 = .ok (.aload_n 0, 1) := by decide +kernel
theorem dX4_run_58 : decode cX4_run 58 = .ok (.getfield 88, 3) := by decide +kernel
theorem dX4_run_61 : decode cX4_run 61 = .ok (.ifCond .eq 6, 3) := by decide +kernel
theorem dX4_run_64 : decode cX4_run 64 = .ok (.goto 15, 3) := by decide +kernel
theorem dX4_run_67 : decode cX4_run 67 = .ok (.aload_n 0, 1) := by decide +kernel
theorem dX4_run_68 : decode cX4_run 68 = .ok (.iload 4, 2) := by decide +kernel
theorem dX4_run_70 : decode cX4_run 70 = .ok (.invokevirtual 91, 3) := by decide +kernel
theorem dX4_run_73 : decode cX4_run 73 = .ok (.iinc 3 1, 3) := by decide +kernel
theorem dX4_run_76 : decode cX4_run 76 = .ok (.goto (-39), 3) := by decide +kernel
theorem dX4_run_79 : decode cX4_run 79 = .ok (.aload_n 0, 1) := by decide +kernel
theorem dX4_run_80 : decode cX4_run 80 = .ok (.getfield 79, 3) := by decide +kernel
theorem dX4_run_83 : decode cX4_run 83 = .ok (.iload_n 2, 1) := by decide +kernel
theorem dX4_run_84 : decode cX4_run 84 = .ok (.isub, 1) := by decide +kernel
theorem dX4_run_85 : decode cX4_run 85 = .ok (.ireturn, 1) := by decide +kernel
set_option maxRecDepth 100000 in
theorem ggX4_output_X2_outputAt : GoodIn wsX4_output wsX2_outputAt := goodIn_r _ [6, 7, 8, 20, 21, 22, 23, 24, 25] rfl (by decide +kernel)
set_option maxRecDepth 100000 in
theorem gX4_output_X2_outputAt : GoodIn wsX4_output (wsV RX4 94 RX2 yX2_outputAt wsX2_outputAt) := goodIn_app (goodIn_of _ (by decide +kernel)) ggX4_output_X2_outputAt
theorem dX4_output_0 : decode cX4_output 0 = .ok (.aload_n 0, 1) := by decide +kernel
theorem dX4_output_1 : decode cX4_output 1 = .ok (.getfield 10, 3) := by decide +kernel
theorem dX4_output_4 : decode cX4_output 4 = .ok (.iload_n 1, 1) := by decide +kernel
theorem dX4_output_5 : decode cX4_output 5 = .ok (.invokevirtual 94, 3) := by decide +kernel
theorem dX4_output_8 : decode cX4_output 8 = .ok (.ireturn, 1) := by decide +kernel
theorem dX4_count_0 : decode cX4_count 0 = .ok (.iload_n 1, 1) := by decide +kernel
theorem dX4_count_1 : decode cX4_count 1 = .ok (.tableswitch 141 0 11 #[63, 68, 76, 84, 92, 97, 105, 110, 115, 120, 128, 136], 63) := by decide +kernel
theorem dX4_count_64 : decode cX4_count 64 = .ok (.aload_n 0, 1) := by decide +kernel
theorem dX4_count_65 : decode cX4_count 65 = .ok (.getfield 79, 3) := by decide +kernel
theorem dX4_count_68 : decode cX4_count 68 = .ok (.ireturn, 1) := by decide +kernel
theorem dX4_count_69 : decode cX4_count 69 = .ok (.aload_n 0, 1) := by decide +kernel
theorem dX4_count_70 : decode cX4_count 70 = .ok (.getfield 19, 3) := by decide +kernel
theorem dX4_count_73 : decode cX4_count 73 = .ok (.getfield 97, 3) := by decide +kernel
theorem dX4_count_76 : decode cX4_count 76 = .ok (.ireturn, 1) := by decide +kernel
theorem dX4_count_77 : decode cX4_count 77 = .ok (.aload_n 0, 1) := by decide +kernel
theorem dX4_count_78 : decode cX4_count 78 = .ok (.getfield 19, 3) := by decide +kernel
theorem dX4_count_81 : decode cX4_count 81 = .ok (.getfield 100, 3) := by decide +kernel
theorem dX4_count_84 : decode cX4_count 84 = .ok (.ireturn, 1) := by decide +kernel
theorem dX4_count_85 : decode cX4_count 85 = .ok (.aload_n 0, 1) := by decide +kernel
theorem dX4_count_86 : decode cX4_count 86 = .ok (.getfield 19, 3) := by decide +kernel
theorem dX4_count_89 : decode cX4_count 89 = .ok (.getfield 103, 3) := by decide +kernel
theorem dX4_count_92 : decode cX4_count 92 = .ok (.ireturn, 1) := by decide +kernel
theorem dX4_count_93 : decode cX4_count 93 = .ok (.aload_n 0, 1) := by decide +kernel
theorem dX4_count_94 : decode cX4_count 94 = .ok (.getfield 106, 3) := by decide +kernel
theorem dX4_count_97 : decode cX4_count 97 = .ok (.ireturn, 1) := by decide +kernel
theorem dX4_count_98 : decode cX4_count 98 = .ok (.aload_n 0, 1) := by decide +kernel
theorem dX4_count_99 : decode cX4_count 99 = .ok (.getfield 19, 3) := by decide +kernel
theorem dX4_count_102 : decode cX4_count 102 = .ok (.getfield 109, 3) := by decide +kernel
theorem dX4_count_105 : decode cX4_count 105 = .ok (.ireturn, 1) := by decide +kernel
theorem dX4_count_106 : decode cX4_count 106 = .ok (.aload_n 0, 1) := by decide +kernel
theorem dX4_count_107 : decode cX4_count 107 = .ok (.getfield 112, 3) := by decide +kernel
theorem dX4_count_110 : decode cX4_count 110 = .ok (.ireturn, 1) := by decide +kernel
theorem dX4_count_111 : decode cX4_count 111 = .ok (.aload_n 0, 1) := by decide +kernel
theorem dX4_count_112 : decode cX4_count 112 = .ok (.getfield 115, 3) := by decide +kernel
theorem dX4_count_115 : decode cX4_count 115 = .ok (.ireturn, 1) := by decide +kernel
theorem dX4_count_116 : decode cX4_count 116 = .ok (.aload_n 0, 1) := by decide +kernel
theorem dX4_count_117 : decode cX4_count 117 = .ok (.getfield 118, 3) := by decide +kernel
theorem dX4_count_120 : decode cX4_count 120 = .ok (.ireturn, 1) := by decide +kernel
theorem dX4_count_121 : decode cX4_count 121 = .ok (.aload_n 0, 1) := by decide +kernel
theorem dX4_count_122 : decode cX4_count 122 = .ok (.getfield 19, 3) := by decide +kernel
theorem dX4_count_125 : decode cX4_count 125 = .ok (.getfield 121, 3) := by decide +kernel
theorem dX4_count_128 : decode cX4_count 128 = .ok (.ireturn, 1) := by decide +kernel
theorem dX4_count_129 : decode cX4_count 129 = .ok (.aload_n 0, 1) := by decide +kernel
theorem dX4_count_130 : decode cX4_count 130 = .ok (.getfield 10, 3) := by decide +kernel
theorem dX4_count_133 : decode cX4_count 133 = .ok (.getfield 124, 3) := by decide +kernel
theorem dX4_count_136 : decode cX4_count 136 = .ok (.ireturn, 1) := by decide +kernel
theorem dX4_count_137 : decode cX4_count 137 = .ok (.aload_n 0, 1) := by decide +kernel
theorem dX4_count_138 : decode cX4_count 138 = .ok (.getfield 88, 3) := by decide +kernel
theorem dX4_count_141 : decode cX4_count 141 = .ok (.ireturn, 1) := by decide +kernel
theorem dX4_count_142 : decode cX4_count 142 = .ok (.new 43, 3) := by decide +kernel
theorem dX4_count_145 : decode cX4_count 145 = .ok (.dup, 1) := by decide +kernel
theorem dX4_count_146 : decode cX4_count 146 = .ok (.invokespecial 45, 3) := by decide +kernel
theorem dX4_count_149 : decode cX4_count 149 = .ok (.athrow, 1) := by decide +kernel
theorem dX4_isByte_0 : decode cX4_isByte 0 = .ok (.iload_n 0, 1) := by decide +kernel
theorem dX4_isByte_1 : decode cX4_isByte 1 = .ok (.ifCond .lt 14, 3) := by decide +kernel
theorem dX4_isByte_4 : decode cX4_isByte 4 = .ok (.iload_n 0, 1) := by decide +kernel
theorem dX4_isByte_5 : decode cX4_isByte 5 = .ok (.sipush 255, 3) := by decide +kernel
theorem dX4_isByte_8 : decode cX4_isByte 8 = .ok (.if_icmp .gt 7, 3) := by decide +kernel
theorem dX4_isByte_11 : decode cX4_isByte 11 = .ok (.iconst 1, 1) := by decide +kernel
theorem dX4_isByte_12 : decode cX4_isByte 12 = .ok (.goto 4, 3) := by decide +kernel
theorem dX4_isByte_15 : decode cX4_isByte 15 = .ok (.iconst 0, 1) := by decide +kernel
theorem dX4_isByte_16 : decode cX4_isByte 16 = .ok (.ireturn, 1) := by decide +kernel
theorem dX4_isState_0 : decode cX4_isState 0 = .ok (.iload_n 0, 1) := by decide +kernel
theorem dX4_isState_1 : decode cX4_isState 1 = .ok (.ifCond .lt 13, 3) := by decide +kernel
theorem dX4_isState_4 : decode cX4_isState 4 = .ok (.iload_n 0, 1) := by decide +kernel
theorem dX4_isState_5 : decode cX4_isState 5 = .ok (.bipush 9, 2) := by decide +kernel
theorem dX4_isState_7 : decode cX4_isState 7 = .ok (.if_icmp .gt 7, 3) := by decide +kernel
theorem dX4_isState_10 : decode cX4_isState 10 = .ok (.iconst 1, 1) := by decide +kernel
theorem dX4_isState_11 : decode cX4_isState 11 = .ok (.goto 4, 3) := by decide +kernel
theorem dX4_isState_14 : decode cX4_isState 14 = .ok (.iconst 0, 1) := by decide +kernel
theorem dX4_isState_15 : decode cX4_isState 15 = .ok (.ireturn, 1) := by decide +kernel
theorem dX4_isOneBit_0 : decode cX4_isOneBit 0 = .ok (.iload_n 0, 1) := by decide +kernel
theorem dX4_isOneBit_1 : decode cX4_isOneBit 1 = .ok (.iconst 5, 1) := by decide +kernel
theorem dX4_isOneBit_2 : decode cX4_isOneBit 2 = .ok (.if_icmp .lt 13, 3) := by decide +kernel
theorem dX4_isOneBit_5 : decode cX4_isOneBit 5 = .ok (.iload_n 0, 1) := by decide +kernel
theorem dX4_isOneBit_6 : decode cX4_isOneBit 6 = .ok (.bipush 8, 2) := by decide +kernel
theorem dX4_isOneBit_8 : decode cX4_isOneBit 8 = .ok (.if_icmp .gt 7, 3) := by decide +kernel
theorem dX4_isOneBit_11 : decode cX4_isOneBit 11 = .ok (.iconst 1, 1) := by decide +kernel
theorem dX4_isOneBit_12 : decode cX4_isOneBit 12 = .ok (.goto 4, 3) := by decide +kernel
theorem dX4_isOneBit_15 : decode cX4_isOneBit 15 = .ok (.iconst 0, 1) := by decide +kernel
theorem dX4_isOneBit_16 : decode cX4_isOneBit 16 = .ok (.ireturn, 1) := by decide +kernel
set_option maxRecDepth 100000 in
theorem ggX4_takeTurn_X4_interruptIfDue : GoodIn wsX4_takeTurn wsX4_interruptIfDue := goodIn_r _ [9, 1, 2, 10, 11, 12, 13, 14, 15, 16, 17, 18, 19, 20, 21, 22, 23, 24, 25, 26, 27, 28, 29, 30, 31, 32, 33, 34, 35, 36, 37, 38, 39, 40, 41, 42, 43, 44, 45, 46, 47, 48, 49, 8, 50, 51, 52, 3, 53, 54, 55, 56, 57, 58, 59, 60, 61, 62, 63, 64, 65, 66, 67, 68, 69, 70, 271, 272, 273, 274, 275, 276, 277, 278, 279, 280, 281, 282, 283, 284, 285, 286, 287, 301, 302, 303, 288, 289, 290, 291, 292, 293, 294, 295, 296, 297, 298, 299, 300] rfl (by decide +kernel)
set_option maxRecDepth 100000 in
theorem gX4_takeTurn_X4_interruptIfDue : GoodIn wsX4_takeTurn (wsV RX4 127 RX4 yX4_interruptIfDue wsX4_interruptIfDue) := goodIn_app (goodIn_of _ (by decide +kernel)) ggX4_takeTurn_X4_interruptIfDue
set_option maxRecDepth 100000 in
theorem ggX4_takeTurn_X4_findBlock : GoodIn wsX4_takeTurn wsX4_findBlock := goodIn_r _ [74, 3, 14, 75, 1, 76, 77, 78, 79, 56, 80, 81, 59, 62, 63, 64, 65, 82, 83, 84, 85, 86, 61, 87, 88, 60, 89, 90, 91, 58, 92, 93, 94, 95, 96, 70, 97, 98, 99, 100, 101, 102, 103, 104, 105, 106, 107, 108, 109, 110, 111, 112, 113, 114, 115, 116, 117, 118, 119, 120, 121, 122, 123, 124, 125, 126, 127, 128, 129, 130, 131, 132, 133, 134, 135, 136, 137, 138, 139, 140, 141, 142, 143, 144, 145, 146, 147, 148, 149, 150, 151, 152, 153, 154, 155, 156, 157, 158, 159, 160, 161, 162, 163, 164, 165, 166, 167, 168, 169, 170, 171, 172, 271, 272, 273, 274, 275, 276, 277, 278, 279, 280, 281, 282, 283, 284, 285, 286, 287, 288, 289, 290, 291, 292, 293, 294, 295, 296, 297, 298, 299, 300] rfl (by decide +kernel)
set_option maxRecDepth 100000 in
theorem gX4_takeTurn_X4_findBlock : GoodIn wsX4_takeTurn (wsV RX4 130 RX4 yX4_findBlock wsX4_findBlock) := goodIn_app (goodIn_of _ (by decide +kernel)) ggX4_takeTurn_X4_findBlock
set_option maxRecDepth 100000 in
theorem ggX4_takeTurn_X4_mayRunWhole : GoodIn wsX4_takeTurn wsX4_mayRunWhole := goodIn_r _ [176, 12, 177, 178, 179, 8, 180, 10, 11, 181, 182, 183, 18, 184, 20, 21, 27, 28, 29, 30, 271, 272, 273, 274, 275, 276, 277, 278, 279, 280, 281, 301, 302, 303] rfl (by decide +kernel)
set_option maxRecDepth 100000 in
theorem gX4_takeTurn_X4_mayRunWhole : GoodIn wsX4_takeTurn (wsV RX4 136 RX4 yX4_mayRunWhole wsX4_mayRunWhole) := goodIn_app (goodIn_of _ (by decide +kernel)) ggX4_takeTurn_X4_mayRunWhole
set_option maxRecDepth 100000 in
theorem ggX4_takeTurn_X4_runBlock : GoodIn wsX4_takeTurn wsX4_runBlock := goodIn_r _ [188, 3, 14, 4, 1, 2, 189, 190, 191, 56, 192, 81, 59, 62, 63, 64, 65, 82, 193, 121, 122, 123, 96, 194, 195, 196, 8, 197, 12, 198, 199, 200, 201, 34, 202, 36, 203, 105, 99, 106, 204, 108, 109, 205, 125, 126, 206, 207, 208, 209, 210, 152, 153, 130, 211, 155, 156, 212, 213, 214, 215, 171, 172, 216, 217, 218, 219, 220, 221, 222, 223, 224, 225, 226, 227, 111, 112, 113, 114, 115, 228, 229, 230, 231, 232, 233, 234, 235, 236, 237, 238, 37, 38, 39, 40, 41, 42, 43, 44, 45, 46, 239, 240, 241, 242, 243, 244, 245, 246, 247, 248, 249, 250, 251, 252, 253, 254, 255, 256, 257, 258, 259, 23, 24, 18, 25, 20, 21, 26, 27, 28, 29, 30, 47, 48, 49, 50, 51, 52, 53, 54, 55, 57, 58, 60, 61, 66, 67, 68, 69, 70, 260, 261, 262, 263, 264, 169, 271, 272, 273, 274, 275, 276, 277, 278, 279, 280, 281, 288, 289, 290, 291, 292, 293, 294, 295, 296, 297, 298, 299, 300, 282, 283, 284, 285, 286, 287, 301, 302, 303] rfl (by decide +kernel)
set_option maxRecDepth 100000 in
theorem gX4_takeTurn_X4_runBlock : GoodIn wsX4_takeTurn (wsV RX4 140 RX4 yX4_runBlock wsX4_runBlock) := goodIn_app (goodIn_of _ (by decide +kernel)) ggX4_takeTurn_X4_runBlock
set_option maxRecDepth 100000 in
theorem ggX4_takeTurn_X4_interpret : GoodIn wsX4_takeTurn wsX4_interpret := goodIn_r _ [268, 14, 1, 76, 198, 269, 270, 98, 99, 100, 101, 102, 103, 260, 105, 106, 194, 195, 196, 8, 197, 12, 199, 200, 201, 34, 202, 36, 203, 204, 108, 109, 205, 125, 126, 206, 207, 208, 209, 210, 152, 153, 130, 211, 155, 156, 212, 213, 214, 215, 171, 172, 216, 217, 218, 219, 220, 221, 222, 223, 224, 225, 226, 227, 111, 112, 113, 114, 115, 228, 229, 230, 231, 232, 233, 234, 235, 236, 237, 238, 37, 38, 39, 40, 41, 42, 43, 44, 45, 46, 239, 240, 241, 242, 243, 244, 245, 246, 247, 248, 249, 250, 251, 252, 253, 254, 255, 256, 257, 258, 259, 23, 24, 18, 25, 20, 21, 26, 27, 28, 29, 30, 47, 48, 49, 50, 51, 52, 3, 53, 54, 55, 56, 57, 58, 59, 60, 61, 62, 63, 64, 65, 66, 67, 68, 69, 70, 271, 272, 273, 274, 275, 276, 277, 278, 279, 280, 281, 282, 283, 284, 285, 286, 287, 301, 302, 303, 288, 289, 290, 291, 292, 293, 294, 295, 296, 297, 298, 299, 300] rfl (by decide +kernel)
set_option maxRecDepth 100000 in
theorem gX4_takeTurn_X4_interpret : GoodIn wsX4_takeTurn (wsV RX4 143 RX4 yX4_interpret wsX4_interpret) := goodIn_app (goodIn_of _ (by decide +kernel)) ggX4_takeTurn_X4_interpret
theorem dX4_takeTurn_0 : decode cX4_takeTurn 0 = .ok (.aload_n 0, 1) := by decide +kernel
theorem dX4_takeTurn_1 : decode cX4_takeTurn 1 = .ok (.invokevirtual 127, 3) := by decide +kernel
theorem dX4_takeTurn_4 : decode cX4_takeTurn 4 = .ok (.aload_n 0, 1) := by decide +kernel
theorem dX4_takeTurn_5 : decode cX4_takeTurn 5 = .ok (.getfield 10, 3) := by decide +kernel
theorem dX4_takeTurn_8 : decode cX4_takeTurn 8 = .ok (.getfield 60, 3) := by decide +kernel
theorem dX4_takeTurn_11 : decode cX4_takeTurn 11 = .ok (.bipush 9, 2) := by decide +kernel
theorem dX4_takeTurn_13 : decode cX4_takeTurn 13 = .ok (.iaload, 1) := by decide +kernel
theorem dX4_takeTurn_14 : decode cX4_takeTurn 14 = .ok (.istore_n 2, 1) := by decide +kernel
theorem dX4_takeTurn_15 : decode cX4_takeTurn 15 = .ok (.aload_n 0, 1) := by decide +kernel
theorem dX4_takeTurn_16 : decode cX4_takeTurn 16 = .ok (.iload_n 2, 1) := by decide +kernel
theorem dX4_takeTurn_17 : decode cX4_takeTurn 17 = .ok (.invokevirtual 130, 3) := by decide +kernel
theorem dX4_takeTurn_20 : decode cX4_takeTurn 20 = .ok (.ifCond .eq 28, 3) := by decide +kernel
theorem dX4_takeTurn_23 : decode cX4_takeTurn 23 = .ok (.aload_n 0, 1) := by decide +kernel
theorem dX4_takeTurn_24 : decode cX4_takeTurn 24 = .ok (.aload_n 0, 1) := by decide +kernel
theorem dX4_takeTurn_25 : decode cX4_takeTurn 25 = .ok (.getfield 19, 3) := by decide +kernel
theorem dX4_takeTurn_28 : decode cX4_takeTurn 28 = .ok (.getfield 133, 3) := by decide +kernel
theorem dX4_takeTurn_31 : decode cX4_takeTurn 31 = .ok (.iload_n 2, 1) := by decide +kernel
theorem dX4_takeTurn_32 : decode cX4_takeTurn 32 = .ok (.iaload, 1) := by decide +kernel
theorem dX4_takeTurn_33 : decode cX4_takeTurn 33 = .ok (.iload_n 1, 1) := by decide +kernel
theorem dX4_takeTurn_34 : decode cX4_takeTurn 34 = .ok (.invokevirtual 136, 3) := by decide +kernel
theorem dX4_takeTurn_37 : decode cX4_takeTurn 37 = .ok (.ifCond .eq 11, 3) := by decide +kernel
theorem dX4_takeTurn_40 : decode cX4_takeTurn 40 = .ok (.aload_n 0, 1) := by decide +kernel
theorem dX4_takeTurn_41 : decode cX4_takeTurn 41 = .ok (.iload_n 2, 1) := by decide +kernel
theorem dX4_takeTurn_42 : decode cX4_takeTurn 42 = .ok (.invokevirtual 140, 3) := by decide +kernel
theorem dX4_takeTurn_45 : decode cX4_takeTurn 45 = .ok (.goto 8, 3) := by decide +kernel
theorem dX4_takeTurn_48 : decode cX4_takeTurn 48 = .ok (.aload_n 0, 1) := by decide +kernel
theorem dX4_takeTurn_49 : decode cX4_takeTurn 49 = .ok (.iload_n 2, 1) := by decide +kernel
theorem dX4_takeTurn_50 : decode cX4_takeTurn 50 = .ok (.invokevirtual 143, 3) := by decide +kernel
theorem dX4_takeTurn_53 : decode cX4_takeTurn 53 = .ok (.return_, 1) := by decide +kernel
set_option maxRecDepth 100000 in
theorem ggX4_interruptIfDue_X3_first : GoodIn wsX4_interruptIfDue wsX3_first := goodIn_r _ [12, 13, 14, 83, 84, 85] rfl (by decide +kernel)
set_option maxRecDepth 100000 in
theorem gX4_interruptIfDue_X3_first : GoodIn wsX4_interruptIfDue (wsV RX4 146 RX3 yX3_first wsX3_first) := goodIn_app (goodIn_of _ (by decide +kernel)) ggX4_interruptIfDue_X3_first
set_option maxRecDepth 100000 in
theorem ggX4_interruptIfDue_X3_takeFirst : GoodIn wsX4_interruptIfDue wsX3_takeFirst := goodIn_r _ [18, 13, 14, 19, 20, 21, 22, 11, 23, 83, 84, 85] rfl (by decide +kernel)
set_option maxRecDepth 100000 in
theorem gX4_interruptIfDue_X3_takeFirst : GoodIn wsX4_interruptIfDue (wsV RX4 150 RX3 yX3_takeFirst wsX3_takeFirst) := goodIn_app (goodIn_of _ (by decide +kernel)) ggX4_interruptIfDue_X3_takeFirst
set_option maxRecDepth 100000 in
theorem ggX4_interruptIfDue_X2_interrupt : GoodIn wsX4_interruptIfDue wsX2_interrupt := goodIn_r _ [28, 29, 30, 31, 32, 27, 33, 34, 35, 36, 37, 38, 39, 77, 78, 79, 80, 81, 82] rfl (by decide +kernel)
set_option maxRecDepth 100000 in
theorem gX4_interruptIfDue_X2_interrupt : GoodIn wsX4_interruptIfDue (wsV RX4 153 RX2 yX2_interrupt wsX2_interrupt) := goodIn_app (goodIn_of _ (by decide +kernel)) ggX4_interruptIfDue_X2_interrupt
set_option maxRecDepth 100000 in
theorem ggX4_interruptIfDue_X4_dropWritten : GoodIn wsX4_interruptIfDue wsX4_dropWritten := goodIn_r _ [44, 1, 45, 46, 47, 48, 49, 50, 51, 52, 53, 54, 55, 56, 57, 58, 59, 60, 61, 62, 63, 64, 65, 66, 67, 68, 69, 70, 71, 72, 73, 74, 75, 76, 77, 78, 79, 80, 81, 82, 86, 87, 88, 89, 90, 91, 92, 93, 94, 95, 96, 97, 98] rfl (by decide +kernel)
set_option maxRecDepth 100000 in
theorem gX4_interruptIfDue_X4_dropWritten : GoodIn wsX4_interruptIfDue (wsV RX4 156 RX4 yX4_dropWritten wsX4_dropWritten) := goodIn_app (goodIn_of _ (by decide +kernel)) ggX4_interruptIfDue_X4_dropWritten
theorem dX4_interruptIfDue_0 : decode cX4_interruptIfDue 0 = .ok (.aload_n 0, 1) := by decide +kernel
theorem dX4_interruptIfDue_1 : decode cX4_interruptIfDue 1 = .ok (.getfield 10, 3) := by decide +kernel
theorem dX4_interruptIfDue_4 : decode cX4_interruptIfDue 4 = .ok (.getfield 60, 3) := by decide +kernel
theorem dX4_interruptIfDue_7 : decode cX4_interruptIfDue 7 = .ok (.bipush 8, 2) := by decide +kernel
theorem dX4_interruptIfDue_9 : decode cX4_interruptIfDue 9 = .ok (.iaload, 1) := by decide +kernel
theorem dX4_interruptIfDue_10 : decode cX4_interruptIfDue 10 = .ok (.ifCond .eq 27, 3) := by decide +kernel
theorem dX4_interruptIfDue_13 : decode cX4_interruptIfDue 13 = .ok (.aload_n 0, 1) := by decide +kernel
theorem dX4_interruptIfDue_14 : decode cX4_interruptIfDue 14 = .ok (.getfield 28, 3) := by decide +kernel
theorem dX4_interruptIfDue_17 : decode cX4_interruptIfDue 17 = .ok (.getfield 76, 3) := by decide +kernel
theorem dX4_interruptIfDue_20 : decode cX4_interruptIfDue 20 = .ok (.ifCond .eq 17, 3) := by decide +kernel
theorem dX4_interruptIfDue_23 : decode cX4_interruptIfDue 23 = .ok (.aload_n 0, 1) := by decide +kernel
theorem dX4_interruptIfDue_24 : decode cX4_interruptIfDue 24 = .ok (.getfield 28, 3) := by decide +kernel
theorem dX4_interruptIfDue_27 : decode cX4_interruptIfDue 27 = .ok (.invokevirtual 146, 3) := by decide +kernel
theorem dX4_interruptIfDue_30 : decode cX4_interruptIfDue 30 = .ok (.aload_n 0, 1) := by decide +kernel
theorem dX4_interruptIfDue_31 : decode cX4_interruptIfDue 31 = .ok (.getfield 79, 3) := by decide +kernel
theorem dX4_interruptIfDue_34 : decode cX4_interruptIfDue 34 = .ok (.if_icmp .le 4, 3) := by decide +kernel
theorem dX4_interruptIfDue_37 : decode cX4_interruptIfDue 37 = .ok (.return_, 1) := by decide +kernel
theorem dX4_interruptIfDue_38 : decode cX4_interruptIfDue 38 = .ok (.aload_n 0, 1) := by decide +kernel
theorem dX4_interruptIfDue_39 : decode cX4_interruptIfDue 39 = .ok (.getfield 28, 3) := by decide +kernel
theorem dX4_interruptIfDue_42 : decode cX4_interruptIfDue 42 = .ok (.invokevirtual 150, 3) := by decide +kernel
theorem dX4_interruptIfDue_45 : decode cX4_interruptIfDue 45 = .ok (.pop, 1) := by decide +kernel
theorem dX4_interruptIfDue_46 : decode cX4_interruptIfDue 46 = .ok (.aload_n 0, 1) := by decide +kernel
theorem dX4_interruptIfDue_47 : decode cX4_interruptIfDue 47 = .ok (.dup, 1) := by decide +kernel
theorem dX4_interruptIfDue_48 : decode cX4_interruptIfDue 48 = .ok (.getfield 118, 3) := by decide +kernel
theorem dX4_interruptIfDue_51 : decode cX4_interruptIfDue 51 = .ok (.iconst 1, 1) := by decide +kernel
theorem dX4_interruptIfDue_52 : decode cX4_interruptIfDue 52 = .ok (.iadd, 1) := by decide +kernel
theorem dX4_interruptIfDue_53 : decode cX4_interruptIfDue 53 = .ok (.putfield 118, 3) := by decide +kernel
theorem dX4_interruptIfDue_56 : decode cX4_interruptIfDue 56 = .ok (.aload_n 0, 1) := by decide +kernel
theorem dX4_interruptIfDue_57 : decode cX4_interruptIfDue 57 = .ok (.getfield 10, 3) := by decide +kernel
theorem dX4_interruptIfDue_60 : decode cX4_interruptIfDue 60 = .ok (.invokevirtual 153, 3) := by decide +kernel
theorem dX4_interruptIfDue_63 : decode cX4_interruptIfDue 63 = .ok (.aload_n 0, 1) := by decide +kernel
theorem dX4_interruptIfDue_64 : decode cX4_interruptIfDue 64 = .ok (.invokevirtual 156, 3) := by decide +kernel
theorem dX4_interruptIfDue_67 : decode cX4_interruptIfDue 67 = .ok (.aload_n 0, 1) := by decide +kernel
theorem dX4_interruptIfDue_68 : decode cX4_interruptIfDue 68 = .ok (.iconst (-1), 1) := by decide +kernel
theorem dX4_interruptIfDue_69 : decode cX4_interruptIfDue 69 = .ok (.putfield 36, 3) := by decide +kernel
theorem dX4_interruptIfDue_72 : decode cX4_interruptIfDue 72 = .ok (.return_, 1) := by decide +kernel
set_option maxRecDepth 100000 in
theorem ggX4_findBlock_X0_isLinked : GoodIn wsX4_findBlock wsX0_isLinked := goodIn_r _ [10, 11, 12, 13, 14, 15, 9, 16, 129, 130, 131, 132, 133, 134, 135, 136, 137, 138, 139, 140, 141] rfl (by decide +kernel)
set_option maxRecDepth 100000 in
theorem gX4_findBlock_X0_isLinked : GoodIn wsX4_findBlock (wsV RX4 159 RX0 yX0_isLinked wsX0_isLinked) := goodIn_app (goodIn_of _ (by decide +kernel)) ggX4_findBlock_X0_isLinked
set_option maxRecDepth 100000 in
theorem ggX4_findBlock_X0_has : GoodIn wsX4_findBlock wsX0_has := goodIn_r _ [16, 12, 129, 130, 131, 132, 133, 134, 135, 136, 137, 138, 139, 140, 141] rfl (by decide +kernel)
set_option maxRecDepth 100000 in
theorem gX4_findBlock_X0_has : GoodIn wsX4_findBlock (wsV RX4 162 RX0 yX0_has wsX0_has) := goodIn_app (goodIn_of _ (by decide +kernel)) ggX4_findBlock_X0_has
set_option maxRecDepth 100000 in
theorem ggX4_findBlock_X0_translate : GoodIn wsX4_findBlock wsX0_translate := goodIn_r _ [21, 22, 23, 24, 25, 26, 27, 28, 12, 29, 30, 31, 32, 9, 33, 34, 35, 36, 37, 38, 39, 40, 41, 42, 43, 44, 45, 46, 47, 48, 49, 50, 51, 52, 53, 54, 55, 56, 57, 58, 59, 60, 61, 62, 63, 64, 65, 66, 67, 68, 69, 70, 71, 72, 73, 74, 75, 76, 77, 78, 79, 80, 81, 82, 83, 84, 85, 86, 87, 88, 89, 90, 91, 92, 93, 94, 95, 96, 97, 98, 99, 100, 101, 102, 103, 104, 105, 106, 107, 108, 11, 109, 110, 111, 129, 130, 131, 132, 133, 134, 135, 136, 137, 138, 139, 140, 141] rfl (by decide +kernel)
set_option maxRecDepth 100000 in
theorem gX4_findBlock_X0_translate : GoodIn wsX4_findBlock (wsV RX4 165 RX0 yX0_translate wsX0_translate) := goodIn_app (goodIn_of _ (by decide +kernel)) ggX4_findBlock_X0_translate
theorem dX4_findBlock_0 : decode cX4_findBlock 0 = .ok (.aload_n 0, 1) := by decide +kernel
theorem dX4_findBlock_1 : decode cX4_findBlock 1 = .ok (.getfield 19, 3) := by decide +kernel
theorem dX4_findBlock_4 : decode cX4_findBlock 4 = .ok (.aload_n 0, 1) := by decide +kernel
theorem dX4_findBlock_5 : decode cX4_findBlock 5 = .ok (.getfield 36, 3) := by decide +kernel
theorem dX4_findBlock_8 : decode cX4_findBlock 8 = .ok (.iload_n 1, 1) := by decide +kernel
theorem dX4_findBlock_9 : decode cX4_findBlock 9 = .ok (.invokevirtual 159, 3) := by decide +kernel
theorem dX4_findBlock_12 : decode cX4_findBlock 12 = .ok (.ifCond .eq 5, 3) := by decide +kernel
theorem dX4_findBlock_15 : decode cX4_findBlock 15 = .ok (.iconst 1, 1) := by decide +kernel
theorem dX4_findBlock_16 : decode cX4_findBlock 16 = .ok (.ireturn, 1) := by decide +kernel
theorem dX4_findBlock_17 : decode cX4_findBlock 17 = .ok (.aload_n 0, 1) := by decide +kernel
theorem dX4_findBlock_18 : decode cX4_findBlock 18 = .ok (.dup, 1) := by decide +kernel
theorem dX4_findBlock_19 : decode cX4_findBlock 19 = .ok (.getfield 112, 3) := by decide +kernel
theorem dX4_findBlock_22 : decode cX4_findBlock 22 = .ok (.iconst 1, 1) := by decide +kernel
theorem dX4_findBlock_23 : decode cX4_findBlock 23 = .ok (.iadd, 1) := by decide +kernel
theorem dX4_findBlock_24 : decode cX4_findBlock 24 = .ok (.putfield 112, 3) := by decide +kernel
theorem dX4_findBlock_27 : decode cX4_findBlock 27 = .ok (.aload_n 0, 1) := by decide +kernel
theorem dX4_findBlock_28 : decode cX4_findBlock 28 = .ok (.getfield 19, 3) := by decide +kernel
theorem dX4_findBlock_31 : decode cX4_findBlock 31 = .ok (.iload_n 1, 1) := by decide +kernel
theorem dX4_findBlock_32 : decode cX4_findBlock 32 = .ok (.invokevirtual 162, 3) := by decide +kernel
theorem dX4_findBlock_35 : decode cX4_findBlock 35 = .ok (.ifCond .ne 21, 3) := by decide +kernel
theorem dX4_findBlock_38 : decode cX4_findBlock 38 = .ok (.aload_n 0, 1) := by decide +kernel
theorem dX4_findBlock_39 : decode cX4_findBlock 39 = .ok (.getfield 19, 3) := by decide +kernel
theorem dX4_findBlock_42 : decode cX4_findBlock 42 = .ok (.aload_n 0, 1) := by decide +kernel
theorem dX4_findBlock_43 : decode cX4_findBlock 43 = .ok (.getfield 10, 3) := by decide +kernel
theorem dX4_findBlock_46 : decode cX4_findBlock 46 = .ok (.getfield 46, 3) := by decide +kernel
theorem dX4_findBlock_49 : decode cX4_findBlock 49 = .ok (.iload_n 1, 1) := by decide +kernel
theorem dX4_findBlock_50 : decode cX4_findBlock 50 = .ok (.invokevirtual 165, 3) := by decide +kernel
theorem dX4_findBlock_53 : decode cX4_findBlock 53 = .ok (.ifCond .eq 7, 3) := by decide +kernel
theorem dX4_findBlock_56 : decode cX4_findBlock 56 = .ok (.iconst 1, 1) := by decide +kernel
theorem dX4_findBlock_57 : decode cX4_findBlock 57 = .ok (.goto 4, 3) := by decide +kernel
theorem dX4_findBlock_60 : decode cX4_findBlock 60 = .ok (.iconst 0, 1) := by decide +kernel
theorem dX4_findBlock_61 : decode cX4_findBlock 61 = .ok (.ireturn, 1) := by decide +kernel
set_option maxRecDepth 100000 in
theorem ggX4_mayRunWhole_X4_requestComes : GoodIn wsX4_mayRunWhole wsX4_requestComes := goodIn_r _ [6, 7, 8, 1, 9, 10, 11, 12, 13, 14, 15, 16, 17, 18, 19, 20, 21, 22, 23, 24, 25, 26, 27, 28, 29, 30, 31, 32, 33] rfl (by decide +kernel)
set_option maxRecDepth 100000 in
theorem gX4_mayRunWhole_X4_requestComes : GoodIn wsX4_mayRunWhole (wsV RX4 169 RX4 yX4_requestComes wsX4_requestComes) := goodIn_app (goodIn_of _ (by decide +kernel)) ggX4_mayRunWhole_X4_requestComes
theorem dX4_mayRunWhole_0 : decode cX4_mayRunWhole 0 = .ok (.iload_n 1, 1) := by decide +kernel
theorem dX4_mayRunWhole_1 : decode cX4_mayRunWhole 1 = .ok (.iload_n 2, 1) := by decide +kernel
theorem dX4_mayRunWhole_2 : decode cX4_mayRunWhole 2 = .ok (.if_icmp .gt 22, 3) := by decide +kernel
theorem dX4_mayRunWhole_5 : decode cX4_mayRunWhole 5 = .ok (.aload_n 0, 1) := by decide +kernel
theorem dX4_mayRunWhole_6 : decode cX4_mayRunWhole 6 = .ok (.aload_n 0, 1) := by decide +kernel
theorem dX4_mayRunWhole_7 : decode cX4_mayRunWhole 7 = .ok (.getfield 79, 3) := by decide +kernel
theorem dX4_mayRunWhole_10 : decode cX4_mayRunWhole 10 = .ok (.iload_n 1, 1) := by decide +kernel
theorem dX4_mayRunWhole_11 : decode cX4_mayRunWhole 11 = .ok (.iadd, 1) := by decide +kernel
theorem dX4_mayRunWhole_12 : decode cX4_mayRunWhole 12 = .ok (.iconst 1, 1) := by decide +kernel
theorem dX4_mayRunWhole_13 : decode cX4_mayRunWhole 13 = .ok (.isub, 1) := by decide +kernel
theorem dX4_mayRunWhole_14 : decode cX4_mayRunWhole 14 = .ok (.invokevirtual 169, 3) := by decide +kernel
theorem dX4_mayRunWhole_17 : decode cX4_mayRunWhole 17 = .ok (.ifCond .ne 7, 3) := by decide +kernel
theorem dX4_mayRunWhole_20 : decode cX4_mayRunWhole 20 = .ok (.iconst 1, 1) := by decide +kernel
theorem dX4_mayRunWhole_21 : decode cX4_mayRunWhole 21 = .ok (.goto 4, 3) := by decide +kernel
theorem dX4_mayRunWhole_24 : decode cX4_mayRunWhole 24 = .ok (.iconst 0, 1) := by decide +kernel
theorem dX4_mayRunWhole_25 : decode cX4_mayRunWhole 25 = .ok (.ireturn, 1) := by decide +kernel
set_option maxRecDepth 100000 in
theorem ggX4_requestComes_X3_at : GoodIn wsX4_requestComes wsX3_at := goodIn_r _ [8, 9, 10, 11, 12, 13, 7, 14, 26, 27, 28] rfl (by decide +kernel)
set_option maxRecDepth 100000 in
theorem gX4_requestComes_X3_at : GoodIn wsX4_requestComes (wsV RX4 172 RX3 yX3_at wsX3_at) := goodIn_app (goodIn_of _ (by decide +kernel)) ggX4_requestComes_X3_at
theorem dX4_requestComes_0 : decode cX4_requestComes 0 = .ok (.iconst 0, 1) := by decide +kernel
theorem dX4_requestComes_1 : decode cX4_requestComes 1 = .ok (.istore_n 2, 1) := by decide +kernel
theorem dX4_requestComes_2 : decode cX4_requestComes 2 = .ok (.iload_n 2, 1) := by decide +kernel
theorem dX4_requestComes_3 : decode cX4_requestComes 3 = .ok (.aload_n 0, 1) := by decide +kernel
theorem dX4_requestComes_4 : decode cX4_requestComes 4 = .ok (.getfield 28, 3) := by decide +kernel
theorem dX4_requestComes_7 : decode cX4_requestComes 7 = .ok (.getfield 76, 3) := by decide +kernel
theorem dX4_requestComes_10 : decode cX4_requestComes 10 = .ok (.if_icmp .ge 33, 3) := by decide +kernel
theorem dX4_requestComes_13 : decode cX4_requestComes 13 = .ok (.aload_n 0, 1) := by decide +kernel
theorem dX4_requestComes_14 : decode cX4_requestComes 14 = .ok (.getfield 28, 3) := by decide +kernel
theorem dX4_requestComes_17 : decode cX4_requestComes 17 = .ok (.iload_n 2, 1) := by decide +kernel
theorem dX4_requestComes_18 : decode cX4_requestComes 18 = .ok (.invokevirtual 172, 3) := by decide +kernel
theorem dX4_requestComes_21 : decode cX4_requestComes 21 = .ok (.istore_n 3, 1) := by decide +kernel
theorem dX4_requestComes_22 : decode cX4_requestComes 22 = .ok (.iload_n 3, 1) := by decide +kernel
theorem dX4_requestComes_23 : decode cX4_requestComes 23 = .ok (.aload_n 0, 1) := by decide +kernel
theorem dX4_requestComes_24 : decode cX4_requestComes 24 = .ok (.getfield 79, 3) := by decide +kernel
theorem dX4_requestComes_27 : decode cX4_requestComes 27 = .ok (.if_icmp .le 10, 3) := by decide +kernel
theorem dX4_requestComes_30 : decode cX4_requestComes 30 = .ok (.iload_n 3, 1) := by decide +kernel
theorem dX4_requestComes_31 : decode cX4_requestComes 31 = .ok (.iload_n 1, 1) := by decide +kernel
theorem dX4_requestComes_32 : decode cX4_requestComes 32 = .ok (.if_icmp .gt 5, 3) := by decide +kernel
theorem dX4_requestComes_35 : decode cX4_requestComes 35 = .ok (.iconst 1, 1) := by decide +kernel
theorem dX4_requestComes_36 : decode cX4_requestComes 36 = .ok (.ireturn, 1) := by decide +kernel
theorem dX4_requestComes_37 : decode cX4_requestComes 37 = .ok (.iinc 2 1, 3) := by decide +kernel
theorem dX4_requestComes_40 : decode cX4_requestComes 40 = .ok (.goto (-38), 3) := by decide +kernel
theorem dX4_requestComes_43 : decode cX4_requestComes 43 = .ok (.iconst 0, 1) := by decide +kernel
theorem dX4_requestComes_44 : decode cX4_requestComes 44 = .ok (.ireturn, 1) := by decide +kernel
set_option maxRecDepth 100000 in
theorem ggX4_runBlock_X0_link : GoodIn wsX4_runBlock wsX0_link := goodIn_r _ [10, 11, 12, 13, 14, 15, 9, 16, 168, 169, 170, 171, 172, 173, 174, 175, 176, 177, 178, 179, 180] rfl (by decide +kernel)
set_option maxRecDepth 100000 in
theorem gX4_runBlock_X0_link : GoodIn wsX4_runBlock (wsV RX4 175 RX0 yX0_link wsX0_link) := goodIn_app (goodIn_of _ (by decide +kernel)) ggX4_runBlock_X0_link
set_option maxRecDepth 100000 in
theorem ggX4_runBlock_X0_has : GoodIn wsX4_runBlock wsX0_has := goodIn_r _ [16, 12, 168, 169, 170, 171, 172, 173, 174, 175, 176, 177, 178, 179, 180] rfl (by decide +kernel)
set_option maxRecDepth 100000 in
theorem gX4_runBlock_X0_has : GoodIn wsX4_runBlock (wsV RX4 162 RX0 yX0_has wsX0_has) := goodIn_app (goodIn_of _ (by decide +kernel)) ggX4_runBlock_X0_has
set_option maxRecDepth 100000 in
theorem ggX4_runBlock_X0_wordAt : GoodIn wsX4_runBlock wsX0_wordAt := goodIn_r _ [21, 22, 168, 169, 170, 171, 172, 173, 174, 175, 176, 177, 178, 179, 180] rfl (by decide +kernel)
set_option maxRecDepth 100000 in
theorem gX4_runBlock_X0_wordAt : GoodIn wsX4_runBlock (wsV RX4 179 RX0 yX0_wordAt wsX0_wordAt) := goodIn_app (goodIn_of _ (by decide +kernel)) ggX4_runBlock_X0_wordAt
set_option maxRecDepth 100000 in
theorem ggX4_runBlock_X4_perform : GoodIn wsX4_runBlock wsX4_perform := goodIn_r _ [27, 4, 28, 29, 30, 31, 32, 33, 34, 35, 36, 37, 38, 39, 40, 41, 42, 43, 44, 45, 46, 47, 48, 49, 50, 51, 52, 53, 54, 55, 56, 57, 58, 59, 60, 61, 62, 63, 64, 65, 66, 67, 68, 69, 70, 71, 72, 73, 74, 75, 76, 77, 78, 79, 80, 81, 82, 83, 84, 85, 86, 87, 88, 89, 90, 91, 92, 93, 94, 95, 96, 97, 98, 99, 100, 101, 102, 103, 104, 105, 106, 107, 108, 109, 110, 111, 112, 113, 114, 115, 116, 117, 118, 119, 120, 121, 122, 123, 124, 125, 126, 127, 128, 129, 130, 131, 132, 133, 134, 135, 26, 136, 137, 138, 1, 139, 140, 141, 9, 142, 143, 12, 144, 145, 13, 14, 15, 16, 146, 147, 148, 149, 150, 151, 157, 158, 159, 160, 161, 162, 163, 164, 165, 166, 167, 181, 182, 183, 184, 185, 186, 187, 188, 189, 168, 169, 170, 171, 172, 173, 174, 175, 176, 177, 178, 179, 180] rfl (by decide +kernel)
set_option maxRecDepth 100000 in
theorem gX4_runBlock_X4_perform : GoodIn wsX4_runBlock (wsV RX4 183 RX4 yX4_perform wsX4_perform) := goodIn_app (goodIn_of _ (by decide +kernel)) ggX4_runBlock_X4_perform
set_option maxRecDepth 100000 in
theorem ggX4_runBlock_X0_exitTo : GoodIn wsX4_runBlock wsX0_exitTo := goodIn_r _ [155, 156, 168, 169, 170, 171, 172, 173, 174, 175, 176, 177, 178, 179, 180] rfl (by decide +kernel)
set_option maxRecDepth 100000 in
theorem gX4_runBlock_X0_exitTo : GoodIn wsX4_runBlock (wsV RX4 186 RX0 yX0_exitTo wsX0_exitTo) := goodIn_app (goodIn_of _ (by decide +kernel)) ggX4_runBlock_X0_exitTo
theorem dX4_runBlock_0 : decode cX4_runBlock 0 = .ok (.aload_n 0, 1) := by decide +kernel
theorem dX4_runBlock_1 : decode cX4_runBlock 1 = .ok (.getfield 19, 3) := by decide +kernel
theorem dX4_runBlock_4 : decode cX4_runBlock 4 = .ok (.aload_n 0, 1) := by decide +kernel
theorem dX4_runBlock_5 : decode cX4_runBlock 5 = .ok (.getfield 36, 3) := by decide +kernel
theorem dX4_runBlock_8 : decode cX4_runBlock 8 = .ok (.iload_n 1, 1) := by decide +kernel
theorem dX4_runBlock_9 : decode cX4_runBlock 9 = .ok (.invokevirtual 175, 3) := by decide +kernel
theorem dX4_runBlock_12 : decode cX4_runBlock 12 = .ok (.aload_n 0, 1) := by decide +kernel
theorem dX4_runBlock_13 : decode cX4_runBlock 13 = .ok (.getfield 19, 3) := by decide +kernel
theorem dX4_runBlock_16 : decode cX4_runBlock 16 = .ok (.getfield 133, 3) := by decide +kernel
theorem dX4_runBlock_19 : decode cX4_runBlock 19 = .ok (.iload_n 1, 1) := by decide +kernel
theorem dX4_runBlock_20 : decode cX4_runBlock 20 = .ok (.iaload, 1) := by decide +kernel
theorem dX4_runBlock_21 : decode cX4_runBlock 21 = .ok (.istore_n 2, 1) := by decide +kernel
theorem dX4_runBlock_22 : decode cX4_runBlock 22 = .ok (.iconst 0, 1) := by decide +kernel
theorem dX4_runBlock_23 : decode cX4_runBlock 23 = .ok (.istore_n 3, 1) := by decide +kernel
theorem dX4_runBlock_24 : decode cX4_runBlock 24 = .ok (.iload_n 3, 1) := by decide +kernel
theorem dX4_runBlock_25 : decode cX4_runBlock 25 = .ok (.iload_n 2, 1) := by decide +kernel
theorem dX4_runBlock_26 : decode cX4_runBlock 26 = .ok (.if_icmp .ge 33, 3) := by decide +kernel
theorem dX4_runBlock_29 : decode cX4_runBlock 29 = .ok (.aload_n 0, 1) := by decide +kernel
theorem dX4_runBlock_30 : decode cX4_runBlock 30 = .ok (.getfield 19, 3) := by decide +kernel
theorem dX4_runBlock_33 : decode cX4_runBlock 33 = .ok (.iload_n 1, 1) := by decide +kernel
theorem dX4_runBlock_34 : decode cX4_runBlock 34 = .ok (.invokevirtual 162, 3) := by decide +kernel
theorem dX4_runBlock_37 : decode cX4_runBlock 37 = .ok (.ifCond .eq 22, 3) := by decide +kernel
theorem dX4_runBlock_40 : decode cX4_runBlock 40 = .ok (.aload_n 0, 1) := by decide +kernel
theorem dX4_runBlock_41 : decode cX4_runBlock 41 = .ok (.aload_n 0, 1) := by decide +kernel
theorem dX4_runBlock_42 : decode cX4_runBlock 42 = .ok (.getfield 19, 3) := by decide +kernel
theorem dX4_runBlock_45 : decode cX4_runBlock 45 = .ok (.iload_n 1, 1) := by decide +kernel
theorem dX4_runBlock_46 : decode cX4_runBlock 46 = .ok (.iload_n 3, 1) := by decide +kernel
theorem dX4_runBlock_47 : decode cX4_runBlock 47 = .ok (.invokevirtual 179, 3) := by decide +kernel
theorem dX4_runBlock_50 : decode cX4_runBlock 50 = .ok (.invokevirtual 183, 3) := by decide +kernel
theorem dX4_runBlock_53 : decode cX4_runBlock 53 = .ok (.iinc 3 1, 3) := by decide +kernel
theorem dX4_runBlock_56 : decode cX4_runBlock 56 = .ok (.goto (-32), 3) := by decide +kernel
theorem dX4_runBlock_59 : decode cX4_runBlock 59 = .ok (.aload_n 0, 1) := by decide +kernel
theorem dX4_runBlock_60 : decode cX4_runBlock 60 = .ok (.aload_n 0, 1) := by decide +kernel
theorem dX4_runBlock_61 : decode cX4_runBlock 61 = .ok (.getfield 19, 3) := by decide +kernel
theorem dX4_runBlock_64 : decode cX4_runBlock 64 = .ok (.iload_n 1, 1) := by decide +kernel
theorem dX4_runBlock_65 : decode cX4_runBlock 65 = .ok (.invokevirtual 162, 3) := by decide +kernel
theorem dX4_runBlock_68 : decode cX4_runBlock 68 = .ok (.ifCond .eq 24, 3) := by decide +kernel
theorem dX4_runBlock_71 : decode cX4_runBlock 71 = .ok (.aload_n 0, 1) := by decide +kernel
theorem dX4_runBlock_72 : decode cX4_runBlock 72 = .ok (.getfield 19, 3) := by decide +kernel
theorem dX4_runBlock_75 : decode cX4_runBlock 75 = .ok (.iload_n 1, 1) := by decide +kernel
theorem dX4_runBlock_76 : decode cX4_runBlock 76 = .ok (.aload_n 0, 1) := by decide +kernel
theorem dX4_runBlock_77 : decode cX4_runBlock 77 = .ok (.getfield 10, 3) := by decide +kernel
theorem dX4_runBlock_80 : decode cX4_runBlock 80 = .ok (.getfield 60, 3) := by decide +kernel
theorem dX4_runBlock_83 : decode cX4_runBlock 83 = .ok (.bipush 9, 2) := by decide +kernel
theorem dX4_runBlock_85 : decode cX4_runBlock 85 = .ok (.iaload, 1) := by decide +kernel
theorem dX4_runBlock_86 : decode cX4_runBlock 86 = .ok (.invokevirtual 186, 3) := by decide +kernel
theorem dX4_runBlock_89 : decode cX4_runBlock 89 = .ok (.goto 4, 3) := by decide +kernel
theorem dX4_runBlock_92 : decode cX4_runBlock 92 = .ok (.iconst (-1), 1) := by decide +kernel
theorem dX4_runBlock_93 : decode cX4_runBlock 93 = .ok (.putfield 36, 3) := by decide +kernel
theorem dX4_runBlock_96 : decode cX4_runBlock 96 = .ok (.return_, 1) := by decide +kernel
set_option maxRecDepth 100000 in
theorem ggX4_interpret_X1_decode : GoodIn wsX4_interpret wsX1_decode := goodIn_r _ [9, 10, 11, 8, 12] rfl (by decide +kernel)
set_option maxRecDepth 100000 in
theorem gX4_interpret_X1_decode : GoodIn wsX4_interpret (va_wsS RX4 189 yX1_decode wsX1_decode) := goodIn_app (goodIn_of _ (by decide +kernel)) ggX4_interpret_X1_decode
set_option maxRecDepth 100000 in
theorem ggX4_interpret_X1_kind : GoodIn wsX4_interpret wsX1_kind := goodIn_r _ [15] rfl (by decide +kernel)
set_option maxRecDepth 100000 in
theorem gX4_interpret_X1_kind : GoodIn wsX4_interpret (va_wsS RX4 195 yX1_kind wsX1_kind) := goodIn_app (goodIn_of _ (by decide +kernel)) ggX4_interpret_X1_kind
set_option maxRecDepth 100000 in
theorem ggX4_interpret_X4_perform : GoodIn wsX4_interpret wsX4_perform := goodIn_r _ [20, 2, 21, 4, 22, 23, 24, 25, 26, 27, 28, 14, 8, 15, 29, 30, 31, 32, 33, 34, 35, 36, 37, 38, 39, 40, 41, 42, 43, 44, 45, 46, 47, 48, 49, 50, 51, 52, 53, 54, 55, 56, 57, 58, 59, 60, 61, 62, 63, 64, 65, 66, 67, 68, 69, 70, 71, 72, 73, 74, 75, 76, 77, 78, 79, 80, 81, 82, 83, 84, 85, 86, 87, 88, 89, 90, 91, 92, 93, 94, 95, 96, 97, 98, 99, 100, 101, 102, 103, 104, 105, 106, 107, 108, 109, 110, 111, 112, 113, 114, 115, 116, 117, 118, 119, 120, 121, 122, 123, 124, 19, 125, 126, 127, 128, 129, 130, 131, 132, 133, 134, 135, 136, 137, 138, 139, 140, 141, 142, 143, 144, 145, 146, 13, 147, 148, 149, 150, 151, 152, 153, 154, 155, 156, 157, 158, 159, 160, 161, 162, 163, 164, 165, 166, 167, 168, 169, 170, 171, 172, 173, 174, 175, 176, 177, 178, 179] rfl (by decide +kernel)
set_option maxRecDepth 100000 in
theorem gX4_interpret_X4_perform : GoodIn wsX4_interpret (wsV RX4 183 RX4 yX4_perform wsX4_perform) := goodIn_app (goodIn_of _ (by decide +kernel)) ggX4_interpret_X4_perform
theorem dX4_interpret_0 : decode cX4_interpret 0 = .ok (.aload_n 0, 1) := by decide +kernel
theorem dX4_interpret_1 : decode cX4_interpret 1 = .ok (.iconst (-1), 1) := by decide +kernel
theorem dX4_interpret_2 : decode cX4_interpret 2 = .ok (.putfield 36, 3) := by decide +kernel
theorem dX4_interpret_5 : decode cX4_interpret 5 = .ok (.aload_n 0, 1) := by decide +kernel
theorem dX4_interpret_6 : decode cX4_interpret 6 = .ok (.getfield 10, 3) := by decide +kernel
theorem dX4_interpret_9 : decode cX4_interpret 9 = .ok (.getfield 46, 3) := by decide +kernel
theorem dX4_interpret_12 : decode cX4_interpret 12 = .ok (.iload_n 1, 1) := by decide +kernel
theorem dX4_interpret_13 : decode cX4_interpret 13 = .ok (.invokestatic 189, 3) := by decide +kernel
theorem dX4_interpret_16 : decode cX4_interpret 16 = .ok (.istore_n 2, 1) := by decide +kernel
theorem dX4_interpret_17 : decode cX4_interpret 17 = .ok (.iload_n 2, 1) := by decide +kernel
theorem dX4_interpret_18 : decode cX4_interpret 18 = .ok (.invokestatic 195, 3) := by decide +kernel
theorem dX4_interpret_21 : decode cX4_interpret 21 = .ok (.ifCond .ne 9, 3) := by decide +kernel
theorem dX4_interpret_24 : decode cX4_interpret 24 = .ok (.aload_n 0, 1) := by decide +kernel
theorem dX4_interpret_25 : decode cX4_interpret 25 = .ok (.iconst 2, 1) := by decide +kernel
theorem dX4_interpret_26 : decode cX4_interpret 26 = .ok (.putfield 88, 3) := by decide +kernel
theorem dX4_interpret_29 : decode cX4_interpret 29 = .ok (.return_, 1) := by decide +kernel
theorem dX4_interpret_30 : decode cX4_interpret 30 = .ok (.aload_n 0, 1) := by decide +kernel
theorem dX4_interpret_31 : decode cX4_interpret 31 = .ok (.dup, 1) := by decide +kernel
theorem dX4_interpret_32 : decode cX4_interpret 32 = .ok (.getfield 115, 3) := by decide +kernel
theorem dX4_interpret_35 : decode cX4_interpret 35 = .ok (.iconst 1, 1) := by decide +kernel
theorem dX4_interpret_36 : decode cX4_interpret 36 = .ok (.iadd, 1) := by decide +kernel
theorem dX4_interpret_37 : decode cX4_interpret 37 = .ok (.putfield 115, 3) := by decide +kernel
theorem dX4_interpret_40 : decode cX4_interpret 40 = .ok (.aload_n 0, 1) := by decide +kernel
theorem dX4_interpret_41 : decode cX4_interpret 41 = .ok (.iload_n 2, 1) := by decide +kernel
theorem dX4_interpret_42 : decode cX4_interpret 42 = .ok (.invokevirtual 183, 3) := by decide +kernel
theorem dX4_interpret_45 : decode cX4_interpret 45 = .ok (.return_, 1) := by decide +kernel
set_option maxRecDepth 100000 in
theorem ggX4_perform_X2_execute : GoodIn wsX4_perform wsX2_execute := goodIn_r _ [8, 9, 10, 11, 12, 13, 14, 15, 16, 17, 18, 19, 20, 21, 22, 7, 23, 24, 25, 26, 27, 28, 29, 30, 31, 32, 33, 34, 35, 36, 37, 38, 39, 40, 41, 42, 43, 44, 45, 46, 47, 48, 49, 50, 51, 52, 53, 54, 55, 56, 57, 58, 59, 60, 61, 62, 63, 64, 65, 66, 67, 68, 69, 70, 71, 72, 73, 74, 75, 76, 77, 78, 79, 80, 81, 82, 83, 84, 85, 86, 87, 88, 89, 90, 91, 92, 93, 94, 95, 96, 97, 98, 99, 100, 101, 102, 103, 104, 105, 106, 145, 146, 147, 148, 149, 150, 151, 152, 153] rfl (by decide +kernel)
set_option maxRecDepth 100000 in
theorem gX4_perform_X2_execute : GoodIn wsX4_perform (wsV RX4 198 RX2 yX2_execute wsX2_execute) := goodIn_app (goodIn_of _ (by decide +kernel)) ggX4_perform_X2_execute
set_option maxRecDepth 100000 in
theorem ggX4_perform_X4_dropWritten : GoodIn wsX4_perform wsX4_dropWritten := goodIn_r _ [111, 1, 112, 113, 114, 115, 116, 117, 118, 119, 120, 121, 122, 123, 124, 125, 126, 127, 128, 129, 130, 131, 132, 134, 135, 136, 137, 138, 139, 140, 141, 142, 143, 144, 145, 146, 147, 148, 149, 150, 154, 155, 156, 157, 158, 159, 160, 161, 162, 163, 164, 165, 166] rfl (by decide +kernel)
set_option maxRecDepth 100000 in
theorem gX4_perform_X4_dropWritten : GoodIn wsX4_perform (wsV RX4 156 RX4 yX4_dropWritten wsX4_dropWritten) := goodIn_app (goodIn_of _ (by decide +kernel)) ggX4_perform_X4_dropWritten
set_option maxRecDepth 100000 in
theorem ggX4_perform_X1_kind : GoodIn wsX4_perform wsX1_kind := goodIn_r _ [13] rfl (by decide +kernel)
set_option maxRecDepth 100000 in
theorem gX4_perform_X1_kind : GoodIn wsX4_perform (va_wsS RX4 195 yX1_kind wsX1_kind) := goodIn_app (goodIn_of _ (by decide +kernel)) ggX4_perform_X1_kind
theorem dX4_perform_0 : decode cX4_perform 0 = .ok (.aload_n 0, 1) := by decide +kernel
theorem dX4_perform_1 : decode cX4_perform 1 = .ok (.getfield 10, 3) := by decide +kernel
theorem dX4_perform_4 : decode cX4_perform 4 = .ok (.iload_n 1, 1) := by decide +kernel
theorem dX4_perform_5 : decode cX4_perform 5 = .ok (.invokevirtual 198, 3) := by decide +kernel
theorem dX4_perform_8 : decode cX4_perform 8 = .ok (.aload_n 0, 1) := by decide +kernel
theorem dX4_perform_9 : decode cX4_perform 9 = .ok (.dup, 1) := by decide +kernel
theorem dX4_perform_10 : decode cX4_perform 10 = .ok (.getfield 79, 3) := by decide +kernel
theorem dX4_perform_13 : decode cX4_perform 13 = .ok (.iconst 1, 1) := by decide +kernel
theorem dX4_perform_14 : decode cX4_perform 14 = .ok (.iadd, 1) := by decide +kernel
theorem dX4_perform_15 : decode cX4_perform 15 = .ok (.putfield 79, 3) := by decide +kernel
theorem dX4_perform_18 : decode cX4_perform 18 = .ok (.aload_n 0, 1) := by decide +kernel
theorem dX4_perform_19 : decode cX4_perform 19 = .ok (.invokevirtual 156, 3) := by decide +kernel
theorem dX4_perform_22 : decode cX4_perform 22 = .ok (.iload_n 1, 1) := by decide +kernel
theorem dX4_perform_23 : decode cX4_perform 23 = .ok (.invokestatic 195, 3) := by decide +kernel
theorem dX4_perform_26 : decode cX4_perform 26 = .ok (.iconst 1, 1) := by decide +kernel
theorem dX4_perform_27 : decode cX4_perform 27 = .ok (.if_icmp .ne 8, 3) := by decide +kernel
theorem dX4_perform_30 : decode cX4_perform 30 = .ok (.aload_n 0, 1) := by decide +kernel
theorem dX4_perform_31 : decode cX4_perform 31 = .ok (.iconst 1, 1) := by decide +kernel
theorem dX4_perform_32 : decode cX4_perform 32 = .ok (.putfield 88, 3) := by decide +kernel
theorem dX4_perform_35 : decode cX4_perform 35 = .ok (.return_, 1) := by decide +kernel
set_option maxRecDepth 100000 in
theorem ggX4_dropWritten_X0_dropPage : GoodIn wsX4_dropWritten wsX0_dropPage := goodIn_r _ [9, 10, 11, 12, 13, 14, 15, 16, 8, 17, 18, 19, 20, 21, 22, 40, 41, 42, 43, 44, 45, 46, 47, 48, 49, 50, 51, 52] rfl (by decide +kernel)
set_option maxRecDepth 100000 in
theorem gX4_dropWritten_X0_dropPage : GoodIn wsX4_dropWritten (wsV RX4 50 RX0 yX0_dropPage wsX0_dropPage) := goodIn_app (goodIn_of _ (by decide +kernel)) ggX4_dropWritten_X0_dropPage
theorem dX4_dropWritten_0 : decode cX4_dropWritten 0 = .ok (.aload_n 0, 1) := by decide +kernel
theorem dX4_dropWritten_1 : decode cX4_dropWritten 1 = .ok (.getfield 10, 3) := by decide +kernel
theorem dX4_dropWritten_4 : decode cX4_dropWritten 4 = .ok (.getfield 201, 3) := by decide +kernel
theorem dX4_dropWritten_7 : decode cX4_dropWritten 7 = .ok (.iconst (-1), 1) := by decide +kernel
theorem dX4_dropWritten_8 : decode cX4_dropWritten 8 = .ok (.if_icmp .eq 37, 3) := by decide +kernel
theorem dX4_dropWritten_11 : decode cX4_dropWritten 11 = .ok (.aload_n 0, 1) := by decide +kernel
theorem dX4_dropWritten_12 : decode cX4_dropWritten 12 = .ok (.dup, 1) := by decide +kernel
theorem dX4_dropWritten_13 : decode cX4_dropWritten 13 = .ok (.getfield 106, 3) := by decide +kernel
theorem dX4_dropWritten_16 : decode cX4_dropWritten 16 = .ok (.aload_n 0, 1) := by decide +kernel
theorem dX4_dropWritten_17 : decode cX4_dropWritten 17 = .ok (.getfield 19, 3) := by decide +kernel
theorem dX4_dropWritten_20 : decode cX4_dropWritten 20 = .ok (.aload_n 0, 1) := by decide +kernel
theorem dX4_dropWritten_21 : decode cX4_dropWritten 21 = .ok (.getfield 10, 3) := by decide +kernel
theorem dX4_dropWritten_24 : decode cX4_dropWritten 24 = .ok (.getfield 201, 3) := by decide +kernel
theorem dX4_dropWritten_27 : decode cX4_dropWritten 27 = .ok (.bipush 32, 2) := by decide +kernel
theorem dX4_dropWritten_29 : decode cX4_dropWritten 29 = .ok (.idiv, 1) := by decide +kernel
theorem dX4_dropWritten_30 : decode cX4_dropWritten 30 = .ok (.invokevirtual 50, 3) := by decide +kernel
theorem dX4_dropWritten_33 : decode cX4_dropWritten 33 = .ok (.iadd, 1) := by decide +kernel
theorem dX4_dropWritten_34 : decode cX4_dropWritten 34 = .ok (.putfield 106, 3) := by decide +kernel
theorem dX4_dropWritten_37 : decode cX4_dropWritten 37 = .ok (.aload_n 0, 1) := by decide +kernel
theorem dX4_dropWritten_38 : decode cX4_dropWritten 38 = .ok (.getfield 10, 3) := by decide +kernel
theorem dX4_dropWritten_41 : decode cX4_dropWritten 41 = .ok (.iconst (-1), 1) := by decide +kernel
theorem dX4_dropWritten_42 : decode cX4_dropWritten 42 = .ok (.putfield 201, 3) := by decide +kernel
theorem dX4_dropWritten_45 : decode cX4_dropWritten 45 = .ok (.return_, 1) := by decide +kernel
theorem dX5_init_0 : decode cX5_init 0 = .ok (.aload_n 0, 1) := by decide +kernel
theorem dX5_init_1 : decode cX5_init 1 = .ok (.invokespecial 1, 3) := by decide +kernel
theorem dX5_init_4 : decode cX5_init 4 = .ok (.aload_n 0, 1) := by decide +kernel
theorem dX5_init_5 : decode cX5_init 5 = .ok (.sipush 256, 3) := by decide +kernel
theorem dX5_init_8 : decode cX5_init 8 = .ok (.newarray .int, 2) := by decide +kernel
theorem dX5_init_10 : decode cX5_init 10 = .ok (.putfield 7, 3) := by decide +kernel
theorem dX5_init_13 : decode cX5_init 13 = .ok (.aload_n 0, 1) := by decide +kernel
theorem dX5_init_14 : decode cX5_init 14 = .ok (.bipush 10, 2) := by decide +kernel
theorem dX5_init_16 : decode cX5_init 16 = .ok (.newarray .int, 2) := by decide +kernel
theorem dX5_init_18 : decode cX5_init 18 = .ok (.putfield 13, 3) := by decide +kernel
theorem dX5_init_21 : decode cX5_init 21 = .ok (.aload_n 0, 1) := by decide +kernel
theorem dX5_init_22 : decode cX5_init 22 = .ok (.bipush 32, 2) := by decide +kernel
theorem dX5_init_24 : decode cX5_init 24 = .ok (.newarray .int, 2) := by decide +kernel
theorem dX5_init_26 : decode cX5_init 26 = .ok (.putfield 16, 3) := by decide +kernel
theorem dX5_init_29 : decode cX5_init 29 = .ok (.aload_n 0, 1) := by decide +kernel
theorem dX5_init_30 : decode cX5_init 30 = .ok (.bipush 16, 2) := by decide +kernel
theorem dX5_init_32 : decode cX5_init 32 = .ok (.newarray .int, 2) := by decide +kernel
theorem dX5_init_34 : decode cX5_init 34 = .ok (.putfield 19, 3) := by decide +kernel
theorem dX5_init_37 : decode cX5_init 37 = .ok (.aload_n 0, 1) := by decide +kernel
theorem dX5_init_38 : decode cX5_init 38 = .ok (.iconst (-1), 1) := by decide +kernel
theorem dX5_init_39 : decode cX5_init 39 = .ok (.putfield 22, 3) := by decide +kernel
theorem dX5_init_42 : decode cX5_init 42 = .ok (.aload_n 0, 1) := by decide +kernel
theorem dX5_init_43 : decode cX5_init 43 = .ok (.bipush 100, 2) := by decide +kernel
theorem dX5_init_45 : decode cX5_init 45 = .ok (.newarray .int, 2) := by decide +kernel
theorem dX5_init_47 : decode cX5_init 47 = .ok (.putfield 26, 3) := by decide +kernel
theorem dX5_init_50 : decode cX5_init 50 = .ok (.aload_n 0, 1) := by decide +kernel
theorem dX5_init_51 : decode cX5_init 51 = .ok (.sipush 256, 3) := by decide +kernel
theorem dX5_init_54 : decode cX5_init 54 = .ok (.newarray .int, 2) := by decide +kernel
theorem dX5_init_56 : decode cX5_init 56 = .ok (.putfield 29, 3) := by decide +kernel
theorem dX5_init_59 : decode cX5_init 59 = .ok (.aload_n 0, 1) := by decide +kernel
theorem dX5_init_60 : decode cX5_init 60 = .ok (.sipush 256, 3) := by decide +kernel
theorem dX5_init_63 : decode cX5_init 63 = .ok (.newarray .int, 2) := by decide +kernel
theorem dX5_init_65 : decode cX5_init 65 = .ok (.putfield 32, 3) := by decide +kernel
theorem dX5_init_68 : decode cX5_init 68 = .ok (.aload_n 0, 1) := by decide +kernel
theorem dX5_init_69 : decode cX5_init 69 = .ok (.sipush 256, 3) := by decide +kernel
theorem dX5_init_72 : decode cX5_init 72 = .ok (.newarray .int, 2) := by decide +kernel
theorem dX5_init_74 : decode cX5_init 74 = .ok (.putfield 35, 3) := by decide +kernel
theorem dX5_init_77 : decode cX5_init 77 = .ok (.aload_n 0, 1) := by decide +kernel
theorem dX5_init_78 : decode cX5_init 78 = .ok (.sipush 256, 3) := by decide +kernel
theorem dX5_init_81 : decode cX5_init 81 = .ok (.newarray .int, 2) := by decide +kernel
theorem dX5_init_83 : decode cX5_init 83 = .ok (.putfield 38, 3) := by decide +kernel
theorem dX5_init_86 : decode cX5_init 86 = .ok (.aload_n 0, 1) := by decide +kernel
theorem dX5_init_87 : decode cX5_init 87 = .ok (.sipush 512, 3) := by decide +kernel
theorem dX5_init_90 : decode cX5_init 90 = .ok (.newarray .int, 2) := by decide +kernel
theorem dX5_init_92 : decode cX5_init 92 = .ok (.putfield 41, 3) := by decide +kernel
theorem dX5_init_95 : decode cX5_init 95 = .ok (.aload_n 0, 1) := by decide +kernel
theorem dX5_init_96 : decode cX5_init 96 = .ok (.sipush 512, 3) := by decide +kernel
theorem dX5_init_99 : decode cX5_init 99 = .ok (.newarray .int, 2) := by decide +kernel
theorem dX5_init_101 : decode cX5_init 101 = .ok (.putfield 44, 3) := by decide +kernel
theorem dX5_init_104 : decode cX5_init 104 = .ok (.aload_n 0, 1) := by decide +kernel
theorem dX5_init_105 : decode cX5_init 105 = .ok (.bipush 100, 2) := by decide +kernel
theorem dX5_init_107 : decode cX5_init 107 = .ok (.putfield 47, 3) := by decide +kernel
theorem dX5_init_110 : decode cX5_init 110 = .ok (.aload_n 0, 1) := by decide +kernel
theorem dX5_init_111 : decode cX5_init 111 = .ok (.bipush 12, 2) := by decide +kernel
theorem dX5_init_113 : decode cX5_init 113 = .ok (.newarray .int, 2) := by decide +kernel
theorem dX5_init_115 : decode cX5_init 115 = .ok (.putfield 50, 3) := by decide +kernel
theorem dX5_init_118 : decode cX5_init 118 = .ok (.aload_n 0, 1) := by decide +kernel
theorem dX5_init_119 : decode cX5_init 119 = .ok (.bipush 8, 2) := by decide +kernel
theorem dX5_init_121 : decode cX5_init 121 = .ok (.newarray .int, 2) := by decide +kernel
theorem dX5_init_123 : decode cX5_init 123 = .ok (.putfield 53, 3) := by decide +kernel
theorem dX5_init_126 : decode cX5_init 126 = .ok (.aload_n 0, 1) := by decide +kernel
theorem dX5_init_127 : decode cX5_init 127 = .ok (.iconst (-1), 1) := by decide +kernel
theorem dX5_init_128 : decode cX5_init 128 = .ok (.putfield 56, 3) := by decide +kernel
theorem dX5_init_131 : decode cX5_init 131 = .ok (.return_, 1) := by decide +kernel
theorem dX5_thrown_0 : decode cX5_thrown 0 = .ok (.aload_n 0, 1) := by decide +kernel
theorem dX5_thrown_1 : decode cX5_thrown 1 = .ok (.getfield 59, 3) := by decide +kernel
theorem dX5_thrown_4 : decode cX5_thrown 4 = .ok (.ireturn, 1) := by decide +kernel
theorem dX5_refused_0 : decode cX5_refused 0 = .ok (.aload_n 0, 1) := by decide +kernel
theorem dX5_refused_1 : decode cX5_refused 1 = .ok (.iload_n 1, 1) := by decide +kernel
theorem dX5_refused_2 : decode cX5_refused 2 = .ok (.putfield 59, 3) := by decide +kernel
theorem dX5_refused_5 : decode cX5_refused 5 = .ok (.iload_n 1, 1) := by decide +kernel
theorem dX5_refused_6 : decode cX5_refused 6 = .ok (.ifCond .le 7, 3) := by decide +kernel
theorem dX5_refused_9 : decode cX5_refused 9 = .ok (.iconst 1, 1) := by decide +kernel
theorem dX5_refused_10 : decode cX5_refused 10 = .ok (.goto 4, 3) := by decide +kernel
theorem dX5_refused_13 : decode cX5_refused 13 = .ok (.iconst 0, 1) := by decide +kernel
theorem dX5_refused_14 : decode cX5_refused 14 = .ok (.ireturn, 1) := by decide +kernel
theorem dX5_isIn_0 : decode cX5_isIn 0 = .ok (.iload_n 0, 1) := by decide +kernel
theorem dX5_isIn_1 : decode cX5_isIn 1 = .ok (.iload_n 1, 1) := by decide +kernel
theorem dX5_isIn_2 : decode cX5_isIn 2 = .ok (.if_icmp .lt 12, 3) := by decide +kernel
theorem dX5_isIn_5 : decode cX5_isIn 5 = .ok (.iload_n 0, 1) := by decide +kernel
theorem dX5_isIn_6 : decode cX5_isIn 6 = .ok (.iload_n 2, 1) := by decide +kernel
theorem dX5_isIn_7 : decode cX5_isIn 7 = .ok (.if_icmp .gt 7, 3) := by decide +kernel
theorem dX5_isIn_10 : decode cX5_isIn 10 = .ok (.iconst 1, 1) := by decide +kernel
theorem dX5_isIn_11 : decode cX5_isIn 11 = .ok (.goto 4, 3) := by decide +kernel
theorem dX5_isIn_14 : decode cX5_isIn 14 = .ok (.iconst 0, 1) := by decide +kernel
theorem dX5_isIn_15 : decode cX5_isIn 15 = .ok (.ireturn, 1) := by decide +kernel
theorem dX5_kindOf_0 : decode cX5_kindOf 0 = .ok (.iload_n 0, 1) := by decide +kernel
theorem dX5_kindOf_1 : decode cX5_kindOf 1 = .ok (.bipush 15, 2) := by decide +kernel
theorem dX5_kindOf_3 : decode cX5_kindOf 3 = .ok (.iand, 1) := by decide +kernel
theorem dX5_kindOf_4 : decode cX5_kindOf 4 = .ok (.istore_n 1, 1) := by decide +kernel
theorem dX5_kindOf_5 : decode cX5_kindOf 5 = .ok (.iload_n 0, 1) := by decide +kernel
theorem dX5_kindOf_6 : decode cX5_kindOf 6 = .ok (.iconst 3, 1) := by decide +kernel
theorem dX5_kindOf_7 : decode cX5_kindOf 7 = .ok (.iand, 1) := by decide +kernel
theorem dX5_kindOf_8 : decode cX5_kindOf 8 = .ok (.istore_n 2, 1) := by decide +kernel
theorem dX5_kindOf_9 : decode cX5_kindOf 9 = .ok (.iload_n 0, 1) := by decide +kernel
theorem dX5_kindOf_10 : decode cX5_kindOf 10 = .ok (.iconst 4, 1) := by decide +kernel
theorem dX5_kindOf_11 : decode cX5_kindOf 11 = .ok (.ishr, 1) := by decide +kernel
theorem dX5_kindOf_12 : decode cX5_kindOf 12 = .ok (.tableswitch 162 0 14 #[76, 89, 89, 89, 89, 89, 89, 89, 98, 103, 108, 111, 114, 127, 148], 76) := by decide +kernel
theorem dX5_kindOf_88 : decode cX5_kindOf 88 = .ok (.iload_n 1, 1) := by decide +kernel
theorem dX5_kindOf_89 : decode cX5_kindOf 89 = .ok (.iconst 5, 1) := by decide +kernel
theorem dX5_kindOf_90 : decode cX5_kindOf 90 = .ok (.if_icmp .ge 9, 3) := by decide +kernel
theorem dX5_kindOf_93 : decode cX5_kindOf 93 = .ok (.iconst 1, 1) := by decide +kernel
theorem dX5_kindOf_94 : decode cX5_kindOf 94 = .ok (.iload_n 1, 1) := by decide +kernel
theorem dX5_kindOf_95 : decode cX5_kindOf 95 = .ok (.iadd, 1) := by decide +kernel
theorem dX5_kindOf_96 : decode cX5_kindOf 96 = .ok (.goto 4, 3) := by decide +kernel
theorem dX5_kindOf_99 : decode cX5_kindOf 99 = .ok (.iconst 0, 1) := by decide +kernel
theorem dX5_kindOf_100 : decode cX5_kindOf 100 = .ok (.ireturn, 1) := by decide +kernel
theorem dX5_kindOf_101 : decode cX5_kindOf 101 = .ok (.bipush 6, 2) := by decide +kernel
theorem dX5_kindOf_103 : decode cX5_kindOf 103 = .ok (.iload_n 0, 1) := by decide +kernel
theorem dX5_kindOf_104 : decode cX5_kindOf 104 = .ok (.iconst 4, 1) := by decide +kernel
theorem dX5_kindOf_105 : decode cX5_kindOf 105 = .ok (.ishr, 1) := by decide +kernel
theorem dX5_kindOf_106 : decode cX5_kindOf 106 = .ok (.iadd, 1) := by decide +kernel
theorem dX5_kindOf_107 : decode cX5_kindOf 107 = .ok (.iconst 1, 1) := by decide +kernel
theorem dX5_kindOf_108 : decode cX5_kindOf 108 = .ok (.isub, 1) := by decide +kernel
theorem dX5_kindOf_109 : decode cX5_kindOf 109 = .ok (.ireturn, 1) := by decide +kernel
theorem dX5_kindOf_110 : decode cX5_kindOf 110 = .ok (.bipush 13, 2) := by decide +kernel
theorem dX5_kindOf_112 : decode cX5_kindOf 112 = .ok (.iload_n 2, 1) := by decide +kernel
theorem dX5_kindOf_113 : decode cX5_kindOf 113 = .ok (.iadd, 1) := by decide +kernel
theorem dX5_kindOf_114 : decode cX5_kindOf 114 = .ok (.ireturn, 1) := by decide +kernel
theorem dX5_kindOf_115 : decode cX5_kindOf 115 = .ok (.bipush 17, 2) := by decide +kernel
theorem dX5_kindOf_117 : decode cX5_kindOf 117 = .ok (.iload_n 2, 1) := by decide +kernel
theorem dX5_kindOf_118 : decode cX5_kindOf 118 = .ok (.iadd, 1) := by decide +kernel
theorem dX5_kindOf_119 : decode cX5_kindOf 119 = .ok (.ireturn, 1) := by decide +kernel
theorem dX5_kindOf_120 : decode cX5_kindOf 120 = .ok (.bipush 21, 2) := by decide +kernel
theorem dX5_kindOf_122 : decode cX5_kindOf 122 = .ok (.ireturn, 1) := by decide +kernel
theorem dX5_kindOf_123 : decode cX5_kindOf 123 = .ok (.bipush 22, 2) := by decide +kernel
theorem dX5_kindOf_125 : decode cX5_kindOf 125 = .ok (.ireturn, 1) := by decide +kernel
theorem dX5_kindOf_126 : decode cX5_kindOf 126 = .ok (.iload_n 1, 1) := by decide +kernel
theorem dX5_kindOf_127 : decode cX5_kindOf 127 = .ok (.bipush 7, 2) := by decide +kernel
theorem dX5_kindOf_129 : decode cX5_kindOf 129 = .ok (.if_icmp .ge 8, 3) := by decide +kernel
theorem dX5_kindOf_132 : decode cX5_kindOf 132 = .ok (.bipush 23, 2) := by decide +kernel
theorem dX5_kindOf_134 : decode cX5_kindOf 134 = .ok (.goto 4, 3) := by decide +kernel
theorem dX5_kindOf_137 : decode cX5_kindOf 137 = .ok (.iconst 0, 1) := by decide +kernel
theorem dX5_kindOf_138 : decode cX5_kindOf 138 = .ok (.ireturn, 1) := by decide +kernel
theorem dX5_kindOf_139 : decode cX5_kindOf 139 = .ok (.iload_n 1, 1) := by decide +kernel
theorem dX5_kindOf_140 : decode cX5_kindOf 140 = .ok (.ifCond .ne 8, 3) := by decide +kernel
theorem dX5_kindOf_143 : decode cX5_kindOf 143 = .ok (.bipush 24, 2) := by decide +kernel
theorem dX5_kindOf_145 : decode cX5_kindOf 145 = .ok (.goto 14, 3) := by decide +kernel
theorem dX5_kindOf_148 : decode cX5_kindOf 148 = .ok (.iload_n 1, 1) := by decide +kernel
theorem dX5_kindOf_149 : decode cX5_kindOf 149 = .ok (.iconst 1, 1) := by decide +kernel
theorem dX5_kindOf_150 : decode cX5_kindOf 150 = .ok (.if_icmp .ne 8, 3) := by decide +kernel
theorem dX5_kindOf_153 : decode cX5_kindOf 153 = .ok (.bipush 25, 2) := by decide +kernel
theorem dX5_kindOf_155 : decode cX5_kindOf 155 = .ok (.goto 4, 3) := by decide +kernel
theorem dX5_kindOf_158 : decode cX5_kindOf 158 = .ok (.iconst 0, 1) := by decide +kernel
theorem dX5_kindOf_159 : decode cX5_kindOf 159 = .ok (.ireturn, 1) := by decide +kernel
theorem dX5_kindOf_160 : decode cX5_kindOf 160 = .ok (.iload_n 2, 1) := by decide +kernel
theorem dX5_kindOf_161 : decode cX5_kindOf 161 = .ok (.iconst 2, 1) := by decide +kernel
theorem dX5_kindOf_162 : decode cX5_kindOf 162 = .ok (.if_icmp .ge 10, 3) := by decide +kernel
theorem dX5_kindOf_165 : decode cX5_kindOf 165 = .ok (.bipush 26, 2) := by decide +kernel
theorem dX5_kindOf_167 : decode cX5_kindOf 167 = .ok (.iload_n 2, 1) := by decide +kernel
theorem dX5_kindOf_168 : decode cX5_kindOf 168 = .ok (.iadd, 1) := by decide +kernel
theorem dX5_kindOf_169 : decode cX5_kindOf 169 = .ok (.goto 4, 3) := by decide +kernel
theorem dX5_kindOf_172 : decode cX5_kindOf 172 = .ok (.iconst 0, 1) := by decide +kernel
theorem dX5_kindOf_173 : decode cX5_kindOf 173 = .ok (.ireturn, 1) := by decide +kernel
theorem dX5_kindOf_174 : decode cX5_kindOf 174 = .ok (.iload_n 2, 1) := by decide +kernel
theorem dX5_kindOf_175 : decode cX5_kindOf 175 = .ok (.ifCond .ne 8, 3) := by decide +kernel
theorem dX5_kindOf_178 : decode cX5_kindOf 178 = .ok (.bipush 28, 2) := by decide +kernel
theorem dX5_kindOf_180 : decode cX5_kindOf 180 = .ok (.goto 4, 3) := by decide +kernel
theorem dX5_kindOf_183 : decode cX5_kindOf 183 = .ok (.iconst 0, 1) := by decide +kernel
theorem dX5_kindOf_184 : decode cX5_kindOf 184 = .ok (.ireturn, 1) := by decide +kernel
set_option maxRecDepth 100000 in
theorem ggX5_look_X5_kindOf : GoodIn wsX5_look wsX5_kindOf := goodIn_r _ [7] rfl (by decide +kernel)
set_option maxRecDepth 100000 in
theorem gX5_look_X5_kindOf : GoodIn wsX5_look (va_wsS RX5 62 yX5_kindOf wsX5_kindOf) := goodIn_app (goodIn_of _ (by decide +kernel)) ggX5_look_X5_kindOf
theorem dX5_look_0 : decode cX5_look 0 = .ok (.aload_n 0, 1) := by decide +kernel
theorem dX5_look_1 : decode cX5_look 1 = .ok (.getfield 7, 3) := by decide +kernel
theorem dX5_look_4 : decode cX5_look 4 = .ok (.iload_n 1, 1) := by decide +kernel
theorem dX5_look_5 : decode cX5_look 5 = .ok (.iaload, 1) := by decide +kernel
theorem dX5_look_6 : decode cX5_look 6 = .ok (.istore_n 2, 1) := by decide +kernel
theorem dX5_look_7 : decode cX5_look 7 = .ok (.aload_n 0, 1) := by decide +kernel
theorem dX5_look_8 : decode cX5_look 8 = .ok (.iload_n 2, 1) := by decide +kernel
theorem dX5_look_9 : decode cX5_look 9 = .ok (.invokestatic 62, 3) := by decide +kernel
theorem dX5_look_12 : decode cX5_look 12 = .ok (.putfield 66, 3) := by decide +kernel
theorem dX5_look_15 : decode cX5_look 15 = .ok (.aload_n 0, 1) := by decide +kernel
theorem dX5_look_16 : decode cX5_look 16 = .ok (.aload_n 0, 1) := by decide +kernel
theorem dX5_look_17 : decode cX5_look 17 = .ok (.getfield 66, 3) := by decide +kernel
theorem dX5_look_20 : decode cX5_look 20 = .ok (.bipush 17, 2) := by decide +kernel
theorem dX5_look_22 : decode cX5_look 22 = .ok (.if_icmp .lt 12, 3) := by decide +kernel
theorem dX5_look_25 : decode cX5_look 25 = .ok (.aload_n 0, 1) := by decide +kernel
theorem dX5_look_26 : decode cX5_look 26 = .ok (.getfield 66, 3) := by decide +kernel
theorem dX5_look_29 : decode cX5_look 29 = .ok (.bipush 23, 2) := by decide +kernel
theorem dX5_look_31 : decode cX5_look 31 = .ok (.if_icmp .le 21, 3) := by decide +kernel
theorem dX5_look_34 : decode cX5_look 34 = .ok (.aload_n 0, 1) := by decide +kernel
theorem dX5_look_35 : decode cX5_look 35 = .ok (.getfield 66, 3) := by decide +kernel
theorem dX5_look_38 : decode cX5_look 38 = .ok (.bipush 24, 2) := by decide +kernel
theorem dX5_look_40 : decode cX5_look 40 = .ok (.if_icmp .eq 12, 3) := by decide +kernel
theorem dX5_look_43 : decode cX5_look 43 = .ok (.aload_n 0, 1) := by decide +kernel
theorem dX5_look_44 : decode cX5_look 44 = .ok (.getfield 66, 3) := by decide +kernel
theorem dX5_look_47 : decode cX5_look 47 = .ok (.bipush 28, 2) := by decide +kernel
theorem dX5_look_49 : decode cX5_look 49 = .ok (.if_icmp .ne 7, 3) := by decide +kernel
theorem dX5_look_52 : decode cX5_look 52 = .ok (.iconst 2, 1) := by decide +kernel
theorem dX5_look_53 : decode cX5_look 53 = .ok (.goto 4, 3) := by decide +kernel
theorem dX5_look_56 : decode cX5_look 56 = .ok (.iconst 1, 1) := by decide +kernel
theorem dX5_look_57 : decode cX5_look 57 = .ok (.putfield 69, 3) := by decide +kernel
theorem dX5_look_60 : decode cX5_look 60 = .ok (.return_, 1) := by decide +kernel
theorem dX5_makes_0 : decode cX5_makes 0 = .ok (.iload_n 0, 1) := by decide +kernel
theorem dX5_makes_1 : decode cX5_makes 1 = .ok (.bipush 7, 2) := by decide +kernel
theorem dX5_makes_3 : decode cX5_makes 3 = .ok (.if_icmp .lt 9, 3) := by decide +kernel
theorem dX5_makes_6 : decode cX5_makes 6 = .ok (.iload_n 0, 1) := by decide +kernel
theorem dX5_makes_7 : decode cX5_makes 7 = .ok (.bipush 16, 2) := by decide +kernel
theorem dX5_makes_9 : decode cX5_makes 9 = .ok (.if_icmp .le 15, 3) := by decide +kernel
theorem dX5_makes_12 : decode cX5_makes 12 = .ok (.iload_n 0, 1) := by decide +kernel
theorem dX5_makes_13 : decode cX5_makes 13 = .ok (.bipush 18, 2) := by decide +kernel
theorem dX5_makes_15 : decode cX5_makes 15 = .ok (.if_icmp .lt 13, 3) := by decide +kernel
theorem dX5_makes_18 : decode cX5_makes 18 = .ok (.iload_n 0, 1) := by decide +kernel
theorem dX5_makes_19 : decode cX5_makes 19 = .ok (.bipush 20, 2) := by decide +kernel
theorem dX5_makes_21 : decode cX5_makes 21 = .ok (.if_icmp .gt 7, 3) := by decide +kernel
theorem dX5_makes_24 : decode cX5_makes 24 = .ok (.iconst 1, 1) := by decide +kernel
theorem dX5_makes_25 : decode cX5_makes 25 = .ok (.goto 4, 3) := by decide +kernel
theorem dX5_makes_28 : decode cX5_makes 28 = .ok (.iconst 0, 1) := by decide +kernel
theorem dX5_makes_29 : decode cX5_makes 29 = .ok (.ireturn, 1) := by decide +kernel
theorem dX5_ends_0 : decode cX5_ends 0 = .ok (.iload_n 0, 1) := by decide +kernel
theorem dX5_ends_1 : decode cX5_ends 1 = .ok (.iconst 1, 1) := by decide +kernel
theorem dX5_ends_2 : decode cX5_ends 2 = .ok (.if_icmp .eq 32, 3) := by decide +kernel
theorem dX5_ends_5 : decode cX5_ends 5 = .ok (.iload_n 0, 1) := by decide +kernel
theorem dX5_ends_6 : decode cX5_ends 6 = .ok (.iconst 4, 1) := by decide +kernel
theorem dX5_ends_7 : decode cX5_ends 7 = .ok (.if_icmp .eq 27, 3) := by decide +kernel
theorem dX5_ends_10 : decode cX5_ends 10 = .ok (.iload_n 0, 1) := by decide +kernel
theorem dX5_ends_11 : decode cX5_ends 11 = .ok (.bipush 23, 2) := by decide +kernel
theorem dX5_ends_13 : decode cX5_ends 13 = .ok (.if_icmp .eq 21, 3) := by decide +kernel
theorem dX5_ends_16 : decode cX5_ends 16 = .ok (.iload_n 0, 1) := by decide +kernel
theorem dX5_ends_17 : decode cX5_ends 17 = .ok (.bipush 24, 2) := by decide +kernel
theorem dX5_ends_19 : decode cX5_ends 19 = .ok (.if_icmp .eq 15, 3) := by decide +kernel
theorem dX5_ends_22 : decode cX5_ends 22 = .ok (.iload_n 0, 1) := by decide +kernel
theorem dX5_ends_23 : decode cX5_ends 23 = .ok (.bipush 25, 2) := by decide +kernel
theorem dX5_ends_25 : decode cX5_ends 25 = .ok (.if_icmp .eq 9, 3) := by decide +kernel
theorem dX5_ends_28 : decode cX5_ends 28 = .ok (.iload_n 0, 1) := by decide +kernel
theorem dX5_ends_29 : decode cX5_ends 29 = .ok (.bipush 28, 2) := by decide +kernel
theorem dX5_ends_31 : decode cX5_ends 31 = .ok (.if_icmp .ne 7, 3) := by decide +kernel
theorem dX5_ends_34 : decode cX5_ends 34 = .ok (.iconst 1, 1) := by decide +kernel
theorem dX5_ends_35 : decode cX5_ends 35 = .ok (.goto 4, 3) := by decide +kernel
theorem dX5_ends_38 : decode cX5_ends 38 = .ok (.iconst 0, 1) := by decide +kernel
theorem dX5_ends_39 : decode cX5_ends 39 = .ok (.ireturn, 1) := by decide +kernel
theorem dX5_isAlways_0 : decode cX5_isAlways 0 = .ok (.iload_n 0, 1) := by decide +kernel
theorem dX5_isAlways_1 : decode cX5_isAlways 1 = .ok (.bipush 15, 2) := by decide +kernel
theorem dX5_isAlways_3 : decode cX5_isAlways 3 = .ok (.iand, 1) := by decide +kernel
theorem dX5_isAlways_4 : decode cX5_isAlways 4 = .ok (.ifCond .ne 7, 3) := by decide +kernel
theorem dX5_isAlways_7 : decode cX5_isAlways 7 = .ok (.iconst 1, 1) := by decide +kernel
theorem dX5_isAlways_8 : decode cX5_isAlways 8 = .ok (.goto 4, 3) := by decide +kernel
theorem dX5_isAlways_11 : decode cX5_isAlways 11 = .ok (.iconst 0, 1) := by decide +kernel
end
section
theorem dX5_isAlways_12 : decode cX5_isAlways 12 = .ok (.ireturn, 1) := by decide +kernel
set_option maxRecDepth 100000 in
theorem ggX5_reads_X5_isAlways : GoodIn wsX5_reads wsX5_isAlways := goodIn_r _ [4] rfl (by decide +kernel)
set_option maxRecDepth 100000 in
theorem gX5_reads_X5_isAlways : GoodIn wsX5_reads (va_wsS RX5 72 yX5_isAlways wsX5_isAlways) := goodIn_app (goodIn_of _ (by decide +kernel)) ggX5_reads_X5_isAlways
theorem dX5_reads_0 : decode cX5_reads 0 = .ok (.iload_n 1, 1) := by decide +kernel
theorem dX5_reads_1 : decode cX5_reads 1 = .ok (.bipush 8, 2) := by decide +kernel
theorem dX5_reads_3 : decode cX5_reads 3 = .ok (.if_icmp .eq 28, 3) := by decide +kernel
theorem dX5_reads_6 : decode cX5_reads 6 = .ok (.iload_n 1, 1) := by decide +kernel
theorem dX5_reads_7 : decode cX5_reads 7 = .ok (.bipush 15, 2) := by decide +kernel
theorem dX5_reads_9 : decode cX5_reads 9 = .ok (.if_icmp .eq 22, 3) := by decide +kernel
theorem dX5_reads_12 : decode cX5_reads 12 = .ok (.iload_n 1, 1) := by decide +kernel
theorem dX5_reads_13 : decode cX5_reads 13 = .ok (.bipush 16, 2) := by decide +kernel
theorem dX5_reads_15 : decode cX5_reads 15 = .ok (.if_icmp .eq 16, 3) := by decide +kernel
theorem dX5_reads_18 : decode cX5_reads 18 = .ok (.iload_n 1, 1) := by decide +kernel
theorem dX5_reads_19 : decode cX5_reads 19 = .ok (.bipush 23, 2) := by decide +kernel
theorem dX5_reads_21 : decode cX5_reads 21 = .ok (.if_icmp .ne 14, 3) := by decide +kernel
theorem dX5_reads_24 : decode cX5_reads 24 = .ok (.iload_n 2, 1) := by decide +kernel
theorem dX5_reads_25 : decode cX5_reads 25 = .ok (.invokestatic 72, 3) := by decide +kernel
theorem dX5_reads_28 : decode cX5_reads 28 = .ok (.ifCond .ne 7, 3) := by decide +kernel
theorem dX5_reads_31 : decode cX5_reads 31 = .ok (.iconst 1, 1) := by decide +kernel
theorem dX5_reads_32 : decode cX5_reads 32 = .ok (.goto 4, 3) := by decide +kernel
theorem dX5_reads_35 : decode cX5_reads 35 = .ok (.iconst 0, 1) := by decide +kernel
theorem dX5_reads_36 : decode cX5_reads 36 = .ok (.ireturn, 1) := by decide +kernel
theorem dX5_sizeOf_0 : decode cX5_sizeOf 0 = .ok (.iload_n 0, 1) := by decide +kernel
theorem dX5_sizeOf_1 : decode cX5_sizeOf 1 = .ok (.tableswitch 109 7 28 #[103, 105, 103, 103, 109, 109, 103, 109, 105, 105, 109, 105, 105, 103, 107, 107, 109, 105, 103, 109, 109, 107], 103) := by decide +kernel
theorem dX5_sizeOf_104 : decode cX5_sizeOf 104 = .ok (.iconst 2, 1) := by decide +kernel
theorem dX5_sizeOf_105 : decode cX5_sizeOf 105 = .ok (.ireturn, 1) := by decide +kernel
theorem dX5_sizeOf_106 : decode cX5_sizeOf 106 = .ok (.iconst 3, 1) := by decide +kernel
theorem dX5_sizeOf_107 : decode cX5_sizeOf 107 = .ok (.ireturn, 1) := by decide +kernel
theorem dX5_sizeOf_108 : decode cX5_sizeOf 108 = .ok (.iconst 4, 1) := by decide +kernel
theorem dX5_sizeOf_109 : decode cX5_sizeOf 109 = .ok (.ireturn, 1) := by decide +kernel
theorem dX5_sizeOf_110 : decode cX5_sizeOf 110 = .ok (.iconst 1, 1) := by decide +kernel
theorem dX5_sizeOf_111 : decode cX5_sizeOf 111 = .ok (.ireturn, 1) := by decide +kernel
set_option maxRecDepth 100000 in
theorem ggX5_find_X5_look : GoodIn wsX5_find wsX5_look := goodIn_r _ [13, 6, 5, 8, 14, 15, 12, 16, 33, 34, 35, 36, 37, 38, 39, 40, 41, 42, 43, 44, 45, 46, 47, 48, 49, 50, 51, 52, 53, 54, 55, 56, 57, 58, 59] rfl (by decide +kernel)
set_option maxRecDepth 100000 in
theorem gX5_find_X5_look : GoodIn wsX5_find (wsV RX5 88 RX5 yX5_look wsX5_look) := goodIn_app (goodIn_of _ (by decide +kernel)) ggX5_find_X5_look
set_option maxRecDepth 100000 in
theorem ggX5_find_X5_reads : GoodIn wsX5_find wsX5_reads := goodIn_r _ [20, 21, 22, 12, 23] rfl (by decide +kernel)
set_option maxRecDepth 100000 in
theorem gX5_find_X5_reads : GoodIn wsX5_find (wsV RX5 92 RX5 yX5_reads wsX5_reads) := goodIn_app (goodIn_of _ (by decide +kernel)) ggX5_find_X5_reads
set_option maxRecDepth 100000 in
theorem ggX5_find_X5_isAlways : GoodIn wsX5_find wsX5_isAlways := goodIn_r _ [23] rfl (by decide +kernel)
set_option maxRecDepth 100000 in
theorem gX5_find_X5_isAlways : GoodIn wsX5_find (va_wsS RX5 72 yX5_isAlways wsX5_isAlways) := goodIn_app (goodIn_of _ (by decide +kernel)) ggX5_find_X5_isAlways
set_option maxRecDepth 100000 in
theorem ggX5_find_X5_sizeOf : GoodIn wsX5_find wsX5_sizeOf := goodIn_r _ [26] rfl (by decide +kernel)
set_option maxRecDepth 100000 in
theorem gX5_find_X5_sizeOf : GoodIn wsX5_find (va_wsS RX5 96 yX5_sizeOf wsX5_sizeOf) := goodIn_app (goodIn_of _ (by decide +kernel)) ggX5_find_X5_sizeOf
set_option maxRecDepth 100000 in
theorem ggX5_find_X5_makes : GoodIn wsX5_find wsX5_makes := goodIn_r _ [29] rfl (by decide +kernel)
set_option maxRecDepth 100000 in
theorem gX5_find_X5_makes : GoodIn wsX5_find (va_wsS RX5 99 yX5_makes wsX5_makes) := goodIn_app (goodIn_of _ (by decide +kernel)) ggX5_find_X5_makes
set_option maxRecDepth 100000 in
theorem ggX5_find_X5_ends : GoodIn wsX5_find wsX5_ends := goodIn_r _ [32] rfl (by decide +kernel)
set_option maxRecDepth 100000 in
theorem gX5_find_X5_ends : GoodIn wsX5_find (va_wsS RX5 102 yX5_ends wsX5_ends) := goodIn_app (goodIn_of _ (by decide +kernel)) ggX5_find_X5_ends
theorem dX5_find_0 : decode cX5_find 0 = .ok (.aload_n 0, 1) := by decide +kernel
theorem dX5_find_1 : decode cX5_find 1 = .ok (.iconst 0, 1) := by decide +kernel
theorem dX5_find_2 : decode cX5_find 2 = .ok (.putfield 76, 3) := by decide +kernel
theorem dX5_find_5 : decode cX5_find 5 = .ok (.aload_n 0, 1) := by decide +kernel
theorem dX5_find_6 : decode cX5_find 6 = .ok (.iconst 0, 1) := by decide +kernel
theorem dX5_find_7 : decode cX5_find 7 = .ok (.putfield 79, 3) := by decide +kernel
theorem dX5_find_10 : decode cX5_find 10 = .ok (.aload_n 0, 1) := by decide +kernel
theorem dX5_find_11 : decode cX5_find 11 = .ok (.iconst 0, 1) := by decide +kernel
theorem dX5_find_12 : decode cX5_find 12 = .ok (.putfield 82, 3) := by decide +kernel
theorem dX5_find_15 : decode cX5_find 15 = .ok (.aload_n 0, 1) := by decide +kernel
theorem dX5_find_16 : decode cX5_find 16 = .ok (.iconst 0, 1) := by decide +kernel
theorem dX5_find_17 : decode cX5_find 17 = .ok (.putfield 85, 3) := by decide +kernel
theorem dX5_find_20 : decode cX5_find 20 = .ok (.iload_n 1, 1) := by decide +kernel
theorem dX5_find_21 : decode cX5_find 21 = .ok (.istore_n 2, 1) := by decide +kernel
theorem dX5_find_22 : decode cX5_find 22 = .ok (.iconst 1, 1) := by decide +kernel
theorem dX5_find_23 : decode cX5_find 23 = .ok (.istore_n 3, 1) := by decide +kernel
theorem dX5_find_24 : decode cX5_find 24 = .ok (.iconst (-1), 1) := by decide +kernel
theorem dX5_find_25 : decode cX5_find 25 = .ok (.istore 4, 2) := by decide +kernel
theorem dX5_find_27 : decode cX5_find 27 = .ok (.iload_n 3, 1) := by decide +kernel
theorem dX5_find_28 : decode cX5_find 28 = .ok (.ifCond .eq 316, 3) := by decide +kernel
theorem dX5_find_31 : decode cX5_find 31 = .ok (.aload_n 0, 1) := by decide +kernel
theorem dX5_find_32 : decode cX5_find 32 = .ok (.iload_n 2, 1) := by decide +kernel
theorem dX5_find_33 : decode cX5_find 33 = .ok (.invokevirtual 88, 3) := by decide +kernel
theorem dX5_find_36 : decode cX5_find 36 = .ok (.aload_n 0, 1) := by decide +kernel
theorem dX5_find_37 : decode cX5_find 37 = .ok (.getfield 66, 3) := by decide +kernel
theorem dX5_find_40 : decode cX5_find 40 = .ok (.ifCond .ne 6, 3) := by decide +kernel
theorem dX5_find_43 : decode cX5_find 43 = .ok (.goto 301, 3) := by decide +kernel
theorem dX5_find_46 : decode cX5_find 46 = .ok (.aload_n 0, 1) := by decide +kernel
theorem dX5_find_47 : decode cX5_find 47 = .ok (.getfield 7, 3) := by decide +kernel
theorem dX5_find_50 : decode cX5_find 50 = .ok (.iload_n 2, 1) := by decide +kernel
theorem dX5_find_51 : decode cX5_find 51 = .ok (.iaload, 1) := by decide +kernel
theorem dX5_find_52 : decode cX5_find 52 = .ok (.istore 5, 2) := by decide +kernel
theorem dX5_find_54 : decode cX5_find 54 = .ok (.aload_n 0, 1) := by decide +kernel
theorem dX5_find_55 : decode cX5_find 55 = .ok (.getfield 53, 3) := by decide +kernel
theorem dX5_find_58 : decode cX5_find 58 = .ok (.aload_n 0, 1) := by decide +kernel
theorem dX5_find_59 : decode cX5_find 59 = .ok (.getfield 76, 3) := by decide +kernel
theorem dX5_find_62 : decode cX5_find 62 = .ok (.aload_n 0, 1) := by decide +kernel
theorem dX5_find_63 : decode cX5_find 63 = .ok (.getfield 66, 3) := by decide +kernel
theorem dX5_find_66 : decode cX5_find 66 = .ok (.iastore, 1) := by decide +kernel
theorem dX5_find_67 : decode cX5_find 67 = .ok (.aload_n 0, 1) := by decide +kernel
theorem dX5_find_68 : decode cX5_find 68 = .ok (.aload_n 0, 1) := by decide +kernel
theorem dX5_find_69 : decode cX5_find 69 = .ok (.getfield 66, 3) := by decide +kernel
theorem dX5_find_72 : decode cX5_find 72 = .ok (.iload 5, 2) := by decide +kernel
theorem dX5_find_74 : decode cX5_find 74 = .ok (.invokevirtual 92, 3) := by decide +kernel
theorem dX5_find_77 : decode cX5_find 77 = .ok (.ifCond .ne 30, 3) := by decide +kernel
theorem dX5_find_80 : decode cX5_find 80 = .ok (.aload_n 0, 1) := by decide +kernel
theorem dX5_find_81 : decode cX5_find 81 = .ok (.getfield 66, 3) := by decide +kernel
theorem dX5_find_84 : decode cX5_find 84 = .ok (.bipush 22, 2) := by decide +kernel
theorem dX5_find_86 : decode cX5_find 86 = .ok (.if_icmp .eq 21, 3) := by decide +kernel
theorem dX5_find_89 : decode cX5_find 89 = .ok (.aload_n 0, 1) := by decide +kernel
theorem dX5_find_90 : decode cX5_find 90 = .ok (.getfield 66, 3) := by decide +kernel
theorem dX5_find_93 : decode cX5_find 93 = .ok (.bipush 26, 2) := by decide +kernel
theorem dX5_find_95 : decode cX5_find 95 = .ok (.if_icmp .eq 12, 3) := by decide +kernel
theorem dX5_find_98 : decode cX5_find 98 = .ok (.aload_n 0, 1) := by decide +kernel
theorem dX5_find_99 : decode cX5_find 99 = .ok (.getfield 66, 3) := by decide +kernel
theorem dX5_find_102 : decode cX5_find 102 = .ok (.bipush 24, 2) := by decide +kernel
theorem dX5_find_104 : decode cX5_find 104 = .ok (.if_icmp .ne 6, 3) := by decide +kernel
theorem dX5_find_107 : decode cX5_find 107 = .ok (.iconst (-1), 1) := by decide +kernel
theorem dX5_find_108 : decode cX5_find 108 = .ok (.istore 4, 2) := by decide +kernel
theorem dX5_find_110 : decode cX5_find 110 = .ok (.aload_n 0, 1) := by decide +kernel
theorem dX5_find_111 : decode cX5_find 111 = .ok (.aload_n 0, 1) := by decide +kernel
theorem dX5_find_112 : decode cX5_find 112 = .ok (.getfield 79, 3) := by decide +kernel
theorem dX5_find_115 : decode cX5_find 115 = .ok (.aload_n 0, 1) := by decide +kernel
theorem dX5_find_116 : decode cX5_find 116 = .ok (.getfield 66, 3) := by decide +kernel
theorem dX5_find_119 : decode cX5_find 119 = .ok (.bipush 23, 2) := by decide +kernel
theorem dX5_find_121 : decode cX5_find 121 = .ok (.if_icmp .ne 15, 3) := by decide +kernel
theorem dX5_find_124 : decode cX5_find 124 = .ok (.iload 5, 2) := by decide +kernel
theorem dX5_find_126 : decode cX5_find 126 = .ok (.invokestatic 72, 3) := by decide +kernel
theorem dX5_find_129 : decode cX5_find 129 = .ok (.ifCond .ne 7, 3) := by decide +kernel
theorem dX5_find_132 : decode cX5_find 132 = .ok (.iconst 3, 1) := by decide +kernel
theorem dX5_find_133 : decode cX5_find 133 = .ok (.goto 10, 3) := by decide +kernel
theorem dX5_find_136 : decode cX5_find 136 = .ok (.aload_n 0, 1) := by decide +kernel
theorem dX5_find_137 : decode cX5_find 137 = .ok (.getfield 66, 3) := by decide +kernel
theorem dX5_find_140 : decode cX5_find 140 = .ok (.invokestatic 96, 3) := by decide +kernel
theorem dX5_find_143 : decode cX5_find 143 = .ok (.iadd, 1) := by decide +kernel
theorem dX5_find_144 : decode cX5_find 144 = .ok (.putfield 79, 3) := by decide +kernel
theorem dX5_find_147 : decode cX5_find 147 = .ok (.aload_n 0, 1) := by decide +kernel
theorem dX5_find_148 : decode cX5_find 148 = .ok (.getfield 66, 3) := by decide +kernel
theorem dX5_find_151 : decode cX5_find 151 = .ok (.invokestatic 99, 3) := by decide +kernel
theorem dX5_find_154 : decode cX5_find 154 = .ok (.ifCond .eq 101, 3) := by decide +kernel
theorem dX5_find_157 : decode cX5_find 157 = .ok (.iload 4, 2) := by decide +kernel
theorem dX5_find_159 : decode cX5_find 159 = .ok (.ifCond .lt 67, 3) := by decide +kernel
theorem dX5_find_162 : decode cX5_find 162 = .ok (.aload_n 0, 1) := by decide +kernel
theorem dX5_find_163 : decode cX5_find 163 = .ok (.getfield 53, 3) := by decide +kernel
theorem dX5_find_166 : decode cX5_find 166 = .ok (.iload 4, 2) := by decide +kernel
theorem dX5_find_168 : decode cX5_find 168 = .ok (.iaload, 1) := by decide +kernel
theorem dX5_find_169 : decode cX5_find 169 = .ok (.istore 6, 2) := by decide +kernel
theorem dX5_find_171 : decode cX5_find 171 = .ok (.aload_n 0, 1) := by decide +kernel
theorem dX5_find_172 : decode cX5_find 172 = .ok (.dup, 1) := by decide +kernel
theorem dX5_find_173 : decode cX5_find 173 = .ok (.getfield 85, 3) := by decide +kernel
theorem dX5_find_176 : decode cX5_find 176 = .ok (.iconst 1, 1) := by decide +kernel
theorem dX5_find_177 : decode cX5_find 177 = .ok (.iadd, 1) := by decide +kernel
theorem dX5_find_178 : decode cX5_find 178 = .ok (.putfield 85, 3) := by decide +kernel
theorem dX5_find_181 : decode cX5_find 181 = .ok (.aload_n 0, 1) := by decide +kernel
theorem dX5_find_182 : decode cX5_find 182 = .ok (.aload_n 0, 1) := by decide +kernel
theorem dX5_find_183 : decode cX5_find 183 = .ok (.getfield 79, 3) := by decide +kernel
theorem dX5_find_186 : decode cX5_find 186 = .ok (.iload 6, 2) := by decide +kernel
theorem dX5_find_188 : decode cX5_find 188 = .ok (.bipush 16, 2) := by decide +kernel
theorem dX5_find_190 : decode cX5_find 190 = .ok (.if_icmp .ne 7, 3) := by decide +kernel
theorem dX5_find_193 : decode cX5_find 193 = .ok (.iconst 4, 1) := by decide +kernel
theorem dX5_find_194 : decode cX5_find 194 = .ok (.goto 4, 3) := by decide +kernel
theorem dX5_find_197 : decode cX5_find 197 = .ok (.iconst 3, 1) := by decide +kernel
theorem dX5_find_198 : decode cX5_find 198 = .ok (.isub, 1) := by decide +kernel
theorem dX5_find_199 : decode cX5_find 199 = .ok (.iload 6, 2) := by decide +kernel
theorem dX5_find_201 : decode cX5_find 201 = .ok (.bipush 10, 2) := by decide +kernel
theorem dX5_find_203 : decode cX5_find 203 = .ok (.if_icmp .eq 10, 3) := by decide +kernel
theorem dX5_find_206 : decode cX5_find 206 = .ok (.iload 6, 2) := by decide +kernel
theorem dX5_find_208 : decode cX5_find 208 = .ok (.bipush 19, 2) := by decide +kernel
theorem dX5_find_210 : decode cX5_find 210 = .ok (.if_icmp .ne 11, 3) := by decide +kernel
theorem dX5_find_213 : decode cX5_find 213 = .ok (.iload 6, 2) := by decide +kernel
theorem dX5_find_215 : decode cX5_find 215 = .ok (.invokestatic 96, 3) := by decide +kernel
theorem dX5_find_218 : decode cX5_find 218 = .ok (.goto 4, 3) := by decide +kernel
theorem dX5_find_221 : decode cX5_find 221 = .ok (.iconst 0, 1) := by decide +kernel
theorem dX5_find_222 : decode cX5_find 222 = .ok (.isub, 1) := by decide +kernel
theorem dX5_find_223 : decode cX5_find 223 = .ok (.putfield 79, 3) := by decide +kernel
theorem dX5_find_226 : decode cX5_find 226 = .ok (.aload_n 0, 1) := by decide +kernel
theorem dX5_find_227 : decode cX5_find 227 = .ok (.getfield 76, 3) := by decide +kernel
theorem dX5_find_230 : decode cX5_find 230 = .ok (.istore 4, 2) := by decide +kernel
theorem dX5_find_232 : decode cX5_find 232 = .ok (.aload_n 0, 1) := by decide +kernel
theorem dX5_find_233 : decode cX5_find 233 = .ok (.aload_n 0, 1) := by decide +kernel
theorem dX5_find_234 : decode cX5_find 234 = .ok (.getfield 79, 3) := by decide +kernel
theorem dX5_find_237 : decode cX5_find 237 = .ok (.aload_n 0, 1) := by decide +kernel
theorem dX5_find_238 : decode cX5_find 238 = .ok (.getfield 66, 3) := by decide +kernel
theorem dX5_find_241 : decode cX5_find 241 = .ok (.bipush 16, 2) := by decide +kernel
theorem dX5_find_243 : decode cX5_find 243 = .ok (.if_icmp .ne 7, 3) := by decide +kernel
theorem dX5_find_246 : decode cX5_find 246 = .ok (.iconst 4, 1) := by decide +kernel
theorem dX5_find_247 : decode cX5_find 247 = .ok (.goto 4, 3) := by decide +kernel
theorem dX5_find_250 : decode cX5_find 250 = .ok (.iconst 3, 1) := by decide +kernel
theorem dX5_find_251 : decode cX5_find 251 = .ok (.iadd, 1) := by decide +kernel
theorem dX5_find_252 : decode cX5_find 252 = .ok (.putfield 79, 3) := by decide +kernel
theorem dX5_find_255 : decode cX5_find 255 = .ok (.aload_n 0, 1) := by decide +kernel
theorem dX5_find_256 : decode cX5_find 256 = .ok (.dup, 1) := by decide +kernel
theorem dX5_find_257 : decode cX5_find 257 = .ok (.getfield 76, 3) := by decide +kernel
theorem dX5_find_260 : decode cX5_find 260 = .ok (.iconst 1, 1) := by decide +kernel
theorem dX5_find_261 : decode cX5_find 261 = .ok (.iadd, 1) := by decide +kernel
theorem dX5_find_262 : decode cX5_find 262 = .ok (.putfield 76, 3) := by decide +kernel
theorem dX5_find_265 : decode cX5_find 265 = .ok (.iconst 0, 1) := by decide +kernel
theorem dX5_find_266 : decode cX5_find 266 = .ok (.istore 6, 2) := by decide +kernel
theorem dX5_find_268 : decode cX5_find 268 = .ok (.iload 6, 2) := by decide +kernel
theorem dX5_find_270 : decode cX5_find 270 = .ok (.aload_n 0, 1) := by decide +kernel
theorem dX5_find_271 : decode cX5_find 271 = .ok (.getfield 69, 3) := by decide +kernel
theorem dX5_find_274 : decode cX5_find 274 = .ok (.if_icmp .ge 31, 3) := by decide +kernel
theorem dX5_find_277 : decode cX5_find 277 = .ok (.aload_n 0, 1) := by decide +kernel
theorem dX5_find_278 : decode cX5_find 278 = .ok (.aload_n 0, 1) := by decide +kernel
theorem dX5_find_279 : decode cX5_find 279 = .ok (.getfield 82, 3) := by decide +kernel
theorem dX5_find_282 : decode cX5_find 282 = .ok (.iconst 1, 1) := by decide +kernel
theorem dX5_find_283 : decode cX5_find 283 = .ok (.iload_n 2, 1) := by decide +kernel
theorem dX5_find_284 : decode cX5_find 284 = .ok (.iload 6, 2) := by decide +kernel
theorem dX5_find_286 : decode cX5_find 286 = .ok (.iadd, 1) := by decide +kernel
theorem dX5_find_287 : decode cX5_find 287 = .ok (.sipush 255, 3) := by decide +kernel
theorem dX5_find_290 : decode cX5_find 290 = .ok (.iand, 1) := by decide +kernel
theorem dX5_find_291 : decode cX5_find 291 = .ok (.bipush 32, 2) := by decide +kernel
theorem dX5_find_293 : decode cX5_find 293 = .ok (.idiv, 1) := by decide +kernel
theorem dX5_find_294 : decode cX5_find 294 = .ok (.ishl, 1) := by decide +kernel
theorem dX5_find_295 : decode cX5_find 295 = .ok (.ior, 1) := by decide +kernel
theorem dX5_find_296 : decode cX5_find 296 = .ok (.putfield 82, 3) := by decide +kernel
theorem dX5_find_299 : decode cX5_find 299 = .ok (.iinc 6 1, 3) := by decide +kernel
theorem dX5_find_302 : decode cX5_find 302 = .ok (.goto (-34), 3) := by decide +kernel
theorem dX5_find_305 : decode cX5_find 305 = .ok (.iload_n 2, 1) := by decide +kernel
theorem dX5_find_306 : decode cX5_find 306 = .ok (.aload_n 0, 1) := by decide +kernel
theorem dX5_find_307 : decode cX5_find 307 = .ok (.getfield 69, 3) := by decide +kernel
theorem dX5_find_310 : decode cX5_find 310 = .ok (.iadd, 1) := by decide +kernel
theorem dX5_find_311 : decode cX5_find 311 = .ok (.sipush 255, 3) := by decide +kernel
theorem dX5_find_314 : decode cX5_find 314 = .ok (.iand, 1) := by decide +kernel
theorem dX5_find_315 : decode cX5_find 315 = .ok (.istore_n 2, 1) := by decide +kernel
theorem dX5_find_316 : decode cX5_find 316 = .ok (.aload_n 0, 1) := by decide +kernel
theorem dX5_find_317 : decode cX5_find 317 = .ok (.getfield 66, 3) := by decide +kernel
theorem dX5_find_320 : decode cX5_find 320 = .ok (.invokestatic 102, 3) := by decide +kernel
theorem dX5_find_323 : decode cX5_find 323 = .ok (.ifCond .ne 16, 3) := by decide +kernel
theorem dX5_find_326 : decode cX5_find 326 = .ok (.aload_n 0, 1) := by decide +kernel
theorem dX5_find_327 : decode cX5_find 327 = .ok (.getfield 76, 3) := by decide +kernel
theorem dX5_find_330 : decode cX5_find 330 = .ok (.bipush 8, 2) := by decide +kernel
theorem dX5_find_332 : decode cX5_find 332 = .ok (.if_icmp .ge 7, 3) := by decide +kernel
theorem dX5_find_335 : decode cX5_find 335 = .ok (.iconst 1, 1) := by decide +kernel
theorem dX5_find_336 : decode cX5_find 336 = .ok (.goto 4, 3) := by decide +kernel
theorem dX5_find_339 : decode cX5_find 339 = .ok (.iconst 0, 1) := by decide +kernel
theorem dX5_find_340 : decode cX5_find 340 = .ok (.istore_n 3, 1) := by decide +kernel
theorem dX5_find_341 : decode cX5_find 341 = .ok (.goto (-314), 3) := by decide +kernel
theorem dX5_find_344 : decode cX5_find 344 = .ok (.aload_n 0, 1) := by decide +kernel
theorem dX5_find_345 : decode cX5_find 345 = .ok (.getfield 76, 3) := by decide +kernel
theorem dX5_find_348 : decode cX5_find 348 = .ok (.ifCond .le 17, 3) := by decide +kernel
theorem dX5_find_351 : decode cX5_find 351 = .ok (.aload_n 0, 1) := by decide +kernel
theorem dX5_find_352 : decode cX5_find 352 = .ok (.getfield 53, 3) := by decide +kernel
theorem dX5_find_355 : decode cX5_find 355 = .ok (.aload_n 0, 1) := by decide +kernel
theorem dX5_find_356 : decode cX5_find 356 = .ok (.getfield 76, 3) := by decide +kernel
theorem dX5_find_359 : decode cX5_find 359 = .ok (.iconst 1, 1) := by decide +kernel
theorem dX5_find_360 : decode cX5_find 360 = .ok (.isub, 1) := by decide +kernel
theorem dX5_find_361 : decode cX5_find 361 = .ok (.iaload, 1) := by decide +kernel
theorem dX5_find_362 : decode cX5_find 362 = .ok (.goto 4, 3) := by decide +kernel
theorem dX5_find_365 : decode cX5_find 365 = .ok (.iconst 0, 1) := by decide +kernel
theorem dX5_find_366 : decode cX5_find 366 = .ok (.istore 5, 2) := by decide +kernel
theorem dX5_find_368 : decode cX5_find 368 = .ok (.aload_n 0, 1) := by decide +kernel
theorem dX5_find_369 : decode cX5_find 369 = .ok (.getfield 76, 3) := by decide +kernel
theorem dX5_find_372 : decode cX5_find 372 = .ok (.ifCond .le 27, 3) := by decide +kernel
theorem dX5_find_375 : decode cX5_find 375 = .ok (.iload 5, 2) := by decide +kernel
theorem dX5_find_377 : decode cX5_find 377 = .ok (.iconst 4, 1) := by decide +kernel
theorem dX5_find_378 : decode cX5_find 378 = .ok (.if_icmp .eq 11, 3) := by decide +kernel
theorem dX5_find_381 : decode cX5_find 381 = .ok (.iload 5, 2) := by decide +kernel
theorem dX5_find_383 : decode cX5_find 383 = .ok (.invokestatic 102, 3) := by decide +kernel
theorem dX5_find_386 : decode cX5_find 386 = .ok (.ifCond .ne 13, 3) := by decide +kernel
theorem dX5_find_389 : decode cX5_find 389 = .ok (.aload_n 0, 1) := by decide +kernel
theorem dX5_find_390 : decode cX5_find 390 = .ok (.dup, 1) := by decide +kernel
theorem dX5_find_391 : decode cX5_find 391 = .ok (.getfield 79, 3) := by decide +kernel
theorem dX5_find_394 : decode cX5_find 394 = .ok (.iconst 1, 1) := by decide +kernel
theorem dX5_find_395 : decode cX5_find 395 = .ok (.iadd, 1) := by decide +kernel
theorem dX5_find_396 : decode cX5_find 396 = .ok (.putfield 79, 3) := by decide +kernel
theorem dX5_find_399 : decode cX5_find 399 = .ok (.return_, 1) := by decide +kernel
theorem dX5_remove_0 : decode cX5_remove 0 = .ok (.aload_n 0, 1) := by decide +kernel
theorem dX5_remove_1 : decode cX5_remove 1 = .ok (.getfield 50, 3) := by decide +kernel
theorem dX5_remove_4 : decode cX5_remove 4 = .ok (.iconst 1, 1) := by decide +kernel
theorem dX5_remove_5 : decode cX5_remove 5 = .ok (.dup2, 1) := by decide +kernel
theorem dX5_remove_6 : decode cX5_remove 6 = .ok (.iaload, 1) := by decide +kernel
theorem dX5_remove_7 : decode cX5_remove 7 = .ok (.iconst 1, 1) := by decide +kernel
theorem dX5_remove_8 : decode cX5_remove 8 = .ok (.isub, 1) := by decide +kernel
theorem dX5_remove_9 : decode cX5_remove 9 = .ok (.iastore, 1) := by decide +kernel
theorem dX5_remove_10 : decode cX5_remove 10 = .ok (.aload_n 0, 1) := by decide +kernel
theorem dX5_remove_11 : decode cX5_remove 11 = .ok (.getfield 50, 3) := by decide +kernel
theorem dX5_remove_14 : decode cX5_remove 14 = .ok (.iconst 2, 1) := by decide +kernel
theorem dX5_remove_15 : decode cX5_remove 15 = .ok (.aload_n 0, 1) := by decide +kernel
theorem dX5_remove_16 : decode cX5_remove 16 = .ok (.getfield 50, 3) := by decide +kernel
theorem dX5_remove_19 : decode cX5_remove 19 = .ok (.iconst 2, 1) := by decide +kernel
theorem dX5_remove_20 : decode cX5_remove 20 = .ok (.iaload, 1) := by decide +kernel
theorem dX5_remove_21 : decode cX5_remove 21 = .ok (.aload_n 0, 1) := by decide +kernel
theorem dX5_remove_22 : decode cX5_remove 22 = .ok (.getfield 29, 3) := by decide +kernel
theorem dX5_remove_25 : decode cX5_remove 25 = .ok (.iload_n 1, 1) := by decide +kernel
theorem dX5_remove_26 : decode cX5_remove 26 = .ok (.iaload, 1) := by decide +kernel
theorem dX5_remove_27 : decode cX5_remove 27 = .ok (.isub, 1) := by decide +kernel
theorem dX5_remove_28 : decode cX5_remove 28 = .ok (.iastore, 1) := by decide +kernel
theorem dX5_remove_29 : decode cX5_remove 29 = .ok (.aload_n 0, 1) := by decide +kernel
theorem dX5_remove_30 : decode cX5_remove 30 = .ok (.getfield 29, 3) := by decide +kernel
theorem dX5_remove_33 : decode cX5_remove 33 = .ok (.iload_n 1, 1) := by decide +kernel
theorem dX5_remove_34 : decode cX5_remove 34 = .ok (.iconst 0, 1) := by decide +kernel
theorem dX5_remove_35 : decode cX5_remove 35 = .ok (.iastore, 1) := by decide +kernel
theorem dX5_remove_36 : decode cX5_remove 36 = .ok (.return_, 1) := by decide +kernel
set_option maxRecDepth 100000 in
theorem ggX5_empty_X5_remove : GoodIn wsX5_empty wsX5_remove := goodIn_r _ [6, 7, 1, 8, 9, 10, 11, 12, 13, 14, 15, 16, 17, 18, 19, 20, 21, 22, 23, 24, 25, 26, 27, 28, 29, 30, 31, 32, 33, 34] rfl (by decide +kernel)
set_option maxRecDepth 100000 in
theorem gX5_empty_X5_remove : GoodIn wsX5_empty (wsV RX5 105 RX5 yX5_remove wsX5_remove) := goodIn_app (goodIn_of _ (by decide +kernel)) ggX5_empty_X5_remove
theorem dX5_empty_0 : decode cX5_empty 0 = .ok (.iconst 0, 1) := by decide +kernel
theorem dX5_empty_1 : decode cX5_empty 1 = .ok (.istore_n 1, 1) := by decide +kernel
theorem dX5_empty_2 : decode cX5_empty 2 = .ok (.iload_n 1, 1) := by decide +kernel
theorem dX5_empty_3 : decode cX5_empty 3 = .ok (.sipush 256, 3) := by decide +kernel
theorem dX5_empty_6 : decode cX5_empty 6 = .ok (.if_icmp .ge 23, 3) := by decide +kernel
theorem dX5_empty_9 : decode cX5_empty 9 = .ok (.aload_n 0, 1) := by decide +kernel
theorem dX5_empty_10 : decode cX5_empty 10 = .ok (.getfield 29, 3) := by decide +kernel
theorem dX5_empty_13 : decode cX5_empty 13 = .ok (.iload_n 1, 1) := by decide +kernel
theorem dX5_empty_14 : decode cX5_empty 14 = .ok (.iaload, 1) := by decide +kernel
theorem dX5_empty_15 : decode cX5_empty 15 = .ok (.ifCond .le 8, 3) := by decide +kernel
theorem dX5_empty_18 : decode cX5_empty 18 = .ok (.aload_n 0, 1) := by decide +kernel
theorem dX5_empty_19 : decode cX5_empty 19 = .ok (.iload_n 1, 1) := by decide +kernel
theorem dX5_empty_20 : decode cX5_empty 20 = .ok (.invokevirtual 105, 3) := by decide +kernel
theorem dX5_empty_23 : decode cX5_empty 23 = .ok (.iinc 1 1, 3) := by decide +kernel
theorem dX5_empty_26 : decode cX5_empty 26 = .ok (.goto (-24), 3) := by decide +kernel
theorem dX5_empty_29 : decode cX5_empty 29 = .ok (.return_, 1) := by decide +kernel
set_option maxRecDepth 100000 in
theorem ggX5_invalidate_X5_remove : GoodIn wsX5_invalidate wsX5_remove := goodIn_r _ [7, 8, 1, 9, 10, 11, 12, 13, 14, 15, 16, 17, 18, 19, 20, 21, 22, 23, 24, 25, 26, 27, 28, 29, 30, 31, 32, 33, 34, 35] rfl (by decide +kernel)
set_option maxRecDepth 100000 in
theorem gX5_invalidate_X5_remove : GoodIn wsX5_invalidate (wsV RX5 105 RX5 yX5_remove wsX5_remove) := goodIn_app (goodIn_of _ (by decide +kernel)) ggX5_invalidate_X5_remove
theorem dX5_invalidate_0 : decode cX5_invalidate 0 = .ok (.iconst 0, 1) := by decide +kernel
theorem dX5_invalidate_1 : decode cX5_invalidate 1 = .ok (.istore_n 2, 1) := by decide +kernel
theorem dX5_invalidate_2 : decode cX5_invalidate 2 = .ok (.iconst 0, 1) := by decide +kernel
theorem dX5_invalidate_3 : decode cX5_invalidate 3 = .ok (.istore_n 3, 1) := by decide +kernel
theorem dX5_invalidate_4 : decode cX5_invalidate 4 = .ok (.iload_n 3, 1) := by decide +kernel
theorem dX5_invalidate_5 : decode cX5_invalidate 5 = .ok (.sipush 256, 3) := by decide +kernel
theorem dX5_invalidate_8 : decode cX5_invalidate 8 = .ok (.if_icmp .ge 43, 3) := by decide +kernel
theorem dX5_invalidate_11 : decode cX5_invalidate 11 = .ok (.aload_n 0, 1) := by decide +kernel
theorem dX5_invalidate_12 : decode cX5_invalidate 12 = .ok (.getfield 29, 3) := by decide +kernel
theorem dX5_invalidate_15 : decode cX5_invalidate 15 = .ok (.iload_n 3, 1) := by decide +kernel
theorem dX5_invalidate_16 : decode cX5_invalidate 16 = .ok (.iaload, 1) := by decide +kernel
theorem dX5_invalidate_17 : decode cX5_invalidate 17 = .ok (.ifCond .le 28, 3) := by decide +kernel
theorem dX5_invalidate_20 : decode cX5_invalidate 20 = .ok (.aload_n 0, 1) := by decide +kernel
theorem dX5_invalidate_21 : decode cX5_invalidate 21 = .ok (.getfield 35, 3) := by decide +kernel
theorem dX5_invalidate_24 : decode cX5_invalidate 24 = .ok (.iload_n 3, 1) := by decide +kernel
theorem dX5_invalidate_25 : decode cX5_invalidate 25 = .ok (.iaload, 1) := by decide +kernel
theorem dX5_invalidate_26 : decode cX5_invalidate 26 = .ok (.iload_n 1, 1) := by decide +kernel
theorem dX5_invalidate_27 : decode cX5_invalidate 27 = .ok (.bipush 32, 2) := by decide +kernel
theorem dX5_invalidate_29 : decode cX5_invalidate 29 = .ok (.idiv, 1) := by decide +kernel
theorem dX5_invalidate_30 : decode cX5_invalidate 30 = .ok (.ishr, 1) := by decide +kernel
theorem dX5_invalidate_31 : decode cX5_invalidate 31 = .ok (.iconst 1, 1) := by decide +kernel
theorem dX5_invalidate_32 : decode cX5_invalidate 32 = .ok (.iand, 1) := by decide +kernel
theorem dX5_invalidate_33 : decode cX5_invalidate 33 = .ok (.iconst 1, 1) := by decide +kernel
theorem dX5_invalidate_34 : decode cX5_invalidate 34 = .ok (.if_icmp .ne 11, 3) := by decide +kernel
theorem dX5_invalidate_37 : decode cX5_invalidate 37 = .ok (.aload_n 0, 1) := by decide +kernel
theorem dX5_invalidate_38 : decode cX5_invalidate 38 = .ok (.iload_n 3, 1) := by decide +kernel
theorem dX5_invalidate_39 : decode cX5_invalidate 39 = .ok (.invokevirtual 105, 3) := by decide +kernel
theorem dX5_invalidate_42 : decode cX5_invalidate 42 = .ok (.iinc 2 1, 3) := by decide +kernel
theorem dX5_invalidate_45 : decode cX5_invalidate 45 = .ok (.iinc 3 1, 3) := by decide +kernel
theorem dX5_invalidate_48 : decode cX5_invalidate 48 = .ok (.goto (-44), 3) := by decide +kernel
theorem dX5_invalidate_51 : decode cX5_invalidate 51 = .ok (.iload_n 2, 1) := by decide +kernel
theorem dX5_invalidate_52 : decode cX5_invalidate 52 = .ok (.ireturn, 1) := by decide +kernel
set_option maxRecDepth 100000 in
theorem ggX5_write_X5_invalidate : GoodIn wsX5_write wsX5_invalidate := goodIn_r _ [7, 8, 9, 10, 11, 12, 6, 13, 2, 14, 15, 16, 17, 18, 19, 20, 21, 22, 23, 24, 25, 26, 27, 28, 29, 30, 31, 32, 33, 34, 35, 36, 37, 38, 39, 40] rfl (by decide +kernel)
set_option maxRecDepth 100000 in
theorem gX5_write_X5_invalidate : GoodIn wsX5_write (wsV RX5 108 RX5 yX5_invalidate wsX5_invalidate) := goodIn_app (goodIn_of _ (by decide +kernel)) ggX5_write_X5_invalidate
theorem dX5_write_0 : decode cX5_write 0 = .ok (.aload_n 0, 1) := by decide +kernel
theorem dX5_write_1 : decode cX5_write 1 = .ok (.getfield 7, 3) := by decide +kernel
theorem dX5_write_4 : decode cX5_write 4 = .ok (.iload_n 1, 1) := by decide +kernel
theorem dX5_write_5 : decode cX5_write 5 = .ok (.iload_n 2, 1) := by decide +kernel
theorem dX5_write_6 : decode cX5_write 6 = .ok (.iastore, 1) := by decide +kernel
theorem dX5_write_7 : decode cX5_write 7 = .ok (.aload_n 0, 1) := by decide +kernel
theorem dX5_write_8 : decode cX5_write 8 = .ok (.getfield 50, 3) := by decide +kernel
theorem dX5_write_11 : decode cX5_write 11 = .ok (.iconst 4, 1) := by decide +kernel
theorem dX5_write_12 : decode cX5_write 12 = .ok (.aload_n 0, 1) := by decide +kernel
theorem dX5_write_13 : decode cX5_write 13 = .ok (.getfield 50, 3) := by decide +kernel
theorem dX5_write_16 : decode cX5_write 16 = .ok (.iconst 4, 1) := by decide +kernel
theorem dX5_write_17 : decode cX5_write 17 = .ok (.iaload, 1) := by decide +kernel
theorem dX5_write_18 : decode cX5_write 18 = .ok (.aload_n 0, 1) := by decide +kernel
theorem dX5_write_19 : decode cX5_write 19 = .ok (.iload_n 1, 1) := by decide +kernel
theorem dX5_write_20 : decode cX5_write 20 = .ok (.invokevirtual 108, 3) := by decide +kernel
theorem dX5_write_23 : decode cX5_write 23 = .ok (.iadd, 1) := by decide +kernel
theorem dX5_write_24 : decode cX5_write 24 = .ok (.iastore, 1) := by decide +kernel
theorem dX5_write_25 : decode cX5_write 25 = .ok (.return_, 1) := by decide +kernel
set_option maxRecDepth 100000 in
theorem ggX5_hasBlock_X5_find : GoodIn wsX5_hasBlock wsX5_find := goodIn_r _ [17, 2, 3, 8, 12, 18, 19, 20, 21, 22, 23, 24, 16, 25, 26, 27, 28, 29, 30, 31, 32, 33, 34, 35, 36, 37, 38, 39, 40, 41, 42, 43, 44, 53, 54, 55, 56, 57, 58, 59, 60, 61, 62, 63, 64, 65, 66, 67, 68, 69, 70, 71, 72, 73, 74, 75, 76, 77, 78, 79] rfl (by decide +kernel)
set_option maxRecDepth 100000 in
theorem gX5_hasBlock_X5_find : GoodIn wsX5_hasBlock (wsV RX5 111 RX5 yX5_find wsX5_find) := goodIn_app (goodIn_of _ (by decide +kernel)) ggX5_hasBlock_X5_find
set_option maxRecDepth 100000 in
theorem ggX5_hasBlock_X5_empty : GoodIn wsX5_hasBlock wsX5_empty := goodIn_r _ [48, 1, 49, 50, 51, 16, 52, 5, 53, 54, 55, 56, 57, 58, 59, 60, 61, 62, 63, 64, 65, 66, 67, 68, 69, 70, 71, 72, 73, 74, 75, 76, 77, 78, 79] rfl (by decide +kernel)
set_option maxRecDepth 100000 in
theorem gX5_hasBlock_X5_empty : GoodIn wsX5_hasBlock (wsV RX5 114 RX5 yX5_empty wsX5_empty) := goodIn_app (goodIn_of _ (by decide +kernel)) ggX5_hasBlock_X5_empty
theorem dX5_hasBlock_0 : decode cX5_hasBlock 0 = .ok (.aload_n 0, 1) := by decide +kernel
theorem dX5_hasBlock_1 : decode cX5_hasBlock 1 = .ok (.getfield 29, 3) := by decide +kernel
theorem dX5_hasBlock_4 : decode cX5_hasBlock 4 = .ok (.iload_n 1, 1) := by decide +kernel
theorem dX5_hasBlock_5 : decode cX5_hasBlock 5 = .ok (.iaload, 1) := by decide +kernel
theorem dX5_hasBlock_6 : decode cX5_hasBlock 6 = .ok (.ifCond .le 5, 3) := by decide +kernel
theorem dX5_hasBlock_9 : decode cX5_hasBlock 9 = .ok (.iconst 1, 1) := by decide +kernel
theorem dX5_hasBlock_10 : decode cX5_hasBlock 10 = .ok (.ireturn, 1) := by decide +kernel
theorem dX5_hasBlock_11 : decode cX5_hasBlock 11 = .ok (.aload_n 0, 1) := by decide +kernel
theorem dX5_hasBlock_12 : decode cX5_hasBlock 12 = .ok (.iload_n 1, 1) := by decide +kernel
theorem dX5_hasBlock_13 : decode cX5_hasBlock 13 = .ok (.invokevirtual 111, 3) := by decide +kernel
theorem dX5_hasBlock_16 : decode cX5_hasBlock 16 = .ok (.aload_n 0, 1) := by decide +kernel
theorem dX5_hasBlock_17 : decode cX5_hasBlock 17 = .ok (.getfield 76, 3) := by decide +kernel
theorem dX5_hasBlock_20 : decode cX5_hasBlock 20 = .ok (.ifCond .eq 14, 3) := by decide +kernel
theorem dX5_hasBlock_23 : decode cX5_hasBlock 23 = .ok (.aload_n 0, 1) := by decide +kernel
theorem dX5_hasBlock_24 : decode cX5_hasBlock 24 = .ok (.getfield 79, 3) := by decide +kernel
theorem dX5_hasBlock_27 : decode cX5_hasBlock 27 = .ok (.aload_n 0, 1) := by decide +kernel
theorem dX5_hasBlock_28 : decode cX5_hasBlock 28 = .ok (.getfield 47, 3) := by decide +kernel
theorem dX5_hasBlock_31 : decode cX5_hasBlock 31 = .ok (.if_icmp .le 5, 3) := by decide +kernel
theorem dX5_hasBlock_34 : decode cX5_hasBlock 34 = .ok (.iconst 0, 1) := by decide +kernel
theorem dX5_hasBlock_35 : decode cX5_hasBlock 35 = .ok (.ireturn, 1) := by decide +kernel
theorem dX5_hasBlock_36 : decode cX5_hasBlock 36 = .ok (.aload_n 0, 1) := by decide +kernel
theorem dX5_hasBlock_37 : decode cX5_hasBlock 37 = .ok (.getfield 50, 3) := by decide +kernel
theorem dX5_hasBlock_40 : decode cX5_hasBlock 40 = .ok (.iconst 2, 1) := by decide +kernel
theorem dX5_hasBlock_41 : decode cX5_hasBlock 41 = .ok (.iaload, 1) := by decide +kernel
theorem dX5_hasBlock_42 : decode cX5_hasBlock 42 = .ok (.aload_n 0, 1) := by decide +kernel
theorem dX5_hasBlock_43 : decode cX5_hasBlock 43 = .ok (.getfield 79, 3) := by decide +kernel
theorem dX5_hasBlock_46 : decode cX5_hasBlock 46 = .ok (.iadd, 1) := by decide +kernel
theorem dX5_hasBlock_47 : decode cX5_hasBlock 47 = .ok (.aload_n 0, 1) := by decide +kernel
theorem dX5_hasBlock_48 : decode cX5_hasBlock 48 = .ok (.getfield 47, 3) := by decide +kernel
theorem dX5_hasBlock_51 : decode cX5_hasBlock 51 = .ok (.if_icmp .le 17, 3) := by decide +kernel
theorem dX5_hasBlock_54 : decode cX5_hasBlock 54 = .ok (.aload_n 0, 1) := by decide +kernel
theorem dX5_hasBlock_55 : decode cX5_hasBlock 55 = .ok (.invokevirtual 114, 3) := by decide +kernel
theorem dX5_hasBlock_58 : decode cX5_hasBlock 58 = .ok (.aload_n 0, 1) := by decide +kernel
theorem dX5_hasBlock_59 : decode cX5_hasBlock 59 = .ok (.getfield 50, 3) := by decide +kernel
theorem dX5_hasBlock_62 : decode cX5_hasBlock 62 = .ok (.iconst 5, 1) := by decide +kernel
theorem dX5_hasBlock_63 : decode cX5_hasBlock 63 = .ok (.dup2, 1) := by decide +kernel
theorem dX5_hasBlock_64 : decode cX5_hasBlock 64 = .ok (.iaload, 1) := by decide +kernel
theorem dX5_hasBlock_65 : decode cX5_hasBlock 65 = .ok (.iconst 1, 1) := by decide +kernel
theorem dX5_hasBlock_66 : decode cX5_hasBlock 66 = .ok (.iadd, 1) := by decide +kernel
theorem dX5_hasBlock_67 : decode cX5_hasBlock 67 = .ok (.iastore, 1) := by decide +kernel
theorem dX5_hasBlock_68 : decode cX5_hasBlock 68 = .ok (.aload_n 0, 1) := by decide +kernel
theorem dX5_hasBlock_69 : decode cX5_hasBlock 69 = .ok (.getfield 29, 3) := by decide +kernel
theorem dX5_hasBlock_72 : decode cX5_hasBlock 72 = .ok (.iload_n 1, 1) := by decide +kernel
theorem dX5_hasBlock_73 : decode cX5_hasBlock 73 = .ok (.aload_n 0, 1) := by decide +kernel
theorem dX5_hasBlock_74 : decode cX5_hasBlock 74 = .ok (.getfield 79, 3) := by decide +kernel
theorem dX5_hasBlock_77 : decode cX5_hasBlock 77 = .ok (.iastore, 1) := by decide +kernel
theorem dX5_hasBlock_78 : decode cX5_hasBlock 78 = .ok (.aload_n 0, 1) := by decide +kernel
theorem dX5_hasBlock_79 : decode cX5_hasBlock 79 = .ok (.getfield 32, 3) := by decide +kernel
theorem dX5_hasBlock_82 : decode cX5_hasBlock 82 = .ok (.iload_n 1, 1) := by decide +kernel
theorem dX5_hasBlock_83 : decode cX5_hasBlock 83 = .ok (.aload_n 0, 1) := by decide +kernel
theorem dX5_hasBlock_84 : decode cX5_hasBlock 84 = .ok (.getfield 76, 3) := by decide +kernel
theorem dX5_hasBlock_87 : decode cX5_hasBlock 87 = .ok (.iastore, 1) := by decide +kernel
theorem dX5_hasBlock_88 : decode cX5_hasBlock 88 = .ok (.aload_n 0, 1) := by decide +kernel
theorem dX5_hasBlock_89 : decode cX5_hasBlock 89 = .ok (.getfield 35, 3) := by decide +kernel
theorem dX5_hasBlock_92 : decode cX5_hasBlock 92 = .ok (.iload_n 1, 1) := by decide +kernel
theorem dX5_hasBlock_93 : decode cX5_hasBlock 93 = .ok (.aload_n 0, 1) := by decide +kernel
theorem dX5_hasBlock_94 : decode cX5_hasBlock 94 = .ok (.getfield 82, 3) := by decide +kernel
theorem dX5_hasBlock_97 : decode cX5_hasBlock 97 = .ok (.iastore, 1) := by decide +kernel
theorem dX5_hasBlock_98 : decode cX5_hasBlock 98 = .ok (.aload_n 0, 1) := by decide +kernel
theorem dX5_hasBlock_99 : decode cX5_hasBlock 99 = .ok (.dup, 1) := by decide +kernel
theorem dX5_hasBlock_100 : decode cX5_hasBlock 100 = .ok (.getfield 117, 3) := by decide +kernel
theorem dX5_hasBlock_103 : decode cX5_hasBlock 103 = .ok (.iconst 1, 1) := by decide +kernel
theorem dX5_hasBlock_104 : decode cX5_hasBlock 104 = .ok (.iadd, 1) := by decide +kernel
theorem dX5_hasBlock_105 : decode cX5_hasBlock 105 = .ok (.putfield 117, 3) := by decide +kernel
theorem dX5_hasBlock_108 : decode cX5_hasBlock 108 = .ok (.aload_n 0, 1) := by decide +kernel
theorem dX5_hasBlock_109 : decode cX5_hasBlock 109 = .ok (.getfield 38, 3) := by decide +kernel
theorem dX5_hasBlock_112 : decode cX5_hasBlock 112 = .ok (.iload_n 1, 1) := by decide +kernel
theorem dX5_hasBlock_113 : decode cX5_hasBlock 113 = .ok (.aload_n 0, 1) := by decide +kernel
theorem dX5_hasBlock_114 : decode cX5_hasBlock 114 = .ok (.getfield 117, 3) := by decide +kernel
theorem dX5_hasBlock_117 : decode cX5_hasBlock 117 = .ok (.iastore, 1) := by decide +kernel
theorem dX5_hasBlock_118 : decode cX5_hasBlock 118 = .ok (.aload_n 0, 1) := by decide +kernel
theorem dX5_hasBlock_119 : decode cX5_hasBlock 119 = .ok (.getfield 41, 3) := by decide +kernel
theorem dX5_hasBlock_122 : decode cX5_hasBlock 122 = .ok (.iconst 2, 1) := by decide +kernel
theorem dX5_hasBlock_123 : decode cX5_hasBlock 123 = .ok (.iload_n 1, 1) := by decide +kernel
theorem dX5_hasBlock_124 : decode cX5_hasBlock 124 = .ok (.imul, 1) := by decide +kernel
theorem dX5_hasBlock_125 : decode cX5_hasBlock 125 = .ok (.iconst (-1), 1) := by decide +kernel
theorem dX5_hasBlock_126 : decode cX5_hasBlock 126 = .ok (.iastore, 1) := by decide +kernel
theorem dX5_hasBlock_127 : decode cX5_hasBlock 127 = .ok (.aload_n 0, 1) := by decide +kernel
theorem dX5_hasBlock_128 : decode cX5_hasBlock 128 = .ok (.getfield 41, 3) := by decide +kernel
theorem dX5_hasBlock_131 : decode cX5_hasBlock 131 = .ok (.iconst 2, 1) := by decide +kernel
theorem dX5_hasBlock_132 : decode cX5_hasBlock 132 = .ok (.iload_n 1, 1) := by decide +kernel
theorem dX5_hasBlock_133 : decode cX5_hasBlock 133 = .ok (.imul, 1) := by decide +kernel
theorem dX5_hasBlock_134 : decode cX5_hasBlock 134 = .ok (.iconst 1, 1) := by decide +kernel
theorem dX5_hasBlock_135 : decode cX5_hasBlock 135 = .ok (.iadd, 1) := by decide +kernel
theorem dX5_hasBlock_136 : decode cX5_hasBlock 136 = .ok (.iconst (-1), 1) := by decide +kernel
theorem dX5_hasBlock_137 : decode cX5_hasBlock 137 = .ok (.iastore, 1) := by decide +kernel
theorem dX5_hasBlock_138 : decode cX5_hasBlock 138 = .ok (.aload_n 0, 1) := by decide +kernel
theorem dX5_hasBlock_139 : decode cX5_hasBlock 139 = .ok (.getfield 50, 3) := by decide +kernel
theorem dX5_hasBlock_142 : decode cX5_hasBlock 142 = .ok (.iconst 1, 1) := by decide +kernel
theorem dX5_hasBlock_143 : decode cX5_hasBlock 143 = .ok (.dup2, 1) := by decide +kernel
theorem dX5_hasBlock_144 : decode cX5_hasBlock 144 = .ok (.iaload, 1) := by decide +kernel
theorem dX5_hasBlock_145 : decode cX5_hasBlock 145 = .ok (.iconst 1, 1) := by decide +kernel
theorem dX5_hasBlock_146 : decode cX5_hasBlock 146 = .ok (.iadd, 1) := by decide +kernel
theorem dX5_hasBlock_147 : decode cX5_hasBlock 147 = .ok (.iastore, 1) := by decide +kernel
theorem dX5_hasBlock_148 : decode cX5_hasBlock 148 = .ok (.aload_n 0, 1) := by decide +kernel
theorem dX5_hasBlock_149 : decode cX5_hasBlock 149 = .ok (.getfield 50, 3) := by decide +kernel
theorem dX5_hasBlock_152 : decode cX5_hasBlock 152 = .ok (.iconst 2, 1) := by decide +kernel
theorem dX5_hasBlock_153 : decode cX5_hasBlock 153 = .ok (.aload_n 0, 1) := by decide +kernel
theorem dX5_hasBlock_154 : decode cX5_hasBlock 154 = .ok (.getfield 50, 3) := by decide +kernel
theorem dX5_hasBlock_157 : decode cX5_hasBlock 157 = .ok (.iconst 2, 1) := by decide +kernel
theorem dX5_hasBlock_158 : decode cX5_hasBlock 158 = .ok (.iaload, 1) := by decide +kernel
theorem dX5_hasBlock_159 : decode cX5_hasBlock 159 = .ok (.aload_n 0, 1) := by decide +kernel
theorem dX5_hasBlock_160 : decode cX5_hasBlock 160 = .ok (.getfield 79, 3) := by decide +kernel
theorem dX5_hasBlock_163 : decode cX5_hasBlock 163 = .ok (.iadd, 1) := by decide +kernel
theorem dX5_hasBlock_164 : decode cX5_hasBlock 164 = .ok (.iastore, 1) := by decide +kernel
theorem dX5_hasBlock_165 : decode cX5_hasBlock 165 = .ok (.aload_n 0, 1) := by decide +kernel
theorem dX5_hasBlock_166 : decode cX5_hasBlock 166 = .ok (.getfield 50, 3) := by decide +kernel
theorem dX5_hasBlock_169 : decode cX5_hasBlock 169 = .ok (.iconst 3, 1) := by decide +kernel
theorem dX5_hasBlock_170 : decode cX5_hasBlock 170 = .ok (.dup2, 1) := by decide +kernel
theorem dX5_hasBlock_171 : decode cX5_hasBlock 171 = .ok (.iaload, 1) := by decide +kernel
theorem dX5_hasBlock_172 : decode cX5_hasBlock 172 = .ok (.iconst 1, 1) := by decide +kernel
theorem dX5_hasBlock_173 : decode cX5_hasBlock 173 = .ok (.iadd, 1) := by decide +kernel
theorem dX5_hasBlock_174 : decode cX5_hasBlock 174 = .ok (.iastore, 1) := by decide +kernel
theorem dX5_hasBlock_175 : decode cX5_hasBlock 175 = .ok (.aload_n 0, 1) := by decide +kernel
theorem dX5_hasBlock_176 : decode cX5_hasBlock 176 = .ok (.getfield 50, 3) := by decide +kernel
theorem dX5_hasBlock_179 : decode cX5_hasBlock 179 = .ok (.bipush 9, 2) := by decide +kernel
theorem dX5_hasBlock_181 : decode cX5_hasBlock 181 = .ok (.aload_n 0, 1) := by decide +kernel
theorem dX5_hasBlock_182 : decode cX5_hasBlock 182 = .ok (.getfield 50, 3) := by decide +kernel
theorem dX5_hasBlock_185 : decode cX5_hasBlock 185 = .ok (.bipush 9, 2) := by decide +kernel
theorem dX5_hasBlock_187 : decode cX5_hasBlock 187 = .ok (.iaload, 1) := by decide +kernel
theorem dX5_hasBlock_188 : decode cX5_hasBlock 188 = .ok (.aload_n 0, 1) := by decide +kernel
theorem dX5_hasBlock_189 : decode cX5_hasBlock 189 = .ok (.getfield 85, 3) := by decide +kernel
theorem dX5_hasBlock_192 : decode cX5_hasBlock 192 = .ok (.iadd, 1) := by decide +kernel
theorem dX5_hasBlock_193 : decode cX5_hasBlock 193 = .ok (.iastore, 1) := by decide +kernel
theorem dX5_hasBlock_194 : decode cX5_hasBlock 194 = .ok (.iconst 1, 1) := by decide +kernel
theorem dX5_hasBlock_195 : decode cX5_hasBlock 195 = .ok (.ireturn, 1) := by decide +kernel
theorem dX5_setFlags_0 : decode cX5_setFlags 0 = .ok (.aload_n 0, 1) := by decide +kernel
theorem dX5_setFlags_1 : decode cX5_setFlags 1 = .ok (.getfield 13, 3) := by decide +kernel
theorem dX5_setFlags_4 : decode cX5_setFlags 4 = .ok (.iconst 5, 1) := by decide +kernel
theorem dX5_setFlags_5 : decode cX5_setFlags 5 = .ok (.iload_n 1, 1) := by decide +kernel
theorem dX5_setFlags_6 : decode cX5_setFlags 6 = .ok (.sipush 255, 3) := by decide +kernel
theorem dX5_setFlags_9 : decode cX5_setFlags 9 = .ok (.iand, 1) := by decide +kernel
theorem dX5_setFlags_10 : decode cX5_setFlags 10 = .ok (.ifCond .ne 7, 3) := by decide +kernel
theorem dX5_setFlags_13 : decode cX5_setFlags 13 = .ok (.iconst 1, 1) := by decide +kernel
theorem dX5_setFlags_14 : decode cX5_setFlags 14 = .ok (.goto 4, 3) := by decide +kernel
theorem dX5_setFlags_17 : decode cX5_setFlags 17 = .ok (.iconst 0, 1) := by decide +kernel
theorem dX5_setFlags_18 : decode cX5_setFlags 18 = .ok (.iastore, 1) := by decide +kernel
theorem dX5_setFlags_19 : decode cX5_setFlags 19 = .ok (.aload_n 0, 1) := by decide +kernel
theorem dX5_setFlags_20 : decode cX5_setFlags 20 = .ok (.getfield 13, 3) := by decide +kernel
theorem dX5_setFlags_23 : decode cX5_setFlags 23 = .ok (.bipush 6, 2) := by decide +kernel
theorem dX5_setFlags_25 : decode cX5_setFlags 25 = .ok (.iload_n 2, 1) := by decide +kernel
theorem dX5_setFlags_26 : decode cX5_setFlags 26 = .ok (.iastore, 1) := by decide +kernel
theorem dX5_setFlags_27 : decode cX5_setFlags 27 = .ok (.aload_n 0, 1) := by decide +kernel
theorem dX5_setFlags_28 : decode cX5_setFlags 28 = .ok (.getfield 13, 3) := by decide +kernel
theorem dX5_setFlags_31 : decode cX5_setFlags 31 = .ok (.bipush 7, 2) := by decide +kernel
theorem dX5_setFlags_33 : decode cX5_setFlags 33 = .ok (.iload_n 1, 1) := by decide +kernel
theorem dX5_setFlags_34 : decode cX5_setFlags 34 = .ok (.bipush 7, 2) := by decide +kernel
theorem dX5_setFlags_36 : decode cX5_setFlags 36 = .ok (.ishr, 1) := by decide +kernel
theorem dX5_setFlags_37 : decode cX5_setFlags 37 = .ok (.iconst 1, 1) := by decide +kernel
theorem dX5_setFlags_38 : decode cX5_setFlags 38 = .ok (.iand, 1) := by decide +kernel
theorem dX5_setFlags_39 : decode cX5_setFlags 39 = .ok (.iastore, 1) := by decide +kernel
theorem dX5_setFlags_40 : decode cX5_setFlags 40 = .ok (.return_, 1) := by decide +kernel
set_option maxRecDepth 100000 in
theorem ggX5_push_X5_write : GoodIn wsX5_push wsX5_write := goodIn_r _ [6, 7, 8, 9, 10, 11, 5, 12, 13, 14, 15, 16, 17, 18, 19, 20, 21, 22, 23, 24, 25, 26, 27, 28, 29, 30, 31, 32, 33, 34, 35, 36, 37, 38, 39, 40, 41, 42, 43, 44, 45] rfl (by decide +kernel)
set_option maxRecDepth 100000 in
theorem gX5_push_X5_write : GoodIn wsX5_push (wsV RX5 120 RX5 yX5_write wsX5_write) := goodIn_app (goodIn_of _ (by decide +kernel)) ggX5_push_X5_write
theorem dX5_push_0 : decode cX5_push 0 = .ok (.aload_n 0, 1) := by decide +kernel
theorem dX5_push_1 : decode cX5_push 1 = .ok (.getfield 13, 3) := by decide +kernel
theorem dX5_push_4 : decode cX5_push 4 = .ok (.iconst 4, 1) := by decide +kernel
theorem dX5_push_5 : decode cX5_push 5 = .ok (.aload_n 0, 1) := by decide +kernel
theorem dX5_push_6 : decode cX5_push 6 = .ok (.getfield 13, 3) := by decide +kernel
theorem dX5_push_9 : decode cX5_push 9 = .ok (.iconst 4, 1) := by decide +kernel
theorem dX5_push_10 : decode cX5_push 10 = .ok (.iaload, 1) := by decide +kernel
theorem dX5_push_11 : decode cX5_push 11 = .ok (.iconst 1, 1) := by decide +kernel
theorem dX5_push_12 : decode cX5_push 12 = .ok (.isub, 1) := by decide +kernel
theorem dX5_push_13 : decode cX5_push 13 = .ok (.sipush 255, 3) := by decide +kernel
theorem dX5_push_16 : decode cX5_push 16 = .ok (.iand, 1) := by decide +kernel
theorem dX5_push_17 : decode cX5_push 17 = .ok (.iastore, 1) := by decide +kernel
theorem dX5_push_18 : decode cX5_push 18 = .ok (.aload_n 0, 1) := by decide +kernel
theorem dX5_push_19 : decode cX5_push 19 = .ok (.aload_n 0, 1) := by decide +kernel
theorem dX5_push_20 : decode cX5_push 20 = .ok (.getfield 13, 3) := by decide +kernel
theorem dX5_push_23 : decode cX5_push 23 = .ok (.iconst 4, 1) := by decide +kernel
theorem dX5_push_24 : decode cX5_push 24 = .ok (.iaload, 1) := by decide +kernel
theorem dX5_push_25 : decode cX5_push 25 = .ok (.iload_n 1, 1) := by decide +kernel
theorem dX5_push_26 : decode cX5_push 26 = .ok (.invokevirtual 120, 3) := by decide +kernel
theorem dX5_push_29 : decode cX5_push 29 = .ok (.return_, 1) := by decide +kernel
theorem dX5_pop_0 : decode cX5_pop 0 = .ok (.aload_n 0, 1) := by decide +kernel
theorem dX5_pop_1 : decode cX5_pop 1 = .ok (.getfield 7, 3) := by decide +kernel
theorem dX5_pop_4 : decode cX5_pop 4 = .ok (.aload_n 0, 1) := by decide +kernel
theorem dX5_pop_5 : decode cX5_pop 5 = .ok (.getfield 13, 3) := by decide +kernel
theorem dX5_pop_8 : decode cX5_pop 8 = .ok (.iconst 4, 1) := by decide +kernel
theorem dX5_pop_9 : decode cX5_pop 9 = .ok (.iaload, 1) := by decide +kernel
theorem dX5_pop_10 : decode cX5_pop 10 = .ok (.iaload, 1) := by decide +kernel
theorem dX5_pop_11 : decode cX5_pop 11 = .ok (.istore_n 1, 1) := by decide +kernel
theorem dX5_pop_12 : decode cX5_pop 12 = .ok (.aload_n 0, 1) := by decide +kernel
theorem dX5_pop_13 : decode cX5_pop 13 = .ok (.getfield 13, 3) := by decide +kernel
theorem dX5_pop_16 : decode cX5_pop 16 = .ok (.iconst 4, 1) := by decide +kernel
theorem dX5_pop_17 : decode cX5_pop 17 = .ok (.aload_n 0, 1) := by decide +kernel
theorem dX5_pop_18 : decode cX5_pop 18 = .ok (.getfield 13, 3) := by decide +kernel
theorem dX5_pop_21 : decode cX5_pop 21 = .ok (.iconst 4, 1) := by decide +kernel
theorem dX5_pop_22 : decode cX5_pop 22 = .ok (.iaload, 1) := by decide +kernel
theorem dX5_pop_23 : decode cX5_pop 23 = .ok (.iconst 1, 1) := by decide +kernel
theorem dX5_pop_24 : decode cX5_pop 24 = .ok (.iadd, 1) := by decide +kernel
theorem dX5_pop_25 : decode cX5_pop 25 = .ok (.sipush 255, 3) := by decide +kernel
theorem dX5_pop_28 : decode cX5_pop 28 = .ok (.iand, 1) := by decide +kernel
theorem dX5_pop_29 : decode cX5_pop 29 = .ok (.iastore, 1) := by decide +kernel
theorem dX5_pop_30 : decode cX5_pop 30 = .ok (.iload_n 1, 1) := by decide +kernel
theorem dX5_pop_31 : decode cX5_pop 31 = .ok (.ireturn, 1) := by decide +kernel
theorem dX5_goes_0 : decode cX5_goes 0 = .ok (.iload_n 1, 1) := by decide +kernel
theorem dX5_goes_1 : decode cX5_goes 1 = .ok (.ifCond .eq 81, 3) := by decide +kernel
theorem dX5_goes_4 : decode cX5_goes 4 = .ok (.iload_n 1, 1) := by decide +kernel
theorem dX5_goes_5 : decode cX5_goes 5 = .ok (.iconst 3, 1) := by decide +kernel
theorem dX5_goes_6 : decode cX5_goes 6 = .ok (.if_icmp .ge 21, 3) := by decide +kernel
theorem dX5_goes_9 : decode cX5_goes 9 = .ok (.aload_n 0, 1) := by decide +kernel
theorem dX5_goes_10 : decode cX5_goes 10 = .ok (.getfield 13, 3) := by decide +kernel
theorem dX5_goes_13 : decode cX5_goes 13 = .ok (.iconst 5, 1) := by decide +kernel
theorem dX5_goes_14 : decode cX5_goes 14 = .ok (.iaload, 1) := by decide +kernel
theorem dX5_goes_15 : decode cX5_goes 15 = .ok (.iconst 1, 1) := by decide +kernel
theorem dX5_goes_16 : decode cX5_goes 16 = .ok (.if_icmp .ne 7, 3) := by decide +kernel
theorem dX5_goes_19 : decode cX5_goes 19 = .ok (.iconst 1, 1) := by decide +kernel
theorem dX5_goes_20 : decode cX5_goes 20 = .ok (.goto 47, 3) := by decide +kernel
theorem dX5_goes_23 : decode cX5_goes 23 = .ok (.iconst 0, 1) := by decide +kernel
theorem dX5_goes_24 : decode cX5_goes 24 = .ok (.goto 43, 3) := by decide +kernel
theorem dX5_goes_27 : decode cX5_goes 27 = .ok (.iload_n 1, 1) := by decide +kernel
theorem dX5_goes_28 : decode cX5_goes 28 = .ok (.iconst 5, 1) := by decide +kernel
theorem dX5_goes_29 : decode cX5_goes 29 = .ok (.if_icmp .ge 22, 3) := by decide +kernel
theorem dX5_goes_32 : decode cX5_goes 32 = .ok (.aload_n 0, 1) := by decide +kernel
theorem dX5_goes_33 : decode cX5_goes 33 = .ok (.getfield 13, 3) := by decide +kernel
theorem dX5_goes_36 : decode cX5_goes 36 = .ok (.bipush 6, 2) := by decide +kernel
theorem dX5_goes_38 : decode cX5_goes 38 = .ok (.iaload, 1) := by decide +kernel
theorem dX5_goes_39 : decode cX5_goes 39 = .ok (.iconst 1, 1) := by decide +kernel
theorem dX5_goes_40 : decode cX5_goes 40 = .ok (.if_icmp .ne 7, 3) := by decide +kernel
theorem dX5_goes_43 : decode cX5_goes 43 = .ok (.iconst 1, 1) := by decide +kernel
theorem dX5_goes_44 : decode cX5_goes 44 = .ok (.goto 23, 3) := by decide +kernel
theorem dX5_goes_47 : decode cX5_goes 47 = .ok (.iconst 0, 1) := by decide +kernel
theorem dX5_goes_48 : decode cX5_goes 48 = .ok (.goto 19, 3) := by decide +kernel
theorem dX5_goes_51 : decode cX5_goes 51 = .ok (.aload_n 0, 1) := by decide +kernel
theorem dX5_goes_52 : decode cX5_goes 52 = .ok (.getfield 13, 3) := by decide +kernel
theorem dX5_goes_55 : decode cX5_goes 55 = .ok (.bipush 7, 2) := by decide +kernel
theorem dX5_goes_57 : decode cX5_goes 57 = .ok (.iaload, 1) := by decide +kernel
theorem dX5_goes_58 : decode cX5_goes 58 = .ok (.iconst 1, 1) := by decide +kernel
theorem dX5_goes_59 : decode cX5_goes 59 = .ok (.if_icmp .ne 7, 3) := by decide +kernel
theorem dX5_goes_62 : decode cX5_goes 62 = .ok (.iconst 1, 1) := by decide +kernel
theorem dX5_goes_63 : decode cX5_goes 63 = .ok (.goto 4, 3) := by decide +kernel
theorem dX5_goes_66 : decode cX5_goes 66 = .ok (.iconst 0, 1) := by decide +kernel
theorem dX5_goes_67 : decode cX5_goes 67 = .ok (.iload_n 1, 1) := by decide +kernel
theorem dX5_goes_68 : decode cX5_goes 68 = .ok (.iconst 2, 1) := by decide +kernel
theorem dX5_goes_69 : decode cX5_goes 69 = .ok (.irem, 1) := by decide +kernel
theorem dX5_goes_70 : decode cX5_goes 70 = .ok (.iconst 1, 1) := by decide +kernel
theorem dX5_goes_71 : decode cX5_goes 71 = .ok (.if_icmp .ne 7, 3) := by decide +kernel
theorem dX5_goes_74 : decode cX5_goes 74 = .ok (.iconst 1, 1) := by decide +kernel
theorem dX5_goes_75 : decode cX5_goes 75 = .ok (.goto 4, 3) := by decide +kernel
theorem dX5_goes_78 : decode cX5_goes 78 = .ok (.iconst 0, 1) := by decide +kernel
theorem dX5_goes_79 : decode cX5_goes 79 = .ok (.if_icmp .ne 7, 3) := by decide +kernel
theorem dX5_goes_82 : decode cX5_goes 82 = .ok (.iconst 1, 1) := by decide +kernel
theorem dX5_goes_83 : decode cX5_goes 83 = .ok (.goto 4, 3) := by decide +kernel
theorem dX5_goes_86 : decode cX5_goes 86 = .ok (.iconst 0, 1) := by decide +kernel
theorem dX5_goes_87 : decode cX5_goes 87 = .ok (.ireturn, 1) := by decide +kernel
set_option maxRecDepth 100000 in
theorem ggX5_add_X5_setFlags : GoodIn wsX5_add wsX5_setFlags := goodIn_r _ [6, 1, 7, 8, 9, 10, 11, 12, 13, 14, 15, 16, 17, 18, 19, 20, 21, 22, 23, 24, 25, 26, 27, 28, 29, 30, 31, 32, 33] rfl (by decide +kernel)
set_option maxRecDepth 100000 in
theorem gX5_add_X5_setFlags : GoodIn wsX5_add (wsV RX5 124 RX5 yX5_setFlags wsX5_setFlags) := goodIn_app (goodIn_of _ (by decide +kernel)) ggX5_add_X5_setFlags
theorem dX5_add_0 : decode cX5_add 0 = .ok (.aload_n 0, 1) := by decide +kernel
theorem dX5_add_1 : decode cX5_add 1 = .ok (.getfield 13, 3) := by decide +kernel
theorem dX5_add_4 : decode cX5_add 4 = .ok (.iload_n 1, 1) := by decide +kernel
theorem dX5_add_5 : decode cX5_add 5 = .ok (.iaload, 1) := by decide +kernel
theorem dX5_add_6 : decode cX5_add 6 = .ok (.iload_n 2, 1) := by decide +kernel
theorem dX5_add_7 : decode cX5_add 7 = .ok (.iadd, 1) := by decide +kernel
theorem dX5_add_8 : decode cX5_add 8 = .ok (.iload_n 3, 1) := by decide +kernel
theorem dX5_add_9 : decode cX5_add 9 = .ok (.iadd, 1) := by decide +kernel
theorem dX5_add_10 : decode cX5_add 10 = .ok (.istore 4, 2) := by decide +kernel
theorem dX5_add_12 : decode cX5_add 12 = .ok (.aload_n 0, 1) := by decide +kernel
theorem dX5_add_13 : decode cX5_add 13 = .ok (.iload 4, 2) := by decide +kernel
theorem dX5_add_15 : decode cX5_add 15 = .ok (.iload 4, 2) := by decide +kernel
theorem dX5_add_17 : decode cX5_add 17 = .ok (.bipush 8, 2) := by decide +kernel
theorem dX5_add_19 : decode cX5_add 19 = .ok (.ishr, 1) := by decide +kernel
theorem dX5_add_20 : decode cX5_add 20 = .ok (.invokevirtual 124, 3) := by decide +kernel
theorem dX5_add_23 : decode cX5_add 23 = .ok (.aload_n 0, 1) := by decide +kernel
theorem dX5_add_24 : decode cX5_add 24 = .ok (.getfield 13, 3) := by decide +kernel
theorem dX5_add_27 : decode cX5_add 27 = .ok (.iload_n 1, 1) := by decide +kernel
theorem dX5_add_28 : decode cX5_add 28 = .ok (.iload 4, 2) := by decide +kernel
theorem dX5_add_30 : decode cX5_add 30 = .ok (.sipush 255, 3) := by decide +kernel
theorem dX5_add_33 : decode cX5_add 33 = .ok (.iand, 1) := by decide +kernel
theorem dX5_add_34 : decode cX5_add 34 = .ok (.iastore, 1) := by decide +kernel
theorem dX5_add_35 : decode cX5_add 35 = .ok (.return_, 1) := by decide +kernel
set_option maxRecDepth 100000 in
theorem ggX5_less_X5_setFlags : GoodIn wsX5_less wsX5_setFlags := goodIn_r _ [5, 6, 7, 8, 9, 10, 11, 12, 13, 14, 15, 16, 17, 18, 19, 20, 21, 22, 23, 24, 25, 26, 27, 28, 29, 30, 31, 32, 33] rfl (by decide +kernel)
set_option maxRecDepth 100000 in
theorem gX5_less_X5_setFlags : GoodIn wsX5_less (wsV RX5 124 RX5 yX5_setFlags wsX5_setFlags) := goodIn_app (goodIn_of _ (by decide +kernel)) ggX5_less_X5_setFlags
theorem dX5_less_0 : decode cX5_less 0 = .ok (.iload_n 1, 1) := by decide +kernel
theorem dX5_less_1 : decode cX5_less 1 = .ok (.iload_n 2, 1) := by decide +kernel
theorem dX5_less_2 : decode cX5_less 2 = .ok (.isub, 1) := by decide +kernel
theorem dX5_less_3 : decode cX5_less 3 = .ok (.istore_n 3, 1) := by decide +kernel
theorem dX5_less_4 : decode cX5_less 4 = .ok (.aload_n 0, 1) := by decide +kernel
theorem dX5_less_5 : decode cX5_less 5 = .ok (.iload_n 3, 1) := by decide +kernel
theorem dX5_less_6 : decode cX5_less 6 = .ok (.sipush 255, 3) := by decide +kernel
theorem dX5_less_9 : decode cX5_less 9 = .ok (.iand, 1) := by decide +kernel
theorem dX5_less_10 : decode cX5_less 10 = .ok (.iload_n 3, 1) := by decide +kernel
theorem dX5_less_11 : decode cX5_less 11 = .ok (.ifCond .ge 7, 3) := by decide +kernel
theorem dX5_less_14 : decode cX5_less 14 = .ok (.iconst 1, 1) := by decide +kernel
theorem dX5_less_15 : decode cX5_less 15 = .ok (.goto 4, 3) := by decide +kernel
theorem dX5_less_18 : decode cX5_less 18 = .ok (.iconst 0, 1) := by decide +kernel
theorem dX5_less_19 : decode cX5_less 19 = .ok (.invokevirtual 124, 3) := by decide +kernel
theorem dX5_less_22 : decode cX5_less 22 = .ok (.iload_n 3, 1) := by decide +kernel
theorem dX5_less_23 : decode cX5_less 23 = .ok (.sipush 255, 3) := by decide +kernel
theorem dX5_less_26 : decode cX5_less 26 = .ok (.iand, 1) := by decide +kernel
theorem dX5_less_27 : decode cX5_less 27 = .ok (.ireturn, 1) := by decide +kernel
set_option maxRecDepth 100000 in
theorem ggX5_shift_X5_setFlags : GoodIn wsX5_shift wsX5_setFlags := goodIn_r _ [6, 1, 7, 8, 9, 10, 11, 12, 13, 14, 15, 16, 17, 18, 19, 20, 21, 22, 23, 24, 25, 26, 27, 28, 29, 30, 31, 32, 33] rfl (by decide +kernel)
set_option maxRecDepth 100000 in
theorem gX5_shift_X5_setFlags : GoodIn wsX5_shift (wsV RX5 124 RX5 yX5_setFlags wsX5_setFlags) := goodIn_app (goodIn_of _ (by decide +kernel)) ggX5_shift_X5_setFlags
theorem dX5_shift_0 : decode cX5_shift 0 = .ok (.aload_n 0, 1) := by decide +kernel
theorem dX5_shift_1 : decode cX5_shift 1 = .ok (.getfield 13, 3) := by decide +kernel
theorem dX5_shift_4 : decode cX5_shift 4 = .ok (.iload_n 1, 1) := by decide +kernel
theorem dX5_shift_5 : decode cX5_shift 5 = .ok (.iaload, 1) := by decide +kernel
theorem dX5_shift_6 : decode cX5_shift 6 = .ok (.istore_n 3, 1) := by decide +kernel
theorem dX5_shift_7 : decode cX5_shift 7 = .ok (.iload_n 2, 1) := by decide +kernel
theorem dX5_shift_8 : decode cX5_shift 8 = .ok (.bipush 13, 2) := by decide +kernel
theorem dX5_shift_10 : decode cX5_shift 10 = .ok (.if_icmp .eq 9, 3) := by decide +kernel
theorem dX5_shift_13 : decode cX5_shift 13 = .ok (.iload_n 2, 1) := by decide +kernel
theorem dX5_shift_14 : decode cX5_shift 14 = .ok (.bipush 15, 2) := by decide +kernel
theorem dX5_shift_16 : decode cX5_shift 16 = .ok (.if_icmp .ne 7, 3) := by decide +kernel
theorem dX5_shift_19 : decode cX5_shift 19 = .ok (.iconst 1, 1) := by decide +kernel
theorem dX5_shift_20 : decode cX5_shift 20 = .ok (.goto 4, 3) := by decide +kernel
theorem dX5_shift_23 : decode cX5_shift 23 = .ok (.iconst 0, 1) := by decide +kernel
theorem dX5_shift_24 : decode cX5_shift 24 = .ok (.istore 4, 2) := by decide +kernel
theorem dX5_shift_26 : decode cX5_shift 26 = .ok (.iload_n 2, 1) := by decide +kernel
theorem dX5_shift_27 : decode cX5_shift 27 = .ok (.bipush 15, 2) := by decide +kernel
theorem dX5_shift_29 : decode cX5_shift 29 = .ok (.if_icmp .eq 9, 3) := by decide +kernel
theorem dX5_shift_32 : decode cX5_shift 32 = .ok (.iload_n 2, 1) := by decide +kernel
theorem dX5_shift_33 : decode cX5_shift 33 = .ok (.bipush 16, 2) := by decide +kernel
theorem dX5_shift_35 : decode cX5_shift 35 = .ok (.if_icmp .ne 13, 3) := by decide +kernel
theorem dX5_shift_38 : decode cX5_shift 38 = .ok (.aload_n 0, 1) := by decide +kernel
theorem dX5_shift_39 : decode cX5_shift 39 = .ok (.getfield 13, 3) := by decide +kernel
theorem dX5_shift_42 : decode cX5_shift 42 = .ok (.bipush 6, 2) := by decide +kernel
theorem dX5_shift_44 : decode cX5_shift 44 = .ok (.iaload, 1) := by decide +kernel
theorem dX5_shift_45 : decode cX5_shift 45 = .ok (.goto 4, 3) := by decide +kernel
theorem dX5_shift_48 : decode cX5_shift 48 = .ok (.iconst 0, 1) := by decide +kernel
theorem dX5_shift_49 : decode cX5_shift 49 = .ok (.istore 5, 2) := by decide +kernel
theorem dX5_shift_51 : decode cX5_shift 51 = .ok (.iload 4, 2) := by decide +kernel
theorem dX5_shift_53 : decode cX5_shift 53 = .ok (.ifCond .eq 16, 3) := by decide +kernel
theorem dX5_shift_56 : decode cX5_shift 56 = .ok (.iload_n 3, 1) := by decide +kernel
theorem dX5_shift_57 : decode cX5_shift 57 = .ok (.iconst 1, 1) := by decide +kernel
theorem dX5_shift_58 : decode cX5_shift 58 = .ok (.ishl, 1) := by decide +kernel
theorem dX5_shift_59 : decode cX5_shift 59 = .ok (.sipush 255, 3) := by decide +kernel
theorem dX5_shift_62 : decode cX5_shift 62 = .ok (.iand, 1) := by decide +kernel
theorem dX5_shift_63 : decode cX5_shift 63 = .ok (.iload 5, 2) := by decide +kernel
theorem dX5_shift_65 : decode cX5_shift 65 = .ok (.ior, 1) := by decide +kernel
theorem dX5_shift_66 : decode cX5_shift 66 = .ok (.goto 12, 3) := by decide +kernel
theorem dX5_shift_69 : decode cX5_shift 69 = .ok (.iload_n 3, 1) := by decide +kernel
theorem dX5_shift_70 : decode cX5_shift 70 = .ok (.iconst 1, 1) := by decide +kernel
theorem dX5_shift_71 : decode cX5_shift 71 = .ok (.ishr, 1) := by decide +kernel
theorem dX5_shift_72 : decode cX5_shift 72 = .ok (.iload 5, 2) := by decide +kernel
theorem dX5_shift_74 : decode cX5_shift 74 = .ok (.bipush 7, 2) := by decide +kernel
theorem dX5_shift_76 : decode cX5_shift 76 = .ok (.ishl, 1) := by decide +kernel
theorem dX5_shift_77 : decode cX5_shift 77 = .ok (.ior, 1) := by decide +kernel
theorem dX5_shift_78 : decode cX5_shift 78 = .ok (.istore 6, 2) := by decide +kernel
theorem dX5_shift_80 : decode cX5_shift 80 = .ok (.aload_n 0, 1) := by decide +kernel
theorem dX5_shift_81 : decode cX5_shift 81 = .ok (.iload 6, 2) := by decide +kernel
theorem dX5_shift_83 : decode cX5_shift 83 = .ok (.iload 4, 2) := by decide +kernel
theorem dX5_shift_85 : decode cX5_shift 85 = .ok (.ifCond .eq 10, 3) := by decide +kernel
theorem dX5_shift_88 : decode cX5_shift 88 = .ok (.iload_n 3, 1) := by decide +kernel
theorem dX5_shift_89 : decode cX5_shift 89 = .ok (.bipush 7, 2) := by decide +kernel
theorem dX5_shift_91 : decode cX5_shift 91 = .ok (.ishr, 1) := by decide +kernel
theorem dX5_shift_92 : decode cX5_shift 92 = .ok (.goto 6, 3) := by decide +kernel
theorem dX5_shift_95 : decode cX5_shift 95 = .ok (.iload_n 3, 1) := by decide +kernel
theorem dX5_shift_96 : decode cX5_shift 96 = .ok (.iconst 1, 1) := by decide +kernel
theorem dX5_shift_97 : decode cX5_shift 97 = .ok (.iand, 1) := by decide +kernel
theorem dX5_shift_98 : decode cX5_shift 98 = .ok (.invokevirtual 124, 3) := by decide +kernel
theorem dX5_shift_101 : decode cX5_shift 101 = .ok (.aload_n 0, 1) := by decide +kernel
theorem dX5_shift_102 : decode cX5_shift 102 = .ok (.getfield 13, 3) := by decide +kernel
theorem dX5_shift_105 : decode cX5_shift 105 = .ok (.iload_n 1, 1) := by decide +kernel
theorem dX5_shift_106 : decode cX5_shift 106 = .ok (.iload 6, 2) := by decide +kernel
theorem dX5_shift_108 : decode cX5_shift 108 = .ok (.iastore, 1) := by decide +kernel
theorem dX5_shift_109 : decode cX5_shift 109 = .ok (.return_, 1) := by decide +kernel
set_option maxRecDepth 100000 in
theorem ggX5_step_X5_look : GoodIn wsX5_step wsX5_look := goodIn_r _ [12, 1, 5, 3, 13, 14, 11, 15, 68, 69, 70, 71, 72, 73, 74, 75, 76, 77, 78, 79, 80, 81, 82, 83, 84, 85, 86, 87, 88, 89, 90, 91, 92, 93, 94] rfl (by decide +kernel)
set_option maxRecDepth 100000 in
theorem gX5_step_X5_look : GoodIn wsX5_step (wsV RX5 88 RX5 yX5_look wsX5_look) := goodIn_app (goodIn_of _ (by decide +kernel)) ggX5_step_X5_look
set_option maxRecDepth 100000 in
theorem ggX5_step_X5_receive : GoodIn wsX5_step wsX5_receive := goodIn_r _ [19, 2, 20, 21, 68, 69, 70, 71, 72, 73, 74, 75, 76, 77, 78, 79, 80, 81, 82, 83, 84, 85, 86, 87, 88, 89, 90, 91, 92, 93, 94] rfl (by decide +kernel)
set_option maxRecDepth 100000 in
theorem gX5_step_X5_receive : GoodIn wsX5_step (wsV RX5 131 RX5 yX5_receive wsX5_receive) := goodIn_app (goodIn_of _ (by decide +kernel)) ggX5_step_X5_receive
set_option maxRecDepth 100000 in
theorem ggX5_step_X5_add : GoodIn wsX5_step wsX5_add := goodIn_r _ [25, 2, 26, 27, 28, 11, 29, 68, 69, 70, 71, 72, 73, 74, 75, 76, 77, 78, 79, 80, 81, 82, 83, 84, 85, 86, 87, 88, 89, 90, 91, 92, 93, 94] rfl (by decide +kernel)
set_option maxRecDepth 100000 in
theorem gX5_step_X5_add : GoodIn wsX5_step (wsV RX5 134 RX5 yX5_add wsX5_add) := goodIn_app (goodIn_of _ (by decide +kernel)) ggX5_step_X5_add
set_option maxRecDepth 100000 in
theorem ggX5_step_X5_less : GoodIn wsX5_step wsX5_less := goodIn_r _ [33, 26, 27, 28, 11, 29, 2, 68, 69, 70, 71, 72, 73, 74, 75, 76, 77, 78, 79, 80, 81, 82, 83, 84, 85, 86, 87, 88, 89, 90, 91, 92, 93, 94] rfl (by decide +kernel)
set_option maxRecDepth 100000 in
theorem gX5_step_X5_less : GoodIn wsX5_step (wsV RX5 138 RX5 yX5_less wsX5_less) := goodIn_app (goodIn_of _ (by decide +kernel)) ggX5_step_X5_less
set_option maxRecDepth 100000 in
theorem ggX5_step_X5_setFlags : GoodIn wsX5_step wsX5_setFlags := goodIn_r _ [29, 2, 68, 69, 70, 71, 72, 73, 74, 75, 76, 77, 78, 79, 80, 81, 82, 83, 84, 85, 86, 87, 88, 89, 90, 91, 92, 93, 94] rfl (by decide +kernel)
set_option maxRecDepth 100000 in
theorem gX5_step_X5_setFlags : GoodIn wsX5_step (wsV RX5 124 RX5 yX5_setFlags wsX5_setFlags) := goodIn_app (goodIn_of _ (by decide +kernel)) ggX5_step_X5_setFlags
set_option maxRecDepth 100000 in
theorem ggX5_step_X5_shift : GoodIn wsX5_step wsX5_shift := goodIn_r _ [37, 2, 26, 27, 28, 11, 29, 68, 69, 70, 71, 72, 73, 74, 75, 76, 77, 78, 79, 80, 81, 82, 83, 84, 85, 86, 87, 88, 89, 90, 91, 92, 93, 94] rfl (by decide +kernel)
set_option maxRecDepth 100000 in
theorem gX5_step_X5_shift : GoodIn wsX5_step (wsV RX5 142 RX5 yX5_shift wsX5_shift) := goodIn_app (goodIn_of _ (by decide +kernel)) ggX5_step_X5_shift
set_option maxRecDepth 100000 in
theorem ggX5_step_X5_stepOn : GoodIn wsX5_step wsX5_stepOn := goodIn_r _ [41, 5, 2, 1, 22, 23, 24, 11, 25, 26, 27, 28, 29, 30, 31, 32, 33, 42, 43, 44, 45, 4, 46, 47, 48, 49, 50, 51, 52, 53, 54, 55, 56, 57, 58, 59, 60, 61, 62, 63, 64, 65, 66, 67, 68, 69, 70, 71, 72, 73, 74, 75, 76, 77, 78, 79, 80, 81, 82, 83, 84, 85, 86, 87, 88, 89, 90, 91, 92, 93, 94] rfl (by decide +kernel)
set_option maxRecDepth 100000 in
theorem gX5_step_X5_stepOn : GoodIn wsX5_step (wsV RX5 145 RX5 yX5_stepOn wsX5_stepOn) := goodIn_app (goodIn_of _ (by decide +kernel)) ggX5_step_X5_stepOn
theorem dX5_step_0 : decode cX5_step 0 = .ok (.aload_n 0, 1) := by decide +kernel
theorem dX5_step_1 : decode cX5_step 1 = .ok (.getfield 7, 3) := by decide +kernel
theorem dX5_step_4 : decode cX5_step 4 = .ok (.aload_n 0, 1) := by decide +kernel
theorem dX5_step_5 : decode cX5_step 5 = .ok (.getfield 13, 3) := by decide +kernel
theorem dX5_step_8 : decode cX5_step 8 = .ok (.bipush 9, 2) := by decide +kernel
theorem dX5_step_10 : decode cX5_step 10 = .ok (.iaload, 1) := by decide +kernel
theorem dX5_step_11 : decode cX5_step 11 = .ok (.iaload, 1) := by decide +kernel
theorem dX5_step_12 : decode cX5_step 12 = .ok (.istore_n 1, 1) := by decide +kernel
theorem dX5_step_13 : decode cX5_step 13 = .ok (.aload_n 0, 1) := by decide +kernel
theorem dX5_step_14 : decode cX5_step 14 = .ok (.aload_n 0, 1) := by decide +kernel
theorem dX5_step_15 : decode cX5_step 15 = .ok (.getfield 13, 3) := by decide +kernel
theorem dX5_step_18 : decode cX5_step 18 = .ok (.bipush 9, 2) := by decide +kernel
theorem dX5_step_20 : decode cX5_step 20 = .ok (.iaload, 1) := by decide +kernel
theorem dX5_step_21 : decode cX5_step 21 = .ok (.invokevirtual 88, 3) := by decide +kernel
theorem dX5_step_24 : decode cX5_step 24 = .ok (.aload_n 0, 1) := by decide +kernel
theorem dX5_step_25 : decode cX5_step 25 = .ok (.getfield 7, 3) := by decide +kernel
theorem dX5_step_28 : decode cX5_step 28 = .ok (.aload_n 0, 1) := by decide +kernel
theorem dX5_step_29 : decode cX5_step 29 = .ok (.getfield 13, 3) := by decide +kernel
theorem dX5_step_32 : decode cX5_step 32 = .ok (.bipush 9, 2) := by decide +kernel
theorem dX5_step_34 : decode cX5_step 34 = .ok (.iaload, 1) := by decide +kernel
theorem dX5_step_35 : decode cX5_step 35 = .ok (.iconst 1, 1) := by decide +kernel
theorem dX5_step_36 : decode cX5_step 36 = .ok (.iadd, 1) := by decide +kernel
theorem dX5_step_37 : decode cX5_step 37 = .ok (.sipush 255, 3) := by decide +kernel
theorem dX5_step_40 : decode cX5_step 40 = .ok (.iand, 1) := by decide +kernel
theorem dX5_step_41 : decode cX5_step 41 = .ok (.iaload, 1) := by decide +kernel
theorem dX5_step_42 : decode cX5_step 42 = .ok (.istore_n 2, 1) := by decide +kernel
theorem dX5_step_43 : decode cX5_step 43 = .ok (.iload_n 1, 1) := by decide +kernel
theorem dX5_step_44 : decode cX5_step 44 = .ok (.iconst 2, 1) := by decide +kernel
theorem dX5_step_45 : decode cX5_step 45 = .ok (.ishr, 1) := by decide +kernel
theorem dX5_step_46 : decode cX5_step 46 = .ok (.iconst 3, 1) := by decide +kernel
theorem dX5_step_47 : decode cX5_step 47 = .ok (.iand, 1) := by decide +kernel
theorem dX5_step_48 : decode cX5_step 48 = .ok (.istore_n 3, 1) := by decide +kernel
theorem dX5_step_49 : decode cX5_step 49 = .ok (.iload_n 1, 1) := by decide +kernel
theorem dX5_step_50 : decode cX5_step 50 = .ok (.iconst 3, 1) := by decide +kernel
theorem dX5_step_51 : decode cX5_step 51 = .ok (.iand, 1) := by decide +kernel
theorem dX5_step_52 : decode cX5_step 52 = .ok (.istore 4, 2) := by decide +kernel
theorem dX5_step_54 : decode cX5_step 54 = .ok (.aload_n 0, 1) := by decide +kernel
theorem dX5_step_55 : decode cX5_step 55 = .ok (.getfield 13, 3) := by decide +kernel
theorem dX5_step_58 : decode cX5_step 58 = .ok (.bipush 9, 2) := by decide +kernel
theorem dX5_step_60 : decode cX5_step 60 = .ok (.iaload, 1) := by decide +kernel
theorem dX5_step_61 : decode cX5_step 61 = .ok (.aload_n 0, 1) := by decide +kernel
theorem dX5_step_62 : decode cX5_step 62 = .ok (.getfield 69, 3) := by decide +kernel
theorem dX5_step_65 : decode cX5_step 65 = .ok (.iadd, 1) := by decide +kernel
theorem dX5_step_66 : decode cX5_step 66 = .ok (.sipush 255, 3) := by decide +kernel
theorem dX5_step_69 : decode cX5_step 69 = .ok (.iand, 1) := by decide +kernel
theorem dX5_step_70 : decode cX5_step 70 = .ok (.istore 5, 2) := by decide +kernel
theorem dX5_step_72 : decode cX5_step 72 = .ok (.aload_n 0, 1) := by decide +kernel
theorem dX5_step_73 : decode cX5_step 73 = .ok (.getfield 13, 3) := by decide +kernel
theorem dX5_step_76 : decode cX5_step 76 = .ok (.bipush 9, 2) := by decide +kernel
theorem dX5_step_78 : decode cX5_step 78 = .ok (.iload 5, 2) := by decide +kernel
theorem dX5_step_80 : decode cX5_step 80 = .ok (.iastore, 1) := by decide +kernel
theorem dX5_step_81 : decode cX5_step 81 = .ok (.aload_n 0, 1) := by decide +kernel
theorem dX5_step_82 : decode cX5_step 82 = .ok (.getfield 50, 3) := by decide +kernel
theorem dX5_step_85 : decode cX5_step 85 = .ok (.iconst 0, 1) := by decide +kernel
theorem dX5_step_86 : decode cX5_step 86 = .ok (.dup2, 1) := by decide +kernel
theorem dX5_step_87 : decode cX5_step 87 = .ok (.iaload, 1) := by decide +kernel
theorem dX5_step_88 : decode cX5_step 88 = .ok (.iconst 1, 1) := by decide +kernel
theorem dX5_step_89 : decode cX5_step 89 = .ok (.iadd, 1) := by decide +kernel
theorem dX5_step_90 : decode cX5_step 90 = .ok (.iastore, 1) := by decide +kernel
theorem dX5_step_91 : decode cX5_step 91 = .ok (.aload_n 0, 1) := by decide +kernel
theorem dX5_step_92 : decode cX5_step 92 = .ok (.getfield 66, 3) := by decide +kernel
theorem dX5_step_95 : decode cX5_step 95 = .ok (.tableswitch 338 1 16 #[77, 93, 137, 144, 144, 167, 183, 183, 218, 244, 266, 266, 326, 326, 326, 326], 77) := by decide +kernel
theorem dX5_step_172 : decode cX5_step 172 = .ok (.aload_n 0, 1) := by decide +kernel
theorem dX5_step_173 : decode cX5_step 173 = .ok (.iconst 1, 1) := by decide +kernel
theorem dX5_step_174 : decode cX5_step 174 = .ok (.putfield 127, 3) := by decide +kernel
theorem dX5_step_177 : decode cX5_step 177 = .ok (.aload_n 0, 1) := by decide +kernel
theorem dX5_step_178 : decode cX5_step 178 = .ok (.getfield 50, 3) := by decide +kernel
theorem dX5_step_181 : decode cX5_step 181 = .ok (.bipush 11, 2) := by decide +kernel
theorem dX5_step_183 : decode cX5_step 183 = .ok (.iconst 1, 1) := by decide +kernel
theorem dX5_step_184 : decode cX5_step 184 = .ok (.iastore, 1) := by decide +kernel
theorem dX5_step_185 : decode cX5_step 185 = .ok (.goto 262, 3) := by decide +kernel
theorem dX5_step_188 : decode cX5_step 188 = .ok (.aload_n 0, 1) := by decide +kernel
theorem dX5_step_189 : decode cX5_step 189 = .ok (.getfield 50, 3) := by decide +kernel
theorem dX5_step_192 : decode cX5_step 192 = .ok (.bipush 10, 2) := by decide +kernel
theorem dX5_step_194 : decode cX5_step 194 = .ok (.iaload, 1) := by decide +kernel
theorem dX5_step_195 : decode cX5_step 195 = .ok (.bipush 100, 2) := by decide +kernel
theorem dX5_step_197 : decode cX5_step 197 = .ok (.if_icmp .ge 21, 3) := by decide +kernel
theorem dX5_step_200 : decode cX5_step 200 = .ok (.aload_n 0, 1) := by decide +kernel
theorem dX5_step_201 : decode cX5_step 201 = .ok (.getfield 26, 3) := by decide +kernel
theorem dX5_step_204 : decode cX5_step 204 = .ok (.aload_n 0, 1) := by decide +kernel
theorem dX5_step_205 : decode cX5_step 205 = .ok (.getfield 50, 3) := by decide +kernel
theorem dX5_step_208 : decode cX5_step 208 = .ok (.bipush 10, 2) := by decide +kernel
theorem dX5_step_210 : decode cX5_step 210 = .ok (.iaload, 1) := by decide +kernel
theorem dX5_step_211 : decode cX5_step 211 = .ok (.aload_n 0, 1) := by decide +kernel
theorem dX5_step_212 : decode cX5_step 212 = .ok (.getfield 13, 3) := by decide +kernel
theorem dX5_step_215 : decode cX5_step 215 = .ok (.iconst 0, 1) := by decide +kernel
theorem dX5_step_216 : decode cX5_step 216 = .ok (.iaload, 1) := by decide +kernel
theorem dX5_step_217 : decode cX5_step 217 = .ok (.iastore, 1) := by decide +kernel
theorem dX5_step_218 : decode cX5_step 218 = .ok (.aload_n 0, 1) := by decide +kernel
theorem dX5_step_219 : decode cX5_step 219 = .ok (.getfield 50, 3) := by decide +kernel
theorem dX5_step_222 : decode cX5_step 222 = .ok (.bipush 10, 2) := by decide +kernel
theorem dX5_step_224 : decode cX5_step 224 = .ok (.dup2, 1) := by decide +kernel
theorem dX5_step_225 : decode cX5_step 225 = .ok (.iaload, 1) := by decide +kernel
theorem dX5_step_226 : decode cX5_step 226 = .ok (.iconst 1, 1) := by decide +kernel
theorem dX5_step_227 : decode cX5_step 227 = .ok (.iadd, 1) := by decide +kernel
theorem dX5_step_228 : decode cX5_step 228 = .ok (.iastore, 1) := by decide +kernel
theorem dX5_step_229 : decode cX5_step 229 = .ok (.goto 218, 3) := by decide +kernel
theorem dX5_step_232 : decode cX5_step 232 = .ok (.aload_n 0, 1) := by decide +kernel
theorem dX5_step_233 : decode cX5_step 233 = .ok (.invokevirtual 131, 3) := by decide +kernel
theorem dX5_step_236 : decode cX5_step 236 = .ok (.goto 211, 3) := by decide +kernel
theorem dX5_step_239 : decode cX5_step 239 = .ok (.aload_n 0, 1) := by decide +kernel
theorem dX5_step_240 : decode cX5_step 240 = .ok (.getfield 13, 3) := by decide +kernel
theorem dX5_step_243 : decode cX5_step 243 = .ok (.bipush 8, 2) := by decide +kernel
theorem dX5_step_245 : decode cX5_step 245 = .ok (.aload_n 0, 1) := by decide +kernel
theorem dX5_step_246 : decode cX5_step 246 = .ok (.getfield 66, 3) := by decide +kernel
theorem dX5_step_249 : decode cX5_step 249 = .ok (.iconst 4, 1) := by decide +kernel
theorem dX5_step_250 : decode cX5_step 250 = .ok (.if_icmp .ne 7, 3) := by decide +kernel
theorem dX5_step_253 : decode cX5_step 253 = .ok (.iconst 1, 1) := by decide +kernel
theorem dX5_step_254 : decode cX5_step 254 = .ok (.goto 4, 3) := by decide +kernel
theorem dX5_step_257 : decode cX5_step 257 = .ok (.iconst 0, 1) := by decide +kernel
theorem dX5_step_258 : decode cX5_step 258 = .ok (.iastore, 1) := by decide +kernel
theorem dX5_step_259 : decode cX5_step 259 = .ok (.goto 188, 3) := by decide +kernel
theorem dX5_step_262 : decode cX5_step 262 = .ok (.aload_n 0, 1) := by decide +kernel
theorem dX5_step_263 : decode cX5_step 263 = .ok (.getfield 13, 3) := by decide +kernel
theorem dX5_step_266 : decode cX5_step 266 = .ok (.iload_n 3, 1) := by decide +kernel
theorem dX5_step_267 : decode cX5_step 267 = .ok (.aload_n 0, 1) := by decide +kernel
theorem dX5_step_268 : decode cX5_step 268 = .ok (.getfield 13, 3) := by decide +kernel
theorem dX5_step_271 : decode cX5_step 271 = .ok (.iload 4, 2) := by decide +kernel
theorem dX5_step_273 : decode cX5_step 273 = .ok (.iaload, 1) := by decide +kernel
theorem dX5_step_274 : decode cX5_step 274 = .ok (.iastore, 1) := by decide +kernel
theorem dX5_step_275 : decode cX5_step 275 = .ok (.goto 172, 3) := by decide +kernel
theorem dX5_step_278 : decode cX5_step 278 = .ok (.aload_n 0, 1) := by decide +kernel
theorem dX5_step_279 : decode cX5_step 279 = .ok (.iload_n 3, 1) := by decide +kernel
theorem dX5_step_280 : decode cX5_step 280 = .ok (.aload_n 0, 1) := by decide +kernel
theorem dX5_step_281 : decode cX5_step 281 = .ok (.getfield 13, 3) := by decide +kernel
theorem dX5_step_284 : decode cX5_step 284 = .ok (.iload 4, 2) := by decide +kernel
theorem dX5_step_286 : decode cX5_step 286 = .ok (.iaload, 1) := by decide +kernel
theorem dX5_step_287 : decode cX5_step 287 = .ok (.aload_n 0, 1) := by decide +kernel
theorem dX5_step_288 : decode cX5_step 288 = .ok (.getfield 66, 3) := by decide +kernel
theorem dX5_step_291 : decode cX5_step 291 = .ok (.bipush 8, 2) := by decide +kernel
theorem dX5_step_293 : decode cX5_step 293 = .ok (.if_icmp .ne 13, 3) := by decide +kernel
theorem dX5_step_296 : decode cX5_step 296 = .ok (.aload_n 0, 1) := by decide +kernel
theorem dX5_step_297 : decode cX5_step 297 = .ok (.getfield 13, 3) := by decide +kernel
theorem dX5_step_300 : decode cX5_step 300 = .ok (.bipush 6, 2) := by decide +kernel
theorem dX5_step_302 : decode cX5_step 302 = .ok (.iaload, 1) := by decide +kernel
theorem dX5_step_303 : decode cX5_step 303 = .ok (.goto 4, 3) := by decide +kernel
theorem dX5_step_306 : decode cX5_step 306 = .ok (.iconst 0, 1) := by decide +kernel
theorem dX5_step_307 : decode cX5_step 307 = .ok (.invokevirtual 134, 3) := by decide +kernel
theorem dX5_step_310 : decode cX5_step 310 = .ok (.goto 137, 3) := by decide +kernel
theorem dX5_step_313 : decode cX5_step 313 = .ok (.aload_n 0, 1) := by decide +kernel
theorem dX5_step_314 : decode cX5_step 314 = .ok (.getfield 13, 3) := by decide +kernel
theorem dX5_step_317 : decode cX5_step 317 = .ok (.iload_n 3, 1) := by decide +kernel
theorem dX5_step_318 : decode cX5_step 318 = .ok (.aload_n 0, 1) := by decide +kernel
theorem dX5_step_319 : decode cX5_step 319 = .ok (.aload_n 0, 1) := by decide +kernel
theorem dX5_step_320 : decode cX5_step 320 = .ok (.getfield 13, 3) := by decide +kernel
theorem dX5_step_323 : decode cX5_step 323 = .ok (.iload_n 3, 1) := by decide +kernel
theorem dX5_step_324 : decode cX5_step 324 = .ok (.iaload, 1) := by decide +kernel
theorem dX5_step_325 : decode cX5_step 325 = .ok (.aload_n 0, 1) := by decide +kernel
theorem dX5_step_326 : decode cX5_step 326 = .ok (.getfield 13, 3) := by decide +kernel
theorem dX5_step_329 : decode cX5_step 329 = .ok (.iload 4, 2) := by decide +kernel
theorem dX5_step_331 : decode cX5_step 331 = .ok (.iaload, 1) := by decide +kernel
theorem dX5_step_332 : decode cX5_step 332 = .ok (.invokevirtual 138, 3) := by decide +kernel
theorem dX5_step_335 : decode cX5_step 335 = .ok (.iastore, 1) := by decide +kernel
theorem dX5_step_336 : decode cX5_step 336 = .ok (.goto 111, 3) := by decide +kernel
theorem dX5_step_339 : decode cX5_step 339 = .ok (.aload_n 0, 1) := by decide +kernel
theorem dX5_step_340 : decode cX5_step 340 = .ok (.aload_n 0, 1) := by decide +kernel
theorem dX5_step_341 : decode cX5_step 341 = .ok (.getfield 13, 3) := by decide +kernel
theorem dX5_step_344 : decode cX5_step 344 = .ok (.iload_n 3, 1) := by decide +kernel
theorem dX5_step_345 : decode cX5_step 345 = .ok (.iaload, 1) := by decide +kernel
theorem dX5_step_346 : decode cX5_step 346 = .ok (.aload_n 0, 1) := by decide +kernel
theorem dX5_step_347 : decode cX5_step 347 = .ok (.getfield 13, 3) := by decide +kernel
theorem dX5_step_350 : decode cX5_step 350 = .ok (.iload 4, 2) := by decide +kernel
theorem dX5_step_352 : decode cX5_step 352 = .ok (.iaload, 1) := by decide +kernel
theorem dX5_step_353 : decode cX5_step 353 = .ok (.invokevirtual 138, 3) := by decide +kernel
theorem dX5_step_356 : decode cX5_step 356 = .ok (.istore 6, 2) := by decide +kernel
theorem dX5_step_358 : decode cX5_step 358 = .ok (.goto 89, 3) := by decide +kernel
theorem dX5_step_361 : decode cX5_step 361 = .ok (.aload_n 0, 1) := by decide +kernel
theorem dX5_step_362 : decode cX5_step 362 = .ok (.getfield 13, 3) := by decide +kernel
theorem dX5_step_365 : decode cX5_step 365 = .ok (.iload_n 3, 1) := by decide +kernel
theorem dX5_step_366 : decode cX5_step 366 = .ok (.aload_n 0, 1) := by decide +kernel
theorem dX5_step_367 : decode cX5_step 367 = .ok (.getfield 66, 3) := by decide +kernel
theorem dX5_step_370 : decode cX5_step 370 = .ok (.bipush 11, 2) := by decide +kernel
theorem dX5_step_372 : decode cX5_step 372 = .ok (.if_icmp .ne 20, 3) := by decide +kernel
theorem dX5_step_375 : decode cX5_step 375 = .ok (.aload_n 0, 1) := by decide +kernel
theorem dX5_step_376 : decode cX5_step 376 = .ok (.getfield 13, 3) := by decide +kernel
theorem dX5_step_379 : decode cX5_step 379 = .ok (.iload_n 3, 1) := by decide +kernel
theorem dX5_step_380 : decode cX5_step 380 = .ok (.iaload, 1) := by decide +kernel
theorem dX5_step_381 : decode cX5_step 381 = .ok (.aload_n 0, 1) := by decide +kernel
theorem dX5_step_382 : decode cX5_step 382 = .ok (.getfield 13, 3) := by decide +kernel
theorem dX5_step_385 : decode cX5_step 385 = .ok (.iload 4, 2) := by decide +kernel
theorem dX5_step_387 : decode cX5_step 387 = .ok (.iaload, 1) := by decide +kernel
theorem dX5_step_388 : decode cX5_step 388 = .ok (.iand, 1) := by decide +kernel
theorem dX5_step_389 : decode cX5_step 389 = .ok (.goto 17, 3) := by decide +kernel
theorem dX5_step_392 : decode cX5_step 392 = .ok (.aload_n 0, 1) := by decide +kernel
theorem dX5_step_393 : decode cX5_step 393 = .ok (.getfield 13, 3) := by decide +kernel
theorem dX5_step_396 : decode cX5_step 396 = .ok (.iload_n 3, 1) := by decide +kernel
theorem dX5_step_397 : decode cX5_step 397 = .ok (.iaload, 1) := by decide +kernel
theorem dX5_step_398 : decode cX5_step 398 = .ok (.aload_n 0, 1) := by decide +kernel
theorem dX5_step_399 : decode cX5_step 399 = .ok (.getfield 13, 3) := by decide +kernel
theorem dX5_step_402 : decode cX5_step 402 = .ok (.iload 4, 2) := by decide +kernel
theorem dX5_step_404 : decode cX5_step 404 = .ok (.iaload, 1) := by decide +kernel
theorem dX5_step_405 : decode cX5_step 405 = .ok (.ixor, 1) := by decide +kernel
theorem dX5_step_406 : decode cX5_step 406 = .ok (.iastore, 1) := by decide +kernel
theorem dX5_step_407 : decode cX5_step 407 = .ok (.aload_n 0, 1) := by decide +kernel
theorem dX5_step_408 : decode cX5_step 408 = .ok (.aload_n 0, 1) := by decide +kernel
theorem dX5_step_409 : decode cX5_step 409 = .ok (.getfield 13, 3) := by decide +kernel
theorem dX5_step_412 : decode cX5_step 412 = .ok (.iload_n 3, 1) := by decide +kernel
theorem dX5_step_413 : decode cX5_step 413 = .ok (.iaload, 1) := by decide +kernel
theorem dX5_step_414 : decode cX5_step 414 = .ok (.iconst 0, 1) := by decide +kernel
theorem dX5_step_415 : decode cX5_step 415 = .ok (.invokevirtual 124, 3) := by decide +kernel
theorem dX5_step_418 : decode cX5_step 418 = .ok (.goto 29, 3) := by decide +kernel
theorem dX5_step_421 : decode cX5_step 421 = .ok (.aload_n 0, 1) := by decide +kernel
theorem dX5_step_422 : decode cX5_step 422 = .ok (.iload_n 3, 1) := by decide +kernel
theorem dX5_step_423 : decode cX5_step 423 = .ok (.aload_n 0, 1) := by decide +kernel
theorem dX5_step_424 : decode cX5_step 424 = .ok (.getfield 66, 3) := by decide +kernel
theorem dX5_step_427 : decode cX5_step 427 = .ok (.invokevirtual 142, 3) := by decide +kernel
theorem dX5_step_430 : decode cX5_step 430 = .ok (.goto 17, 3) := by decide +kernel
theorem dX5_step_433 : decode cX5_step 433 = .ok (.aload_n 0, 1) := by decide +kernel
theorem dX5_step_434 : decode cX5_step 434 = .ok (.iload_n 2, 1) := by decide +kernel
theorem dX5_step_435 : decode cX5_step 435 = .ok (.iload_n 3, 1) := by decide +kernel
theorem dX5_step_436 : decode cX5_step 436 = .ok (.iload 4, 2) := by decide +kernel
theorem dX5_step_438 : decode cX5_step 438 = .ok (.iload_n 1, 1) := by decide +kernel
theorem dX5_step_439 : decode cX5_step 439 = .ok (.bipush 15, 2) := by decide +kernel
theorem dX5_step_441 : decode cX5_step 441 = .ok (.iand, 1) := by decide +kernel
theorem dX5_step_442 : decode cX5_step 442 = .ok (.iload 5, 2) := by decide +kernel
theorem dX5_step_444 : decode cX5_step 444 = .ok (.invokevirtual 145, 3) := by decide +kernel
theorem dX5_step_447 : decode cX5_step 447 = .ok (.return_, 1) := by decide +kernel
set_option maxRecDepth 100000 in
theorem ggX5_stepOn_X5_add : GoodIn wsX5_stepOn wsX5_add := goodIn_r _ [8, 2, 9, 10, 11, 7, 12, 44, 45, 46, 47, 48, 49, 50, 51, 52, 53, 54, 55, 56, 57, 58, 59, 60, 61, 62, 63, 64, 65, 66, 67, 68, 69, 70] rfl (by decide +kernel)
set_option maxRecDepth 100000 in
theorem gX5_stepOn_X5_add : GoodIn wsX5_stepOn (wsV RX5 134 RX5 yX5_add wsX5_add) := goodIn_app (goodIn_of _ (by decide +kernel)) ggX5_stepOn_X5_add
set_option maxRecDepth 100000 in
theorem ggX5_stepOn_X5_less : GoodIn wsX5_stepOn wsX5_less := goodIn_r _ [16, 9, 10, 11, 7, 12, 2, 44, 45, 46, 47, 48, 49, 50, 51, 52, 53, 54, 55, 56, 57, 58, 59, 60, 61, 62, 63, 64, 65, 66, 67, 68, 69, 70] rfl (by decide +kernel)
set_option maxRecDepth 100000 in
theorem gX5_stepOn_X5_less : GoodIn wsX5_stepOn (wsV RX5 138 RX5 yX5_less wsX5_less) := goodIn_app (goodIn_of _ (by decide +kernel)) ggX5_stepOn_X5_less
set_option maxRecDepth 100000 in
theorem ggX5_stepOn_X5_setFlags : GoodIn wsX5_stepOn wsX5_setFlags := goodIn_r _ [12, 2, 44, 45, 46, 47, 48, 49, 50, 51, 52, 53, 54, 55, 56, 57, 58, 59, 60, 61, 62, 63, 64, 65, 66, 67, 68, 69, 70] rfl (by decide +kernel)
set_option maxRecDepth 100000 in
theorem gX5_stepOn_X5_setFlags : GoodIn wsX5_stepOn (wsV RX5 124 RX5 yX5_setFlags wsX5_setFlags) := goodIn_app (goodIn_of _ (by decide +kernel)) ggX5_stepOn_X5_setFlags
set_option maxRecDepth 100000 in
theorem ggX5_stepOn_X5_write : GoodIn wsX5_stepOn wsX5_write := goodIn_r _ [20, 3, 21, 22, 23, 24, 7, 25, 26, 27, 28, 29, 30, 31, 44, 45, 46, 47, 48, 49, 50, 51, 52, 53, 54, 55, 56, 57, 58, 59, 60, 61, 62, 63, 64, 65, 66, 67, 68, 69, 70] rfl (by decide +kernel)
set_option maxRecDepth 100000 in
theorem gX5_stepOn_X5_write : GoodIn wsX5_stepOn (wsV RX5 120 RX5 yX5_write wsX5_write) := goodIn_app (goodIn_of _ (by decide +kernel)) ggX5_stepOn_X5_write
set_option maxRecDepth 100000 in
theorem ggX5_stepOn_X5_goes : GoodIn wsX5_stepOn wsX5_goes := goodIn_r _ [35, 2, 44, 45, 46, 47, 48, 49, 50, 51, 52, 53, 54, 55, 56, 57, 58, 59, 60, 61, 62, 63, 64, 65, 66, 67, 68, 69, 70] rfl (by decide +kernel)
set_option maxRecDepth 100000 in
theorem gX5_stepOn_X5_goes : GoodIn wsX5_stepOn (wsV RX5 149 RX5 yX5_goes wsX5_goes) := goodIn_app (goodIn_of _ (by decide +kernel)) ggX5_stepOn_X5_goes
set_option maxRecDepth 100000 in
theorem ggX5_stepOn_X5_push : GoodIn wsX5_stepOn wsX5_push := goodIn_r _ [39, 2, 17, 18, 19, 7, 20, 3, 21, 22, 23, 24, 25, 26, 27, 28, 29, 30, 31, 44, 45, 46, 47, 48, 49, 50, 51, 52, 53, 54, 55, 56, 57, 58, 59, 60, 61, 62, 63, 64, 65, 66, 67, 68, 69, 70] rfl (by decide +kernel)
set_option maxRecDepth 100000 in
theorem gX5_stepOn_X5_push : GoodIn wsX5_stepOn (wsV RX5 152 RX5 yX5_push wsX5_push) := goodIn_app (goodIn_of _ (by decide +kernel)) ggX5_stepOn_X5_push
end
section
set_option maxRecDepth 100000 in
theorem ggX5_stepOn_X5_pop : GoodIn wsX5_stepOn wsX5_pop := goodIn_r _ [43, 3, 2, 44, 45, 46, 47, 48, 49, 50, 51, 52, 53, 54, 55, 56, 57, 58, 59, 60, 61, 62, 63, 64, 65, 66, 67, 68, 69, 70] rfl (by decide +kernel)
set_option maxRecDepth 100000 in
theorem gX5_stepOn_X5_pop : GoodIn wsX5_stepOn (wsV RX5 155 RX5 yX5_pop wsX5_pop) := goodIn_app (goodIn_of _ (by decide +kernel)) ggX5_stepOn_X5_pop
theorem dX5_stepOn_0 : decode cX5_stepOn 0 = .ok (.aload_n 0, 1) := by decide +kernel
theorem dX5_stepOn_1 : decode cX5_stepOn 1 = .ok (.getfield 66, 3) := by decide +kernel
theorem dX5_stepOn_4 : decode cX5_stepOn 4 = .ok (.tableswitch 257 17 27 #[60, 70, 80, 96, 124, 150, 175, 200, 217, 231, 244], 60) := by decide +kernel
theorem dX5_stepOn_64 : decode cX5_stepOn 64 = .ok (.aload_n 0, 1) := by decide +kernel
theorem dX5_stepOn_65 : decode cX5_stepOn 65 = .ok (.getfield 13, 3) := by decide +kernel
theorem dX5_stepOn_68 : decode cX5_stepOn 68 = .ok (.iload_n 2, 1) := by decide +kernel
theorem dX5_stepOn_69 : decode cX5_stepOn 69 = .ok (.iload_n 1, 1) := by decide +kernel
theorem dX5_stepOn_70 : decode cX5_stepOn 70 = .ok (.iastore, 1) := by decide +kernel
theorem dX5_stepOn_71 : decode cX5_stepOn 71 = .ok (.goto 230, 3) := by decide +kernel
theorem dX5_stepOn_74 : decode cX5_stepOn 74 = .ok (.aload_n 0, 1) := by decide +kernel
theorem dX5_stepOn_75 : decode cX5_stepOn 75 = .ok (.iload_n 2, 1) := by decide +kernel
theorem dX5_stepOn_76 : decode cX5_stepOn 76 = .ok (.iload_n 1, 1) := by decide +kernel
theorem dX5_stepOn_77 : decode cX5_stepOn 77 = .ok (.iconst 0, 1) := by decide +kernel
theorem dX5_stepOn_78 : decode cX5_stepOn 78 = .ok (.invokevirtual 134, 3) := by decide +kernel
theorem dX5_stepOn_81 : decode cX5_stepOn 81 = .ok (.goto 220, 3) := by decide +kernel
theorem dX5_stepOn_84 : decode cX5_stepOn 84 = .ok (.aload_n 0, 1) := by decide +kernel
theorem dX5_stepOn_85 : decode cX5_stepOn 85 = .ok (.aload_n 0, 1) := by decide +kernel
theorem dX5_stepOn_86 : decode cX5_stepOn 86 = .ok (.getfield 13, 3) := by decide +kernel
theorem dX5_stepOn_89 : decode cX5_stepOn 89 = .ok (.iload_n 2, 1) := by decide +kernel
theorem dX5_stepOn_90 : decode cX5_stepOn 90 = .ok (.iaload, 1) := by decide +kernel
theorem dX5_stepOn_91 : decode cX5_stepOn 91 = .ok (.iload_n 1, 1) := by decide +kernel
theorem dX5_stepOn_92 : decode cX5_stepOn 92 = .ok (.invokevirtual 138, 3) := by decide +kernel
theorem dX5_stepOn_95 : decode cX5_stepOn 95 = .ok (.istore 6, 2) := by decide +kernel
theorem dX5_stepOn_97 : decode cX5_stepOn 97 = .ok (.goto 204, 3) := by decide +kernel
theorem dX5_stepOn_100 : decode cX5_stepOn 100 = .ok (.aload_n 0, 1) := by decide +kernel
theorem dX5_stepOn_101 : decode cX5_stepOn 101 = .ok (.getfield 13, 3) := by decide +kernel
theorem dX5_stepOn_104 : decode cX5_stepOn 104 = .ok (.iload_n 2, 1) := by decide +kernel
theorem dX5_stepOn_105 : decode cX5_stepOn 105 = .ok (.aload_n 0, 1) := by decide +kernel
theorem dX5_stepOn_106 : decode cX5_stepOn 106 = .ok (.getfield 13, 3) := by decide +kernel
theorem dX5_stepOn_109 : decode cX5_stepOn 109 = .ok (.iload_n 2, 1) := by decide +kernel
theorem dX5_stepOn_110 : decode cX5_stepOn 110 = .ok (.iaload, 1) := by decide +kernel
theorem dX5_stepOn_111 : decode cX5_stepOn 111 = .ok (.iload_n 1, 1) := by decide +kernel
theorem dX5_stepOn_112 : decode cX5_stepOn 112 = .ok (.ixor, 1) := by decide +kernel
theorem dX5_stepOn_113 : decode cX5_stepOn 113 = .ok (.iastore, 1) := by decide +kernel
theorem dX5_stepOn_114 : decode cX5_stepOn 114 = .ok (.aload_n 0, 1) := by decide +kernel
theorem dX5_stepOn_115 : decode cX5_stepOn 115 = .ok (.aload_n 0, 1) := by decide +kernel
theorem dX5_stepOn_116 : decode cX5_stepOn 116 = .ok (.getfield 13, 3) := by decide +kernel
theorem dX5_stepOn_119 : decode cX5_stepOn 119 = .ok (.iload_n 2, 1) := by decide +kernel
theorem dX5_stepOn_120 : decode cX5_stepOn 120 = .ok (.iaload, 1) := by decide +kernel
theorem dX5_stepOn_121 : decode cX5_stepOn 121 = .ok (.iconst 0, 1) := by decide +kernel
theorem dX5_stepOn_122 : decode cX5_stepOn 122 = .ok (.invokevirtual 124, 3) := by decide +kernel
theorem dX5_stepOn_125 : decode cX5_stepOn 125 = .ok (.goto 176, 3) := by decide +kernel
theorem dX5_stepOn_128 : decode cX5_stepOn 128 = .ok (.aload_n 0, 1) := by decide +kernel
theorem dX5_stepOn_129 : decode cX5_stepOn 129 = .ok (.getfield 13, 3) := by decide +kernel
theorem dX5_stepOn_132 : decode cX5_stepOn 132 = .ok (.iload_n 2, 1) := by decide +kernel
theorem dX5_stepOn_133 : decode cX5_stepOn 133 = .ok (.aload_n 0, 1) := by decide +kernel
theorem dX5_stepOn_134 : decode cX5_stepOn 134 = .ok (.getfield 7, 3) := by decide +kernel
theorem dX5_stepOn_137 : decode cX5_stepOn 137 = .ok (.aload_n 0, 1) := by decide +kernel
theorem dX5_stepOn_138 : decode cX5_stepOn 138 = .ok (.getfield 13, 3) := by decide +kernel
theorem dX5_stepOn_141 : decode cX5_stepOn 141 = .ok (.iload_n 3, 1) := by decide +kernel
theorem dX5_stepOn_142 : decode cX5_stepOn 142 = .ok (.iaload, 1) := by decide +kernel
theorem dX5_stepOn_143 : decode cX5_stepOn 143 = .ok (.iload_n 1, 1) := by decide +kernel
theorem dX5_stepOn_144 : decode cX5_stepOn 144 = .ok (.iadd, 1) := by decide +kernel
theorem dX5_stepOn_145 : decode cX5_stepOn 145 = .ok (.sipush 255, 3) := by decide +kernel
theorem dX5_stepOn_148 : decode cX5_stepOn 148 = .ok (.iand, 1) := by decide +kernel
theorem dX5_stepOn_149 : decode cX5_stepOn 149 = .ok (.iaload, 1) := by decide +kernel
theorem dX5_stepOn_150 : decode cX5_stepOn 150 = .ok (.iastore, 1) := by decide +kernel
theorem dX5_stepOn_151 : decode cX5_stepOn 151 = .ok (.goto 150, 3) := by decide +kernel
theorem dX5_stepOn_154 : decode cX5_stepOn 154 = .ok (.aload_n 0, 1) := by decide +kernel
theorem dX5_stepOn_155 : decode cX5_stepOn 155 = .ok (.aload_n 0, 1) := by decide +kernel
theorem dX5_stepOn_156 : decode cX5_stepOn 156 = .ok (.getfield 13, 3) := by decide +kernel
theorem dX5_stepOn_159 : decode cX5_stepOn 159 = .ok (.iload_n 3, 1) := by decide +kernel
theorem dX5_stepOn_160 : decode cX5_stepOn 160 = .ok (.iaload, 1) := by decide +kernel
theorem dX5_stepOn_161 : decode cX5_stepOn 161 = .ok (.iload_n 1, 1) := by decide +kernel
theorem dX5_stepOn_162 : decode cX5_stepOn 162 = .ok (.iadd, 1) := by decide +kernel
theorem dX5_stepOn_163 : decode cX5_stepOn 163 = .ok (.sipush 255, 3) := by decide +kernel
theorem dX5_stepOn_166 : decode cX5_stepOn 166 = .ok (.iand, 1) := by decide +kernel
theorem dX5_stepOn_167 : decode cX5_stepOn 167 = .ok (.aload_n 0, 1) := by decide +kernel
theorem dX5_stepOn_168 : decode cX5_stepOn 168 = .ok (.getfield 13, 3) := by decide +kernel
theorem dX5_stepOn_171 : decode cX5_stepOn 171 = .ok (.iload_n 2, 1) := by decide +kernel
theorem dX5_stepOn_172 : decode cX5_stepOn 172 = .ok (.iaload, 1) := by decide +kernel
theorem dX5_stepOn_173 : decode cX5_stepOn 173 = .ok (.invokevirtual 120, 3) := by decide +kernel
theorem dX5_stepOn_176 : decode cX5_stepOn 176 = .ok (.goto 125, 3) := by decide +kernel
theorem dX5_stepOn_179 : decode cX5_stepOn 179 = .ok (.aload_n 0, 1) := by decide +kernel
theorem dX5_stepOn_180 : decode cX5_stepOn 180 = .ok (.getfield 13, 3) := by decide +kernel
theorem dX5_stepOn_183 : decode cX5_stepOn 183 = .ok (.bipush 9, 2) := by decide +kernel
theorem dX5_stepOn_185 : decode cX5_stepOn 185 = .ok (.aload_n 0, 1) := by decide +kernel
theorem dX5_stepOn_186 : decode cX5_stepOn 186 = .ok (.iload 4, 2) := by decide +kernel
theorem dX5_stepOn_188 : decode cX5_stepOn 188 = .ok (.invokevirtual 149, 3) := by decide +kernel
theorem dX5_stepOn_191 : decode cX5_stepOn 191 = .ok (.ifCond .eq 7, 3) := by decide +kernel
theorem dX5_stepOn_194 : decode cX5_stepOn 194 = .ok (.iload_n 1, 1) := by decide +kernel
theorem dX5_stepOn_195 : decode cX5_stepOn 195 = .ok (.goto 5, 3) := by decide +kernel
theorem dX5_stepOn_198 : decode cX5_stepOn 198 = .ok (.iload 5, 2) := by decide +kernel
theorem dX5_stepOn_200 : decode cX5_stepOn 200 = .ok (.iastore, 1) := by decide +kernel
theorem dX5_stepOn_201 : decode cX5_stepOn 201 = .ok (.goto 100, 3) := by decide +kernel
theorem dX5_stepOn_204 : decode cX5_stepOn 204 = .ok (.aload_n 0, 1) := by decide +kernel
theorem dX5_stepOn_205 : decode cX5_stepOn 205 = .ok (.iload 5, 2) := by decide +kernel
theorem dX5_stepOn_207 : decode cX5_stepOn 207 = .ok (.invokevirtual 152, 3) := by decide +kernel
theorem dX5_stepOn_210 : decode cX5_stepOn 210 = .ok (.aload_n 0, 1) := by decide +kernel
theorem dX5_stepOn_211 : decode cX5_stepOn 211 = .ok (.getfield 13, 3) := by decide +kernel
theorem dX5_stepOn_214 : decode cX5_stepOn 214 = .ok (.bipush 9, 2) := by decide +kernel
theorem dX5_stepOn_216 : decode cX5_stepOn 216 = .ok (.iload_n 1, 1) := by decide +kernel
theorem dX5_stepOn_217 : decode cX5_stepOn 217 = .ok (.iastore, 1) := by decide +kernel
theorem dX5_stepOn_218 : decode cX5_stepOn 218 = .ok (.goto 83, 3) := by decide +kernel
theorem dX5_stepOn_221 : decode cX5_stepOn 221 = .ok (.aload_n 0, 1) := by decide +kernel
theorem dX5_stepOn_222 : decode cX5_stepOn 222 = .ok (.getfield 13, 3) := by decide +kernel
theorem dX5_stepOn_225 : decode cX5_stepOn 225 = .ok (.bipush 9, 2) := by decide +kernel
theorem dX5_stepOn_227 : decode cX5_stepOn 227 = .ok (.aload_n 0, 1) := by decide +kernel
theorem dX5_stepOn_228 : decode cX5_stepOn 228 = .ok (.invokevirtual 155, 3) := by decide +kernel
theorem dX5_stepOn_231 : decode cX5_stepOn 231 = .ok (.iastore, 1) := by decide +kernel
theorem dX5_stepOn_232 : decode cX5_stepOn 232 = .ok (.goto 69, 3) := by decide +kernel
theorem dX5_stepOn_235 : decode cX5_stepOn 235 = .ok (.aload_n 0, 1) := by decide +kernel
theorem dX5_stepOn_236 : decode cX5_stepOn 236 = .ok (.aload_n 0, 1) := by decide +kernel
theorem dX5_stepOn_237 : decode cX5_stepOn 237 = .ok (.getfield 13, 3) := by decide +kernel
theorem dX5_stepOn_240 : decode cX5_stepOn 240 = .ok (.iload_n 2, 1) := by decide +kernel
theorem dX5_stepOn_241 : decode cX5_stepOn 241 = .ok (.iaload, 1) := by decide +kernel
theorem dX5_stepOn_242 : decode cX5_stepOn 242 = .ok (.invokevirtual 152, 3) := by decide +kernel
theorem dX5_stepOn_245 : decode cX5_stepOn 245 = .ok (.goto 56, 3) := by decide +kernel
theorem dX5_stepOn_248 : decode cX5_stepOn 248 = .ok (.aload_n 0, 1) := by decide +kernel
theorem dX5_stepOn_249 : decode cX5_stepOn 249 = .ok (.getfield 13, 3) := by decide +kernel
theorem dX5_stepOn_252 : decode cX5_stepOn 252 = .ok (.iload_n 2, 1) := by decide +kernel
theorem dX5_stepOn_253 : decode cX5_stepOn 253 = .ok (.aload_n 0, 1) := by decide +kernel
theorem dX5_stepOn_254 : decode cX5_stepOn 254 = .ok (.invokevirtual 155, 3) := by decide +kernel
theorem dX5_stepOn_257 : decode cX5_stepOn 257 = .ok (.iastore, 1) := by decide +kernel
theorem dX5_stepOn_258 : decode cX5_stepOn 258 = .ok (.goto 43, 3) := by decide +kernel
theorem dX5_stepOn_261 : decode cX5_stepOn 261 = .ok (.aload_n 0, 1) := by decide +kernel
theorem dX5_stepOn_262 : decode cX5_stepOn 262 = .ok (.getfield 13, 3) := by decide +kernel
theorem dX5_stepOn_265 : decode cX5_stepOn 265 = .ok (.iload_n 2, 1) := by decide +kernel
theorem dX5_stepOn_266 : decode cX5_stepOn 266 = .ok (.aload_n 0, 1) := by decide +kernel
theorem dX5_stepOn_267 : decode cX5_stepOn 267 = .ok (.getfield 13, 3) := by decide +kernel
theorem dX5_stepOn_270 : decode cX5_stepOn 270 = .ok (.iload_n 2, 1) := by decide +kernel
theorem dX5_stepOn_271 : decode cX5_stepOn 271 = .ok (.iaload, 1) := by decide +kernel
theorem dX5_stepOn_272 : decode cX5_stepOn 272 = .ok (.iconst 1, 1) := by decide +kernel
theorem dX5_stepOn_273 : decode cX5_stepOn 273 = .ok (.isub, 1) := by decide +kernel
theorem dX5_stepOn_274 : decode cX5_stepOn 274 = .ok (.sipush 255, 3) := by decide +kernel
theorem dX5_stepOn_277 : decode cX5_stepOn 277 = .ok (.iand, 1) := by decide +kernel
theorem dX5_stepOn_278 : decode cX5_stepOn 278 = .ok (.iastore, 1) := by decide +kernel
theorem dX5_stepOn_279 : decode cX5_stepOn 279 = .ok (.aload_n 0, 1) := by decide +kernel
theorem dX5_stepOn_280 : decode cX5_stepOn 280 = .ok (.getfield 13, 3) := by decide +kernel
theorem dX5_stepOn_283 : decode cX5_stepOn 283 = .ok (.bipush 9, 2) := by decide +kernel
theorem dX5_stepOn_285 : decode cX5_stepOn 285 = .ok (.aload_n 0, 1) := by decide +kernel
theorem dX5_stepOn_286 : decode cX5_stepOn 286 = .ok (.getfield 13, 3) := by decide +kernel
theorem dX5_stepOn_289 : decode cX5_stepOn 289 = .ok (.iload_n 2, 1) := by decide +kernel
theorem dX5_stepOn_290 : decode cX5_stepOn 290 = .ok (.iaload, 1) := by decide +kernel
theorem dX5_stepOn_291 : decode cX5_stepOn 291 = .ok (.ifCond .eq 7, 3) := by decide +kernel
theorem dX5_stepOn_294 : decode cX5_stepOn 294 = .ok (.iload_n 1, 1) := by decide +kernel
theorem dX5_stepOn_295 : decode cX5_stepOn 295 = .ok (.goto 5, 3) := by decide +kernel
theorem dX5_stepOn_298 : decode cX5_stepOn 298 = .ok (.iload 5, 2) := by decide +kernel
theorem dX5_stepOn_300 : decode cX5_stepOn 300 = .ok (.iastore, 1) := by decide +kernel
theorem dX5_stepOn_301 : decode cX5_stepOn 301 = .ok (.return_, 1) := by decide +kernel
theorem dX5_receive_0 : decode cX5_receive 0 = .ok (.aload_n 0, 1) := by decide +kernel
theorem dX5_receive_1 : decode cX5_receive 1 = .ok (.getfield 13, 3) := by decide +kernel
theorem dX5_receive_4 : decode cX5_receive 4 = .ok (.iconst 0, 1) := by decide +kernel
theorem dX5_receive_5 : decode cX5_receive 5 = .ok (.iconst 0, 1) := by decide +kernel
theorem dX5_receive_6 : decode cX5_receive 6 = .ok (.iastore, 1) := by decide +kernel
theorem dX5_receive_7 : decode cX5_receive 7 = .ok (.aload_n 0, 1) := by decide +kernel
theorem dX5_receive_8 : decode cX5_receive 8 = .ok (.getfield 159, 3) := by decide +kernel
theorem dX5_receive_11 : decode cX5_receive 11 = .ok (.ifCond .le 55, 3) := by decide +kernel
theorem dX5_receive_14 : decode cX5_receive 14 = .ok (.aload_n 0, 1) := by decide +kernel
theorem dX5_receive_15 : decode cX5_receive 15 = .ok (.getfield 13, 3) := by decide +kernel
theorem dX5_receive_18 : decode cX5_receive 18 = .ok (.iconst 0, 1) := by decide +kernel
theorem dX5_receive_19 : decode cX5_receive 19 = .ok (.aload_n 0, 1) := by decide +kernel
theorem dX5_receive_20 : decode cX5_receive 20 = .ok (.getfield 16, 3) := by decide +kernel
theorem dX5_receive_23 : decode cX5_receive 23 = .ok (.iconst 0, 1) := by decide +kernel
theorem dX5_receive_24 : decode cX5_receive 24 = .ok (.iaload, 1) := by decide +kernel
theorem dX5_receive_25 : decode cX5_receive 25 = .ok (.iastore, 1) := by decide +kernel
theorem dX5_receive_26 : decode cX5_receive 26 = .ok (.aload_n 0, 1) := by decide +kernel
theorem dX5_receive_27 : decode cX5_receive 27 = .ok (.dup, 1) := by decide +kernel
theorem dX5_receive_28 : decode cX5_receive 28 = .ok (.getfield 159, 3) := by decide +kernel
theorem dX5_receive_31 : decode cX5_receive 31 = .ok (.iconst 1, 1) := by decide +kernel
theorem dX5_receive_32 : decode cX5_receive 32 = .ok (.isub, 1) := by decide +kernel
theorem dX5_receive_33 : decode cX5_receive 33 = .ok (.putfield 159, 3) := by decide +kernel
theorem dX5_receive_36 : decode cX5_receive 36 = .ok (.iconst 0, 1) := by decide +kernel
theorem dX5_receive_37 : decode cX5_receive 37 = .ok (.istore_n 1, 1) := by decide +kernel
theorem dX5_receive_38 : decode cX5_receive 38 = .ok (.iload_n 1, 1) := by decide +kernel
theorem dX5_receive_39 : decode cX5_receive 39 = .ok (.aload_n 0, 1) := by decide +kernel
theorem dX5_receive_40 : decode cX5_receive 40 = .ok (.getfield 159, 3) := by decide +kernel
theorem dX5_receive_43 : decode cX5_receive 43 = .ok (.if_icmp .ge 23, 3) := by decide +kernel
theorem dX5_receive_46 : decode cX5_receive 46 = .ok (.aload_n 0, 1) := by decide +kernel
theorem dX5_receive_47 : decode cX5_receive 47 = .ok (.getfield 16, 3) := by decide +kernel
theorem dX5_receive_50 : decode cX5_receive 50 = .ok (.iload_n 1, 1) := by decide +kernel
theorem dX5_receive_51 : decode cX5_receive 51 = .ok (.aload_n 0, 1) := by decide +kernel
theorem dX5_receive_52 : decode cX5_receive 52 = .ok (.getfield 16, 3) := by decide +kernel
theorem dX5_receive_55 : decode cX5_receive 55 = .ok (.iload_n 1, 1) := by decide +kernel
theorem dX5_receive_56 : decode cX5_receive 56 = .ok (.iconst 1, 1) := by decide +kernel
theorem dX5_receive_57 : decode cX5_receive 57 = .ok (.iadd, 1) := by decide +kernel
theorem dX5_receive_58 : decode cX5_receive 58 = .ok (.iaload, 1) := by decide +kernel
theorem dX5_receive_59 : decode cX5_receive 59 = .ok (.iastore, 1) := by decide +kernel
theorem dX5_receive_60 : decode cX5_receive 60 = .ok (.iinc 1 1, 3) := by decide +kernel
theorem dX5_receive_63 : decode cX5_receive 63 = .ok (.goto (-25), 3) := by decide +kernel
theorem dX5_receive_66 : decode cX5_receive 66 = .ok (.return_, 1) := by decide +kernel
set_option maxRecDepth 100000 in
theorem ggX5_interrupt_X5_push : GoodIn wsX5_interrupt wsX5_push := goodIn_r _ [10, 1, 11, 12, 13, 9, 14, 15, 4, 16, 17, 18, 19, 20, 21, 22, 23, 24, 25, 26, 27, 28, 29, 30, 31, 32, 33, 34, 35, 36, 37, 38, 39, 40, 41, 42, 43, 44, 45, 46, 47, 48, 49, 50, 51, 52] rfl (by decide +kernel)
set_option maxRecDepth 100000 in
theorem gX5_interrupt_X5_push : GoodIn wsX5_interrupt (wsV RX5 152 RX5 yX5_push wsX5_push) := goodIn_app (goodIn_of _ (by decide +kernel)) ggX5_interrupt_X5_push
theorem dX5_interrupt_0 : decode cX5_interrupt 0 = .ok (.aload_n 0, 1) := by decide +kernel
theorem dX5_interrupt_1 : decode cX5_interrupt 1 = .ok (.getfield 13, 3) := by decide +kernel
theorem dX5_interrupt_4 : decode cX5_interrupt 4 = .ok (.bipush 8, 2) := by decide +kernel
theorem dX5_interrupt_6 : decode cX5_interrupt 6 = .ok (.iconst 0, 1) := by decide +kernel
theorem dX5_interrupt_7 : decode cX5_interrupt 7 = .ok (.iastore, 1) := by decide +kernel
theorem dX5_interrupt_8 : decode cX5_interrupt 8 = .ok (.aload_n 0, 1) := by decide +kernel
theorem dX5_interrupt_9 : decode cX5_interrupt 9 = .ok (.dup, 1) := by decide +kernel
theorem dX5_interrupt_10 : decode cX5_interrupt 10 = .ok (.getfield 162, 3) := by decide +kernel
theorem dX5_interrupt_13 : decode cX5_interrupt 13 = .ok (.iconst 1, 1) := by decide +kernel
theorem dX5_interrupt_14 : decode cX5_interrupt 14 = .ok (.isub, 1) := by decide +kernel
theorem dX5_interrupt_15 : decode cX5_interrupt 15 = .ok (.putfield 162, 3) := by decide +kernel
theorem dX5_interrupt_18 : decode cX5_interrupt 18 = .ok (.iconst 0, 1) := by decide +kernel
theorem dX5_interrupt_19 : decode cX5_interrupt 19 = .ok (.istore_n 1, 1) := by decide +kernel
theorem dX5_interrupt_20 : decode cX5_interrupt 20 = .ok (.iload_n 1, 1) := by decide +kernel
theorem dX5_interrupt_21 : decode cX5_interrupt 21 = .ok (.aload_n 0, 1) := by decide +kernel
theorem dX5_interrupt_22 : decode cX5_interrupt 22 = .ok (.getfield 162, 3) := by decide +kernel
theorem dX5_interrupt_25 : decode cX5_interrupt 25 = .ok (.if_icmp .ge 23, 3) := by decide +kernel
theorem dX5_interrupt_28 : decode cX5_interrupt 28 = .ok (.aload_n 0, 1) := by decide +kernel
theorem dX5_interrupt_29 : decode cX5_interrupt 29 = .ok (.getfield 19, 3) := by decide +kernel
theorem dX5_interrupt_32 : decode cX5_interrupt 32 = .ok (.iload_n 1, 1) := by decide +kernel
theorem dX5_interrupt_33 : decode cX5_interrupt 33 = .ok (.aload_n 0, 1) := by decide +kernel
theorem dX5_interrupt_34 : decode cX5_interrupt 34 = .ok (.getfield 19, 3) := by decide +kernel
theorem dX5_interrupt_37 : decode cX5_interrupt 37 = .ok (.iload_n 1, 1) := by decide +kernel
theorem dX5_interrupt_38 : decode cX5_interrupt 38 = .ok (.iconst 1, 1) := by decide +kernel
theorem dX5_interrupt_39 : decode cX5_interrupt 39 = .ok (.iadd, 1) := by decide +kernel
theorem dX5_interrupt_40 : decode cX5_interrupt 40 = .ok (.iaload, 1) := by decide +kernel
theorem dX5_interrupt_41 : decode cX5_interrupt 41 = .ok (.iastore, 1) := by decide +kernel
theorem dX5_interrupt_42 : decode cX5_interrupt 42 = .ok (.iinc 1 1, 3) := by decide +kernel
theorem dX5_interrupt_45 : decode cX5_interrupt 45 = .ok (.goto (-25), 3) := by decide +kernel
theorem dX5_interrupt_48 : decode cX5_interrupt 48 = .ok (.aload_n 0, 1) := by decide +kernel
theorem dX5_interrupt_49 : decode cX5_interrupt 49 = .ok (.aload_n 0, 1) := by decide +kernel
theorem dX5_interrupt_50 : decode cX5_interrupt 50 = .ok (.getfield 13, 3) := by decide +kernel
theorem dX5_interrupt_53 : decode cX5_interrupt 53 = .ok (.bipush 9, 2) := by decide +kernel
theorem dX5_interrupt_55 : decode cX5_interrupt 55 = .ok (.iaload, 1) := by decide +kernel
theorem dX5_interrupt_56 : decode cX5_interrupt 56 = .ok (.invokevirtual 152, 3) := by decide +kernel
theorem dX5_interrupt_59 : decode cX5_interrupt 59 = .ok (.aload_n 0, 1) := by decide +kernel
theorem dX5_interrupt_60 : decode cX5_interrupt 60 = .ok (.getfield 13, 3) := by decide +kernel
theorem dX5_interrupt_63 : decode cX5_interrupt 63 = .ok (.bipush 9, 2) := by decide +kernel
theorem dX5_interrupt_65 : decode cX5_interrupt 65 = .ok (.sipush 240, 3) := by decide +kernel
theorem dX5_interrupt_68 : decode cX5_interrupt 68 = .ok (.iastore, 1) := by decide +kernel
theorem dX5_interrupt_69 : decode cX5_interrupt 69 = .ok (.aload_n 0, 1) := by decide +kernel
theorem dX5_interrupt_70 : decode cX5_interrupt 70 = .ok (.getfield 50, 3) := by decide +kernel
theorem dX5_interrupt_73 : decode cX5_interrupt 73 = .ok (.bipush 8, 2) := by decide +kernel
theorem dX5_interrupt_75 : decode cX5_interrupt 75 = .ok (.dup2, 1) := by decide +kernel
theorem dX5_interrupt_76 : decode cX5_interrupt 76 = .ok (.iaload, 1) := by decide +kernel
theorem dX5_interrupt_77 : decode cX5_interrupt 77 = .ok (.iconst 1, 1) := by decide +kernel
theorem dX5_interrupt_78 : decode cX5_interrupt 78 = .ok (.iadd, 1) := by decide +kernel
theorem dX5_interrupt_79 : decode cX5_interrupt 79 = .ok (.iastore, 1) := by decide +kernel
theorem dX5_interrupt_80 : decode cX5_interrupt 80 = .ok (.aload_n 0, 1) := by decide +kernel
theorem dX5_interrupt_81 : decode cX5_interrupt 81 = .ok (.iconst (-1), 1) := by decide +kernel
theorem dX5_interrupt_82 : decode cX5_interrupt 82 = .ok (.putfield 56, 3) := by decide +kernel
theorem dX5_interrupt_85 : decode cX5_interrupt 85 = .ok (.return_, 1) := by decide +kernel
theorem dX5_isDisturbed_0 : decode cX5_isDisturbed 0 = .ok (.iconst 0, 1) := by decide +kernel
theorem dX5_isDisturbed_1 : decode cX5_isDisturbed 1 = .ok (.istore_n 2, 1) := by decide +kernel
theorem dX5_isDisturbed_2 : decode cX5_isDisturbed 2 = .ok (.iconst 0, 1) := by decide +kernel
theorem dX5_isDisturbed_3 : decode cX5_isDisturbed 3 = .ok (.istore_n 3, 1) := by decide +kernel
theorem dX5_isDisturbed_4 : decode cX5_isDisturbed 4 = .ok (.iload_n 3, 1) := by decide +kernel
theorem dX5_isDisturbed_5 : decode cX5_isDisturbed 5 = .ok (.aload_n 0, 1) := by decide +kernel
theorem dX5_isDisturbed_6 : decode cX5_isDisturbed 6 = .ok (.getfield 162, 3) := by decide +kernel
theorem dX5_isDisturbed_9 : decode cX5_isDisturbed 9 = .ok (.if_icmp .ge 53, 3) := by decide +kernel
theorem dX5_isDisturbed_12 : decode cX5_isDisturbed 12 = .ok (.iload_n 2, 1) := by decide +kernel
theorem dX5_isDisturbed_13 : decode cX5_isDisturbed 13 = .ok (.ifCond .ne 37, 3) := by decide +kernel
theorem dX5_isDisturbed_16 : decode cX5_isDisturbed 16 = .ok (.aload_n 0, 1) := by decide +kernel
theorem dX5_isDisturbed_17 : decode cX5_isDisturbed 17 = .ok (.getfield 19, 3) := by decide +kernel
theorem dX5_isDisturbed_20 : decode cX5_isDisturbed 20 = .ok (.iload_n 3, 1) := by decide +kernel
theorem dX5_isDisturbed_21 : decode cX5_isDisturbed 21 = .ok (.iaload, 1) := by decide +kernel
theorem dX5_isDisturbed_22 : decode cX5_isDisturbed 22 = .ok (.aload_n 0, 1) := by decide +kernel
theorem dX5_isDisturbed_23 : decode cX5_isDisturbed 23 = .ok (.getfield 50, 3) := by decide +kernel
theorem dX5_isDisturbed_26 : decode cX5_isDisturbed 26 = .ok (.iconst 0, 1) := by decide +kernel
theorem dX5_isDisturbed_27 : decode cX5_isDisturbed 27 = .ok (.iaload, 1) := by decide +kernel
theorem dX5_isDisturbed_28 : decode cX5_isDisturbed 28 = .ok (.if_icmp .le 26, 3) := by decide +kernel
theorem dX5_isDisturbed_31 : decode cX5_isDisturbed 31 = .ok (.aload_n 0, 1) := by decide +kernel
theorem dX5_isDisturbed_32 : decode cX5_isDisturbed 32 = .ok (.getfield 19, 3) := by decide +kernel
theorem dX5_isDisturbed_35 : decode cX5_isDisturbed 35 = .ok (.iload_n 3, 1) := by decide +kernel
theorem dX5_isDisturbed_36 : decode cX5_isDisturbed 36 = .ok (.iaload, 1) := by decide +kernel
theorem dX5_isDisturbed_37 : decode cX5_isDisturbed 37 = .ok (.aload_n 0, 1) := by decide +kernel
theorem dX5_isDisturbed_38 : decode cX5_isDisturbed 38 = .ok (.getfield 50, 3) := by decide +kernel
theorem dX5_isDisturbed_41 : decode cX5_isDisturbed 41 = .ok (.iconst 0, 1) := by decide +kernel
theorem dX5_isDisturbed_42 : decode cX5_isDisturbed 42 = .ok (.iaload, 1) := by decide +kernel
theorem dX5_isDisturbed_43 : decode cX5_isDisturbed 43 = .ok (.iload_n 1, 1) := by decide +kernel
theorem dX5_isDisturbed_44 : decode cX5_isDisturbed 44 = .ok (.iadd, 1) := by decide +kernel
theorem dX5_isDisturbed_45 : decode cX5_isDisturbed 45 = .ok (.iconst 1, 1) := by decide +kernel
theorem dX5_isDisturbed_46 : decode cX5_isDisturbed 46 = .ok (.isub, 1) := by decide +kernel
theorem dX5_isDisturbed_47 : decode cX5_isDisturbed 47 = .ok (.if_icmp .gt 7, 3) := by decide +kernel
theorem dX5_isDisturbed_50 : decode cX5_isDisturbed 50 = .ok (.iconst 1, 1) := by decide +kernel
theorem dX5_isDisturbed_51 : decode cX5_isDisturbed 51 = .ok (.goto 4, 3) := by decide +kernel
theorem dX5_isDisturbed_54 : decode cX5_isDisturbed 54 = .ok (.iconst 0, 1) := by decide +kernel
theorem dX5_isDisturbed_55 : decode cX5_isDisturbed 55 = .ok (.istore_n 2, 1) := by decide +kernel
theorem dX5_isDisturbed_56 : decode cX5_isDisturbed 56 = .ok (.iinc 3 1, 3) := by decide +kernel
theorem dX5_isDisturbed_59 : decode cX5_isDisturbed 59 = .ok (.goto (-55), 3) := by decide +kernel
theorem dX5_isDisturbed_62 : decode cX5_isDisturbed 62 = .ok (.iload_n 2, 1) := by decide +kernel
theorem dX5_isDisturbed_63 : decode cX5_isDisturbed 63 = .ok (.ireturn, 1) := by decide +kernel
theorem dX5_isLinked_0 : decode cX5_isLinked 0 = .ok (.aload_n 0, 1) := by decide +kernel
theorem dX5_isLinked_1 : decode cX5_isLinked 1 = .ok (.getfield 56, 3) := by decide +kernel
theorem dX5_isLinked_4 : decode cX5_isLinked 4 = .ok (.ifCond .lt 34, 3) := by decide +kernel
theorem dX5_isLinked_7 : decode cX5_isLinked 7 = .ok (.aload_n 0, 1) := by decide +kernel
theorem dX5_isLinked_8 : decode cX5_isLinked 8 = .ok (.getfield 29, 3) := by decide +kernel
theorem dX5_isLinked_11 : decode cX5_isLinked 11 = .ok (.iload_n 1, 1) := by decide +kernel
theorem dX5_isLinked_12 : decode cX5_isLinked 12 = .ok (.iaload, 1) := by decide +kernel
theorem dX5_isLinked_13 : decode cX5_isLinked 13 = .ok (.ifCond .le 25, 3) := by decide +kernel
theorem dX5_isLinked_16 : decode cX5_isLinked 16 = .ok (.aload_n 0, 1) := by decide +kernel
theorem dX5_isLinked_17 : decode cX5_isLinked 17 = .ok (.getfield 44, 3) := by decide +kernel
theorem dX5_isLinked_20 : decode cX5_isLinked 20 = .ok (.aload_n 0, 1) := by decide +kernel
theorem dX5_isLinked_21 : decode cX5_isLinked 21 = .ok (.getfield 56, 3) := by decide +kernel
theorem dX5_isLinked_24 : decode cX5_isLinked 24 = .ok (.iaload, 1) := by decide +kernel
theorem dX5_isLinked_25 : decode cX5_isLinked 25 = .ok (.aload_n 0, 1) := by decide +kernel
theorem dX5_isLinked_26 : decode cX5_isLinked 26 = .ok (.getfield 38, 3) := by decide +kernel
theorem dX5_isLinked_29 : decode cX5_isLinked 29 = .ok (.iload_n 1, 1) := by decide +kernel
theorem dX5_isLinked_30 : decode cX5_isLinked 30 = .ok (.iaload, 1) := by decide +kernel
theorem dX5_isLinked_31 : decode cX5_isLinked 31 = .ok (.if_icmp .ne 7, 3) := by decide +kernel
theorem dX5_isLinked_34 : decode cX5_isLinked 34 = .ok (.iconst 1, 1) := by decide +kernel
theorem dX5_isLinked_35 : decode cX5_isLinked 35 = .ok (.goto 4, 3) := by decide +kernel
theorem dX5_isLinked_38 : decode cX5_isLinked 38 = .ok (.iconst 0, 1) := by decide +kernel
theorem dX5_isLinked_39 : decode cX5_isLinked 39 = .ok (.ireturn, 1) := by decide +kernel
set_option maxRecDepth 100000 in
theorem ggX5_runBlock_X5_step : GoodIn wsX5_runBlock wsX5_step := goodIn_r _ [12, 13, 7, 14, 15, 6, 16, 17, 18, 19, 20, 11, 21, 22, 23, 24, 25, 26, 27, 28, 29, 30, 31, 32, 33, 34, 35, 36, 37, 38, 39, 40, 41, 42, 43, 44, 45, 46, 47, 48, 49, 50, 51, 52, 53, 54, 55, 56, 57, 58, 3, 59, 60, 61, 62, 63, 64, 65, 66, 67, 68, 69, 70, 71, 72, 73, 74, 75, 81, 82, 83, 84, 85, 86, 87, 88, 89, 90, 91, 92, 93, 94, 95, 96, 97, 98, 99, 100, 101, 102, 103, 104, 105, 106, 107] rfl (by decide +kernel)
set_option maxRecDepth 100000 in
theorem gX5_runBlock_X5_step : GoodIn wsX5_runBlock (wsV RX5 165 RX5 yX5_step wsX5_step) := goodIn_app (goodIn_of _ (by decide +kernel)) ggX5_runBlock_X5_step
set_option maxRecDepth 100000 in
theorem ggX5_runBlock_X5_leave : GoodIn wsX5_runBlock wsX5_leave := goodIn_r _ [79, 80, 4, 2, 81, 82, 83, 84, 85, 86, 87, 88, 89, 90, 91, 92, 93, 94, 95, 96, 97, 98, 99, 100, 101, 102, 103, 104, 105, 106, 107] rfl (by decide +kernel)
set_option maxRecDepth 100000 in
theorem gX5_runBlock_X5_leave : GoodIn wsX5_runBlock (wsV RX5 168 RX5 yX5_leave wsX5_leave) := goodIn_app (goodIn_of _ (by decide +kernel)) ggX5_runBlock_X5_leave
theorem dX5_runBlock_0 : decode cX5_runBlock 0 = .ok (.aload_n 0, 1) := by decide +kernel
theorem dX5_runBlock_1 : decode cX5_runBlock 1 = .ok (.getfield 38, 3) := by decide +kernel
theorem dX5_runBlock_4 : decode cX5_runBlock 4 = .ok (.iload_n 1, 1) := by decide +kernel
theorem dX5_runBlock_5 : decode cX5_runBlock 5 = .ok (.iaload, 1) := by decide +kernel
theorem dX5_runBlock_6 : decode cX5_runBlock 6 = .ok (.istore_n 2, 1) := by decide +kernel
theorem dX5_runBlock_7 : decode cX5_runBlock 7 = .ok (.aload_n 0, 1) := by decide +kernel
theorem dX5_runBlock_8 : decode cX5_runBlock 8 = .ok (.getfield 56, 3) := by decide +kernel
theorem dX5_runBlock_11 : decode cX5_runBlock 11 = .ok (.ifCond .lt 27, 3) := by decide +kernel
theorem dX5_runBlock_14 : decode cX5_runBlock 14 = .ok (.aload_n 0, 1) := by decide +kernel
theorem dX5_runBlock_15 : decode cX5_runBlock 15 = .ok (.getfield 29, 3) := by decide +kernel
theorem dX5_runBlock_18 : decode cX5_runBlock 18 = .ok (.aload_n 0, 1) := by decide +kernel
theorem dX5_runBlock_19 : decode cX5_runBlock 19 = .ok (.getfield 56, 3) := by decide +kernel
theorem dX5_runBlock_22 : decode cX5_runBlock 22 = .ok (.iconst 2, 1) := by decide +kernel
theorem dX5_runBlock_23 : decode cX5_runBlock 23 = .ok (.idiv, 1) := by decide +kernel
theorem dX5_runBlock_24 : decode cX5_runBlock 24 = .ok (.iaload, 1) := by decide +kernel
theorem dX5_runBlock_25 : decode cX5_runBlock 25 = .ok (.ifCond .le 13, 3) := by decide +kernel
theorem dX5_runBlock_28 : decode cX5_runBlock 28 = .ok (.aload_n 0, 1) := by decide +kernel
theorem dX5_runBlock_29 : decode cX5_runBlock 29 = .ok (.getfield 44, 3) := by decide +kernel
theorem dX5_runBlock_32 : decode cX5_runBlock 32 = .ok (.aload_n 0, 1) := by decide +kernel
theorem dX5_runBlock_33 : decode cX5_runBlock 33 = .ok (.getfield 56, 3) := by decide +kernel
theorem dX5_runBlock_36 : decode cX5_runBlock 36 = .ok (.iload_n 2, 1) := by decide +kernel
theorem dX5_runBlock_37 : decode cX5_runBlock 37 = .ok (.iastore, 1) := by decide +kernel
theorem dX5_runBlock_38 : decode cX5_runBlock 38 = .ok (.aload_n 0, 1) := by decide +kernel
theorem dX5_runBlock_39 : decode cX5_runBlock 39 = .ok (.iconst (-1), 1) := by decide +kernel
theorem dX5_runBlock_40 : decode cX5_runBlock 40 = .ok (.putfield 56, 3) := by decide +kernel
theorem dX5_runBlock_43 : decode cX5_runBlock 43 = .ok (.aload_n 0, 1) := by decide +kernel
theorem dX5_runBlock_44 : decode cX5_runBlock 44 = .ok (.getfield 32, 3) := by decide +kernel
theorem dX5_runBlock_47 : decode cX5_runBlock 47 = .ok (.iload_n 1, 1) := by decide +kernel
theorem dX5_runBlock_48 : decode cX5_runBlock 48 = .ok (.iaload, 1) := by decide +kernel
theorem dX5_runBlock_49 : decode cX5_runBlock 49 = .ok (.istore_n 3, 1) := by decide +kernel
theorem dX5_runBlock_50 : decode cX5_runBlock 50 = .ok (.iconst 1, 1) := by decide +kernel
theorem dX5_runBlock_51 : decode cX5_runBlock 51 = .ok (.istore 4, 2) := by decide +kernel
theorem dX5_runBlock_53 : decode cX5_runBlock 53 = .ok (.iconst 0, 1) := by decide +kernel
theorem dX5_runBlock_54 : decode cX5_runBlock 54 = .ok (.istore 5, 2) := by decide +kernel
theorem dX5_runBlock_56 : decode cX5_runBlock 56 = .ok (.iconst 0, 1) := by decide +kernel
theorem dX5_runBlock_57 : decode cX5_runBlock 57 = .ok (.istore 6, 2) := by decide +kernel
theorem dX5_runBlock_59 : decode cX5_runBlock 59 = .ok (.iload 6, 2) := by decide +kernel
theorem dX5_runBlock_61 : decode cX5_runBlock 61 = .ok (.iload_n 3, 1) := by decide +kernel
theorem dX5_runBlock_62 : decode cX5_runBlock 62 = .ok (.if_icmp .ge 50, 3) := by decide +kernel
theorem dX5_runBlock_65 : decode cX5_runBlock 65 = .ok (.iload 4, 2) := by decide +kernel
theorem dX5_runBlock_67 : decode cX5_runBlock 67 = .ok (.ifCond .eq 45, 3) := by decide +kernel
theorem dX5_runBlock_70 : decode cX5_runBlock 70 = .ok (.aload_n 0, 1) := by decide +kernel
theorem dX5_runBlock_71 : decode cX5_runBlock 71 = .ok (.invokevirtual 165, 3) := by decide +kernel
theorem dX5_runBlock_74 : decode cX5_runBlock 74 = .ok (.aload_n 0, 1) := by decide +kernel
theorem dX5_runBlock_75 : decode cX5_runBlock 75 = .ok (.getfield 66, 3) := by decide +kernel
theorem dX5_runBlock_78 : decode cX5_runBlock 78 = .ok (.istore 5, 2) := by decide +kernel
theorem dX5_runBlock_80 : decode cX5_runBlock 80 = .ok (.aload_n 0, 1) := by decide +kernel
theorem dX5_runBlock_81 : decode cX5_runBlock 81 = .ok (.getfield 29, 3) := by decide +kernel
theorem dX5_runBlock_84 : decode cX5_runBlock 84 = .ok (.iload_n 1, 1) := by decide +kernel
theorem dX5_runBlock_85 : decode cX5_runBlock 85 = .ok (.iaload, 1) := by decide +kernel
theorem dX5_runBlock_86 : decode cX5_runBlock 86 = .ok (.ifCond .le 17, 3) := by decide +kernel
theorem dX5_runBlock_89 : decode cX5_runBlock 89 = .ok (.aload_n 0, 1) := by decide +kernel
theorem dX5_runBlock_90 : decode cX5_runBlock 90 = .ok (.getfield 38, 3) := by decide +kernel
theorem dX5_runBlock_93 : decode cX5_runBlock 93 = .ok (.iload_n 1, 1) := by decide +kernel
theorem dX5_runBlock_94 : decode cX5_runBlock 94 = .ok (.iaload, 1) := by decide +kernel
theorem dX5_runBlock_95 : decode cX5_runBlock 95 = .ok (.iload_n 2, 1) := by decide +kernel
theorem dX5_runBlock_96 : decode cX5_runBlock 96 = .ok (.if_icmp .ne 7, 3) := by decide +kernel
theorem dX5_runBlock_99 : decode cX5_runBlock 99 = .ok (.iconst 1, 1) := by decide +kernel
theorem dX5_runBlock_100 : decode cX5_runBlock 100 = .ok (.goto 4, 3) := by decide +kernel
theorem dX5_runBlock_103 : decode cX5_runBlock 103 = .ok (.iconst 0, 1) := by decide +kernel
theorem dX5_runBlock_104 : decode cX5_runBlock 104 = .ok (.istore 4, 2) := by decide +kernel
theorem dX5_runBlock_106 : decode cX5_runBlock 106 = .ok (.iinc 6 1, 3) := by decide +kernel
theorem dX5_runBlock_109 : decode cX5_runBlock 109 = .ok (.goto (-50), 3) := by decide +kernel
theorem dX5_runBlock_112 : decode cX5_runBlock 112 = .ok (.iload 4, 2) := by decide +kernel
theorem dX5_runBlock_114 : decode cX5_runBlock 114 = .ok (.ifCond .eq 28, 3) := by decide +kernel
theorem dX5_runBlock_117 : decode cX5_runBlock 117 = .ok (.iload 5, 2) := by decide +kernel
theorem dX5_runBlock_119 : decode cX5_runBlock 119 = .ok (.bipush 25, 2) := by decide +kernel
theorem dX5_runBlock_121 : decode cX5_runBlock 121 = .ok (.if_icmp .eq 21, 3) := by decide +kernel
theorem dX5_runBlock_124 : decode cX5_runBlock 124 = .ok (.iload 5, 2) := by decide +kernel
theorem dX5_runBlock_126 : decode cX5_runBlock 126 = .ok (.iconst 1, 1) := by decide +kernel
theorem dX5_runBlock_127 : decode cX5_runBlock 127 = .ok (.if_icmp .eq 15, 3) := by decide +kernel
theorem dX5_runBlock_130 : decode cX5_runBlock 130 = .ok (.aload_n 0, 1) := by decide +kernel
theorem dX5_runBlock_131 : decode cX5_runBlock 131 = .ok (.iload_n 1, 1) := by decide +kernel
theorem dX5_runBlock_132 : decode cX5_runBlock 132 = .ok (.aload_n 0, 1) := by decide +kernel
theorem dX5_runBlock_133 : decode cX5_runBlock 133 = .ok (.getfield 13, 3) := by decide +kernel
theorem dX5_runBlock_136 : decode cX5_runBlock 136 = .ok (.bipush 9, 2) := by decide +kernel
theorem dX5_runBlock_138 : decode cX5_runBlock 138 = .ok (.iaload, 1) := by decide +kernel
theorem dX5_runBlock_139 : decode cX5_runBlock 139 = .ok (.invokevirtual 168, 3) := by decide +kernel
theorem dX5_runBlock_142 : decode cX5_runBlock 142 = .ok (.return_, 1) := by decide +kernel
theorem dX5_leave_0 : decode cX5_leave 0 = .ok (.iconst 2, 1) := by decide +kernel
theorem dX5_leave_1 : decode cX5_leave 1 = .ok (.iload_n 1, 1) := by decide +kernel
theorem dX5_leave_2 : decode cX5_leave 2 = .ok (.imul, 1) := by decide +kernel
theorem dX5_leave_3 : decode cX5_leave 3 = .ok (.istore_n 3, 1) := by decide +kernel
theorem dX5_leave_4 : decode cX5_leave 4 = .ok (.aload_n 0, 1) := by decide +kernel
theorem dX5_leave_5 : decode cX5_leave 5 = .ok (.getfield 41, 3) := by decide +kernel
theorem dX5_leave_8 : decode cX5_leave 8 = .ok (.iload_n 3, 1) := by decide +kernel
theorem dX5_leave_9 : decode cX5_leave 9 = .ok (.iaload, 1) := by decide +kernel
theorem dX5_leave_10 : decode cX5_leave 10 = .ok (.ifCond .lt 16, 3) := by decide +kernel
theorem dX5_leave_13 : decode cX5_leave 13 = .ok (.aload_n 0, 1) := by decide +kernel
theorem dX5_leave_14 : decode cX5_leave 14 = .ok (.getfield 41, 3) := by decide +kernel
theorem dX5_leave_17 : decode cX5_leave 17 = .ok (.iload_n 3, 1) := by decide +kernel
theorem dX5_leave_18 : decode cX5_leave 18 = .ok (.iaload, 1) := by decide +kernel
theorem dX5_leave_19 : decode cX5_leave 19 = .ok (.iload_n 2, 1) := by decide +kernel
theorem dX5_leave_20 : decode cX5_leave 20 = .ok (.if_icmp .eq 6, 3) := by decide +kernel
theorem dX5_leave_23 : decode cX5_leave 23 = .ok (.iinc 3 1, 3) := by decide +kernel
theorem dX5_leave_26 : decode cX5_leave 26 = .ok (.aload_n 0, 1) := by decide +kernel
theorem dX5_leave_27 : decode cX5_leave 27 = .ok (.getfield 41, 3) := by decide +kernel
theorem dX5_leave_30 : decode cX5_leave 30 = .ok (.iload_n 3, 1) := by decide +kernel
theorem dX5_leave_31 : decode cX5_leave 31 = .ok (.iaload, 1) := by decide +kernel
theorem dX5_leave_32 : decode cX5_leave 32 = .ok (.iload_n 2, 1) := by decide +kernel
theorem dX5_leave_33 : decode cX5_leave 33 = .ok (.if_icmp .eq 17, 3) := by decide +kernel
theorem dX5_leave_36 : decode cX5_leave 36 = .ok (.aload_n 0, 1) := by decide +kernel
theorem dX5_leave_37 : decode cX5_leave 37 = .ok (.getfield 41, 3) := by decide +kernel
theorem dX5_leave_40 : decode cX5_leave 40 = .ok (.iload_n 3, 1) := by decide +kernel
theorem dX5_leave_41 : decode cX5_leave 41 = .ok (.iload_n 2, 1) := by decide +kernel
theorem dX5_leave_42 : decode cX5_leave 42 = .ok (.iastore, 1) := by decide +kernel
theorem dX5_leave_43 : decode cX5_leave 43 = .ok (.aload_n 0, 1) := by decide +kernel
theorem dX5_leave_44 : decode cX5_leave 44 = .ok (.getfield 44, 3) := by decide +kernel
theorem dX5_leave_47 : decode cX5_leave 47 = .ok (.iload_n 3, 1) := by decide +kernel
theorem dX5_leave_48 : decode cX5_leave 48 = .ok (.iconst (-1), 1) := by decide +kernel
theorem dX5_leave_49 : decode cX5_leave 49 = .ok (.iastore, 1) := by decide +kernel
theorem dX5_leave_50 : decode cX5_leave 50 = .ok (.aload_n 0, 1) := by decide +kernel
theorem dX5_leave_51 : decode cX5_leave 51 = .ok (.iload_n 3, 1) := by decide +kernel
theorem dX5_leave_52 : decode cX5_leave 52 = .ok (.putfield 56, 3) := by decide +kernel
theorem dX5_leave_55 : decode cX5_leave 55 = .ok (.return_, 1) := by decide +kernel
set_option maxRecDepth 100000 in
theorem ggX5_goOn_X5_interrupt : GoodIn wsX5_goOn wsX5_interrupt := goodIn_r _ [13, 2, 1, 3, 4, 7, 14, 15, 16, 12, 17, 18, 19, 20, 21, 22, 23, 24, 25, 26, 27, 28, 29, 30, 31, 32, 134, 135, 136, 137, 138, 139, 140, 141, 142, 143, 144, 145, 146, 147, 148, 149, 150, 151, 152, 153, 154, 155, 156, 157, 158, 159, 160] rfl (by decide +kernel)
set_option maxRecDepth 100000 in
theorem gX5_goOn_X5_interrupt : GoodIn wsX5_goOn (wsV RX5 171 RX5 yX5_interrupt wsX5_interrupt) := goodIn_app (goodIn_of _ (by decide +kernel)) ggX5_goOn_X5_interrupt
set_option maxRecDepth 100000 in
theorem ggX5_goOn_X5_isLinked : GoodIn wsX5_goOn wsX5_isLinked := goodIn_r _ [36, 7, 27, 37, 38, 134, 135, 136, 137, 138, 139, 140, 141, 142, 143, 144, 145, 146, 147, 148, 149, 150, 151, 152, 153, 154, 155, 156, 157, 158, 159, 160] rfl (by decide +kernel)
set_option maxRecDepth 100000 in
theorem gX5_goOn_X5_isLinked : GoodIn wsX5_goOn (wsV RX5 174 RX5 yX5_isLinked wsX5_isLinked) := goodIn_app (goodIn_of _ (by decide +kernel)) ggX5_goOn_X5_isLinked
set_option maxRecDepth 100000 in
theorem ggX5_goOn_X5_hasBlock : GoodIn wsX5_goOn wsX5_hasBlock := goodIn_r _ [42, 27, 43, 44, 45, 4, 5, 28, 46, 47, 38, 48, 49, 50, 51, 52, 12, 53, 8, 22, 54, 55, 56, 57, 58, 59, 60, 61, 62, 63, 64, 65, 66, 67, 68, 69, 70, 71, 72, 73, 74, 75, 76, 77, 78, 79, 80, 81, 82, 29, 30, 31, 32, 134, 135, 136, 137, 138, 139, 140, 141, 142, 143, 144, 145, 146, 147, 148, 149, 150, 151, 152, 153, 154, 155, 156, 157, 158, 159, 160] rfl (by decide +kernel)
set_option maxRecDepth 100000 in
theorem gX5_goOn_X5_hasBlock : GoodIn wsX5_goOn (wsV RX5 177 RX5 yX5_hasBlock wsX5_hasBlock) := goodIn_app (goodIn_of _ (by decide +kernel)) ggX5_goOn_X5_hasBlock
set_option maxRecDepth 100000 in
theorem ggX5_goOn_X5_isDisturbed : GoodIn wsX5_goOn wsX5_isDisturbed := goodIn_r _ [86, 1, 3, 4, 134, 135, 136, 137, 138, 139, 140, 141, 142, 143, 144, 145, 146, 147, 148, 149, 150, 151, 152, 153, 154, 155, 156, 157, 158, 159, 160] rfl (by decide +kernel)
set_option maxRecDepth 100000 in
theorem gX5_goOn_X5_isDisturbed : GoodIn wsX5_goOn (wsV RX5 180 RX5 yX5_isDisturbed wsX5_isDisturbed) := goodIn_app (goodIn_of _ (by decide +kernel)) ggX5_goOn_X5_isDisturbed
set_option maxRecDepth 100000 in
theorem ggX5_goOn_X5_runBlock : GoodIn wsX5_goOn wsX5_runBlock := goodIn_r _ [90, 38, 7, 27, 37, 5, 8, 2, 91, 92, 93, 12, 94, 22, 55, 4, 6, 95, 56, 57, 58, 59, 60, 61, 62, 96, 97, 98, 99, 100, 101, 102, 103, 104, 105, 106, 107, 108, 109, 110, 111, 112, 113, 114, 115, 116, 117, 118, 119, 120, 121, 18, 19, 20, 21, 23, 24, 25, 26, 28, 29, 30, 31, 32, 122, 123, 124, 125, 14, 15, 16, 17, 126, 127, 128, 129, 130, 131, 132, 133, 48, 134, 135, 136, 137, 138, 139, 140, 141, 142, 143, 144, 145, 146, 147, 148, 149, 150, 151, 152, 153, 154, 155, 156, 157, 158, 159, 160] rfl (by decide +kernel)
set_option maxRecDepth 100000 in
theorem gX5_goOn_X5_runBlock : GoodIn wsX5_goOn (wsV RX5 183 RX5 yX5_runBlock wsX5_runBlock) := goodIn_app (goodIn_of _ (by decide +kernel)) ggX5_goOn_X5_runBlock
set_option maxRecDepth 100000 in
theorem ggX5_goOn_X5_look : GoodIn wsX5_goOn wsX5_look := goodIn_r _ [59, 22, 8, 55, 60, 61, 12, 62, 134, 135, 136, 137, 138, 139, 140, 141, 142, 143, 144, 145, 146, 147, 148, 149, 150, 151, 152, 153, 154, 155, 156, 157, 158, 159, 160] rfl (by decide +kernel)
set_option maxRecDepth 100000 in
theorem gX5_goOn_X5_look : GoodIn wsX5_goOn (wsV RX5 88 RX5 yX5_look wsX5_look) := goodIn_app (goodIn_of _ (by decide +kernel)) ggX5_goOn_X5_look
set_option maxRecDepth 100000 in
theorem ggX5_goOn_X5_step : GoodIn wsX5_goOn wsX5_step := goodIn_r _ [94, 22, 2, 55, 4, 8, 6, 95, 56, 57, 58, 12, 59, 60, 61, 62, 96, 97, 98, 99, 100, 101, 102, 103, 104, 105, 106, 107, 108, 109, 110, 111, 112, 113, 114, 115, 116, 117, 118, 119, 120, 121, 18, 19, 20, 21, 23, 24, 25, 26, 27, 28, 29, 30, 31, 32, 122, 123, 124, 125, 14, 15, 16, 17, 126, 127, 128, 129, 134, 135, 136, 137, 138, 139, 140, 141, 142, 143, 144, 145, 146, 147, 148, 149, 150, 151, 152, 153, 154, 155, 156, 157, 158, 159, 160] rfl (by decide +kernel)
set_option maxRecDepth 100000 in
theorem gX5_goOn_X5_step : GoodIn wsX5_goOn (wsV RX5 165 RX5 yX5_step wsX5_step) := goodIn_app (goodIn_of _ (by decide +kernel)) ggX5_goOn_X5_step
theorem dX5_goOn_0 : decode cX5_goOn 0 = .ok (.aload_n 0, 1) := by decide +kernel
theorem dX5_goOn_1 : decode cX5_goOn 1 = .ok (.getfield 162, 3) := by decide +kernel
theorem dX5_goOn_4 : decode cX5_goOn 4 = .ok (.ifCond .le 33, 3) := by decide +kernel
theorem dX5_goOn_7 : decode cX5_goOn 7 = .ok (.aload_n 0, 1) := by decide +kernel
theorem dX5_goOn_8 : decode cX5_goOn 8 = .ok (.getfield 13, 3) := by decide +kernel
theorem dX5_goOn_11 : decode cX5_goOn 11 = .ok (.bipush 8, 2) := by decide +kernel
theorem dX5_goOn_13 : decode cX5_goOn 13 = .ok (.iaload, 1) := by decide +kernel
theorem dX5_goOn_14 : decode cX5_goOn 14 = .ok (.iconst 1, 1) := by decide +kernel
theorem dX5_goOn_15 : decode cX5_goOn 15 = .ok (.if_icmp .ne 22, 3) := by decide +kernel
theorem dX5_goOn_18 : decode cX5_goOn 18 = .ok (.aload_n 0, 1) := by decide +kernel
theorem dX5_goOn_19 : decode cX5_goOn 19 = .ok (.getfield 19, 3) := by decide +kernel
theorem dX5_goOn_22 : decode cX5_goOn 22 = .ok (.iconst 0, 1) := by decide +kernel
theorem dX5_goOn_23 : decode cX5_goOn 23 = .ok (.iaload, 1) := by decide +kernel
theorem dX5_goOn_24 : decode cX5_goOn 24 = .ok (.aload_n 0, 1) := by decide +kernel
theorem dX5_goOn_25 : decode cX5_goOn 25 = .ok (.getfield 50, 3) := by decide +kernel
theorem dX5_goOn_28 : decode cX5_goOn 28 = .ok (.iconst 0, 1) := by decide +kernel
theorem dX5_goOn_29 : decode cX5_goOn 29 = .ok (.iaload, 1) := by decide +kernel
theorem dX5_goOn_30 : decode cX5_goOn 30 = .ok (.if_icmp .gt 7, 3) := by decide +kernel
theorem dX5_goOn_33 : decode cX5_goOn 33 = .ok (.aload_n 0, 1) := by decide +kernel
theorem dX5_goOn_34 : decode cX5_goOn 34 = .ok (.invokevirtual 171, 3) := by decide +kernel
theorem dX5_goOn_37 : decode cX5_goOn 37 = .ok (.aload_n 0, 1) := by decide +kernel
theorem dX5_goOn_38 : decode cX5_goOn 38 = .ok (.getfield 13, 3) := by decide +kernel
theorem dX5_goOn_41 : decode cX5_goOn 41 = .ok (.bipush 9, 2) := by decide +kernel
theorem dX5_goOn_43 : decode cX5_goOn 43 = .ok (.iaload, 1) := by decide +kernel
theorem dX5_goOn_44 : decode cX5_goOn 44 = .ok (.istore_n 2, 1) := by decide +kernel
theorem dX5_goOn_45 : decode cX5_goOn 45 = .ok (.aload_n 0, 1) := by decide +kernel
theorem dX5_goOn_46 : decode cX5_goOn 46 = .ok (.iload_n 2, 1) := by decide +kernel
theorem dX5_goOn_47 : decode cX5_goOn 47 = .ok (.invokevirtual 174, 3) := by decide +kernel
theorem dX5_goOn_50 : decode cX5_goOn 50 = .ok (.istore_n 3, 1) := by decide +kernel
theorem dX5_goOn_51 : decode cX5_goOn 51 = .ok (.iload_n 3, 1) := by decide +kernel
theorem dX5_goOn_52 : decode cX5_goOn 52 = .ok (.ifCond .ne 14, 3) := by decide +kernel
theorem dX5_goOn_55 : decode cX5_goOn 55 = .ok (.aload_n 0, 1) := by decide +kernel
theorem dX5_goOn_56 : decode cX5_goOn 56 = .ok (.getfield 50, 3) := by decide +kernel
theorem dX5_goOn_59 : decode cX5_goOn 59 = .ok (.bipush 6, 2) := by decide +kernel
theorem dX5_goOn_61 : decode cX5_goOn 61 = .ok (.dup2, 1) := by decide +kernel
theorem dX5_goOn_62 : decode cX5_goOn 62 = .ok (.iaload, 1) := by decide +kernel
theorem dX5_goOn_63 : decode cX5_goOn 63 = .ok (.iconst 1, 1) := by decide +kernel
theorem dX5_goOn_64 : decode cX5_goOn 64 = .ok (.iadd, 1) := by decide +kernel
theorem dX5_goOn_65 : decode cX5_goOn 65 = .ok (.iastore, 1) := by decide +kernel
theorem dX5_goOn_66 : decode cX5_goOn 66 = .ok (.iload_n 3, 1) := by decide +kernel
theorem dX5_goOn_67 : decode cX5_goOn 67 = .ok (.ifCond .ne 11, 3) := by decide +kernel
theorem dX5_goOn_70 : decode cX5_goOn 70 = .ok (.aload_n 0, 1) := by decide +kernel
theorem dX5_goOn_71 : decode cX5_goOn 71 = .ok (.iload_n 2, 1) := by decide +kernel
theorem dX5_goOn_72 : decode cX5_goOn 72 = .ok (.invokevirtual 177, 3) := by decide +kernel
theorem dX5_goOn_75 : decode cX5_goOn 75 = .ok (.ifCond .eq 7, 3) := by decide +kernel
theorem dX5_goOn_78 : decode cX5_goOn 78 = .ok (.iconst 1, 1) := by decide +kernel
theorem dX5_goOn_79 : decode cX5_goOn 79 = .ok (.goto 4, 3) := by decide +kernel
theorem dX5_goOn_82 : decode cX5_goOn 82 = .ok (.iconst 0, 1) := by decide +kernel
theorem dX5_goOn_83 : decode cX5_goOn 83 = .ok (.istore 4, 2) := by decide +kernel
theorem dX5_goOn_85 : decode cX5_goOn 85 = .ok (.iload 4, 2) := by decide +kernel
theorem dX5_goOn_87 : decode cX5_goOn 87 = .ok (.ifCond .eq 44, 3) := by decide +kernel
theorem dX5_goOn_90 : decode cX5_goOn 90 = .ok (.aload_n 0, 1) := by decide +kernel
theorem dX5_goOn_91 : decode cX5_goOn 91 = .ok (.getfield 32, 3) := by decide +kernel
theorem dX5_goOn_94 : decode cX5_goOn 94 = .ok (.iload_n 2, 1) := by decide +kernel
theorem dX5_goOn_95 : decode cX5_goOn 95 = .ok (.iaload, 1) := by decide +kernel
theorem dX5_goOn_96 : decode cX5_goOn 96 = .ok (.iload_n 1, 1) := by decide +kernel
theorem dX5_goOn_97 : decode cX5_goOn 97 = .ok (.if_icmp .gt 34, 3) := by decide +kernel
theorem dX5_goOn_100 : decode cX5_goOn 100 = .ok (.aload_n 0, 1) := by decide +kernel
theorem dX5_goOn_101 : decode cX5_goOn 101 = .ok (.aload_n 0, 1) := by decide +kernel
theorem dX5_goOn_102 : decode cX5_goOn 102 = .ok (.getfield 32, 3) := by decide +kernel
theorem dX5_goOn_105 : decode cX5_goOn 105 = .ok (.iload_n 2, 1) := by decide +kernel
theorem dX5_goOn_106 : decode cX5_goOn 106 = .ok (.iaload, 1) := by decide +kernel
theorem dX5_goOn_107 : decode cX5_goOn 107 = .ok (.invokevirtual 180, 3) := by decide +kernel
theorem dX5_goOn_110 : decode cX5_goOn 110 = .ok (.ifCond .ne 21, 3) := by decide +kernel
theorem dX5_goOn_113 : decode cX5_goOn 113 = .ok (.aload_n 0, 1) := by decide +kernel
theorem dX5_goOn_114 : decode cX5_goOn 114 = .ok (.iload_n 2, 1) := by decide +kernel
theorem dX5_goOn_115 : decode cX5_goOn 115 = .ok (.invokevirtual 183, 3) := by decide +kernel
theorem dX5_goOn_118 : decode cX5_goOn 118 = .ok (.aload_n 0, 1) := by decide +kernel
theorem dX5_goOn_119 : decode cX5_goOn 119 = .ok (.getfield 127, 3) := by decide +kernel
theorem dX5_goOn_122 : decode cX5_goOn 122 = .ok (.ifCond .ne 7, 3) := by decide +kernel
theorem dX5_goOn_125 : decode cX5_goOn 125 = .ok (.iconst 1, 1) := by decide +kernel
theorem dX5_goOn_126 : decode cX5_goOn 126 = .ok (.goto 4, 3) := by decide +kernel
theorem dX5_goOn_129 : decode cX5_goOn 129 = .ok (.iconst 0, 1) := by decide +kernel
theorem dX5_goOn_130 : decode cX5_goOn 130 = .ok (.ireturn, 1) := by decide +kernel
theorem dX5_goOn_131 : decode cX5_goOn 131 = .ok (.aload_n 0, 1) := by decide +kernel
theorem dX5_goOn_132 : decode cX5_goOn 132 = .ok (.iconst (-1), 1) := by decide +kernel
theorem dX5_goOn_133 : decode cX5_goOn 133 = .ok (.putfield 56, 3) := by decide +kernel
theorem dX5_goOn_136 : decode cX5_goOn 136 = .ok (.aload_n 0, 1) := by decide +kernel
theorem dX5_goOn_137 : decode cX5_goOn 137 = .ok (.iload_n 2, 1) := by decide +kernel
theorem dX5_goOn_138 : decode cX5_goOn 138 = .ok (.invokevirtual 88, 3) := by decide +kernel
theorem dX5_goOn_141 : decode cX5_goOn 141 = .ok (.aload_n 0, 1) := by decide +kernel
theorem dX5_goOn_142 : decode cX5_goOn 142 = .ok (.getfield 66, 3) := by decide +kernel
theorem dX5_goOn_145 : decode cX5_goOn 145 = .ok (.ifCond .ne 13, 3) := by decide +kernel
theorem dX5_goOn_148 : decode cX5_goOn 148 = .ok (.aload_n 0, 1) := by decide +kernel
theorem dX5_goOn_149 : decode cX5_goOn 149 = .ok (.getfield 50, 3) := by decide +kernel
theorem dX5_goOn_152 : decode cX5_goOn 152 = .ok (.bipush 11, 2) := by decide +kernel
theorem dX5_goOn_154 : decode cX5_goOn 154 = .ok (.iconst 2, 1) := by decide +kernel
theorem dX5_goOn_155 : decode cX5_goOn 155 = .ok (.iastore, 1) := by decide +kernel
theorem dX5_goOn_156 : decode cX5_goOn 156 = .ok (.iconst 0, 1) := by decide +kernel
theorem dX5_goOn_157 : decode cX5_goOn 157 = .ok (.ireturn, 1) := by decide +kernel
theorem dX5_goOn_158 : decode cX5_goOn 158 = .ok (.aload_n 0, 1) := by decide +kernel
theorem dX5_goOn_159 : decode cX5_goOn 159 = .ok (.invokevirtual 165, 3) := by decide +kernel
theorem dX5_goOn_162 : decode cX5_goOn 162 = .ok (.aload_n 0, 1) := by decide +kernel
theorem dX5_goOn_163 : decode cX5_goOn 163 = .ok (.getfield 50, 3) := by decide +kernel
theorem dX5_goOn_166 : decode cX5_goOn 166 = .ok (.bipush 7, 2) := by decide +kernel
theorem dX5_goOn_168 : decode cX5_goOn 168 = .ok (.dup2, 1) := by decide +kernel
theorem dX5_goOn_169 : decode cX5_goOn 169 = .ok (.iaload, 1) := by decide +kernel
theorem dX5_goOn_170 : decode cX5_goOn 170 = .ok (.iconst 1, 1) := by decide +kernel
theorem dX5_goOn_171 : decode cX5_goOn 171 = .ok (.iadd, 1) := by decide +kernel
theorem dX5_goOn_172 : decode cX5_goOn 172 = .ok (.iastore, 1) := by decide +kernel
theorem dX5_goOn_173 : decode cX5_goOn 173 = .ok (.aload_n 0, 1) := by decide +kernel
theorem dX5_goOn_174 : decode cX5_goOn 174 = .ok (.getfield 127, 3) := by decide +kernel
theorem dX5_goOn_177 : decode cX5_goOn 177 = .ok (.ifCond .ne 7, 3) := by decide +kernel
theorem dX5_goOn_180 : decode cX5_goOn 180 = .ok (.iconst 1, 1) := by decide +kernel
theorem dX5_goOn_181 : decode cX5_goOn 181 = .ok (.goto 4, 3) := by decide +kernel
theorem dX5_goOn_184 : decode cX5_goOn 184 = .ok (.iconst 0, 1) := by decide +kernel
theorem dX5_goOn_185 : decode cX5_goOn 185 = .ok (.ireturn, 1) := by decide +kernel
set_option maxRecDepth 100000 in
theorem ggX5_run_X5_isIn : GoodIn wsX5_run wsX5_isIn := goodIn_r _ [7] rfl (by decide +kernel)
set_option maxRecDepth 100000 in
theorem gX5_run_X5_isIn : GoodIn wsX5_run (va_wsS RX5 186 yX5_isIn wsX5_isIn) := goodIn_app (goodIn_of _ (by decide +kernel)) ggX5_run_X5_isIn
set_option maxRecDepth 100000 in
theorem ggX5_run_X5_refused : GoodIn wsX5_run wsX5_refused := goodIn_r _ [11, 12, 146, 147, 148, 149, 150, 151, 152, 153, 154, 155, 156, 157, 158, 159, 160, 161, 162, 163, 164, 165, 166, 167, 168, 169, 170, 171, 172] rfl (by decide +kernel)
set_option maxRecDepth 100000 in
theorem gX5_run_X5_refused : GoodIn wsX5_run (wsV RX5 190 RX5 yX5_refused wsX5_refused) := goodIn_app (goodIn_of _ (by decide +kernel)) ggX5_run_X5_refused
set_option maxRecDepth 100000 in
theorem ggX5_run_X5_goOn : GoodIn wsX5_run wsX5_goOn := goodIn_r _ [16, 17, 18, 19, 1, 20, 3, 2, 21, 22, 23, 24, 6, 25, 26, 27, 28, 29, 30, 31, 32, 33, 34, 35, 36, 37, 38, 39, 40, 41, 42, 43, 44, 45, 46, 47, 48, 49, 50, 51, 52, 53, 54, 55, 56, 57, 58, 59, 60, 61, 62, 63, 64, 65, 66, 67, 68, 69, 70, 71, 72, 73, 74, 75, 76, 77, 78, 79, 80, 81, 82, 83, 84, 85, 86, 87, 88, 89, 90, 91, 92, 93, 94, 95, 96, 97, 98, 99, 100, 101, 102, 103, 104, 105, 106, 107, 108, 109, 110, 111, 112, 113, 114, 115, 116, 117, 118, 119, 120, 121, 122, 123, 124, 125, 126, 127, 128, 129, 130, 131, 132, 133, 134, 135, 136, 137, 138, 139, 140, 141, 142, 143, 144, 145, 146, 147, 148, 149, 150, 151, 152, 153, 154, 155, 156, 157, 158, 159, 160, 161, 162, 163, 164, 165, 166, 167, 168, 169, 170, 171, 172] rfl (by decide +kernel)
set_option maxRecDepth 100000 in
theorem gX5_run_X5_goOn : GoodIn wsX5_run (wsV RX5 193 RX5 yX5_goOn wsX5_goOn) := goodIn_app (goodIn_of _ (by decide +kernel)) ggX5_run_X5_goOn
theorem dX5_run_0 : decode cX5_run 0 = .ok (.aload_n 0, 1) := by decide +kernel
theorem dX5_run_1 : decode cX5_run 1 = .ok (.iload_n 1, 1) := by decide +kernel
theorem dX5_run_2 : decode cX5_run 2 = .ok (.iconst 1, 1) := by decide +kernel
theorem dX5_run_3 : decode cX5_run 3 = .ok (.sipush 5000, 3) := by decide +kernel
theorem dX5_run_6 : decode cX5_run 6 = .ok (.invokestatic 186, 3) := by decide +kernel
theorem dX5_run_9 : decode cX5_run 9 = .ok (.ifCond .eq 7, 3) := by decide +kernel
theorem dX5_run_12 : decode cX5_run 12 = .ok (.iconst 0, 1) := by decide +kernel
theorem dX5_run_13 : decode cX5_run 13 = .ok (.goto 4, 3) := by decide +kernel
theorem dX5_run_16 : decode cX5_run 16 = .ok (.iconst 1, 1) := by decide +kernel
theorem dX5_run_17 : decode cX5_run 17 = .ok (.invokevirtual 190, 3) := by decide +kernel
theorem dX5_run_20 : decode cX5_run 20 = .ok (.ifCond .eq 5, 3) := by decide +kernel
theorem dX5_run_23 : decode cX5_run 23 = .ok (.iconst 0, 1) := by decide +kernel
theorem dX5_run_24 : decode cX5_run 24 = .ok (.ireturn, 1) := by decide +kernel
theorem dX5_run_25 : decode cX5_run 25 = .ok (.aload_n 0, 1) := by decide +kernel
theorem dX5_run_26 : decode cX5_run 26 = .ok (.getfield 50, 3) := by decide +kernel
theorem dX5_run_29 : decode cX5_run 29 = .ok (.iconst 0, 1) := by decide +kernel
theorem dX5_run_30 : decode cX5_run 30 = .ok (.iaload, 1) := by decide +kernel
theorem dX5_run_31 : decode cX5_run 31 = .ok (.istore_n 2, 1) := by decide +kernel
theorem dX5_run_32 : decode cX5_run 32 = .ok (.aload_n 0, 1) := by decide +kernel
theorem dX5_run_33 : decode cX5_run 33 = .ok (.getfield 50, 3) := by decide +kernel
theorem dX5_run_36 : decode cX5_run 36 = .ok (.bipush 11, 2) := by decide +kernel
theorem dX5_run_38 : decode cX5_run 38 = .ok (.iconst 0, 1) := by decide +kernel
theorem dX5_run_39 : decode cX5_run 39 = .ok (.iastore, 1) := by decide +kernel
theorem dX5_run_40 : decode cX5_run 40 = .ok (.aload_n 0, 1) := by decide +kernel
theorem dX5_run_41 : decode cX5_run 41 = .ok (.iconst (-1), 1) := by decide +kernel
theorem dX5_run_42 : decode cX5_run 42 = .ok (.putfield 56, 3) := by decide +kernel
theorem dX5_run_45 : decode cX5_run 45 = .ok (.aload_n 0, 1) := by decide +kernel
theorem dX5_run_46 : decode cX5_run 46 = .ok (.iconst 0, 1) := by decide +kernel
theorem dX5_run_47 : decode cX5_run 47 = .ok (.putfield 127, 3) := by decide +kernel
theorem dX5_run_50 : decode cX5_run 50 = .ok (.iconst 1, 1) := by decide +kernel
theorem dX5_run_51 : decode cX5_run 51 = .ok (.istore_n 3, 1) := by decide +kernel
theorem dX5_run_52 : decode cX5_run 52 = .ok (.iload_n 3, 1) := by decide +kernel
theorem dX5_run_53 : decode cX5_run 53 = .ok (.ifCond .eq 33, 3) := by decide +kernel
theorem dX5_run_56 : decode cX5_run 56 = .ok (.aload_n 0, 1) := by decide +kernel
theorem dX5_run_57 : decode cX5_run 57 = .ok (.getfield 50, 3) := by decide +kernel
theorem dX5_run_60 : decode cX5_run 60 = .ok (.iconst 0, 1) := by decide +kernel
theorem dX5_run_61 : decode cX5_run 61 = .ok (.iaload, 1) := by decide +kernel
theorem dX5_run_62 : decode cX5_run 62 = .ok (.iload_n 2, 1) := by decide +kernel
theorem dX5_run_63 : decode cX5_run 63 = .ok (.iload_n 1, 1) := by decide +kernel
theorem dX5_run_64 : decode cX5_run 64 = .ok (.iadd, 1) := by decide +kernel
theorem dX5_run_65 : decode cX5_run 65 = .ok (.if_icmp .ge 21, 3) := by decide +kernel
theorem dX5_run_68 : decode cX5_run 68 = .ok (.aload_n 0, 1) := by decide +kernel
theorem dX5_run_69 : decode cX5_run 69 = .ok (.iload_n 2, 1) := by decide +kernel
theorem dX5_run_70 : decode cX5_run 70 = .ok (.iload_n 1, 1) := by decide +kernel
theorem dX5_run_71 : decode cX5_run 71 = .ok (.iadd, 1) := by decide +kernel
theorem dX5_run_72 : decode cX5_run 72 = .ok (.aload_n 0, 1) := by decide +kernel
theorem dX5_run_73 : decode cX5_run 73 = .ok (.getfield 50, 3) := by decide +kernel
theorem dX5_run_76 : decode cX5_run 76 = .ok (.iconst 0, 1) := by decide +kernel
theorem dX5_run_77 : decode cX5_run 77 = .ok (.iaload, 1) := by decide +kernel
theorem dX5_run_78 : decode cX5_run 78 = .ok (.isub, 1) := by decide +kernel
theorem dX5_run_79 : decode cX5_run 79 = .ok (.invokevirtual 193, 3) := by decide +kernel
theorem dX5_run_82 : decode cX5_run 82 = .ok (.istore_n 3, 1) := by decide +kernel
theorem dX5_run_83 : decode cX5_run 83 = .ok (.goto (-31), 3) := by decide +kernel
theorem dX5_run_86 : decode cX5_run 86 = .ok (.aload_n 0, 1) := by decide +kernel
theorem dX5_run_87 : decode cX5_run 87 = .ok (.iconst (-1), 1) := by decide +kernel
theorem dX5_run_88 : decode cX5_run 88 = .ok (.putfield 56, 3) := by decide +kernel
theorem dX5_run_91 : decode cX5_run 91 = .ok (.aload_n 0, 1) := by decide +kernel
theorem dX5_run_92 : decode cX5_run 92 = .ok (.getfield 50, 3) := by decide +kernel
theorem dX5_run_95 : decode cX5_run 95 = .ok (.iconst 0, 1) := by decide +kernel
theorem dX5_run_96 : decode cX5_run 96 = .ok (.iaload, 1) := by decide +kernel
theorem dX5_run_97 : decode cX5_run 97 = .ok (.iload_n 2, 1) := by decide +kernel
theorem dX5_run_98 : decode cX5_run 98 = .ok (.isub, 1) := by decide +kernel
theorem dX5_run_99 : decode cX5_run 99 = .ok (.ireturn, 1) := by decide +kernel
set_option maxRecDepth 100000 in
theorem ggX5_poke_X5_isIn : GoodIn wsX5_poke wsX5_isIn := goodIn_r _ [5] rfl (by decide +kernel)
set_option maxRecDepth 100000 in
theorem gX5_poke_X5_isIn : GoodIn wsX5_poke (va_wsS RX5 186 yX5_isIn wsX5_isIn) := goodIn_app (goodIn_of _ (by decide +kernel)) ggX5_poke_X5_isIn
set_option maxRecDepth 100000 in
theorem ggX5_poke_X5_refused : GoodIn wsX5_poke wsX5_refused := goodIn_r _ [9, 10, 22, 23, 24, 25, 26, 27, 28, 29, 30, 31, 32, 33, 34, 35, 36, 37, 38, 39, 40, 41, 42, 43, 44, 45, 46, 47, 48] rfl (by decide +kernel)
set_option maxRecDepth 100000 in
theorem gX5_poke_X5_refused : GoodIn wsX5_poke (wsV RX5 190 RX5 yX5_refused wsX5_refused) := goodIn_app (goodIn_of _ (by decide +kernel)) ggX5_poke_X5_refused
set_option maxRecDepth 100000 in
theorem ggX5_poke_X5_invalidate : GoodIn wsX5_poke wsX5_invalidate := goodIn_r _ [14, 15, 16, 17, 18, 19, 4, 20, 21, 22, 23, 24, 25, 26, 27, 28, 29, 30, 31, 32, 33, 34, 35, 36, 37, 38, 39, 40, 41, 42, 43, 44, 45, 46, 47, 48] rfl (by decide +kernel)
set_option maxRecDepth 100000 in
theorem gX5_poke_X5_invalidate : GoodIn wsX5_poke (wsV RX5 108 RX5 yX5_invalidate wsX5_invalidate) := goodIn_app (goodIn_of _ (by decide +kernel)) ggX5_poke_X5_invalidate
theorem dX5_poke_0 : decode cX5_poke 0 = .ok (.aload_n 0, 1) := by decide +kernel
theorem dX5_poke_1 : decode cX5_poke 1 = .ok (.iload_n 1, 1) := by decide +kernel
theorem dX5_poke_2 : decode cX5_poke 2 = .ok (.iconst 0, 1) := by decide +kernel
theorem dX5_poke_3 : decode cX5_poke 3 = .ok (.sipush 255, 3) := by decide +kernel
theorem dX5_poke_6 : decode cX5_poke 6 = .ok (.invokestatic 186, 3) := by decide +kernel
theorem dX5_poke_9 : decode cX5_poke 9 = .ok (.ifCond .eq 16, 3) := by decide +kernel
theorem dX5_poke_12 : decode cX5_poke 12 = .ok (.iload_n 3, 1) := by decide +kernel
theorem dX5_poke_13 : decode cX5_poke 13 = .ok (.iconst 1, 1) := by decide +kernel
theorem dX5_poke_14 : decode cX5_poke 14 = .ok (.iconst 4, 1) := by decide +kernel
theorem dX5_poke_15 : decode cX5_poke 15 = .ok (.invokestatic 186, 3) := by decide +kernel
theorem dX5_poke_18 : decode cX5_poke 18 = .ok (.ifCond .eq 7, 3) := by decide +kernel
theorem dX5_poke_21 : decode cX5_poke 21 = .ok (.iconst 0, 1) := by decide +kernel
theorem dX5_poke_22 : decode cX5_poke 22 = .ok (.goto 4, 3) := by decide +kernel
theorem dX5_poke_25 : decode cX5_poke 25 = .ok (.iconst 1, 1) := by decide +kernel
theorem dX5_poke_26 : decode cX5_poke 26 = .ok (.invokevirtual 190, 3) := by decide +kernel
theorem dX5_poke_29 : decode cX5_poke 29 = .ok (.ifCond .eq 4, 3) := by decide +kernel
theorem dX5_poke_32 : decode cX5_poke 32 = .ok (.return_, 1) := by decide +kernel
theorem dX5_poke_33 : decode cX5_poke 33 = .ok (.iconst 0, 1) := by decide +kernel
theorem dX5_poke_34 : decode cX5_poke 34 = .ok (.istore 4, 2) := by decide +kernel
theorem dX5_poke_36 : decode cX5_poke 36 = .ok (.iload 4, 2) := by decide +kernel
theorem dX5_poke_38 : decode cX5_poke 38 = .ok (.iload_n 3, 1) := by decide +kernel
theorem dX5_poke_39 : decode cX5_poke 39 = .ok (.if_icmp .ge 48, 3) := by decide +kernel
theorem dX5_poke_42 : decode cX5_poke 42 = .ok (.iload_n 1, 1) := by decide +kernel
theorem dX5_poke_43 : decode cX5_poke 43 = .ok (.iload 4, 2) := by decide +kernel
theorem dX5_poke_45 : decode cX5_poke 45 = .ok (.iadd, 1) := by decide +kernel
theorem dX5_poke_46 : decode cX5_poke 46 = .ok (.sipush 255, 3) := by decide +kernel
theorem dX5_poke_49 : decode cX5_poke 49 = .ok (.iand, 1) := by decide +kernel
theorem dX5_poke_50 : decode cX5_poke 50 = .ok (.istore 5, 2) := by decide +kernel
theorem dX5_poke_52 : decode cX5_poke 52 = .ok (.aload_n 0, 1) := by decide +kernel
theorem dX5_poke_53 : decode cX5_poke 53 = .ok (.getfield 7, 3) := by decide +kernel
theorem dX5_poke_56 : decode cX5_poke 56 = .ok (.iload 5, 2) := by decide +kernel
theorem dX5_poke_58 : decode cX5_poke 58 = .ok (.iload_n 2, 1) := by decide +kernel
theorem dX5_poke_59 : decode cX5_poke 59 = .ok (.bipush 24, 2) := by decide +kernel
theorem dX5_poke_61 : decode cX5_poke 61 = .ok (.bipush 8, 2) := by decide +kernel
theorem dX5_poke_63 : decode cX5_poke 63 = .ok (.iload 4, 2) := by decide +kernel
theorem dX5_poke_65 : decode cX5_poke 65 = .ok (.imul, 1) := by decide +kernel
theorem dX5_poke_66 : decode cX5_poke 66 = .ok (.isub, 1) := by decide +kernel
theorem dX5_poke_67 : decode cX5_poke 67 = .ok (.ishr, 1) := by decide +kernel
theorem dX5_poke_68 : decode cX5_poke 68 = .ok (.sipush 255, 3) := by decide +kernel
theorem dX5_poke_71 : decode cX5_poke 71 = .ok (.iand, 1) := by decide +kernel
theorem dX5_poke_72 : decode cX5_poke 72 = .ok (.iastore, 1) := by decide +kernel
theorem dX5_poke_73 : decode cX5_poke 73 = .ok (.aload_n 0, 1) := by decide +kernel
theorem dX5_poke_74 : decode cX5_poke 74 = .ok (.iload 5, 2) := by decide +kernel
theorem dX5_poke_76 : decode cX5_poke 76 = .ok (.invokevirtual 108, 3) := by decide +kernel
theorem dX5_poke_79 : decode cX5_poke 79 = .ok (.istore 6, 2) := by decide +kernel
theorem dX5_poke_81 : decode cX5_poke 81 = .ok (.iinc 4 1, 3) := by decide +kernel
theorem dX5_poke_84 : decode cX5_poke 84 = .ok (.goto (-48), 3) := by decide +kernel
theorem dX5_poke_87 : decode cX5_poke 87 = .ok (.return_, 1) := by decide +kernel
set_option maxRecDepth 100000 in
theorem ggX5_peek_X5_isIn : GoodIn wsX5_peek wsX5_isIn := goodIn_r _ [5] rfl (by decide +kernel)
set_option maxRecDepth 100000 in
theorem gX5_peek_X5_isIn : GoodIn wsX5_peek (va_wsS RX5 186 yX5_isIn wsX5_isIn) := goodIn_app (goodIn_of _ (by decide +kernel)) ggX5_peek_X5_isIn
set_option maxRecDepth 100000 in
theorem ggX5_peek_X5_refused : GoodIn wsX5_peek wsX5_refused := goodIn_r _ [9, 10, 11, 12, 13, 14, 15, 16, 17, 18, 19, 20, 21, 22, 23, 24, 25, 26, 27, 28, 29, 30, 31, 32, 33, 34, 35, 36, 37] rfl (by decide +kernel)
set_option maxRecDepth 100000 in
theorem gX5_peek_X5_refused : GoodIn wsX5_peek (wsV RX5 190 RX5 yX5_refused wsX5_refused) := goodIn_app (goodIn_of _ (by decide +kernel)) ggX5_peek_X5_refused
theorem dX5_peek_0 : decode cX5_peek 0 = .ok (.aload_n 0, 1) := by decide +kernel
theorem dX5_peek_1 : decode cX5_peek 1 = .ok (.iload_n 1, 1) := by decide +kernel
theorem dX5_peek_2 : decode cX5_peek 2 = .ok (.iconst 0, 1) := by decide +kernel
theorem dX5_peek_3 : decode cX5_peek 3 = .ok (.sipush 255, 3) := by decide +kernel
theorem dX5_peek_6 : decode cX5_peek 6 = .ok (.invokestatic 186, 3) := by decide +kernel
theorem dX5_peek_9 : decode cX5_peek 9 = .ok (.ifCond .eq 7, 3) := by decide +kernel
theorem dX5_peek_12 : decode cX5_peek 12 = .ok (.iconst 0, 1) := by decide +kernel
theorem dX5_peek_13 : decode cX5_peek 13 = .ok (.goto 4, 3) := by decide +kernel
theorem dX5_peek_16 : decode cX5_peek 16 = .ok (.iconst 1, 1) := by decide +kernel
theorem dX5_peek_17 : decode cX5_peek 17 = .ok (.invokevirtual 190, 3) := by decide +kernel
theorem dX5_peek_20 : decode cX5_peek 20 = .ok (.ifCond .eq 5, 3) := by decide +kernel
theorem dX5_peek_23 : decode cX5_peek 23 = .ok (.iconst 0, 1) := by decide +kernel
theorem dX5_peek_24 : decode cX5_peek 24 = .ok (.ireturn, 1) := by decide +kernel
theorem dX5_peek_25 : decode cX5_peek 25 = .ok (.aload_n 0, 1) := by decide +kernel
theorem dX5_peek_26 : decode cX5_peek 26 = .ok (.getfield 7, 3) := by decide +kernel
theorem dX5_peek_29 : decode cX5_peek 29 = .ok (.iload_n 1, 1) := by decide +kernel
theorem dX5_peek_30 : decode cX5_peek 30 = .ok (.iaload, 1) := by decide +kernel
theorem dX5_peek_31 : decode cX5_peek 31 = .ok (.ireturn, 1) := by decide +kernel
set_option maxRecDepth 100000 in
theorem ggX5_set_X5_isIn : GoodIn wsX5_set wsX5_isIn := goodIn_r _ [5] rfl (by decide +kernel)
set_option maxRecDepth 100000 in
theorem gX5_set_X5_isIn : GoodIn wsX5_set (va_wsS RX5 186 yX5_isIn wsX5_isIn) := goodIn_app (goodIn_of _ (by decide +kernel)) ggX5_set_X5_isIn
set_option maxRecDepth 100000 in
theorem ggX5_set_X5_refused : GoodIn wsX5_set wsX5_refused := goodIn_r _ [9, 10, 11, 12, 13, 14, 15, 16, 17, 18, 19, 20, 21, 22, 23, 24, 25, 26, 27, 28, 29, 30, 31, 32, 33, 34, 35, 36, 37] rfl (by decide +kernel)
set_option maxRecDepth 100000 in
theorem gX5_set_X5_refused : GoodIn wsX5_set (wsV RX5 190 RX5 yX5_refused wsX5_refused) := goodIn_app (goodIn_of _ (by decide +kernel)) ggX5_set_X5_refused
theorem dX5_set_0 : decode cX5_set 0 = .ok (.iload_n 1, 1) := by decide +kernel
theorem dX5_set_1 : decode cX5_set 1 = .ok (.iconst 0, 1) := by decide +kernel
theorem dX5_set_2 : decode cX5_set 2 = .ok (.bipush 9, 2) := by decide +kernel
theorem dX5_set_4 : decode cX5_set 4 = .ok (.invokestatic 186, 3) := by decide +kernel
theorem dX5_set_7 : decode cX5_set 7 = .ok (.ifCond .eq 33, 3) := by decide +kernel
theorem dX5_set_10 : decode cX5_set 10 = .ok (.iload_n 2, 1) := by decide +kernel
theorem dX5_set_11 : decode cX5_set 11 = .ok (.iconst 0, 1) := by decide +kernel
theorem dX5_set_12 : decode cX5_set 12 = .ok (.iload_n 1, 1) := by decide +kernel
theorem dX5_set_13 : decode cX5_set 13 = .ok (.iconst 5, 1) := by decide +kernel
theorem dX5_set_14 : decode cX5_set 14 = .ok (.if_icmp .lt 13, 3) := by decide +kernel
theorem dX5_set_17 : decode cX5_set 17 = .ok (.iload_n 1, 1) := by decide +kernel
theorem dX5_set_18 : decode cX5_set 18 = .ok (.bipush 8, 2) := by decide +kernel
theorem dX5_set_20 : decode cX5_set 20 = .ok (.if_icmp .gt 7, 3) := by decide +kernel
theorem dX5_set_23 : decode cX5_set 23 = .ok (.iconst 1, 1) := by decide +kernel
theorem dX5_set_24 : decode cX5_set 24 = .ok (.goto 6, 3) := by decide +kernel
theorem dX5_set_27 : decode cX5_set 27 = .ok (.sipush 255, 3) := by decide +kernel
theorem dX5_set_30 : decode cX5_set 30 = .ok (.invokestatic 186, 3) := by decide +kernel
theorem dX5_set_33 : decode cX5_set 33 = .ok (.ifCond .eq 7, 3) := by decide +kernel
theorem dX5_set_36 : decode cX5_set 36 = .ok (.iconst 1, 1) := by decide +kernel
theorem dX5_set_37 : decode cX5_set 37 = .ok (.goto 4, 3) := by decide +kernel
theorem dX5_set_40 : decode cX5_set 40 = .ok (.iconst 0, 1) := by decide +kernel
theorem dX5_set_41 : decode cX5_set 41 = .ok (.istore_n 3, 1) := by decide +kernel
theorem dX5_set_42 : decode cX5_set 42 = .ok (.aload_n 0, 1) := by decide +kernel
theorem dX5_set_43 : decode cX5_set 43 = .ok (.iload_n 3, 1) := by decide +kernel
theorem dX5_set_44 : decode cX5_set 44 = .ok (.ifCond .eq 7, 3) := by decide +kernel
theorem dX5_set_47 : decode cX5_set 47 = .ok (.iconst 0, 1) := by decide +kernel
theorem dX5_set_48 : decode cX5_set 48 = .ok (.goto 4, 3) := by decide +kernel
theorem dX5_set_51 : decode cX5_set 51 = .ok (.iconst 1, 1) := by decide +kernel
theorem dX5_set_52 : decode cX5_set 52 = .ok (.invokevirtual 190, 3) := by decide +kernel
theorem dX5_set_55 : decode cX5_set 55 = .ok (.ifCond .eq 4, 3) := by decide +kernel
theorem dX5_set_58 : decode cX5_set 58 = .ok (.return_, 1) := by decide +kernel
theorem dX5_set_59 : decode cX5_set 59 = .ok (.aload_n 0, 1) := by decide +kernel
theorem dX5_set_60 : decode cX5_set 60 = .ok (.getfield 13, 3) := by decide +kernel
theorem dX5_set_63 : decode cX5_set 63 = .ok (.iload_n 1, 1) := by decide +kernel
theorem dX5_set_64 : decode cX5_set 64 = .ok (.iload_n 2, 1) := by decide +kernel
theorem dX5_set_65 : decode cX5_set 65 = .ok (.iastore, 1) := by decide +kernel
theorem dX5_set_66 : decode cX5_set 66 = .ok (.return_, 1) := by decide +kernel
set_option maxRecDepth 100000 in
theorem ggX5_get_X5_isIn : GoodIn wsX5_get wsX5_isIn := goodIn_r _ [5] rfl (by decide +kernel)
set_option maxRecDepth 100000 in
theorem gX5_get_X5_isIn : GoodIn wsX5_get (va_wsS RX5 186 yX5_isIn wsX5_isIn) := goodIn_app (goodIn_of _ (by decide +kernel)) ggX5_get_X5_isIn
set_option maxRecDepth 100000 in
theorem ggX5_get_X5_refused : GoodIn wsX5_get wsX5_refused := goodIn_r _ [9, 10, 11, 12, 13, 14, 15, 16, 17, 18, 19, 20, 21, 22, 23, 24, 25, 26, 27, 28, 29, 30, 31, 32, 33, 34, 35, 36, 37] rfl (by decide +kernel)
set_option maxRecDepth 100000 in
theorem gX5_get_X5_refused : GoodIn wsX5_get (wsV RX5 190 RX5 yX5_refused wsX5_refused) := goodIn_app (goodIn_of _ (by decide +kernel)) ggX5_get_X5_refused
theorem dX5_get_0 : decode cX5_get 0 = .ok (.aload_n 0, 1) := by decide +kernel
theorem dX5_get_1 : decode cX5_get 1 = .ok (.iload_n 1, 1) := by decide +kernel
theorem dX5_get_2 : decode cX5_get 2 = .ok (.iconst 0, 1) := by decide +kernel
theorem dX5_get_3 : decode cX5_get 3 = .ok (.bipush 9, 2) := by decide +kernel
theorem dX5_get_5 : decode cX5_get 5 = .ok (.invokestatic 186, 3) := by decide +kernel
theorem dX5_get_8 : decode cX5_get 8 = .ok (.ifCond .eq 7, 3) := by decide +kernel
theorem dX5_get_11 : decode cX5_get 11 = .ok (.iconst 0, 1) := by decide +kernel
theorem dX5_get_12 : decode cX5_get 12 = .ok (.goto 4, 3) := by decide +kernel
theorem dX5_get_15 : decode cX5_get 15 = .ok (.iconst 1, 1) := by decide +kernel
theorem dX5_get_16 : decode cX5_get 16 = .ok (.invokevirtual 190, 3) := by decide +kernel
theorem dX5_get_19 : decode cX5_get 19 = .ok (.ifCond .eq 5, 3) := by decide +kernel
theorem dX5_get_22 : decode cX5_get 22 = .ok (.iconst 0, 1) := by decide +kernel
theorem dX5_get_23 : decode cX5_get 23 = .ok (.ireturn, 1) := by decide +kernel
theorem dX5_get_24 : decode cX5_get 24 = .ok (.aload_n 0, 1) := by decide +kernel
theorem dX5_get_25 : decode cX5_get 25 = .ok (.getfield 13, 3) := by decide +kernel
theorem dX5_get_28 : decode cX5_get 28 = .ok (.iload_n 1, 1) := by decide +kernel
theorem dX5_get_29 : decode cX5_get 29 = .ok (.iaload, 1) := by decide +kernel
theorem dX5_get_30 : decode cX5_get 30 = .ok (.ireturn, 1) := by decide +kernel
set_option maxRecDepth 100000 in
theorem ggX5_input_X5_isIn : GoodIn wsX5_input wsX5_isIn := goodIn_r _ [6] rfl (by decide +kernel)
set_option maxRecDepth 100000 in
theorem gX5_input_X5_isIn : GoodIn wsX5_input (va_wsS RX5 186 yX5_isIn wsX5_isIn) := goodIn_app (goodIn_of _ (by decide +kernel)) ggX5_input_X5_isIn
set_option maxRecDepth 100000 in
theorem ggX5_input_X5_refused : GoodIn wsX5_input wsX5_refused := goodIn_r _ [10, 11, 12, 13, 14, 15, 16, 17, 18, 19, 20, 21, 22, 23, 24, 25, 26, 27, 28, 29, 30, 31, 32, 33, 34, 35, 36, 37, 38] rfl (by decide +kernel)
set_option maxRecDepth 100000 in
theorem gX5_input_X5_refused : GoodIn wsX5_input (wsV RX5 190 RX5 yX5_refused wsX5_refused) := goodIn_app (goodIn_of _ (by decide +kernel)) ggX5_input_X5_refused
theorem dX5_input_0 : decode cX5_input 0 = .ok (.aload_n 0, 1) := by decide +kernel
theorem dX5_input_1 : decode cX5_input 1 = .ok (.iload_n 1, 1) := by decide +kernel
theorem dX5_input_2 : decode cX5_input 2 = .ok (.iconst 0, 1) := by decide +kernel
theorem dX5_input_3 : decode cX5_input 3 = .ok (.sipush 255, 3) := by decide +kernel
theorem dX5_input_6 : decode cX5_input 6 = .ok (.invokestatic 186, 3) := by decide +kernel
theorem dX5_input_9 : decode cX5_input 9 = .ok (.ifCond .ne 7, 3) := by decide +kernel
theorem dX5_input_12 : decode cX5_input 12 = .ok (.iconst 1, 1) := by decide +kernel
theorem dX5_input_13 : decode cX5_input 13 = .ok (.goto 17, 3) := by decide +kernel
theorem dX5_input_16 : decode cX5_input 16 = .ok (.aload_n 0, 1) := by decide +kernel
theorem dX5_input_17 : decode cX5_input 17 = .ok (.getfield 159, 3) := by decide +kernel
theorem dX5_input_20 : decode cX5_input 20 = .ok (.bipush 32, 2) := by decide +kernel
theorem dX5_input_22 : decode cX5_input 22 = .ok (.if_icmp .ne 7, 3) := by decide +kernel
theorem dX5_input_25 : decode cX5_input 25 = .ok (.iconst 2, 1) := by decide +kernel
theorem dX5_input_26 : decode cX5_input 26 = .ok (.goto 4, 3) := by decide +kernel
theorem dX5_input_29 : decode cX5_input 29 = .ok (.iconst 0, 1) := by decide +kernel
theorem dX5_input_30 : decode cX5_input 30 = .ok (.invokevirtual 190, 3) := by decide +kernel
theorem dX5_input_33 : decode cX5_input 33 = .ok (.ifCond .eq 5, 3) := by decide +kernel
theorem dX5_input_36 : decode cX5_input 36 = .ok (.iconst 0, 1) := by decide +kernel
theorem dX5_input_37 : decode cX5_input 37 = .ok (.ireturn, 1) := by decide +kernel
theorem dX5_input_38 : decode cX5_input 38 = .ok (.aload_n 0, 1) := by decide +kernel
theorem dX5_input_39 : decode cX5_input 39 = .ok (.getfield 16, 3) := by decide +kernel
theorem dX5_input_42 : decode cX5_input 42 = .ok (.aload_n 0, 1) := by decide +kernel
theorem dX5_input_43 : decode cX5_input 43 = .ok (.getfield 159, 3) := by decide +kernel
theorem dX5_input_46 : decode cX5_input 46 = .ok (.iload_n 1, 1) := by decide +kernel
theorem dX5_input_47 : decode cX5_input 47 = .ok (.iastore, 1) := by decide +kernel
theorem dX5_input_48 : decode cX5_input 48 = .ok (.aload_n 0, 1) := by decide +kernel
theorem dX5_input_49 : decode cX5_input 49 = .ok (.dup, 1) := by decide +kernel
theorem dX5_input_50 : decode cX5_input 50 = .ok (.getfield 159, 3) := by decide +kernel
theorem dX5_input_53 : decode cX5_input 53 = .ok (.iconst 1, 1) := by decide +kernel
theorem dX5_input_54 : decode cX5_input 54 = .ok (.iadd, 1) := by decide +kernel
theorem dX5_input_55 : decode cX5_input 55 = .ok (.putfield 159, 3) := by decide +kernel
theorem dX5_input_58 : decode cX5_input 58 = .ok (.aload_n 0, 1) := by decide +kernel
theorem dX5_input_59 : decode cX5_input 59 = .ok (.getfield 159, 3) := by decide +kernel
theorem dX5_input_62 : decode cX5_input 62 = .ok (.ireturn, 1) := by decide +kernel
set_option maxRecDepth 100000 in
theorem ggX5_request_X5_refused : GoodIn wsX5_request wsX5_refused := goodIn_r _ [9, 10, 11, 12, 13, 14, 15, 16, 17, 18, 19, 20, 21, 22, 23, 24, 25, 26, 27, 28, 29, 30, 31, 32, 33, 34, 35, 36, 37] rfl (by decide +kernel)
set_option maxRecDepth 100000 in
theorem gX5_request_X5_refused : GoodIn wsX5_request (wsV RX5 190 RX5 yX5_refused wsX5_refused) := goodIn_app (goodIn_of _ (by decide +kernel)) ggX5_request_X5_refused
theorem dX5_request_0 : decode cX5_request 0 = .ok (.aload_n 0, 1) := by decide +kernel
theorem dX5_request_1 : decode cX5_request 1 = .ok (.iload_n 1, 1) := by decide +kernel
theorem dX5_request_2 : decode cX5_request 2 = .ok (.aload_n 0, 1) := by decide +kernel
theorem dX5_request_3 : decode cX5_request 3 = .ok (.getfield 22, 3) := by decide +kernel
theorem dX5_request_6 : decode cX5_request 6 = .ok (.if_icmp .le 13, 3) := by decide +kernel
theorem dX5_request_9 : decode cX5_request 9 = .ok (.iload_n 1, 1) := by decide +kernel
theorem dX5_request_10 : decode cX5_request 10 = .ok (.aload_n 0, 1) := by decide +kernel
theorem dX5_request_11 : decode cX5_request 11 = .ok (.getfield 50, 3) := by decide +kernel
theorem dX5_request_14 : decode cX5_request 14 = .ok (.iconst 0, 1) := by decide +kernel
theorem dX5_request_15 : decode cX5_request 15 = .ok (.iaload, 1) := by decide +kernel
theorem dX5_request_16 : decode cX5_request 16 = .ok (.if_icmp .ge 7, 3) := by decide +kernel
theorem dX5_request_19 : decode cX5_request 19 = .ok (.iconst 1, 1) := by decide +kernel
theorem dX5_request_20 : decode cX5_request 20 = .ok (.goto 17, 3) := by decide +kernel
theorem dX5_request_23 : decode cX5_request 23 = .ok (.aload_n 0, 1) := by decide +kernel
theorem dX5_request_24 : decode cX5_request 24 = .ok (.getfield 162, 3) := by decide +kernel
theorem dX5_request_27 : decode cX5_request 27 = .ok (.bipush 16, 2) := by decide +kernel
theorem dX5_request_29 : decode cX5_request 29 = .ok (.if_icmp .ne 7, 3) := by decide +kernel
theorem dX5_request_32 : decode cX5_request 32 = .ok (.iconst 2, 1) := by decide +kernel
theorem dX5_request_33 : decode cX5_request 33 = .ok (.goto 4, 3) := by decide +kernel
theorem dX5_request_36 : decode cX5_request 36 = .ok (.iconst 0, 1) := by decide +kernel
theorem dX5_request_37 : decode cX5_request 37 = .ok (.invokevirtual 190, 3) := by decide +kernel
theorem dX5_request_40 : decode cX5_request 40 = .ok (.ifCond .eq 5, 3) := by decide +kernel
theorem dX5_request_43 : decode cX5_request 43 = .ok (.iconst 0, 1) := by decide +kernel
theorem dX5_request_44 : decode cX5_request 44 = .ok (.ireturn, 1) := by decide +kernel
theorem dX5_request_45 : decode cX5_request 45 = .ok (.aload_n 0, 1) := by decide +kernel
theorem dX5_request_46 : decode cX5_request 46 = .ok (.getfield 19, 3) := by decide +kernel
theorem dX5_request_49 : decode cX5_request 49 = .ok (.aload_n 0, 1) := by decide +kernel
theorem dX5_request_50 : decode cX5_request 50 = .ok (.getfield 162, 3) := by decide +kernel
theorem dX5_request_53 : decode cX5_request 53 = .ok (.iload_n 1, 1) := by decide +kernel
theorem dX5_request_54 : decode cX5_request 54 = .ok (.iastore, 1) := by decide +kernel
theorem dX5_request_55 : decode cX5_request 55 = .ok (.aload_n 0, 1) := by decide +kernel
theorem dX5_request_56 : decode cX5_request 56 = .ok (.dup, 1) := by decide +kernel
theorem dX5_request_57 : decode cX5_request 57 = .ok (.getfield 162, 3) := by decide +kernel
theorem dX5_request_60 : decode cX5_request 60 = .ok (.iconst 1, 1) := by decide +kernel
theorem dX5_request_61 : decode cX5_request 61 = .ok (.iadd, 1) := by decide +kernel
theorem dX5_request_62 : decode cX5_request 62 = .ok (.putfield 162, 3) := by decide +kernel
theorem dX5_request_65 : decode cX5_request 65 = .ok (.aload_n 0, 1) := by decide +kernel
theorem dX5_request_66 : decode cX5_request 66 = .ok (.iload_n 1, 1) := by decide +kernel
theorem dX5_request_67 : decode cX5_request 67 = .ok (.putfield 22, 3) := by decide +kernel
theorem dX5_request_70 : decode cX5_request 70 = .ok (.aload_n 0, 1) := by decide +kernel
theorem dX5_request_71 : decode cX5_request 71 = .ok (.getfield 162, 3) := by decide +kernel
theorem dX5_request_74 : decode cX5_request 74 = .ok (.ireturn, 1) := by decide +kernel
set_option maxRecDepth 100000 in
theorem ggX5_room_X5_isIn : GoodIn wsX5_room wsX5_isIn := goodIn_r _ [5] rfl (by decide +kernel)
set_option maxRecDepth 100000 in
theorem gX5_room_X5_isIn : GoodIn wsX5_room (va_wsS RX5 186 yX5_isIn wsX5_isIn) := goodIn_app (goodIn_of _ (by decide +kernel)) ggX5_room_X5_isIn
set_option maxRecDepth 100000 in
theorem ggX5_room_X5_refused : GoodIn wsX5_room wsX5_refused := goodIn_r _ [9, 10, 21, 22, 23, 24, 25, 26, 27, 28, 29, 30, 31, 32, 33, 34, 35, 36, 37, 38, 39, 40, 41, 42, 43, 44, 45, 46, 47] rfl (by decide +kernel)
set_option maxRecDepth 100000 in
theorem gX5_room_X5_refused : GoodIn wsX5_room (wsV RX5 190 RX5 yX5_refused wsX5_refused) := goodIn_app (goodIn_of _ (by decide +kernel)) ggX5_room_X5_refused
set_option maxRecDepth 100000 in
theorem ggX5_room_X5_empty : GoodIn wsX5_room wsX5_empty := goodIn_r _ [14, 15, 16, 17, 18, 4, 19, 20, 21, 22, 23, 24, 25, 26, 27, 28, 29, 30, 31, 32, 33, 34, 35, 36, 37, 38, 39, 40, 41, 42, 43, 44, 45, 46, 47] rfl (by decide +kernel)
set_option maxRecDepth 100000 in
theorem gX5_room_X5_empty : GoodIn wsX5_room (wsV RX5 114 RX5 yX5_empty wsX5_empty) := goodIn_app (goodIn_of _ (by decide +kernel)) ggX5_room_X5_empty
theorem dX5_room_0 : decode cX5_room 0 = .ok (.aload_n 0, 1) := by decide +kernel
theorem dX5_room_1 : decode cX5_room 1 = .ok (.iload_n 1, 1) := by decide +kernel
theorem dX5_room_2 : decode cX5_room 2 = .ok (.iconst 1, 1) := by decide +kernel
theorem dX5_room_3 : decode cX5_room 3 = .ok (.sipush 400, 3) := by decide +kernel
theorem dX5_room_6 : decode cX5_room 6 = .ok (.invokestatic 186, 3) := by decide +kernel
theorem dX5_room_9 : decode cX5_room 9 = .ok (.ifCond .eq 7, 3) := by decide +kernel
theorem dX5_room_12 : decode cX5_room 12 = .ok (.iconst 0, 1) := by decide +kernel
theorem dX5_room_13 : decode cX5_room 13 = .ok (.goto 4, 3) := by decide +kernel
theorem dX5_room_16 : decode cX5_room 16 = .ok (.iconst 1, 1) := by decide +kernel
theorem dX5_room_17 : decode cX5_room 17 = .ok (.invokevirtual 190, 3) := by decide +kernel
theorem dX5_room_20 : decode cX5_room 20 = .ok (.ifCond .eq 4, 3) := by decide +kernel
theorem dX5_room_23 : decode cX5_room 23 = .ok (.return_, 1) := by decide +kernel
theorem dX5_room_24 : decode cX5_room 24 = .ok (.aload_n 0, 1) := by decide +kernel
theorem dX5_room_25 : decode cX5_room 25 = .ok (.iload_n 1, 1) := by decide +kernel
theorem dX5_room_26 : decode cX5_room 26 = .ok (.putfield 47, 3) := by decide +kernel
theorem dX5_room_29 : decode cX5_room 29 = .ok (.aload_n 0, 1) := by decide +kernel
theorem dX5_room_30 : decode cX5_room 30 = .ok (.invokevirtual 114, 3) := by decide +kernel
theorem dX5_room_33 : decode cX5_room 33 = .ok (.return_, 1) := by decide +kernel
set_option maxRecDepth 100000 in
theorem ggX5_output_X5_isIn : GoodIn wsX5_output wsX5_isIn := goodIn_r _ [7] rfl (by decide +kernel)
set_option maxRecDepth 100000 in
theorem gX5_output_X5_isIn : GoodIn wsX5_output (va_wsS RX5 186 yX5_isIn wsX5_isIn) := goodIn_app (goodIn_of _ (by decide +kernel)) ggX5_output_X5_isIn
theorem dX5_output_0 : decode cX5_output 0 = .ok (.aload_n 0, 1) := by decide +kernel
theorem dX5_output_1 : decode cX5_output 1 = .ok (.iconst 0, 1) := by decide +kernel
theorem dX5_output_2 : decode cX5_output 2 = .ok (.putfield 59, 3) := by decide +kernel
theorem dX5_output_5 : decode cX5_output 5 = .ok (.iload_n 1, 1) := by decide +kernel
theorem dX5_output_6 : decode cX5_output 6 = .ok (.iconst 0, 1) := by decide +kernel
theorem dX5_output_7 : decode cX5_output 7 = .ok (.aload_n 0, 1) := by decide +kernel
theorem dX5_output_8 : decode cX5_output 8 = .ok (.getfield 50, 3) := by decide +kernel
theorem dX5_output_11 : decode cX5_output 11 = .ok (.bipush 10, 2) := by decide +kernel
theorem dX5_output_13 : decode cX5_output 13 = .ok (.iaload, 1) := by decide +kernel
theorem dX5_output_14 : decode cX5_output 14 = .ok (.iconst 1, 1) := by decide +kernel
theorem dX5_output_15 : decode cX5_output 15 = .ok (.isub, 1) := by decide +kernel
theorem dX5_output_16 : decode cX5_output 16 = .ok (.invokestatic 186, 3) := by decide +kernel
theorem dX5_output_19 : decode cX5_output 19 = .ok (.ifCond .eq 18, 3) := by decide +kernel
theorem dX5_output_22 : decode cX5_output 22 = .ok (.iload_n 1, 1) := by decide +kernel
theorem dX5_output_23 : decode cX5_output 23 = .ok (.bipush 100, 2) := by decide +kernel
theorem dX5_output_25 : decode cX5_output 25 = .ok (.if_icmp .ge 12, 3) := by decide +kernel
theorem dX5_output_28 : decode cX5_output 28 = .ok (.aload_n 0, 1) := by decide +kernel
theorem dX5_output_29 : decode cX5_output 29 = .ok (.getfield 26, 3) := by decide +kernel
theorem dX5_output_32 : decode cX5_output 32 = .ok (.iload_n 1, 1) := by decide +kernel
theorem dX5_output_33 : decode cX5_output 33 = .ok (.iaload, 1) := by decide +kernel
theorem dX5_output_34 : decode cX5_output 34 = .ok (.goto 4, 3) := by decide +kernel
theorem dX5_output_37 : decode cX5_output 37 = .ok (.iconst (-1), 1) := by decide +kernel
theorem dX5_output_38 : decode cX5_output 38 = .ok (.ireturn, 1) := by decide +kernel
set_option maxRecDepth 100000 in
theorem ggX5_count_X5_isIn : GoodIn wsX5_count wsX5_isIn := goodIn_r _ [5] rfl (by decide +kernel)
set_option maxRecDepth 100000 in
theorem gX5_count_X5_isIn : GoodIn wsX5_count (va_wsS RX5 186 yX5_isIn wsX5_isIn) := goodIn_app (goodIn_of _ (by decide +kernel)) ggX5_count_X5_isIn
set_option maxRecDepth 100000 in
theorem ggX5_count_X5_refused : GoodIn wsX5_count wsX5_refused := goodIn_r _ [9, 10, 11, 12, 13, 14, 15, 16, 17, 18, 19, 20, 21, 22, 23, 24, 25, 26, 27, 28, 29, 30, 31, 32, 33, 34, 35, 36, 37] rfl (by decide +kernel)
set_option maxRecDepth 100000 in
theorem gX5_count_X5_refused : GoodIn wsX5_count (wsV RX5 190 RX5 yX5_refused wsX5_refused) := goodIn_app (goodIn_of _ (by decide +kernel)) ggX5_count_X5_refused
theorem dX5_count_0 : decode cX5_count 0 = .ok (.aload_n 0, 1) := by decide +kernel
theorem dX5_count_1 : decode cX5_count 1 = .ok (.iload_n 1, 1) := by decide +kernel
theorem dX5_count_2 : decode cX5_count 2 = .ok (.iconst 0, 1) := by decide +kernel
theorem dX5_count_3 : decode cX5_count 3 = .ok (.bipush 11, 2) := by decide +kernel
theorem dX5_count_5 : decode cX5_count 5 = .ok (.invokestatic 186, 3) := by decide +kernel
theorem dX5_count_8 : decode cX5_count 8 = .ok (.ifCond .eq 7, 3) := by decide +kernel
theorem dX5_count_11 : decode cX5_count 11 = .ok (.iconst 0, 1) := by decide +kernel
theorem dX5_count_12 : decode cX5_count 12 = .ok (.goto 4, 3) := by decide +kernel
theorem dX5_count_15 : decode cX5_count 15 = .ok (.iconst 1, 1) := by decide +kernel
theorem dX5_count_16 : decode cX5_count 16 = .ok (.invokevirtual 190, 3) := by decide +kernel
theorem dX5_count_19 : decode cX5_count 19 = .ok (.ifCond .eq 5, 3) := by decide +kernel
theorem dX5_count_22 : decode cX5_count 22 = .ok (.iconst 0, 1) := by decide +kernel
theorem dX5_count_23 : decode cX5_count 23 = .ok (.ireturn, 1) := by decide +kernel
theorem dX5_count_24 : decode cX5_count 24 = .ok (.aload_n 0, 1) := by decide +kernel
theorem dX5_count_25 : decode cX5_count 25 = .ok (.getfield 50, 3) := by decide +kernel
theorem dX5_count_28 : decode cX5_count 28 = .ok (.iload_n 1, 1) := by decide +kernel
theorem dX5_count_29 : decode cX5_count 29 = .ok (.iaload, 1) := by decide +kernel
theorem dX5_count_30 : decode cX5_count 30 = .ok (.ireturn, 1) := by decide +kernel
theorem dJ7_fill_53178_0 : decode cJ7_fill_53178 0 = .ok (.iconst 0, 1) := by decide +kernel
theorem dJ7_fill_53178_1 : decode cJ7_fill_53178 1 = .ok (.istore_n 2, 1) := by decide +kernel
theorem dJ7_fill_53178_2 : decode cJ7_fill_53178 2 = .ok (.aload_n 0, 1) := by decide +kernel
theorem dJ7_fill_53178_3 : decode cJ7_fill_53178 3 = .ok (.arraylength, 1) := by decide +kernel
theorem dJ7_fill_53178_4 : decode cJ7_fill_53178 4 = .ok (.istore_n 3, 1) := by decide +kernel
theorem dJ7_fill_53178_5 : decode cJ7_fill_53178 5 = .ok (.iload_n 2, 1) := by decide +kernel
theorem dJ7_fill_53178_6 : decode cJ7_fill_53178 6 = .ok (.iload_n 3, 1) := by decide +kernel
theorem dJ7_fill_53178_7 : decode cJ7_fill_53178 7 = .ok (.if_icmp .ge 13, 3) := by decide +kernel
theorem dJ7_fill_53178_10 : decode cJ7_fill_53178 10 = .ok (.aload_n 0, 1) := by decide +kernel
theorem dJ7_fill_53178_11 : decode cJ7_fill_53178 11 = .ok (.iload_n 2, 1) := by decide +kernel
theorem dJ7_fill_53178_12 : decode cJ7_fill_53178 12 = .ok (.iload_n 1, 1) := by decide +kernel
theorem dJ7_fill_53178_13 : decode cJ7_fill_53178 13 = .ok (.iastore, 1) := by decide +kernel
theorem dJ7_fill_53178_14 : decode cJ7_fill_53178 14 = .ok (.iinc 2 1, 3) := by decide +kernel
theorem dJ7_fill_53178_17 : decode cJ7_fill_53178 17 = .ok (.goto (-12), 3) := by decide +kernel
theorem dJ7_fill_53178_20 : decode cJ7_fill_53178 20 = .ok (.return_, 1) := by decide +kernel
end
section
set_option maxRecDepth 100000 in
theorem ggL_poke_X4_poke : GoodIn wsL_poke wsX4_poke := goodIn_ca (goodIn_r _ [6, 7, 8, 9, 10, 11, 12, 13, 5, 14, 15, 16, 17, 18, 19, 20, 21, 22, 23, 24, 25, 26, 27, 28, 29, 30, 31, 32, 33, 34, 35, 36, 37, 38, 39, 40, 41, 42, 43, 44, 45, 46, 47, 48, 49, 50, 51, 52, 53, 54, 55, 56, 57, 58, 59, 60, 61, 62] rfl (by decide +kernel)) (goodIn_sub (fun _ h => List.mem_cons_of_mem _ (List.mem_append_right _ h)) (by decide +kernel))
set_option maxRecDepth 100000 in
theorem gL_poke_X4_poke : GoodIn wsL_poke (wsV RL 7 RX4 yX4_poke wsX4_poke) := goodIn_app (goodIn_of _ (by decide +kernel)) ggL_poke_X4_poke
theorem dL_poke_0 : decode cL_poke 0 = .ok (.aload_n 0, 1) := by decide +kernel
theorem dL_poke_1 : decode cL_poke 1 = .ok (.iload_n 1, 1) := by decide +kernel
theorem dL_poke_2 : decode cL_poke 2 = .ok (.iload_n 2, 1) := by decide +kernel
theorem dL_poke_3 : decode cL_poke 3 = .ok (.iload_n 3, 1) := by decide +kernel
theorem dL_poke_4 : decode cL_poke 4 = .ok (.invokevirtual 7, 3) := by decide +kernel
theorem dL_poke_7 : decode cL_poke 7 = .ok (.goto 7, 3) := by decide +kernel
theorem dL_poke_10 : decode cL_poke 10 = .ok (.astore 4, 2) := by decide +kernel
theorem dL_poke_12 : decode cL_poke 12 = .ok (.iconst 1, 1) := by decide +kernel
theorem dL_poke_13 : decode cL_poke 13 = .ok (.ireturn, 1) := by decide +kernel
theorem dL_poke_14 : decode cL_poke 14 = .ok (.iconst 0, 1) := by decide +kernel
theorem dL_poke_15 : decode cL_poke 15 = .ok (.ireturn, 1) := by decide +kernel
set_option maxRecDepth 100000 in
theorem ggL_peek_X4_peek : GoodIn wsL_peek wsX4_peek := goodIn_ca (goodIn_r _ [6, 7, 8, 9, 10, 11, 12, 5, 13, 14, 15, 16, 17, 18, 19, 20, 21, 22, 23, 24, 25, 26, 27, 28, 29, 30] rfl (by decide +kernel)) (goodIn_sub (fun _ h => List.mem_cons_of_mem _ (List.mem_append_right _ h)) (by decide +kernel))
set_option maxRecDepth 100000 in
theorem gL_peek_X4_peek : GoodIn wsL_peek (wsV RL 15 RX4 yX4_peek wsX4_peek) := goodIn_app (goodIn_of _ (by decide +kernel)) ggL_peek_X4_peek
theorem dL_peek_0 : decode cL_peek 0 = .ok (.aload_n 2, 1) := by decide +kernel
theorem dL_peek_1 : decode cL_peek 1 = .ok (.iconst 0, 1) := by decide +kernel
theorem dL_peek_2 : decode cL_peek 2 = .ok (.aload_n 0, 1) := by decide +kernel
theorem dL_peek_3 : decode cL_peek 3 = .ok (.iload_n 1, 1) := by decide +kernel
theorem dL_peek_4 : decode cL_peek 4 = .ok (.invokevirtual 15, 3) := by decide +kernel
theorem dL_peek_7 : decode cL_peek 7 = .ok (.i2l, 1) := by decide +kernel
theorem dL_peek_8 : decode cL_peek 8 = .ok (.lastore, 1) := by decide +kernel
theorem dL_peek_9 : decode cL_peek 9 = .ok (.goto 6, 3) := by decide +kernel
theorem dL_peek_12 : decode cL_peek 12 = .ok (.astore_n 3, 1) := by decide +kernel
theorem dL_peek_13 : decode cL_peek 13 = .ok (.iconst 1, 1) := by decide +kernel
theorem dL_peek_14 : decode cL_peek 14 = .ok (.ireturn, 1) := by decide +kernel
theorem dL_peek_15 : decode cL_peek 15 = .ok (.iconst 0, 1) := by decide +kernel
theorem dL_peek_16 : decode cL_peek 16 = .ok (.ireturn, 1) := by decide +kernel
set_option maxRecDepth 100000 in
theorem ggL_set_X4_set : GoodIn wsL_set wsX4_set := goodIn_ca (goodIn_r _ [6, 7, 8, 9, 10, 11, 12, 5, 13, 14, 15, 16, 17, 18, 19, 20, 21, 22, 23, 24, 25, 26, 27, 28, 29, 30, 31, 32, 33, 34, 35, 36] rfl (by decide +kernel)) (goodIn_sub (fun _ h => List.mem_cons_of_mem _ (List.mem_append_right _ h)) (by decide +kernel))
set_option maxRecDepth 100000 in
theorem gL_set_X4_set : GoodIn wsL_set (wsV RL 19 RX4 yX4_set wsX4_set) := goodIn_app (goodIn_of _ (by decide +kernel)) ggL_set_X4_set
theorem dL_set_0 : decode cL_set 0 = .ok (.aload_n 0, 1) := by decide +kernel
theorem dL_set_1 : decode cL_set 1 = .ok (.iload_n 1, 1) := by decide +kernel
theorem dL_set_2 : decode cL_set 2 = .ok (.iload_n 2, 1) := by decide +kernel
theorem dL_set_3 : decode cL_set 3 = .ok (.invokevirtual 19, 3) := by decide +kernel
theorem dL_set_6 : decode cL_set 6 = .ok (.goto 6, 3) := by decide +kernel
theorem dL_set_9 : decode cL_set 9 = .ok (.astore_n 3, 1) := by decide +kernel
theorem dL_set_10 : decode cL_set 10 = .ok (.iconst 1, 1) := by decide +kernel
theorem dL_set_11 : decode cL_set 11 = .ok (.ireturn, 1) := by decide +kernel
theorem dL_set_12 : decode cL_set 12 = .ok (.iconst 0, 1) := by decide +kernel
theorem dL_set_13 : decode cL_set 13 = .ok (.ireturn, 1) := by decide +kernel
set_option maxRecDepth 100000 in
theorem ggL_get_X4_get : GoodIn wsL_get wsX4_get := goodIn_ca (goodIn_r _ [6, 7, 8, 9, 10, 11, 12, 5, 13, 14, 15, 16, 17, 18, 19, 20, 21, 22, 23, 24, 25, 26, 27, 28, 29, 30] rfl (by decide +kernel)) (goodIn_sub (fun _ h => List.mem_cons_of_mem _ (List.mem_append_right _ h)) (by decide +kernel))
set_option maxRecDepth 100000 in
theorem gL_get_X4_get : GoodIn wsL_get (wsV RL 23 RX4 yX4_get wsX4_get) := goodIn_app (goodIn_of _ (by decide +kernel)) ggL_get_X4_get
theorem dL_get_0 : decode cL_get 0 = .ok (.aload_n 2, 1) := by decide +kernel
theorem dL_get_1 : decode cL_get 1 = .ok (.iconst 0, 1) := by decide +kernel
theorem dL_get_2 : decode cL_get 2 = .ok (.aload_n 0, 1) := by decide +kernel
theorem dL_get_3 : decode cL_get 3 = .ok (.iload_n 1, 1) := by decide +kernel
theorem dL_get_4 : decode cL_get 4 = .ok (.invokevirtual 23, 3) := by decide +kernel
theorem dL_get_7 : decode cL_get 7 = .ok (.i2l, 1) := by decide +kernel
theorem dL_get_8 : decode cL_get 8 = .ok (.lastore, 1) := by decide +kernel
theorem dL_get_9 : decode cL_get 9 = .ok (.goto 6, 3) := by decide +kernel
theorem dL_get_12 : decode cL_get 12 = .ok (.astore_n 3, 1) := by decide +kernel
theorem dL_get_13 : decode cL_get 13 = .ok (.iconst 1, 1) := by decide +kernel
theorem dL_get_14 : decode cL_get 14 = .ok (.ireturn, 1) := by decide +kernel
theorem dL_get_15 : decode cL_get 15 = .ok (.iconst 0, 1) := by decide +kernel
theorem dL_get_16 : decode cL_get 16 = .ok (.ireturn, 1) := by decide +kernel
set_option maxRecDepth 100000 in
theorem ggL_input_X4_input : GoodIn wsL_input wsX4_input := goodIn_ca (goodIn_ca (goodIn_r _ [7, 8, 9, 10, 11, 12, 13, 14, 15, 16, 6, 17, 18, 19, 20, 21, 22, 23, 24, 25, 26, 27, 28, 29, 30, 31, 32, 33, 34, 35, 36, 37, 38, 39, 40, 41, 42, 43, 44, 45, 46, 47, 48, 49, 50, 51, 52, 53] rfl (by decide +kernel)) (goodIn_sub (fun _ h => List.mem_cons_of_mem _ (List.mem_append_left _ (List.mem_append_right _ h))) (by decide +kernel))) (goodIn_sub (fun _ h => List.mem_cons_of_mem _ (List.mem_append_right _ h)) (by decide +kernel))
set_option maxRecDepth 100000 in
theorem gL_input_X4_input : GoodIn wsL_input (wsV RL 26 RX4 yX4_input wsX4_input) := goodIn_app (goodIn_of _ (by decide +kernel)) ggL_input_X4_input
theorem dL_input_0 : decode cL_input 0 = .ok (.aload_n 2, 1) := by decide +kernel
theorem dL_input_1 : decode cL_input 1 = .ok (.iconst 0, 1) := by decide +kernel
theorem dL_input_2 : decode cL_input 2 = .ok (.aload_n 0, 1) := by decide +kernel
theorem dL_input_3 : decode cL_input 3 = .ok (.iload_n 1, 1) := by decide +kernel
theorem dL_input_4 : decode cL_input 4 = .ok (.invokevirtual 26, 3) := by decide +kernel
theorem dL_input_7 : decode cL_input 7 = .ok (.i2l, 1) := by decide +kernel
theorem dL_input_8 : decode cL_input 8 = .ok (.lastore, 1) := by decide +kernel
theorem dL_input_9 : decode cL_input 9 = .ok (.goto 9, 3) := by decide +kernel
theorem dL_input_12 : decode cL_input 12 = .ok (.astore_n 3, 1) := by decide +kernel
theorem dL_input_13 : decode cL_input 13 = .ok (.iconst 1, 1) := by decide +kernel
theorem dL_input_14 : decode cL_input 14 = .ok (.ireturn, 1) := by decide +kernel
theorem dL_input_15 : decode cL_input 15 = .ok (.astore_n 3, 1) := by decide +kernel
theorem dL_input_16 : decode cL_input 16 = .ok (.iconst 2, 1) := by decide +kernel
theorem dL_input_17 : decode cL_input 17 = .ok (.ireturn, 1) := by decide +kernel
theorem dL_input_18 : decode cL_input 18 = .ok (.iconst 0, 1) := by decide +kernel
theorem dL_input_19 : decode cL_input 19 = .ok (.ireturn, 1) := by decide +kernel
set_option maxRecDepth 100000 in
theorem ggL_request_X4_request : GoodIn wsL_request wsX4_request := goodIn_ca (goodIn_ca (goodIn_r _ [7, 8, 9, 10, 11, 12, 13, 14, 15, 16, 17, 18, 19, 20, 21, 22, 23, 24, 25, 26, 27, 28, 29, 30, 31, 32, 33, 34, 35, 36, 37, 38, 39, 40, 41, 42, 43, 44, 45] rfl (by decide +kernel)) (goodIn_sub (fun _ h => List.mem_cons_of_mem _ (List.mem_append_left _ (List.mem_append_right _ h))) (by decide +kernel))) (goodIn_sub (fun _ h => List.mem_cons_of_mem _ (List.mem_append_right _ h)) (by decide +kernel))
set_option maxRecDepth 100000 in
theorem gL_request_X4_request : GoodIn wsL_request (wsV RL 31 RX4 yX4_request wsX4_request) := goodIn_app (goodIn_of _ (by decide +kernel)) ggL_request_X4_request
theorem dL_request_0 : decode cL_request 0 = .ok (.aload_n 2, 1) := by decide +kernel
theorem dL_request_1 : decode cL_request 1 = .ok (.iconst 0, 1) := by decide +kernel
theorem dL_request_2 : decode cL_request 2 = .ok (.aload_n 0, 1) := by decide +kernel
theorem dL_request_3 : decode cL_request 3 = .ok (.iload_n 1, 1) := by decide +kernel
theorem dL_request_4 : decode cL_request 4 = .ok (.invokevirtual 31, 3) := by decide +kernel
theorem dL_request_7 : decode cL_request 7 = .ok (.i2l, 1) := by decide +kernel
theorem dL_request_8 : decode cL_request 8 = .ok (.lastore, 1) := by decide +kernel
theorem dL_request_9 : decode cL_request 9 = .ok (.goto 9, 3) := by decide +kernel
theorem dL_request_12 : decode cL_request 12 = .ok (.astore_n 3, 1) := by decide +kernel
theorem dL_request_13 : decode cL_request 13 = .ok (.iconst 1, 1) := by decide +kernel
theorem dL_request_14 : decode cL_request 14 = .ok (.ireturn, 1) := by decide +kernel
theorem dL_request_15 : decode cL_request 15 = .ok (.astore_n 3, 1) := by decide +kernel
theorem dL_request_16 : decode cL_request 16 = .ok (.iconst 2, 1) := by decide +kernel
theorem dL_request_17 : decode cL_request 17 = .ok (.ireturn, 1) := by decide +kernel
theorem dL_request_18 : decode cL_request 18 = .ok (.iconst 0, 1) := by decide +kernel
theorem dL_request_19 : decode cL_request 19 = .ok (.ireturn, 1) := by decide +kernel
set_option maxRecDepth 100000 in
theorem ggL_room_X4_room : GoodIn wsL_room wsX4_room := goodIn_ca (goodIn_r _ [6, 7, 8, 9, 10, 11, 12, 13, 14, 15, 16, 17, 18, 19, 20, 21, 22, 23, 24, 25, 26, 27, 28, 29, 30, 31, 32, 33, 34, 35, 36, 37, 38, 39, 40, 41, 42, 43, 44, 45, 46] rfl (by decide +kernel)) (goodIn_sub (fun _ h => List.mem_cons_of_mem _ (List.mem_append_right _ h)) (by decide +kernel))
set_option maxRecDepth 100000 in
theorem gL_room_X4_room : GoodIn wsL_room (wsV RL 34 RX4 yX4_room wsX4_room) := goodIn_app (goodIn_of _ (by decide +kernel)) ggL_room_X4_room
theorem dL_room_0 : decode cL_room 0 = .ok (.aload_n 0, 1) := by decide +kernel
theorem dL_room_1 : decode cL_room 1 = .ok (.iload_n 1, 1) := by decide +kernel
theorem dL_room_2 : decode cL_room 2 = .ok (.invokevirtual 34, 3) := by decide +kernel
theorem dL_room_5 : decode cL_room 5 = .ok (.goto 6, 3) := by decide +kernel
theorem dL_room_8 : decode cL_room 8 = .ok (.astore_n 2, 1) := by decide +kernel
theorem dL_room_9 : decode cL_room 9 = .ok (.iconst 1, 1) := by decide +kernel
theorem dL_room_10 : decode cL_room 10 = .ok (.ireturn, 1) := by decide +kernel
theorem dL_room_11 : decode cL_room 11 = .ok (.iconst 0, 1) := by decide +kernel
theorem dL_room_12 : decode cL_room 12 = .ok (.ireturn, 1) := by decide +kernel
set_option maxRecDepth 100000 in
theorem ggL_run_X4_run : GoodIn wsL_run wsX4_run := goodIn_ca (goodIn_r _ [6, 7, 8, 9, 10, 11, 12, 13, 14, 5, 15, 16, 17, 18, 19, 20, 21, 22, 23, 24, 25, 26, 27, 28, 29, 30, 31, 32, 33, 34, 35, 36, 37, 38, 39, 40, 41, 42, 43, 44, 45, 46, 47, 48, 49, 50, 51, 52, 53, 54, 55, 56, 57, 58, 59, 60, 61, 62, 63, 64, 65, 66, 67, 68, 69, 70, 71, 72, 73, 74, 75, 76, 77, 78, 79, 80, 81, 82, 83, 84, 85, 86, 87, 88, 89, 90, 91, 92, 93, 94, 95, 96, 97, 98, 99, 100, 101, 102, 103, 104, 105, 106, 107, 108, 109, 110, 111, 112, 113, 114, 115, 116, 117, 118, 119, 120, 121, 122, 123, 124, 125, 126, 127, 128, 129, 130, 131, 132, 133, 134, 135, 136, 137, 138, 139, 140, 141, 142, 143, 144, 145, 146, 147, 148, 149, 150, 151, 152, 153, 154, 155, 156, 157, 158, 159, 160, 161, 162, 163, 164, 165, 166, 167, 168, 169, 170, 171, 172, 173, 174, 175, 176, 177, 178, 179, 180, 181, 182, 183, 184, 185, 186, 187, 188, 189, 190, 191, 192, 193, 194, 195, 196, 197, 198, 199, 200, 201, 202, 203, 204, 205, 206, 207, 208, 209, 210, 211, 212, 213, 214, 215, 216, 217, 218, 219, 220, 221, 222, 223, 224, 225, 226, 227, 228, 229, 230, 231, 232, 233, 234, 235, 236, 237, 238, 239, 240, 241, 242, 243, 244, 245, 246, 247, 248, 249, 250, 251, 252, 253, 254, 255, 256, 257, 258, 259, 260, 261, 262, 263, 264, 265, 266, 267, 268, 269, 270, 271, 272, 273, 274, 275, 276, 277, 278, 279, 280, 281, 282, 283, 284, 285, 286, 287, 288, 289, 290, 291, 292, 293, 294, 295, 296, 297, 298, 299, 300, 301, 302, 303, 304, 305, 306, 307, 308, 309, 310, 311, 312, 313, 314] rfl (by decide +kernel)) (goodIn_sub (fun _ h => List.mem_cons_of_mem _ (List.mem_append_right _ h)) (by decide +kernel))
set_option maxRecDepth 100000 in
theorem gL_run_X4_run : GoodIn wsL_run (wsV RL 38 RX4 yX4_run wsX4_run) := goodIn_app (goodIn_of _ (by decide +kernel)) ggL_run_X4_run
theorem dL_run_0 : decode cL_run 0 = .ok (.aload_n 2, 1) := by decide +kernel
theorem dL_run_1 : decode cL_run 1 = .ok (.iconst 0, 1) := by decide +kernel
theorem dL_run_2 : decode cL_run 2 = .ok (.aload_n 0, 1) := by decide +kernel
theorem dL_run_3 : decode cL_run 3 = .ok (.iload_n 1, 1) := by decide +kernel
theorem dL_run_4 : decode cL_run 4 = .ok (.invokevirtual 38, 3) := by decide +kernel
theorem dL_run_7 : decode cL_run 7 = .ok (.i2l, 1) := by decide +kernel
theorem dL_run_8 : decode cL_run 8 = .ok (.lastore, 1) := by decide +kernel
theorem dL_run_9 : decode cL_run 9 = .ok (.goto 6, 3) := by decide +kernel
theorem dL_run_12 : decode cL_run 12 = .ok (.astore_n 3, 1) := by decide +kernel
theorem dL_run_13 : decode cL_run 13 = .ok (.iconst 1, 1) := by decide +kernel
theorem dL_run_14 : decode cL_run 14 = .ok (.ireturn, 1) := by decide +kernel
theorem dL_run_15 : decode cL_run 15 = .ok (.iconst 0, 1) := by decide +kernel
theorem dL_run_16 : decode cL_run 16 = .ok (.ireturn, 1) := by decide +kernel
set_option maxRecDepth 100000 in
theorem ggL_count_X4_count : GoodIn wsL_count wsX4_count := goodIn_ca (goodIn_r _ [6, 7, 8, 9, 10, 11, 12, 13, 14, 15, 16, 17, 18, 19, 20, 21, 22, 23, 24, 25, 26, 27, 28, 29, 30, 31, 32, 33, 34, 35, 36, 37, 38, 39, 40, 41, 42, 43, 44, 45, 46, 47, 48, 49, 50, 51, 52] rfl (by decide +kernel)) (goodIn_sub (fun _ h => List.mem_cons_of_mem _ (List.mem_append_right _ h)) (by decide +kernel))
set_option maxRecDepth 100000 in
theorem gL_count_X4_count : GoodIn wsL_count (wsV RL 41 RX4 yX4_count wsX4_count) := goodIn_app (goodIn_of _ (by decide +kernel)) ggL_count_X4_count
theorem dL_count_0 : decode cL_count 0 = .ok (.aload_n 2, 1) := by decide +kernel
theorem dL_count_1 : decode cL_count 1 = .ok (.iconst 0, 1) := by decide +kernel
theorem dL_count_2 : decode cL_count 2 = .ok (.aload_n 0, 1) := by decide +kernel
theorem dL_count_3 : decode cL_count 3 = .ok (.iload_n 1, 1) := by decide +kernel
theorem dL_count_4 : decode cL_count 4 = .ok (.invokevirtual 41, 3) := by decide +kernel
theorem dL_count_7 : decode cL_count 7 = .ok (.i2l, 1) := by decide +kernel
theorem dL_count_8 : decode cL_count 8 = .ok (.lastore, 1) := by decide +kernel
theorem dL_count_9 : decode cL_count 9 = .ok (.goto 6, 3) := by decide +kernel
theorem dL_count_12 : decode cL_count 12 = .ok (.astore_n 3, 1) := by decide +kernel
theorem dL_count_13 : decode cL_count 13 = .ok (.iconst 1, 1) := by decide +kernel
theorem dL_count_14 : decode cL_count 14 = .ok (.ireturn, 1) := by decide +kernel
theorem dL_count_15 : decode cL_count 15 = .ok (.iconst 0, 1) := by decide +kernel
theorem dL_count_16 : decode cL_count 16 = .ok (.ireturn, 1) := by decide +kernel
set_option maxRecDepth 100000 in
theorem ggL_law_X4_init : GoodIn wsL_law wsX4_init := goodIn_r _ [9, 10, 11, 12, 13, 14, 15, 16, 17, 18, 19, 20, 21, 22, 23, 24, 25, 26, 27, 28, 29, 30, 31, 32, 33, 34, 35, 36, 37, 38, 39, 40, 41, 42, 43, 44, 45, 46, 47, 48, 49, 50, 51, 52, 53, 641, 642, 643, 644, 645, 646, 603, 604, 605, 606, 607, 608, 609, 610, 611, 612, 613, 647, 648, 649, 650, 651, 652, 653, 654, 655, 656, 657, 658, 659, 660, 661, 662] rfl (by decide +kernel)
set_option maxRecDepth 100000 in
theorem gL_law_X4_init : GoodIn wsL_law (wsX4_init) := ggL_law_X4_init
set_option maxRecDepth 100000 in
theorem ggL_law_X5_init : GoodIn wsL_law wsX5_init := goodIn_r _ [56, 57, 11, 12, 30, 58, 59, 60, 61, 62, 63, 64, 65, 66, 67, 68, 69, 70, 71, 72, 73, 614, 615, 616, 617, 618, 619, 620, 621, 622, 623, 624, 625, 626, 627, 628, 629, 630, 631, 632, 633, 634, 635, 636, 637, 638, 639, 640] rfl (by decide +kernel)
set_option maxRecDepth 100000 in
theorem gL_law_X5_init : GoodIn wsL_law (wsX5_init) := ggL_law_X5_init
set_option maxRecDepth 100000 in
theorem ggL_law_L_poke : GoodIn wsL_law wsL_poke := goodIn_ca (goodIn_r _ [77, 78, 79, 80, 81, 2, 82, 83, 84, 16, 85, 20, 86, 87, 88, 89, 90, 91, 19, 92, 93, 49, 94, 48, 95, 96, 97, 98, 99, 100, 101, 102, 47, 603, 604, 605, 606, 607, 608, 609, 610, 611, 612, 613, 641, 642, 643, 644, 645, 646, 647, 648, 649, 650, 651, 652, 653, 654, 655, 656, 657, 658, 659] rfl (by decide +kernel)) (goodIn_sub (fun _ h => List.mem_append_left _ (List.mem_append_right _ h)) (by decide +kernel))
set_option maxRecDepth 100000 in
theorem gL_law_L_poke : GoodIn wsL_law (va_wsS RL 48 yL_poke wsL_poke) := goodIn_app (goodIn_of _ (by decide +kernel)) ggL_law_L_poke
set_option maxRecDepth 100000 in
theorem ggL_law_X5_poke : GoodIn wsL_law wsX5_poke := goodIn_r _ [106, 58, 107, 108, 5, 109, 110, 111, 112, 113, 114, 115, 116, 117, 118, 64, 66, 119, 120, 121, 122, 71, 614, 615, 616, 617, 618, 619, 620, 621, 622, 623, 624, 625, 626, 627, 628, 629, 630, 631, 632, 633, 634, 635, 636, 637, 638, 639, 640] rfl (by decide +kernel)
set_option maxRecDepth 100000 in
theorem gL_law_X5_poke : GoodIn wsL_law (wsV RL 53 RX5 yX5_poke wsX5_poke) := goodIn_app (goodIn_of _ (by decide +kernel)) ggL_law_X5_poke
set_option maxRecDepth 100000 in
theorem ggL_law_X5_thrown : GoodIn wsL_law wsX5_thrown := goodIn_r _ [126, 114, 614, 615, 616, 617, 618, 619, 620, 621, 622, 623, 624, 625, 626, 627, 628, 629, 630, 631, 632, 633, 634, 635, 636, 637, 638, 639, 640] rfl (by decide +kernel)
set_option maxRecDepth 100000 in
theorem gL_law_X5_thrown : GoodIn wsL_law (wsV RL 54 RX5 yX5_thrown wsX5_thrown) := goodIn_app (goodIn_of _ (by decide +kernel)) ggL_law_X5_thrown
set_option maxRecDepth 100000 in
theorem ggL_law_L_peek : GoodIn wsL_law wsL_peek := goodIn_ca (goodIn_r _ [129, 78, 130, 131, 132, 2, 133, 83, 84, 16, 85, 86, 87, 88, 603, 604, 605, 606, 607, 608, 609, 610, 611, 612, 613, 641, 642, 643, 644, 645, 646] rfl (by decide +kernel)) (goodIn_sub (fun _ h => List.mem_append_left _ (List.mem_append_right _ h)) (by decide +kernel))
set_option maxRecDepth 100000 in
theorem gL_law_L_peek : GoodIn wsL_law (va_wsS RL 58 yL_peek wsL_peek) := goodIn_app (goodIn_of _ (by decide +kernel)) ggL_law_L_peek
set_option maxRecDepth 100000 in
theorem ggL_law_X5_peek : GoodIn wsL_law wsX5_peek := goodIn_r _ [137, 58, 107, 108, 5, 109, 110, 111, 112, 113, 114, 614, 615, 616, 617, 618, 619, 620, 621, 622, 623, 624, 625, 626, 627, 628, 629, 630, 631, 632, 633, 634, 635, 636, 637, 638, 639, 640] rfl (by decide +kernel)
set_option maxRecDepth 100000 in
theorem gL_law_X5_peek : GoodIn wsL_law (wsV RL 61 RX5 yX5_peek wsX5_peek) := goodIn_app (goodIn_of _ (by decide +kernel)) ggL_law_X5_peek
set_option maxRecDepth 100000 in
theorem ggL_law_L_set : GoodIn wsL_law wsL_set := goodIn_ca (goodIn_r _ [140, 78, 141, 142, 143, 2, 144, 83, 84, 16, 145, 146, 147, 148, 86, 87, 88, 149, 150, 151, 603, 604, 605, 606, 607, 608, 609, 610, 611, 612, 613, 641, 642, 643, 644, 645, 646] rfl (by decide +kernel)) (goodIn_sub (fun _ h => List.mem_append_left _ (List.mem_append_right _ h)) (by decide +kernel))
set_option maxRecDepth 100000 in
theorem gL_law_L_set : GoodIn wsL_law (va_wsS RL 62 yL_set wsL_set) := goodIn_app (goodIn_of _ (by decide +kernel)) ggL_law_L_set
set_option maxRecDepth 100000 in
theorem ggL_law_X5_set : GoodIn wsL_law wsX5_set := goodIn_r _ [155, 59, 107, 108, 5, 109, 110, 111, 112, 113, 114, 614, 615, 616, 617, 618, 619, 620, 621, 622, 623, 624, 625, 626, 627, 628, 629, 630, 631, 632, 633, 634, 635, 636, 637, 638, 639, 640] rfl (by decide +kernel)
set_option maxRecDepth 100000 in
theorem gL_law_X5_set : GoodIn wsL_law (wsV RL 65 RX5 yX5_set wsX5_set) := goodIn_app (goodIn_of _ (by decide +kernel)) ggL_law_X5_set
set_option maxRecDepth 100000 in
theorem ggL_law_L_get : GoodIn wsL_law wsL_get := goodIn_ca (goodIn_r _ [158, 78, 159, 160, 161, 2, 162, 83, 84, 16, 145, 146, 147, 148, 603, 604, 605, 606, 607, 608, 609, 610, 611, 612, 613, 641, 642, 643, 644, 645, 646] rfl (by decide +kernel)) (goodIn_sub (fun _ h => List.mem_append_left _ (List.mem_append_right _ h)) (by decide +kernel))
set_option maxRecDepth 100000 in
theorem gL_law_L_get : GoodIn wsL_law (va_wsS RL 66 yL_get wsL_get) := goodIn_app (goodIn_of _ (by decide +kernel)) ggL_law_L_get
set_option maxRecDepth 100000 in
theorem ggL_law_X5_get : GoodIn wsL_law wsX5_get := goodIn_r _ [166, 59, 107, 108, 5, 109, 110, 111, 112, 113, 114, 614, 615, 616, 617, 618, 619, 620, 621, 622, 623, 624, 625, 626, 627, 628, 629, 630, 631, 632, 633, 634, 635, 636, 637, 638, 639, 640] rfl (by decide +kernel)
set_option maxRecDepth 100000 in
theorem gL_law_X5_get : GoodIn wsL_law (wsV RL 68 RX5 yX5_get wsX5_get) := goodIn_app (goodIn_of _ (by decide +kernel)) ggL_law_X5_get
set_option maxRecDepth 100000 in
theorem ggL_law_L_input : GoodIn wsL_law wsL_input := goodIn_ca (goodIn_ca (goodIn_r _ [169, 78, 170, 171, 172, 173, 2, 174, 83, 84, 175, 176, 16, 177, 178, 86, 87, 88, 179, 180, 181, 23, 182, 183, 41, 184, 185, 186, 187, 188, 189, 190, 191, 192, 603, 604, 605, 606, 607, 608, 609, 610, 611, 612, 613, 641, 642, 643, 644, 645, 646, 660, 661, 662] rfl (by decide +kernel)) (goodIn_sub (fun _ h => List.mem_append_left _ (List.mem_append_right _ h)) (by decide +kernel))) (goodIn_sub (fun _ h => List.mem_append_right _ h) (by decide +kernel))
set_option maxRecDepth 100000 in
theorem gL_law_L_input : GoodIn wsL_law (va_wsS RL 69 yL_input wsL_input) := goodIn_app (goodIn_of _ (by decide +kernel)) ggL_law_L_input
set_option maxRecDepth 100000 in
theorem ggL_law_X5_input : GoodIn wsL_law wsX5_input := goodIn_r _ [196, 197, 60, 107, 108, 5, 109, 110, 111, 112, 113, 114, 614, 615, 616, 617, 618, 619, 620, 621, 622, 623, 624, 625, 626, 627, 628, 629, 630, 631, 632, 633, 634, 635, 636, 637, 638, 639, 640] rfl (by decide +kernel)
set_option maxRecDepth 100000 in
theorem gL_law_X5_input : GoodIn wsL_law (wsV RL 71 RX5 yX5_input wsX5_input) := goodIn_app (goodIn_of _ (by decide +kernel)) ggL_law_X5_input
set_option maxRecDepth 100000 in
theorem ggL_law_L_request : GoodIn wsL_law wsL_request := goodIn_ca (goodIn_ca (goodIn_r _ [200, 78, 170, 201, 202, 203, 2, 204, 83, 84, 175, 176, 25, 205, 24, 178, 179, 180, 181, 23, 182, 183, 41, 184, 185, 186, 187, 188, 189, 190, 191, 192, 603, 604, 605, 606, 607, 608, 609, 610, 611, 612, 613, 660, 661, 662] rfl (by decide +kernel)) (goodIn_sub (fun _ h => List.mem_append_left _ (List.mem_append_right _ h)) (by decide +kernel))) (goodIn_sub (fun _ h => List.mem_append_right _ h) (by decide +kernel))
set_option maxRecDepth 100000 in
theorem gL_law_L_request : GoodIn wsL_law (va_wsS RL 72 yL_request wsL_request) := goodIn_app (goodIn_of _ (by decide +kernel)) ggL_law_L_request
set_option maxRecDepth 100000 in
theorem ggL_law_X5_request : GoodIn wsL_law wsX5_request := goodIn_r _ [209, 62, 71, 210, 61, 110, 111, 112, 5, 113, 114, 614, 615, 616, 617, 618, 619, 620, 621, 622, 623, 624, 625, 626, 627, 628, 629, 630, 631, 632, 633, 634, 635, 636, 637, 638, 639, 640] rfl (by decide +kernel)
set_option maxRecDepth 100000 in
theorem gL_law_X5_request : GoodIn wsL_law (wsV RL 74 RX5 yX5_request wsX5_request) := goodIn_app (goodIn_of _ (by decide +kernel)) ggL_law_X5_request
set_option maxRecDepth 100000 in
theorem ggL_law_L_room : GoodIn wsL_law wsL_room := goodIn_ca (goodIn_r _ [213, 78, 214, 215, 216, 2, 217, 83, 84, 20, 218, 219, 220, 221, 19, 222, 49, 93, 94, 223, 224, 225, 226, 603, 604, 605, 606, 607, 608, 609, 610, 611, 612, 613, 647, 648, 649, 650, 651, 652, 653, 654, 655, 656, 657, 658, 659] rfl (by decide +kernel)) (goodIn_sub (fun _ h => List.mem_append_left _ (List.mem_append_right _ h)) (by decide +kernel))
set_option maxRecDepth 100000 in
theorem gL_law_L_room : GoodIn wsL_law (va_wsS RL 75 yL_room wsL_room) := goodIn_app (goodIn_of _ (by decide +kernel)) ggL_law_L_room
set_option maxRecDepth 100000 in
theorem ggL_law_X5_room : GoodIn wsL_law wsX5_room := goodIn_r _ [230, 70, 107, 108, 5, 109, 110, 111, 112, 113, 114, 231, 232, 233, 234, 64, 119, 120, 121, 122, 71, 614, 615, 616, 617, 618, 619, 620, 621, 622, 623, 624, 625, 626, 627, 628, 629, 630, 631, 632, 633, 634, 635, 636, 637, 638, 639, 640] rfl (by decide +kernel)
set_option maxRecDepth 100000 in
theorem gL_law_X5_room : GoodIn wsL_law (wsV RL 78 RX5 yX5_room wsX5_room) := goodIn_app (goodIn_of _ (by decide +kernel)) ggL_law_X5_room
set_option maxRecDepth 100000 in
theorem ggL_law_L_run : GoodIn wsL_law wsL_run := goodIn_ca (goodIn_r _ [237, 78, 238, 239, 240, 2, 241, 83, 84, 205, 242, 26, 243, 244, 245, 246, 16, 145, 20, 247, 248, 249, 250, 251, 24, 178, 252, 253, 254, 255, 23, 256, 41, 188, 257, 258, 259, 260, 183, 189, 190, 191, 192, 261, 262, 263, 15, 264, 31, 265, 266, 267, 268, 269, 270, 271, 272, 32, 36, 273, 274, 275, 276, 277, 278, 89, 90, 91, 19, 92, 93, 49, 94, 48, 95, 96, 97, 98, 99, 100, 101, 102, 47, 279, 280, 281, 282, 283, 85, 284, 285, 286, 287, 51, 288, 289, 290, 291, 292, 46, 52, 293, 294, 295, 296, 297, 298, 299, 45, 300, 301, 302, 303, 304, 305, 306, 307, 308, 309, 310, 311, 312, 313, 314, 315, 316, 317, 318, 319, 320, 321, 322, 323, 324, 325, 326, 327, 328, 329, 330, 331, 332, 333, 334, 335, 336, 337, 338, 339, 340, 341, 342, 343, 344, 345, 346, 347, 348, 349, 350, 351, 352, 353, 354, 355, 356, 357, 358, 359, 360, 220, 221, 222, 223, 224, 225, 226, 361, 362, 363, 364, 50, 365, 366, 367, 368, 369, 370, 371, 372, 373, 374, 375, 376, 377, 378, 379, 380, 381, 382, 383, 384, 385, 386, 387, 388, 389, 390, 391, 392, 393, 394, 395, 396, 397, 398, 399, 400, 401, 402, 403, 404, 405, 406, 407, 408, 409, 410, 411, 412, 413, 414, 415, 416, 417, 418, 419, 420, 421, 422, 423, 424, 425, 426, 427, 428, 429, 430, 431, 432, 433, 434, 435, 436, 437, 438, 439, 440, 441, 442, 443, 444, 34, 445, 446, 447, 448, 449, 450, 35, 451, 452, 453, 454, 455, 456, 457, 458, 459, 460, 461, 462, 603, 604, 605, 606, 607, 608, 609, 610, 611, 612, 613, 641, 642, 643, 644, 645, 646, 647, 648, 649, 650, 651, 652, 653, 654, 655, 656, 657, 658, 659, 660, 661, 662] rfl (by decide +kernel)) (goodIn_sub (fun _ h => List.mem_append_left _ (List.mem_append_right _ h)) (by decide +kernel))
set_option maxRecDepth 100000 in
theorem gL_law_L_run : GoodIn wsL_law (va_wsS RL 79 yL_run wsL_run) := goodIn_app (goodIn_of _ (by decide +kernel)) ggL_law_L_run
set_option maxRecDepth 100000 in
theorem ggL_law_X5_run : GoodIn wsL_law wsX5_run := goodIn_r _ [466, 71, 73, 467, 107, 108, 5, 109, 110, 111, 112, 113, 114, 468, 469, 470, 471, 210, 59, 61, 65, 472, 473, 474, 475, 476, 477, 478, 479, 480, 481, 482, 483, 484, 58, 115, 116, 117, 118, 64, 66, 119, 120, 121, 122, 485, 486, 487, 488, 69, 67, 489, 490, 491, 492, 493, 494, 70, 495, 496, 68, 497, 498, 499, 500, 501, 72, 502, 503, 504, 505, 506, 507, 508, 509, 510, 511, 512, 513, 514, 515, 516, 517, 518, 519, 520, 521, 522, 523, 524, 525, 231, 232, 233, 234, 526, 527, 528, 529, 530, 531, 532, 533, 534, 535, 536, 537, 63, 538, 539, 540, 541, 197, 60, 542, 543, 544, 545, 546, 547, 548, 549, 550, 551, 552, 553, 554, 555, 556, 557, 558, 559, 560, 561, 562, 563, 564, 565, 566, 567, 568, 569, 570, 571, 572, 573, 614, 615, 616, 617, 618, 619, 620, 621, 622, 623, 624, 625, 626, 627, 628, 629, 630, 631, 632, 633, 634, 635, 636, 637, 638, 639, 640] rfl (by decide +kernel)
set_option maxRecDepth 100000 in
theorem gL_law_X5_run : GoodIn wsL_law (wsV RL 81 RX5 yX5_run wsX5_run) := goodIn_app (goodIn_of _ (by decide +kernel)) ggL_law_X5_run
set_option maxRecDepth 100000 in
theorem ggL_law_X4_output : GoodIn wsL_law wsX4_output := goodIn_r _ [577, 16, 578, 579, 580, 15, 581, 450, 35, 603, 604, 605, 606, 607, 608, 609, 610, 611, 612, 613, 641, 642, 643, 644, 645, 646] rfl (by decide +kernel)
set_option maxRecDepth 100000 in
theorem gL_law_X4_output : GoodIn wsL_law (wsV RL 82 RX4 yX4_output wsX4_output) := goodIn_app (goodIn_of _ (by decide +kernel)) ggL_law_X4_output
set_option maxRecDepth 100000 in
theorem ggL_law_X5_output : GoodIn wsL_law wsX5_output := goodIn_r _ [585, 114, 71, 63, 107, 108, 5, 109, 614, 615, 616, 617, 618, 619, 620, 621, 622, 623, 624, 625, 626, 627, 628, 629, 630, 631, 632, 633, 634, 635, 636, 637, 638, 639, 640] rfl (by decide +kernel)
set_option maxRecDepth 100000 in
theorem gL_law_X5_output : GoodIn wsL_law (wsV RL 85 RX5 yX5_output wsX5_output) := goodIn_app (goodIn_of _ (by decide +kernel)) ggL_law_X5_output
set_option maxRecDepth 100000 in
theorem ggL_law_L_count : GoodIn wsL_law wsL_count := goodIn_ca (goodIn_r _ [588, 78, 589, 590, 591, 2, 592, 83, 84, 205, 20, 593, 594, 595, 278, 596, 283, 461, 252, 597, 16, 598, 242, 603, 604, 605, 606, 607, 608, 609, 610, 611, 612, 613, 647, 648, 649, 650, 651, 652, 653, 654, 655, 656, 657, 658, 659, 641, 642, 643, 644, 645, 646] rfl (by decide +kernel)) (goodIn_sub (fun _ h => List.mem_append_left _ (List.mem_append_right _ h)) (by decide +kernel))
set_option maxRecDepth 100000 in
theorem gL_law_L_count : GoodIn wsL_law (va_wsS RL 86 yL_count wsL_count) := goodIn_app (goodIn_of _ (by decide +kernel)) ggL_law_L_count
set_option maxRecDepth 100000 in
theorem ggL_law_X5_count : GoodIn wsL_law wsX5_count := goodIn_r _ [602, 71, 107, 108, 5, 109, 110, 111, 112, 113, 114, 614, 615, 616, 617, 618, 619, 620, 621, 622, 623, 624, 625, 626, 627, 628, 629, 630, 631, 632, 633, 634, 635, 636, 637, 638, 639, 640] rfl (by decide +kernel)
set_option maxRecDepth 100000 in
theorem gL_law_X5_count : GoodIn wsL_law (wsV RL 88 RX5 yX5_count wsX5_count) := goodIn_app (goodIn_of _ (by decide +kernel)) ggL_law_X5_count
theorem dL_law_0 : decode cL_law 0 = .ok (.new 8, 3) := by decide +kernel
theorem dL_law_3 : decode cL_law 3 = .ok (.dup, 1) := by decide +kernel
theorem dL_law_4 : decode cL_law 4 = .ok (.invokespecial 44, 3) := by decide +kernel
theorem dL_law_7 : decode cL_law 7 = .ok (.astore_n 1, 1) := by decide +kernel
theorem dL_law_8 : decode cL_law 8 = .ok (.new 45, 3) := by decide +kernel
theorem dL_law_11 : decode cL_law 11 = .ok (.dup, 1) := by decide +kernel
theorem dL_law_12 : decode cL_law 12 = .ok (.invokespecial 47, 3) := by decide +kernel
theorem dL_law_15 : decode cL_law 15 = .ok (.astore_n 2, 1) := by decide +kernel
theorem dL_law_16 : decode cL_law 16 = .ok (.iconst 1, 1) := by decide +kernel
theorem dL_law_17 : decode cL_law 17 = .ok (.newarray .long, 2) := by decide +kernel
theorem dL_law_19 : decode cL_law 19 = .ok (.astore_n 3, 1) := by decide +kernel
theorem dL_law_20 : decode cL_law 20 = .ok (.iconst 0, 1) := by decide +kernel
theorem dL_law_21 : decode cL_law 21 = .ok (.istore 4, 2) := by decide +kernel
theorem dL_law_23 : decode cL_law 23 = .ok (.iload 4, 2) := by decide +kernel
theorem dL_law_25 : decode cL_law 25 = .ok (.aload_n 0, 1) := by decide +kernel
theorem dL_law_26 : decode cL_law 26 = .ok (.arraylength, 1) := by decide +kernel
theorem dL_law_27 : decode cL_law 27 = .ok (.iconst 4, 1) := by decide +kernel
theorem dL_law_28 : decode cL_law 28 = .ok (.isub, 1) := by decide +kernel
theorem dL_law_29 : decode cL_law 29 = .ok (.if_icmp .gt 574, 3) := by decide +kernel
theorem dL_law_32 : decode cL_law 32 = .ok (.aload_n 0, 1) := by decide +kernel
theorem dL_law_33 : decode cL_law 33 = .ok (.iload 4, 2) := by decide +kernel
theorem dL_law_35 : decode cL_law 35 = .ok (.iaload, 1) := by decide +kernel
theorem dL_law_36 : decode cL_law 36 = .ok (.bipush 15, 2) := by decide +kernel
theorem dL_law_38 : decode cL_law 38 = .ok (.iand, 1) := by decide +kernel
theorem dL_law_39 : decode cL_law 39 = .ok (.tableswitch 558 0 9 #[53, 113, 169, 217, 273, 329, 385, 421, 477, 502], 53) := by decide +kernel
theorem dL_law_92 : decode cL_law 92 = .ok (.aload_n 1, 1) := by decide +kernel
theorem dL_law_93 : decode cL_law 93 = .ok (.aload_n 0, 1) := by decide +kernel
theorem dL_law_94 : decode cL_law 94 = .ok (.iload 4, 2) := by decide +kernel
theorem dL_law_96 : decode cL_law 96 = .ok (.iconst 1, 1) := by decide +kernel
theorem dL_law_97 : decode cL_law 97 = .ok (.iadd, 1) := by decide +kernel
theorem dL_law_98 : decode cL_law 98 = .ok (.iaload, 1) := by decide +kernel
theorem dL_law_99 : decode cL_law 99 = .ok (.aload_n 0, 1) := by decide +kernel
theorem dL_law_100 : decode cL_law 100 = .ok (.iload 4, 2) := by decide +kernel
theorem dL_law_102 : decode cL_law 102 = .ok (.iconst 2, 1) := by decide +kernel
theorem dL_law_103 : decode cL_law 103 = .ok (.iadd, 1) := by decide +kernel
theorem dL_law_104 : decode cL_law 104 = .ok (.iaload, 1) := by decide +kernel
theorem dL_law_105 : decode cL_law 105 = .ok (.aload_n 0, 1) := by decide +kernel
theorem dL_law_106 : decode cL_law 106 = .ok (.iload 4, 2) := by decide +kernel
theorem dL_law_108 : decode cL_law 108 = .ok (.iconst 3, 1) := by decide +kernel
theorem dL_law_109 : decode cL_law 109 = .ok (.iadd, 1) := by decide +kernel
theorem dL_law_110 : decode cL_law 110 = .ok (.iaload, 1) := by decide +kernel
theorem dL_law_111 : decode cL_law 111 = .ok (.invokestatic 48, 3) := by decide +kernel
theorem dL_law_114 : decode cL_law 114 = .ok (.istore 5, 2) := by decide +kernel
theorem dL_law_116 : decode cL_law 116 = .ok (.aload_n 2, 1) := by decide +kernel
theorem dL_law_117 : decode cL_law 117 = .ok (.aload_n 0, 1) := by decide +kernel
theorem dL_law_118 : decode cL_law 118 = .ok (.iload 4, 2) := by decide +kernel
theorem dL_law_120 : decode cL_law 120 = .ok (.iconst 1, 1) := by decide +kernel
theorem dL_law_121 : decode cL_law 121 = .ok (.iadd, 1) := by decide +kernel
theorem dL_law_122 : decode cL_law 122 = .ok (.iaload, 1) := by decide +kernel
theorem dL_law_123 : decode cL_law 123 = .ok (.aload_n 0, 1) := by decide +kernel
theorem dL_law_124 : decode cL_law 124 = .ok (.iload 4, 2) := by decide +kernel
theorem dL_law_126 : decode cL_law 126 = .ok (.iconst 2, 1) := by decide +kernel
theorem dL_law_127 : decode cL_law 127 = .ok (.iadd, 1) := by decide +kernel
theorem dL_law_128 : decode cL_law 128 = .ok (.iaload, 1) := by decide +kernel
theorem dL_law_129 : decode cL_law 129 = .ok (.aload_n 0, 1) := by decide +kernel
theorem dL_law_130 : decode cL_law 130 = .ok (.iload 4, 2) := by decide +kernel
theorem dL_law_132 : decode cL_law 132 = .ok (.iconst 3, 1) := by decide +kernel
theorem dL_law_133 : decode cL_law 133 = .ok (.iadd, 1) := by decide +kernel
theorem dL_law_134 : decode cL_law 134 = .ok (.iaload, 1) := by decide +kernel
theorem dL_law_135 : decode cL_law 135 = .ok (.invokevirtual 53, 3) := by decide +kernel
theorem dL_law_138 : decode cL_law 138 = .ok (.aload_n 2, 1) := by decide +kernel
theorem dL_law_139 : decode cL_law 139 = .ok (.invokevirtual 54, 3) := by decide +kernel
theorem dL_law_142 : decode cL_law 142 = .ok (.iload 5, 2) := by decide +kernel
theorem dL_law_144 : decode cL_law 144 = .ok (.if_icmp .eq 5, 3) := by decide +kernel
theorem dL_law_147 : decode cL_law 147 = .ok (.iconst 0, 1) := by decide +kernel
theorem dL_law_148 : decode cL_law 148 = .ok (.ireturn, 1) := by decide +kernel
theorem dL_law_149 : decode cL_law 149 = .ok (.goto 448, 3) := by decide +kernel
theorem dL_law_152 : decode cL_law 152 = .ok (.aload_n 1, 1) := by decide +kernel
theorem dL_law_153 : decode cL_law 153 = .ok (.aload_n 0, 1) := by decide +kernel
theorem dL_law_154 : decode cL_law 154 = .ok (.iload 4, 2) := by decide +kernel
theorem dL_law_156 : decode cL_law 156 = .ok (.iconst 1, 1) := by decide +kernel
theorem dL_law_157 : decode cL_law 157 = .ok (.iadd, 1) := by decide +kernel
theorem dL_law_158 : decode cL_law 158 = .ok (.iaload, 1) := by decide +kernel
theorem dL_law_159 : decode cL_law 159 = .ok (.aload_n 3, 1) := by decide +kernel
theorem dL_law_160 : decode cL_law 160 = .ok (.invokestatic 58, 3) := by decide +kernel
theorem dL_law_163 : decode cL_law 163 = .ok (.istore 5, 2) := by decide +kernel
theorem dL_law_165 : decode cL_law 165 = .ok (.aload_n 2, 1) := by decide +kernel
theorem dL_law_166 : decode cL_law 166 = .ok (.aload_n 0, 1) := by decide +kernel
theorem dL_law_167 : decode cL_law 167 = .ok (.iload 4, 2) := by decide +kernel
theorem dL_law_169 : decode cL_law 169 = .ok (.iconst 1, 1) := by decide +kernel
theorem dL_law_170 : decode cL_law 170 = .ok (.iadd, 1) := by decide +kernel
theorem dL_law_171 : decode cL_law 171 = .ok (.iaload, 1) := by decide +kernel
theorem dL_law_172 : decode cL_law 172 = .ok (.invokevirtual 61, 3) := by decide +kernel
theorem dL_law_175 : decode cL_law 175 = .ok (.istore 6, 2) := by decide +kernel
theorem dL_law_177 : decode cL_law 177 = .ok (.aload_n 2, 1) := by decide +kernel
theorem dL_law_178 : decode cL_law 178 = .ok (.invokevirtual 54, 3) := by decide +kernel
theorem dL_law_181 : decode cL_law 181 = .ok (.iload 5, 2) := by decide +kernel
theorem dL_law_183 : decode cL_law 183 = .ok (.if_icmp .eq 5, 3) := by decide +kernel
theorem dL_law_186 : decode cL_law 186 = .ok (.iconst 0, 1) := by decide +kernel
theorem dL_law_187 : decode cL_law 187 = .ok (.ireturn, 1) := by decide +kernel
theorem dL_law_188 : decode cL_law 188 = .ok (.iload 5, 2) := by decide +kernel
theorem dL_law_190 : decode cL_law 190 = .ok (.ifCond .ne 15, 3) := by decide +kernel
theorem dL_law_193 : decode cL_law 193 = .ok (.aload_n 3, 1) := by decide +kernel
theorem dL_law_194 : decode cL_law 194 = .ok (.iconst 0, 1) := by decide +kernel
theorem dL_law_195 : decode cL_law 195 = .ok (.laload, 1) := by decide +kernel
theorem dL_law_196 : decode cL_law 196 = .ok (.iload 6, 2) := by decide +kernel
theorem dL_law_198 : decode cL_law 198 = .ok (.i2l, 1) := by decide +kernel
theorem dL_law_199 : decode cL_law 199 = .ok (.lcmp, 1) := by decide +kernel
theorem dL_law_200 : decode cL_law 200 = .ok (.ifCond .eq 5, 3) := by decide +kernel
theorem dL_law_203 : decode cL_law 203 = .ok (.iconst 0, 1) := by decide +kernel
theorem dL_law_204 : decode cL_law 204 = .ok (.ireturn, 1) := by decide +kernel
theorem dL_law_205 : decode cL_law 205 = .ok (.goto 392, 3) := by decide +kernel
theorem dL_law_208 : decode cL_law 208 = .ok (.aload_n 1, 1) := by decide +kernel
theorem dL_law_209 : decode cL_law 209 = .ok (.aload_n 0, 1) := by decide +kernel
theorem dL_law_210 : decode cL_law 210 = .ok (.iload 4, 2) := by decide +kernel
theorem dL_law_212 : decode cL_law 212 = .ok (.iconst 1, 1) := by decide +kernel
theorem dL_law_213 : decode cL_law 213 = .ok (.iadd, 1) := by decide +kernel
theorem dL_law_214 : decode cL_law 214 = .ok (.iaload, 1) := by decide +kernel
theorem dL_law_215 : decode cL_law 215 = .ok (.aload_n 0, 1) := by decide +kernel
theorem dL_law_216 : decode cL_law 216 = .ok (.iload 4, 2) := by decide +kernel
theorem dL_law_218 : decode cL_law 218 = .ok (.iconst 2, 1) := by decide +kernel
theorem dL_law_219 : decode cL_law 219 = .ok (.iadd, 1) := by decide +kernel
theorem dL_law_220 : decode cL_law 220 = .ok (.iaload, 1) := by decide +kernel
theorem dL_law_221 : decode cL_law 221 = .ok (.invokestatic 62, 3) := by decide +kernel
theorem dL_law_224 : decode cL_law 224 = .ok (.istore 5, 2) := by decide +kernel
theorem dL_law_226 : decode cL_law 226 = .ok (.aload_n 2, 1) := by decide +kernel
theorem dL_law_227 : decode cL_law 227 = .ok (.aload_n 0, 1) := by decide +kernel
theorem dL_law_228 : decode cL_law 228 = .ok (.iload 4, 2) := by decide +kernel
theorem dL_law_230 : decode cL_law 230 = .ok (.iconst 1, 1) := by decide +kernel
theorem dL_law_231 : decode cL_law 231 = .ok (.iadd, 1) := by decide +kernel
theorem dL_law_232 : decode cL_law 232 = .ok (.iaload, 1) := by decide +kernel
theorem dL_law_233 : decode cL_law 233 = .ok (.aload_n 0, 1) := by decide +kernel
theorem dL_law_234 : decode cL_law 234 = .ok (.iload 4, 2) := by decide +kernel
theorem dL_law_236 : decode cL_law 236 = .ok (.iconst 2, 1) := by decide +kernel
theorem dL_law_237 : decode cL_law 237 = .ok (.iadd, 1) := by decide +kernel
theorem dL_law_238 : decode cL_law 238 = .ok (.iaload, 1) := by decide +kernel
theorem dL_law_239 : decode cL_law 239 = .ok (.invokevirtual 65, 3) := by decide +kernel
theorem dL_law_242 : decode cL_law 242 = .ok (.aload_n 2, 1) := by decide +kernel
theorem dL_law_243 : decode cL_law 243 = .ok (.invokevirtual 54, 3) := by decide +kernel
theorem dL_law_246 : decode cL_law 246 = .ok (.iload 5, 2) := by decide +kernel
theorem dL_law_248 : decode cL_law 248 = .ok (.if_icmp .eq 5, 3) := by decide +kernel
theorem dL_law_251 : decode cL_law 251 = .ok (.iconst 0, 1) := by decide +kernel
theorem dL_law_252 : decode cL_law 252 = .ok (.ireturn, 1) := by decide +kernel
theorem dL_law_253 : decode cL_law 253 = .ok (.goto 344, 3) := by decide +kernel
theorem dL_law_256 : decode cL_law 256 = .ok (.aload_n 1, 1) := by decide +kernel
theorem dL_law_257 : decode cL_law 257 = .ok (.aload_n 0, 1) := by decide +kernel
theorem dL_law_258 : decode cL_law 258 = .ok (.iload 4, 2) := by decide +kernel
theorem dL_law_260 : decode cL_law 260 = .ok (.iconst 1, 1) := by decide +kernel
theorem dL_law_261 : decode cL_law 261 = .ok (.iadd, 1) := by decide +kernel
theorem dL_law_262 : decode cL_law 262 = .ok (.iaload, 1) := by decide +kernel
theorem dL_law_263 : decode cL_law 263 = .ok (.aload_n 3, 1) := by decide +kernel
theorem dL_law_264 : decode cL_law 264 = .ok (.invokestatic 66, 3) := by decide +kernel
theorem dL_law_267 : decode cL_law 267 = .ok (.istore 5, 2) := by decide +kernel
theorem dL_law_269 : decode cL_law 269 = .ok (.aload_n 2, 1) := by decide +kernel
theorem dL_law_270 : decode cL_law 270 = .ok (.aload_n 0, 1) := by decide +kernel
theorem dL_law_271 : decode cL_law 271 = .ok (.iload 4, 2) := by decide +kernel
theorem dL_law_273 : decode cL_law 273 = .ok (.iconst 1, 1) := by decide +kernel
theorem dL_law_274 : decode cL_law 274 = .ok (.iadd, 1) := by decide +kernel
theorem dL_law_275 : decode cL_law 275 = .ok (.iaload, 1) := by decide +kernel
theorem dL_law_276 : decode cL_law 276 = .ok (.invokevirtual 68, 3) := by decide +kernel
theorem dL_law_279 : decode cL_law 279 = .ok (.istore 6, 2) := by decide +kernel
theorem dL_law_281 : decode cL_law 281 = .ok (.aload_n 2, 1) := by decide +kernel
theorem dL_law_282 : decode cL_law 282 = .ok (.invokevirtual 54, 3) := by decide +kernel
theorem dL_law_285 : decode cL_law 285 = .ok (.iload 5, 2) := by decide +kernel
theorem dL_law_287 : decode cL_law 287 = .ok (.if_icmp .eq 5, 3) := by decide +kernel
theorem dL_law_290 : decode cL_law 290 = .ok (.iconst 0, 1) := by decide +kernel
theorem dL_law_291 : decode cL_law 291 = .ok (.ireturn, 1) := by decide +kernel
theorem dL_law_292 : decode cL_law 292 = .ok (.iload 5, 2) := by decide +kernel
theorem dL_law_294 : decode cL_law 294 = .ok (.ifCond .ne 15, 3) := by decide +kernel
theorem dL_law_297 : decode cL_law 297 = .ok (.aload_n 3, 1) := by decide +kernel
theorem dL_law_298 : decode cL_law 298 = .ok (.iconst 0, 1) := by decide +kernel
theorem dL_law_299 : decode cL_law 299 = .ok (.laload, 1) := by decide +kernel
theorem dL_law_300 : decode cL_law 300 = .ok (.iload 6, 2) := by decide +kernel
theorem dL_law_302 : decode cL_law 302 = .ok (.i2l, 1) := by decide +kernel
theorem dL_law_303 : decode cL_law 303 = .ok (.lcmp, 1) := by decide +kernel
theorem dL_law_304 : decode cL_law 304 = .ok (.ifCond .eq 5, 3) := by decide +kernel
theorem dL_law_307 : decode cL_law 307 = .ok (.iconst 0, 1) := by decide +kernel
theorem dL_law_308 : decode cL_law 308 = .ok (.ireturn, 1) := by decide +kernel
theorem dL_law_309 : decode cL_law 309 = .ok (.goto 288, 3) := by decide +kernel
theorem dL_law_312 : decode cL_law 312 = .ok (.aload_n 1, 1) := by decide +kernel
theorem dL_law_313 : decode cL_law 313 = .ok (.aload_n 0, 1) := by decide +kernel
theorem dL_law_314 : decode cL_law 314 = .ok (.iload 4, 2) := by decide +kernel
theorem dL_law_316 : decode cL_law 316 = .ok (.iconst 1, 1) := by decide +kernel
theorem dL_law_317 : decode cL_law 317 = .ok (.iadd, 1) := by decide +kernel
theorem dL_law_318 : decode cL_law 318 = .ok (.iaload, 1) := by decide +kernel
theorem dL_law_319 : decode cL_law 319 = .ok (.aload_n 3, 1) := by decide +kernel
theorem dL_law_320 : decode cL_law 320 = .ok (.invokestatic 69, 3) := by decide +kernel
theorem dL_law_323 : decode cL_law 323 = .ok (.istore 5, 2) := by decide +kernel
theorem dL_law_325 : decode cL_law 325 = .ok (.aload_n 2, 1) := by decide +kernel
theorem dL_law_326 : decode cL_law 326 = .ok (.aload_n 0, 1) := by decide +kernel
theorem dL_law_327 : decode cL_law 327 = .ok (.iload 4, 2) := by decide +kernel
theorem dL_law_329 : decode cL_law 329 = .ok (.iconst 1, 1) := by decide +kernel
theorem dL_law_330 : decode cL_law 330 = .ok (.iadd, 1) := by decide +kernel
theorem dL_law_331 : decode cL_law 331 = .ok (.iaload, 1) := by decide +kernel
theorem dL_law_332 : decode cL_law 332 = .ok (.invokevirtual 71, 3) := by decide +kernel
theorem dL_law_335 : decode cL_law 335 = .ok (.istore 6, 2) := by decide +kernel
theorem dL_law_337 : decode cL_law 337 = .ok (.aload_n 2, 1) := by decide +kernel
theorem dL_law_338 : decode cL_law 338 = .ok (.invokevirtual 54, 3) := by decide +kernel
theorem dL_law_341 : decode cL_law 341 = .ok (.iload 5, 2) := by decide +kernel
theorem dL_law_343 : decode cL_law 343 = .ok (.if_icmp .eq 5, 3) := by decide +kernel
theorem dL_law_346 : decode cL_law 346 = .ok (.iconst 0, 1) := by decide +kernel
theorem dL_law_347 : decode cL_law 347 = .ok (.ireturn, 1) := by decide +kernel
theorem dL_law_348 : decode cL_law 348 = .ok (.iload 5, 2) := by decide +kernel
theorem dL_law_350 : decode cL_law 350 = .ok (.ifCond .ne 15, 3) := by decide +kernel
theorem dL_law_353 : decode cL_law 353 = .ok (.aload_n 3, 1) := by decide +kernel
theorem dL_law_354 : decode cL_law 354 = .ok (.iconst 0, 1) := by decide +kernel
theorem dL_law_355 : decode cL_law 355 = .ok (.laload, 1) := by decide +kernel
theorem dL_law_356 : decode cL_law 356 = .ok (.iload 6, 2) := by decide +kernel
theorem dL_law_358 : decode cL_law 358 = .ok (.i2l, 1) := by decide +kernel
theorem dL_law_359 : decode cL_law 359 = .ok (.lcmp, 1) := by decide +kernel
theorem dL_law_360 : decode cL_law 360 = .ok (.ifCond .eq 5, 3) := by decide +kernel
theorem dL_law_363 : decode cL_law 363 = .ok (.iconst 0, 1) := by decide +kernel
theorem dL_law_364 : decode cL_law 364 = .ok (.ireturn, 1) := by decide +kernel
theorem dL_law_365 : decode cL_law 365 = .ok (.goto 232, 3) := by decide +kernel
theorem dL_law_368 : decode cL_law 368 = .ok (.aload_n 1, 1) := by decide +kernel
theorem dL_law_369 : decode cL_law 369 = .ok (.aload_n 0, 1) := by decide +kernel
theorem dL_law_370 : decode cL_law 370 = .ok (.iload 4, 2) := by decide +kernel
theorem dL_law_372 : decode cL_law 372 = .ok (.iconst 1, 1) := by decide +kernel
theorem dL_law_373 : decode cL_law 373 = .ok (.iadd, 1) := by decide +kernel
theorem dL_law_374 : decode cL_law 374 = .ok (.iaload, 1) := by decide +kernel
theorem dL_law_375 : decode cL_law 375 = .ok (.aload_n 3, 1) := by decide +kernel
theorem dL_law_376 : decode cL_law 376 = .ok (.invokestatic 72, 3) := by decide +kernel
theorem dL_law_379 : decode cL_law 379 = .ok (.istore 5, 2) := by decide +kernel
theorem dL_law_381 : decode cL_law 381 = .ok (.aload_n 2, 1) := by decide +kernel
theorem dL_law_382 : decode cL_law 382 = .ok (.aload_n 0, 1) := by decide +kernel
theorem dL_law_383 : decode cL_law 383 = .ok (.iload 4, 2) := by decide +kernel
theorem dL_law_385 : decode cL_law 385 = .ok (.iconst 1, 1) := by decide +kernel
theorem dL_law_386 : decode cL_law 386 = .ok (.iadd, 1) := by decide +kernel
theorem dL_law_387 : decode cL_law 387 = .ok (.iaload, 1) := by decide +kernel
theorem dL_law_388 : decode cL_law 388 = .ok (.invokevirtual 74, 3) := by decide +kernel
theorem dL_law_391 : decode cL_law 391 = .ok (.istore 6, 2) := by decide +kernel
theorem dL_law_393 : decode cL_law 393 = .ok (.aload_n 2, 1) := by decide +kernel
theorem dL_law_394 : decode cL_law 394 = .ok (.invokevirtual 54, 3) := by decide +kernel
theorem dL_law_397 : decode cL_law 397 = .ok (.iload 5, 2) := by decide +kernel
theorem dL_law_399 : decode cL_law 399 = .ok (.if_icmp .eq 5, 3) := by decide +kernel
theorem dL_law_402 : decode cL_law 402 = .ok (.iconst 0, 1) := by decide +kernel
theorem dL_law_403 : decode cL_law 403 = .ok (.ireturn, 1) := by decide +kernel
theorem dL_law_404 : decode cL_law 404 = .ok (.iload 5, 2) := by decide +kernel
theorem dL_law_406 : decode cL_law 406 = .ok (.ifCond .ne 15, 3) := by decide +kernel
theorem dL_law_409 : decode cL_law 409 = .ok (.aload_n 3, 1) := by decide +kernel
theorem dL_law_410 : decode cL_law 410 = .ok (.iconst 0, 1) := by decide +kernel
theorem dL_law_411 : decode cL_law 411 = .ok (.laload, 1) := by decide +kernel
theorem dL_law_412 : decode cL_law 412 = .ok (.iload 6, 2) := by decide +kernel
theorem dL_law_414 : decode cL_law 414 = .ok (.i2l, 1) := by decide +kernel
theorem dL_law_415 : decode cL_law 415 = .ok (.lcmp, 1) := by decide +kernel
theorem dL_law_416 : decode cL_law 416 = .ok (.ifCond .eq 5, 3) := by decide +kernel
theorem dL_law_419 : decode cL_law 419 = .ok (.iconst 0, 1) := by decide +kernel
theorem dL_law_420 : decode cL_law 420 = .ok (.ireturn, 1) := by decide +kernel
theorem dL_law_421 : decode cL_law 421 = .ok (.goto 176, 3) := by decide +kernel
theorem dL_law_424 : decode cL_law 424 = .ok (.aload_n 1, 1) := by decide +kernel
theorem dL_law_425 : decode cL_law 425 = .ok (.aload_n 0, 1) := by decide +kernel
theorem dL_law_426 : decode cL_law 426 = .ok (.iload 4, 2) := by decide +kernel
theorem dL_law_428 : decode cL_law 428 = .ok (.iconst 1, 1) := by decide +kernel
theorem dL_law_429 : decode cL_law 429 = .ok (.iadd, 1) := by decide +kernel
theorem dL_law_430 : decode cL_law 430 = .ok (.iaload, 1) := by decide +kernel
theorem dL_law_431 : decode cL_law 431 = .ok (.invokestatic 75, 3) := by decide +kernel
theorem dL_law_434 : decode cL_law 434 = .ok (.istore 5, 2) := by decide +kernel
theorem dL_law_436 : decode cL_law 436 = .ok (.aload_n 2, 1) := by decide +kernel
theorem dL_law_437 : decode cL_law 437 = .ok (.aload_n 0, 1) := by decide +kernel
theorem dL_law_438 : decode cL_law 438 = .ok (.iload 4, 2) := by decide +kernel
theorem dL_law_440 : decode cL_law 440 = .ok (.iconst 1, 1) := by decide +kernel
theorem dL_law_441 : decode cL_law 441 = .ok (.iadd, 1) := by decide +kernel
theorem dL_law_442 : decode cL_law 442 = .ok (.iaload, 1) := by decide +kernel
theorem dL_law_443 : decode cL_law 443 = .ok (.invokevirtual 78, 3) := by decide +kernel
theorem dL_law_446 : decode cL_law 446 = .ok (.aload_n 2, 1) := by decide +kernel
theorem dL_law_447 : decode cL_law 447 = .ok (.invokevirtual 54, 3) := by decide +kernel
theorem dL_law_450 : decode cL_law 450 = .ok (.iload 5, 2) := by decide +kernel
theorem dL_law_452 : decode cL_law 452 = .ok (.if_icmp .eq 5, 3) := by decide +kernel
theorem dL_law_455 : decode cL_law 455 = .ok (.iconst 0, 1) := by decide +kernel
theorem dL_law_456 : decode cL_law 456 = .ok (.ireturn, 1) := by decide +kernel
theorem dL_law_457 : decode cL_law 457 = .ok (.goto 140, 3) := by decide +kernel
theorem dL_law_460 : decode cL_law 460 = .ok (.aload_n 1, 1) := by decide +kernel
theorem dL_law_461 : decode cL_law 461 = .ok (.aload_n 0, 1) := by decide +kernel
theorem dL_law_462 : decode cL_law 462 = .ok (.iload 4, 2) := by decide +kernel
theorem dL_law_464 : decode cL_law 464 = .ok (.iconst 1, 1) := by decide +kernel
theorem dL_law_465 : decode cL_law 465 = .ok (.iadd, 1) := by decide +kernel
theorem dL_law_466 : decode cL_law 466 = .ok (.iaload, 1) := by decide +kernel
theorem dL_law_467 : decode cL_law 467 = .ok (.aload_n 3, 1) := by decide +kernel
theorem dL_law_468 : decode cL_law 468 = .ok (.invokestatic 79, 3) := by decide +kernel
theorem dL_law_471 : decode cL_law 471 = .ok (.istore 5, 2) := by decide +kernel
theorem dL_law_473 : decode cL_law 473 = .ok (.aload_n 2, 1) := by decide +kernel
theorem dL_law_474 : decode cL_law 474 = .ok (.aload_n 0, 1) := by decide +kernel
theorem dL_law_475 : decode cL_law 475 = .ok (.iload 4, 2) := by decide +kernel
theorem dL_law_477 : decode cL_law 477 = .ok (.iconst 1, 1) := by decide +kernel
theorem dL_law_478 : decode cL_law 478 = .ok (.iadd, 1) := by decide +kernel
theorem dL_law_479 : decode cL_law 479 = .ok (.iaload, 1) := by decide +kernel
theorem dL_law_480 : decode cL_law 480 = .ok (.invokevirtual 81, 3) := by decide +kernel
theorem dL_law_483 : decode cL_law 483 = .ok (.istore 6, 2) := by decide +kernel
theorem dL_law_485 : decode cL_law 485 = .ok (.aload_n 2, 1) := by decide +kernel
theorem dL_law_486 : decode cL_law 486 = .ok (.invokevirtual 54, 3) := by decide +kernel
theorem dL_law_489 : decode cL_law 489 = .ok (.iload 5, 2) := by decide +kernel
theorem dL_law_491 : decode cL_law 491 = .ok (.if_icmp .eq 5, 3) := by decide +kernel
theorem dL_law_494 : decode cL_law 494 = .ok (.iconst 0, 1) := by decide +kernel
theorem dL_law_495 : decode cL_law 495 = .ok (.ireturn, 1) := by decide +kernel
theorem dL_law_496 : decode cL_law 496 = .ok (.iload 5, 2) := by decide +kernel
theorem dL_law_498 : decode cL_law 498 = .ok (.ifCond .ne 15, 3) := by decide +kernel
theorem dL_law_501 : decode cL_law 501 = .ok (.aload_n 3, 1) := by decide +kernel
theorem dL_law_502 : decode cL_law 502 = .ok (.iconst 0, 1) := by decide +kernel
theorem dL_law_503 : decode cL_law 503 = .ok (.laload, 1) := by decide +kernel
theorem dL_law_504 : decode cL_law 504 = .ok (.iload 6, 2) := by decide +kernel
theorem dL_law_506 : decode cL_law 506 = .ok (.i2l, 1) := by decide +kernel
theorem dL_law_507 : decode cL_law 507 = .ok (.lcmp, 1) := by decide +kernel
theorem dL_law_508 : decode cL_law 508 = .ok (.ifCond .eq 5, 3) := by decide +kernel
theorem dL_law_511 : decode cL_law 511 = .ok (.iconst 0, 1) := by decide +kernel
theorem dL_law_512 : decode cL_law 512 = .ok (.ireturn, 1) := by decide +kernel
theorem dL_law_513 : decode cL_law 513 = .ok (.goto 84, 3) := by decide +kernel
theorem dL_law_516 : decode cL_law 516 = .ok (.aload_n 1, 1) := by decide +kernel
theorem dL_law_517 : decode cL_law 517 = .ok (.aload_n 0, 1) := by decide +kernel
theorem dL_law_518 : decode cL_law 518 = .ok (.iload 4, 2) := by decide +kernel
theorem dL_law_520 : decode cL_law 520 = .ok (.iconst 1, 1) := by decide +kernel
theorem dL_law_521 : decode cL_law 521 = .ok (.iadd, 1) := by decide +kernel
theorem dL_law_522 : decode cL_law 522 = .ok (.iaload, 1) := by decide +kernel
theorem dL_law_523 : decode cL_law 523 = .ok (.invokevirtual 82, 3) := by decide +kernel
theorem dL_law_526 : decode cL_law 526 = .ok (.aload_n 2, 1) := by decide +kernel
theorem dL_law_527 : decode cL_law 527 = .ok (.aload_n 0, 1) := by decide +kernel
theorem dL_law_528 : decode cL_law 528 = .ok (.iload 4, 2) := by decide +kernel
theorem dL_law_530 : decode cL_law 530 = .ok (.iconst 1, 1) := by decide +kernel
theorem dL_law_531 : decode cL_law 531 = .ok (.iadd, 1) := by decide +kernel
theorem dL_law_532 : decode cL_law 532 = .ok (.iaload, 1) := by decide +kernel
theorem dL_law_533 : decode cL_law 533 = .ok (.invokevirtual 85, 3) := by decide +kernel
theorem dL_law_536 : decode cL_law 536 = .ok (.if_icmp .eq 61, 3) := by decide +kernel
theorem dL_law_539 : decode cL_law 539 = .ok (.iconst 0, 1) := by decide +kernel
theorem dL_law_540 : decode cL_law 540 = .ok (.ireturn, 1) := by decide +kernel
theorem dL_law_541 : decode cL_law 541 = .ok (.aload_n 1, 1) := by decide +kernel
theorem dL_law_542 : decode cL_law 542 = .ok (.aload_n 0, 1) := by decide +kernel
theorem dL_law_543 : decode cL_law 543 = .ok (.iload 4, 2) := by decide +kernel
theorem dL_law_545 : decode cL_law 545 = .ok (.iconst 1, 1) := by decide +kernel
theorem dL_law_546 : decode cL_law 546 = .ok (.iadd, 1) := by decide +kernel
theorem dL_law_547 : decode cL_law 547 = .ok (.iaload, 1) := by decide +kernel
theorem dL_law_548 : decode cL_law 548 = .ok (.aload_n 3, 1) := by decide +kernel
theorem dL_law_549 : decode cL_law 549 = .ok (.invokestatic 86, 3) := by decide +kernel
theorem dL_law_552 : decode cL_law 552 = .ok (.istore 5, 2) := by decide +kernel
theorem dL_law_554 : decode cL_law 554 = .ok (.aload_n 2, 1) := by decide +kernel
theorem dL_law_555 : decode cL_law 555 = .ok (.aload_n 0, 1) := by decide +kernel
theorem dL_law_556 : decode cL_law 556 = .ok (.iload 4, 2) := by decide +kernel
theorem dL_law_558 : decode cL_law 558 = .ok (.iconst 1, 1) := by decide +kernel
theorem dL_law_559 : decode cL_law 559 = .ok (.iadd, 1) := by decide +kernel
theorem dL_law_560 : decode cL_law 560 = .ok (.iaload, 1) := by decide +kernel
theorem dL_law_561 : decode cL_law 561 = .ok (.invokevirtual 88, 3) := by decide +kernel
theorem dL_law_564 : decode cL_law 564 = .ok (.istore 6, 2) := by decide +kernel
theorem dL_law_566 : decode cL_law 566 = .ok (.aload_n 2, 1) := by decide +kernel
theorem dL_law_567 : decode cL_law 567 = .ok (.invokevirtual 54, 3) := by decide +kernel
theorem dL_law_570 : decode cL_law 570 = .ok (.iload 5, 2) := by decide +kernel
theorem dL_law_572 : decode cL_law 572 = .ok (.if_icmp .eq 5, 3) := by decide +kernel
theorem dL_law_575 : decode cL_law 575 = .ok (.iconst 0, 1) := by decide +kernel
theorem dL_law_576 : decode cL_law 576 = .ok (.ireturn, 1) := by decide +kernel
theorem dL_law_577 : decode cL_law 577 = .ok (.iload 5, 2) := by decide +kernel
theorem dL_law_579 : decode cL_law 579 = .ok (.ifCond .ne 15, 3) := by decide +kernel
theorem dL_law_582 : decode cL_law 582 = .ok (.aload_n 3, 1) := by decide +kernel
theorem dL_law_583 : decode cL_law 583 = .ok (.iconst 0, 1) := by decide +kernel
theorem dL_law_584 : decode cL_law 584 = .ok (.laload, 1) := by decide +kernel
theorem dL_law_585 : decode cL_law 585 = .ok (.iload 6, 2) := by decide +kernel
theorem dL_law_587 : decode cL_law 587 = .ok (.i2l, 1) := by decide +kernel
theorem dL_law_588 : decode cL_law 588 = .ok (.lcmp, 1) := by decide +kernel
theorem dL_law_589 : decode cL_law 589 = .ok (.ifCond .eq 5, 3) := by decide +kernel
theorem dL_law_592 : decode cL_law 592 = .ok (.iconst 0, 1) := by decide +kernel
theorem dL_law_593 : decode cL_law 593 = .ok (.ireturn, 1) := by decide +kernel
theorem dL_law_594 : decode cL_law 594 = .ok (.goto 3, 3) := by decide +kernel
theorem dL_law_597 : decode cL_law 597 = .ok (.iinc 4 4, 3) := by decide +kernel
theorem dL_law_600 : decode cL_law 600 = .ok (.goto (-577), 3) := by decide +kernel
theorem dL_law_603 : decode cL_law 603 = .ok (.iconst 1, 1) := by decide +kernel
theorem dL_law_604 : decode cL_law 604 = .ok (.ireturn, 1) := by decide +kernel
abbrev vwCl : List vw_C := [(RX0, TX0, 13), (RX2, TX2, 6), (RX3, TX3, 3), (RX4, TX4, 11), (RX5, TX5, 27)]
end
section
abbrev TQ : Type := (Nat → Int32) × Int32 × Int32
def gQ_ring (u : TQ) : (Nat → Int32) := u.1
def gQ_start (u : TQ) : Int32 := u.2.1
def gQ_many (u : TQ) : Int32 := u.2.2
def sQ_ring (u : TQ) (v : (Nat → Int32)) : TQ := (v, u.2.1, u.2.2)
def sQ_start (u : TQ) (v : Int32) : TQ := (u.1, v, u.2.2)
def sQ_many (u : TQ) (v : Int32) : TQ := (u.1, u.2.1, v)
abbrev wQ (a0 a1 : Nat) (cI : ClassId) (n : Nat) (u : TQ) : va_W := [(a0, .inr (2, [.ref a1, .int (gQ_start u), .int (gQ_many u)])), (a1, .inl (cI, n, .inl (gQ_ring u)))]
abbrev TG : Type := (Nat → Int32) × (Nat → Int32) × TQ × (Nat → Int32) × Int32 × Int32
def gG_state (u : TG) : (Nat → Int32) := u.1
def gG_memory (u : TG) : (Nat → Int32) := u.2.1
def gG_inputs (u : TG) : TQ := u.2.2.1
def gG_outputs (u : TG) : (Nat → Int32) := u.2.2.2.1
def gG_given (u : TG) : Int32 := u.2.2.2.2.1
def gG_written (u : TG) : Int32 := u.2.2.2.2.2
def sG_state (u : TG) (v : (Nat → Int32)) : TG := (v, u.2.1, u.2.2.1, u.2.2.2.1, u.2.2.2.2.1, u.2.2.2.2.2)
def sG_memory (u : TG) (v : (Nat → Int32)) : TG := (u.1, v, u.2.2.1, u.2.2.2.1, u.2.2.2.2.1, u.2.2.2.2.2)
def sG_inputs (u : TG) (v : TQ) : TG := (u.1, u.2.1, v, u.2.2.2.1, u.2.2.2.2.1, u.2.2.2.2.2)
def sG_outputs (u : TG) (v : (Nat → Int32)) : TG := (u.1, u.2.1, u.2.2.1, v, u.2.2.2.2.1, u.2.2.2.2.2)
def sG_given (u : TG) (v : Int32) : TG := (u.1, u.2.1, u.2.2.1, u.2.2.2.1, v, u.2.2.2.2.2)
def sG_written (u : TG) (v : Int32) : TG := (u.1, u.2.1, u.2.2.1, u.2.2.2.1, u.2.2.2.2.1, v)
abbrev wG (a0 a1 a2 a3 a4 a5 : Nat) (cI : ClassId) (u : TG) : va_W := [(a0, .inr (1, [.ref a1, .ref a2, .ref a3, .ref a5, .int (gG_given u), .int (gG_written u)])), (a1, .inl (cI, 10, .inl (gG_state u))), (a2, .inl (cI, 256, .inl (gG_memory u))), (a3, .inr (2, [.ref a4, .int (gQ_start (gG_inputs u)), .int (gQ_many (gG_inputs u))])), (a4, .inl (cI, 32, .inl (gQ_ring (gG_inputs u)))), (a5, .inl (cI, 100, .inl (gG_outputs u)))]
abbrev TC : Type := (Nat → Int32) × (Nat → Int32) × (Nat → Int32) × (Nat → Int32) × (Nat → Int32) × (Nat → Int32) × (Nat → Int32) × Int32 × Int32 × Int32 × Int32 × Int32 × Int32
def gC_code (u : TC) : (Nat → Int32) := u.1
def gC_length (u : TC) : (Nat → Int32) := u.2.1
def gC_behind (u : TC) : (Nat → Int32) := u.2.2.1
def gC_size (u : TC) : (Nat → Int32) := u.2.2.2.1
def gC_serial (u : TC) : (Nat → Int32) := u.2.2.2.2.1
def gC_exitPlace (u : TC) : (Nat → Int32) := u.2.2.2.2.2.1
def gC_linkedSerial (u : TC) : (Nat → Int32) := u.2.2.2.2.2.2.1
def gC_limit (u : TC) : Int32 := u.2.2.2.2.2.2.2.1
def gC_blocks (u : TC) : Int32 := u.2.2.2.2.2.2.2.2.1
def gC_filled (u : TC) : Int32 := u.2.2.2.2.2.2.2.2.2.1
def gC_translated (u : TC) : Int32 := u.2.2.2.2.2.2.2.2.2.2.1
def gC_flushes (u : TC) : Int32 := u.2.2.2.2.2.2.2.2.2.2.2.1
def gC_deadFlags (u : TC) : Int32 := u.2.2.2.2.2.2.2.2.2.2.2.2
def sC_code (u : TC) (v : (Nat → Int32)) : TC := (v, u.2.1, u.2.2.1, u.2.2.2.1, u.2.2.2.2.1, u.2.2.2.2.2.1, u.2.2.2.2.2.2.1, u.2.2.2.2.2.2.2.1, u.2.2.2.2.2.2.2.2.1, u.2.2.2.2.2.2.2.2.2.1, u.2.2.2.2.2.2.2.2.2.2.1, u.2.2.2.2.2.2.2.2.2.2.2.1, u.2.2.2.2.2.2.2.2.2.2.2.2)
def sC_length (u : TC) (v : (Nat → Int32)) : TC := (u.1, v, u.2.2.1, u.2.2.2.1, u.2.2.2.2.1, u.2.2.2.2.2.1, u.2.2.2.2.2.2.1, u.2.2.2.2.2.2.2.1, u.2.2.2.2.2.2.2.2.1, u.2.2.2.2.2.2.2.2.2.1, u.2.2.2.2.2.2.2.2.2.2.1, u.2.2.2.2.2.2.2.2.2.2.2.1, u.2.2.2.2.2.2.2.2.2.2.2.2)
def sC_behind (u : TC) (v : (Nat → Int32)) : TC := (u.1, u.2.1, v, u.2.2.2.1, u.2.2.2.2.1, u.2.2.2.2.2.1, u.2.2.2.2.2.2.1, u.2.2.2.2.2.2.2.1, u.2.2.2.2.2.2.2.2.1, u.2.2.2.2.2.2.2.2.2.1, u.2.2.2.2.2.2.2.2.2.2.1, u.2.2.2.2.2.2.2.2.2.2.2.1, u.2.2.2.2.2.2.2.2.2.2.2.2)
def sC_size (u : TC) (v : (Nat → Int32)) : TC := (u.1, u.2.1, u.2.2.1, v, u.2.2.2.2.1, u.2.2.2.2.2.1, u.2.2.2.2.2.2.1, u.2.2.2.2.2.2.2.1, u.2.2.2.2.2.2.2.2.1, u.2.2.2.2.2.2.2.2.2.1, u.2.2.2.2.2.2.2.2.2.2.1, u.2.2.2.2.2.2.2.2.2.2.2.1, u.2.2.2.2.2.2.2.2.2.2.2.2)
def sC_serial (u : TC) (v : (Nat → Int32)) : TC := (u.1, u.2.1, u.2.2.1, u.2.2.2.1, v, u.2.2.2.2.2.1, u.2.2.2.2.2.2.1, u.2.2.2.2.2.2.2.1, u.2.2.2.2.2.2.2.2.1, u.2.2.2.2.2.2.2.2.2.1, u.2.2.2.2.2.2.2.2.2.2.1, u.2.2.2.2.2.2.2.2.2.2.2.1, u.2.2.2.2.2.2.2.2.2.2.2.2)
def sC_exitPlace (u : TC) (v : (Nat → Int32)) : TC := (u.1, u.2.1, u.2.2.1, u.2.2.2.1, u.2.2.2.2.1, v, u.2.2.2.2.2.2.1, u.2.2.2.2.2.2.2.1, u.2.2.2.2.2.2.2.2.1, u.2.2.2.2.2.2.2.2.2.1, u.2.2.2.2.2.2.2.2.2.2.1, u.2.2.2.2.2.2.2.2.2.2.2.1, u.2.2.2.2.2.2.2.2.2.2.2.2)
def sC_linkedSerial (u : TC) (v : (Nat → Int32)) : TC := (u.1, u.2.1, u.2.2.1, u.2.2.2.1, u.2.2.2.2.1, u.2.2.2.2.2.1, v, u.2.2.2.2.2.2.2.1, u.2.2.2.2.2.2.2.2.1, u.2.2.2.2.2.2.2.2.2.1, u.2.2.2.2.2.2.2.2.2.2.1, u.2.2.2.2.2.2.2.2.2.2.2.1, u.2.2.2.2.2.2.2.2.2.2.2.2)
def sC_limit (u : TC) (v : Int32) : TC := (u.1, u.2.1, u.2.2.1, u.2.2.2.1, u.2.2.2.2.1, u.2.2.2.2.2.1, u.2.2.2.2.2.2.1, v, u.2.2.2.2.2.2.2.2.1, u.2.2.2.2.2.2.2.2.2.1, u.2.2.2.2.2.2.2.2.2.2.1, u.2.2.2.2.2.2.2.2.2.2.2.1, u.2.2.2.2.2.2.2.2.2.2.2.2)
def sC_blocks (u : TC) (v : Int32) : TC := (u.1, u.2.1, u.2.2.1, u.2.2.2.1, u.2.2.2.2.1, u.2.2.2.2.2.1, u.2.2.2.2.2.2.1, u.2.2.2.2.2.2.2.1, v, u.2.2.2.2.2.2.2.2.2.1, u.2.2.2.2.2.2.2.2.2.2.1, u.2.2.2.2.2.2.2.2.2.2.2.1, u.2.2.2.2.2.2.2.2.2.2.2.2)
def sC_filled (u : TC) (v : Int32) : TC := (u.1, u.2.1, u.2.2.1, u.2.2.2.1, u.2.2.2.2.1, u.2.2.2.2.2.1, u.2.2.2.2.2.2.1, u.2.2.2.2.2.2.2.1, u.2.2.2.2.2.2.2.2.1, v, u.2.2.2.2.2.2.2.2.2.2.1, u.2.2.2.2.2.2.2.2.2.2.2.1, u.2.2.2.2.2.2.2.2.2.2.2.2)
def sC_translated (u : TC) (v : Int32) : TC := (u.1, u.2.1, u.2.2.1, u.2.2.2.1, u.2.2.2.2.1, u.2.2.2.2.2.1, u.2.2.2.2.2.2.1, u.2.2.2.2.2.2.2.1, u.2.2.2.2.2.2.2.2.1, u.2.2.2.2.2.2.2.2.2.1, v, u.2.2.2.2.2.2.2.2.2.2.2.1, u.2.2.2.2.2.2.2.2.2.2.2.2)
def sC_flushes (u : TC) (v : Int32) : TC := (u.1, u.2.1, u.2.2.1, u.2.2.2.1, u.2.2.2.2.1, u.2.2.2.2.2.1, u.2.2.2.2.2.2.1, u.2.2.2.2.2.2.2.1, u.2.2.2.2.2.2.2.2.1, u.2.2.2.2.2.2.2.2.2.1, u.2.2.2.2.2.2.2.2.2.2.1, v, u.2.2.2.2.2.2.2.2.2.2.2.2)
def sC_deadFlags (u : TC) (v : Int32) : TC := (u.1, u.2.1, u.2.2.1, u.2.2.2.1, u.2.2.2.2.1, u.2.2.2.2.2.1, u.2.2.2.2.2.2.1, u.2.2.2.2.2.2.2.1, u.2.2.2.2.2.2.2.2.1, u.2.2.2.2.2.2.2.2.2.1, u.2.2.2.2.2.2.2.2.2.2.1, u.2.2.2.2.2.2.2.2.2.2.2.1, v)
abbrev wC (a0 a1 a2 a3 a4 a5 a6 a7 : Nat) (cI : ClassId) (u : TC) : va_W := [(a0, .inr (0, [.ref a1, .ref a2, .ref a3, .ref a4, .ref a5, .ref a6, .ref a7, .int (gC_limit u), .int (gC_blocks u), .int (gC_filled u), .int (gC_translated u), .int (gC_flushes u), .int (gC_deadFlags u)])), (a1, .inl (cI, 2048, .inl (gC_code u))), (a2, .inl (cI, 256, .inl (gC_length u))), (a3, .inl (cI, 256, .inl (gC_behind u))), (a4, .inl (cI, 256, .inl (gC_size u))), (a5, .inl (cI, 256, .inl (gC_serial u))), (a6, .inl (cI, 512, .inl (gC_exitPlace u))), (a7, .inl (cI, 512, .inl (gC_linkedSerial u)))]
abbrev TB : Type := TG × TC × TQ × Int32 × Int32 × Int32 × Int32 × Int32 × Int32 × Int32 × Int32
def gB_guest (u : TB) : TG := u.1
def gB_cache (u : TB) : TC := u.2.1
def gB_requests (u : TB) : TQ := u.2.2.1
def gB_latestRequest (u : TB) : Int32 := u.2.2.2.1
def gB_executed (u : TB) : Int32 := u.2.2.2.2.1
def gB_invalidated (u : TB) : Int32 := u.2.2.2.2.2.1
def gB_lookups (u : TB) : Int32 := u.2.2.2.2.2.2.1
def gB_interpreted (u : TB) : Int32 := u.2.2.2.2.2.2.2.1
def gB_interrupts (u : TB) : Int32 := u.2.2.2.2.2.2.2.2.1
def gB_ending (u : TB) : Int32 := u.2.2.2.2.2.2.2.2.2.1
def gB_exit (u : TB) : Int32 := u.2.2.2.2.2.2.2.2.2.2
def sB_guest (u : TB) (v : TG) : TB := (v, u.2.1, u.2.2.1, u.2.2.2.1, u.2.2.2.2.1, u.2.2.2.2.2.1, u.2.2.2.2.2.2.1, u.2.2.2.2.2.2.2.1, u.2.2.2.2.2.2.2.2.1, u.2.2.2.2.2.2.2.2.2.1, u.2.2.2.2.2.2.2.2.2.2)
def sB_cache (u : TB) (v : TC) : TB := (u.1, v, u.2.2.1, u.2.2.2.1, u.2.2.2.2.1, u.2.2.2.2.2.1, u.2.2.2.2.2.2.1, u.2.2.2.2.2.2.2.1, u.2.2.2.2.2.2.2.2.1, u.2.2.2.2.2.2.2.2.2.1, u.2.2.2.2.2.2.2.2.2.2)
def sB_requests (u : TB) (v : TQ) : TB := (u.1, u.2.1, v, u.2.2.2.1, u.2.2.2.2.1, u.2.2.2.2.2.1, u.2.2.2.2.2.2.1, u.2.2.2.2.2.2.2.1, u.2.2.2.2.2.2.2.2.1, u.2.2.2.2.2.2.2.2.2.1, u.2.2.2.2.2.2.2.2.2.2)
def sB_latestRequest (u : TB) (v : Int32) : TB := (u.1, u.2.1, u.2.2.1, v, u.2.2.2.2.1, u.2.2.2.2.2.1, u.2.2.2.2.2.2.1, u.2.2.2.2.2.2.2.1, u.2.2.2.2.2.2.2.2.1, u.2.2.2.2.2.2.2.2.2.1, u.2.2.2.2.2.2.2.2.2.2)
def sB_executed (u : TB) (v : Int32) : TB := (u.1, u.2.1, u.2.2.1, u.2.2.2.1, v, u.2.2.2.2.2.1, u.2.2.2.2.2.2.1, u.2.2.2.2.2.2.2.1, u.2.2.2.2.2.2.2.2.1, u.2.2.2.2.2.2.2.2.2.1, u.2.2.2.2.2.2.2.2.2.2)
def sB_invalidated (u : TB) (v : Int32) : TB := (u.1, u.2.1, u.2.2.1, u.2.2.2.1, u.2.2.2.2.1, v, u.2.2.2.2.2.2.1, u.2.2.2.2.2.2.2.1, u.2.2.2.2.2.2.2.2.1, u.2.2.2.2.2.2.2.2.2.1, u.2.2.2.2.2.2.2.2.2.2)
def sB_lookups (u : TB) (v : Int32) : TB := (u.1, u.2.1, u.2.2.1, u.2.2.2.1, u.2.2.2.2.1, u.2.2.2.2.2.1, v, u.2.2.2.2.2.2.2.1, u.2.2.2.2.2.2.2.2.1, u.2.2.2.2.2.2.2.2.2.1, u.2.2.2.2.2.2.2.2.2.2)
def sB_interpreted (u : TB) (v : Int32) : TB := (u.1, u.2.1, u.2.2.1, u.2.2.2.1, u.2.2.2.2.1, u.2.2.2.2.2.1, u.2.2.2.2.2.2.1, v, u.2.2.2.2.2.2.2.2.1, u.2.2.2.2.2.2.2.2.2.1, u.2.2.2.2.2.2.2.2.2.2)
def sB_interrupts (u : TB) (v : Int32) : TB := (u.1, u.2.1, u.2.2.1, u.2.2.2.1, u.2.2.2.2.1, u.2.2.2.2.2.1, u.2.2.2.2.2.2.1, u.2.2.2.2.2.2.2.1, v, u.2.2.2.2.2.2.2.2.2.1, u.2.2.2.2.2.2.2.2.2.2)
def sB_ending (u : TB) (v : Int32) : TB := (u.1, u.2.1, u.2.2.1, u.2.2.2.1, u.2.2.2.2.1, u.2.2.2.2.2.1, u.2.2.2.2.2.2.1, u.2.2.2.2.2.2.2.1, u.2.2.2.2.2.2.2.2.1, v, u.2.2.2.2.2.2.2.2.2.2)
def sB_exit (u : TB) (v : Int32) : TB := (u.1, u.2.1, u.2.2.1, u.2.2.2.1, u.2.2.2.2.1, u.2.2.2.2.2.1, u.2.2.2.2.2.2.1, u.2.2.2.2.2.2.2.1, u.2.2.2.2.2.2.2.2.1, u.2.2.2.2.2.2.2.2.2.1, v)
abbrev wB (a0 a1 a2 a3 a4 a5 a6 a7 a8 a9 a10 a11 a12 a13 a14 a15 a16 : Nat) (cI : ClassId) (u : TB) : va_W := [(a0, .inr (3, [.ref a1, .ref a7, .ref a15, .int (gB_latestRequest u), .int (gB_executed u), .int (gB_invalidated u), .int (gB_lookups u), .int (gB_interpreted u), .int (gB_interrupts u), .int (gB_ending u), .int (gB_exit u)])), (a1, .inr (1, [.ref a2, .ref a3, .ref a4, .ref a6, .int (gG_given (gB_guest u)), .int (gG_written (gB_guest u))])), (a2, .inl (cI, 10, .inl (gG_state (gB_guest u)))), (a3, .inl (cI, 256, .inl (gG_memory (gB_guest u)))), (a4, .inr (2, [.ref a5, .int (gQ_start (gG_inputs (gB_guest u))), .int (gQ_many (gG_inputs (gB_guest u)))])), (a5, .inl (cI, 32, .inl (gQ_ring (gG_inputs (gB_guest u))))), (a6, .inl (cI, 100, .inl (gG_outputs (gB_guest u)))), (a7, .inr (0, [.ref a8, .ref a9, .ref a10, .ref a11, .ref a12, .ref a13, .ref a14, .int (gC_limit (gB_cache u)), .int (gC_blocks (gB_cache u)), .int (gC_filled (gB_cache u)), .int (gC_translated (gB_cache u)), .int (gC_flushes (gB_cache u)), .int (gC_deadFlags (gB_cache u))])), (a8, .inl (cI, 2048, .inl (gC_code (gB_cache u)))), (a9, .inl (cI, 256, .inl (gC_length (gB_cache u)))), (a10, .inl (cI, 256, .inl (gC_behind (gB_cache u)))), (a11, .inl (cI, 256, .inl (gC_size (gB_cache u)))), (a12, .inl (cI, 256, .inl (gC_serial (gB_cache u)))), (a13, .inl (cI, 512, .inl (gC_exitPlace (gB_cache u)))), (a14, .inl (cI, 512, .inl (gC_linkedSerial (gB_cache u)))), (a15, .inr (2, [.ref a16, .int (gQ_start (gB_requests u)), .int (gQ_many (gB_requests u))])), (a16, .inl (cI, 16, .inl (gQ_ring (gB_requests u))))]
abbrev TM : Type := Int32 × (Nat → Int32) × (Nat → Int32) × (Nat → Int32) × Int32 × (Nat → Int32) × Int32 × Int32 × (Nat → Int32) × (Nat → Int32) × (Nat → Int32) × (Nat → Int32) × (Nat → Int32) × (Nat → Int32) × (Nat → Int32) × Int32 × Int32 × (Nat → Int32) × Int32 × Int32 × Int32 × Int32 × Int32 × Int32 × (Nat → Int32) × Int32 × Int32
def gM_refusal (u : TM) : Int32 := u.1
def gM_memory (u : TM) : (Nat → Int32) := u.2.1
def gM_reg (u : TM) : (Nat → Int32) := u.2.2.1
def gM_inputs (u : TM) : (Nat → Int32) := u.2.2.2.1
def gM_inputMany (u : TM) : Int32 := u.2.2.2.2.1
def gM_requests (u : TM) : (Nat → Int32) := u.2.2.2.2.2.1
def gM_requestMany (u : TM) : Int32 := u.2.2.2.2.2.2.1
def gM_lastRequest (u : TM) : Int32 := u.2.2.2.2.2.2.2.1
def gM_given (u : TM) : (Nat → Int32) := u.2.2.2.2.2.2.2.2.1
def gM_size (u : TM) : (Nat → Int32) := u.2.2.2.2.2.2.2.2.2.1
def gM_length (u : TM) : (Nat → Int32) := u.2.2.2.2.2.2.2.2.2.2.1
def gM_pages (u : TM) : (Nat → Int32) := u.2.2.2.2.2.2.2.2.2.2.2.1
def gM_which (u : TM) : (Nat → Int32) := u.2.2.2.2.2.2.2.2.2.2.2.2.1
def gM_exitAt (u : TM) : (Nat → Int32) := u.2.2.2.2.2.2.2.2.2.2.2.2.2.1
def gM_exitTo (u : TM) : (Nat → Int32) := u.2.2.2.2.2.2.2.2.2.2.2.2.2.2.1
def gM_room (u : TM) : Int32 := u.2.2.2.2.2.2.2.2.2.2.2.2.2.2.2.1
def gM_translated (u : TM) : Int32 := u.2.2.2.2.2.2.2.2.2.2.2.2.2.2.2.2.1
def gM_counts (u : TM) : (Nat → Int32) := u.2.2.2.2.2.2.2.2.2.2.2.2.2.2.2.2.2.1
def gM_kind (u : TM) : Int32 := u.2.2.2.2.2.2.2.2.2.2.2.2.2.2.2.2.2.2.1
def gM_bytes (u : TM) : Int32 := u.2.2.2.2.2.2.2.2.2.2.2.2.2.2.2.2.2.2.2.1
def gM_foundMany (u : TM) : Int32 := u.2.2.2.2.2.2.2.2.2.2.2.2.2.2.2.2.2.2.2.2.1
def gM_foundSize (u : TM) : Int32 := u.2.2.2.2.2.2.2.2.2.2.2.2.2.2.2.2.2.2.2.2.2.1
def gM_foundPages (u : TM) : Int32 := u.2.2.2.2.2.2.2.2.2.2.2.2.2.2.2.2.2.2.2.2.2.2.1
def gM_foundDead (u : TM) : Int32 := u.2.2.2.2.2.2.2.2.2.2.2.2.2.2.2.2.2.2.2.2.2.2.2.1
def gM_kinds (u : TM) : (Nat → Int32) := u.2.2.2.2.2.2.2.2.2.2.2.2.2.2.2.2.2.2.2.2.2.2.2.2.1
def gM_leftBy (u : TM) : Int32 := u.2.2.2.2.2.2.2.2.2.2.2.2.2.2.2.2.2.2.2.2.2.2.2.2.2.1
def gM_isOver (u : TM) : Int32 := u.2.2.2.2.2.2.2.2.2.2.2.2.2.2.2.2.2.2.2.2.2.2.2.2.2.2
def sM_refusal (u : TM) (v : Int32) : TM := (v, u.2.1, u.2.2.1, u.2.2.2.1, u.2.2.2.2.1, u.2.2.2.2.2.1, u.2.2.2.2.2.2.1, u.2.2.2.2.2.2.2.1, u.2.2.2.2.2.2.2.2.1, u.2.2.2.2.2.2.2.2.2.1, u.2.2.2.2.2.2.2.2.2.2.1, u.2.2.2.2.2.2.2.2.2.2.2.1, u.2.2.2.2.2.2.2.2.2.2.2.2.1, u.2.2.2.2.2.2.2.2.2.2.2.2.2.1, u.2.2.2.2.2.2.2.2.2.2.2.2.2.2.1, u.2.2.2.2.2.2.2.2.2.2.2.2.2.2.2.1, u.2.2.2.2.2.2.2.2.2.2.2.2.2.2.2.2.1, u.2.2.2.2.2.2.2.2.2.2.2.2.2.2.2.2.2.1, u.2.2.2.2.2.2.2.2.2.2.2.2.2.2.2.2.2.2.1, u.2.2.2.2.2.2.2.2.2.2.2.2.2.2.2.2.2.2.2.1, u.2.2.2.2.2.2.2.2.2.2.2.2.2.2.2.2.2.2.2.2.1, u.2.2.2.2.2.2.2.2.2.2.2.2.2.2.2.2.2.2.2.2.2.1, u.2.2.2.2.2.2.2.2.2.2.2.2.2.2.2.2.2.2.2.2.2.2.1, u.2.2.2.2.2.2.2.2.2.2.2.2.2.2.2.2.2.2.2.2.2.2.2.1, u.2.2.2.2.2.2.2.2.2.2.2.2.2.2.2.2.2.2.2.2.2.2.2.2.1, u.2.2.2.2.2.2.2.2.2.2.2.2.2.2.2.2.2.2.2.2.2.2.2.2.2.1, u.2.2.2.2.2.2.2.2.2.2.2.2.2.2.2.2.2.2.2.2.2.2.2.2.2.2)
def sM_memory (u : TM) (v : (Nat → Int32)) : TM := (u.1, v, u.2.2.1, u.2.2.2.1, u.2.2.2.2.1, u.2.2.2.2.2.1, u.2.2.2.2.2.2.1, u.2.2.2.2.2.2.2.1, u.2.2.2.2.2.2.2.2.1, u.2.2.2.2.2.2.2.2.2.1, u.2.2.2.2.2.2.2.2.2.2.1, u.2.2.2.2.2.2.2.2.2.2.2.1, u.2.2.2.2.2.2.2.2.2.2.2.2.1, u.2.2.2.2.2.2.2.2.2.2.2.2.2.1, u.2.2.2.2.2.2.2.2.2.2.2.2.2.2.1, u.2.2.2.2.2.2.2.2.2.2.2.2.2.2.2.1, u.2.2.2.2.2.2.2.2.2.2.2.2.2.2.2.2.1, u.2.2.2.2.2.2.2.2.2.2.2.2.2.2.2.2.2.1, u.2.2.2.2.2.2.2.2.2.2.2.2.2.2.2.2.2.2.1, u.2.2.2.2.2.2.2.2.2.2.2.2.2.2.2.2.2.2.2.1, u.2.2.2.2.2.2.2.2.2.2.2.2.2.2.2.2.2.2.2.2.1, u.2.2.2.2.2.2.2.2.2.2.2.2.2.2.2.2.2.2.2.2.2.1, u.2.2.2.2.2.2.2.2.2.2.2.2.2.2.2.2.2.2.2.2.2.2.1, u.2.2.2.2.2.2.2.2.2.2.2.2.2.2.2.2.2.2.2.2.2.2.2.1, u.2.2.2.2.2.2.2.2.2.2.2.2.2.2.2.2.2.2.2.2.2.2.2.2.1, u.2.2.2.2.2.2.2.2.2.2.2.2.2.2.2.2.2.2.2.2.2.2.2.2.2.1, u.2.2.2.2.2.2.2.2.2.2.2.2.2.2.2.2.2.2.2.2.2.2.2.2.2.2)
def sM_reg (u : TM) (v : (Nat → Int32)) : TM := (u.1, u.2.1, v, u.2.2.2.1, u.2.2.2.2.1, u.2.2.2.2.2.1, u.2.2.2.2.2.2.1, u.2.2.2.2.2.2.2.1, u.2.2.2.2.2.2.2.2.1, u.2.2.2.2.2.2.2.2.2.1, u.2.2.2.2.2.2.2.2.2.2.1, u.2.2.2.2.2.2.2.2.2.2.2.1, u.2.2.2.2.2.2.2.2.2.2.2.2.1, u.2.2.2.2.2.2.2.2.2.2.2.2.2.1, u.2.2.2.2.2.2.2.2.2.2.2.2.2.2.1, u.2.2.2.2.2.2.2.2.2.2.2.2.2.2.2.1, u.2.2.2.2.2.2.2.2.2.2.2.2.2.2.2.2.1, u.2.2.2.2.2.2.2.2.2.2.2.2.2.2.2.2.2.1, u.2.2.2.2.2.2.2.2.2.2.2.2.2.2.2.2.2.2.1, u.2.2.2.2.2.2.2.2.2.2.2.2.2.2.2.2.2.2.2.1, u.2.2.2.2.2.2.2.2.2.2.2.2.2.2.2.2.2.2.2.2.1, u.2.2.2.2.2.2.2.2.2.2.2.2.2.2.2.2.2.2.2.2.2.1, u.2.2.2.2.2.2.2.2.2.2.2.2.2.2.2.2.2.2.2.2.2.2.1, u.2.2.2.2.2.2.2.2.2.2.2.2.2.2.2.2.2.2.2.2.2.2.2.1, u.2.2.2.2.2.2.2.2.2.2.2.2.2.2.2.2.2.2.2.2.2.2.2.2.1, u.2.2.2.2.2.2.2.2.2.2.2.2.2.2.2.2.2.2.2.2.2.2.2.2.2.1, u.2.2.2.2.2.2.2.2.2.2.2.2.2.2.2.2.2.2.2.2.2.2.2.2.2.2)
def sM_inputs (u : TM) (v : (Nat → Int32)) : TM := (u.1, u.2.1, u.2.2.1, v, u.2.2.2.2.1, u.2.2.2.2.2.1, u.2.2.2.2.2.2.1, u.2.2.2.2.2.2.2.1, u.2.2.2.2.2.2.2.2.1, u.2.2.2.2.2.2.2.2.2.1, u.2.2.2.2.2.2.2.2.2.2.1, u.2.2.2.2.2.2.2.2.2.2.2.1, u.2.2.2.2.2.2.2.2.2.2.2.2.1, u.2.2.2.2.2.2.2.2.2.2.2.2.2.1, u.2.2.2.2.2.2.2.2.2.2.2.2.2.2.1, u.2.2.2.2.2.2.2.2.2.2.2.2.2.2.2.1, u.2.2.2.2.2.2.2.2.2.2.2.2.2.2.2.2.1, u.2.2.2.2.2.2.2.2.2.2.2.2.2.2.2.2.2.1, u.2.2.2.2.2.2.2.2.2.2.2.2.2.2.2.2.2.2.1, u.2.2.2.2.2.2.2.2.2.2.2.2.2.2.2.2.2.2.2.1, u.2.2.2.2.2.2.2.2.2.2.2.2.2.2.2.2.2.2.2.2.1, u.2.2.2.2.2.2.2.2.2.2.2.2.2.2.2.2.2.2.2.2.2.1, u.2.2.2.2.2.2.2.2.2.2.2.2.2.2.2.2.2.2.2.2.2.2.1, u.2.2.2.2.2.2.2.2.2.2.2.2.2.2.2.2.2.2.2.2.2.2.2.1, u.2.2.2.2.2.2.2.2.2.2.2.2.2.2.2.2.2.2.2.2.2.2.2.2.1, u.2.2.2.2.2.2.2.2.2.2.2.2.2.2.2.2.2.2.2.2.2.2.2.2.2.1, u.2.2.2.2.2.2.2.2.2.2.2.2.2.2.2.2.2.2.2.2.2.2.2.2.2.2)
def sM_inputMany (u : TM) (v : Int32) : TM := (u.1, u.2.1, u.2.2.1, u.2.2.2.1, v, u.2.2.2.2.2.1, u.2.2.2.2.2.2.1, u.2.2.2.2.2.2.2.1, u.2.2.2.2.2.2.2.2.1, u.2.2.2.2.2.2.2.2.2.1, u.2.2.2.2.2.2.2.2.2.2.1, u.2.2.2.2.2.2.2.2.2.2.2.1, u.2.2.2.2.2.2.2.2.2.2.2.2.1, u.2.2.2.2.2.2.2.2.2.2.2.2.2.1, u.2.2.2.2.2.2.2.2.2.2.2.2.2.2.1, u.2.2.2.2.2.2.2.2.2.2.2.2.2.2.2.1, u.2.2.2.2.2.2.2.2.2.2.2.2.2.2.2.2.1, u.2.2.2.2.2.2.2.2.2.2.2.2.2.2.2.2.2.1, u.2.2.2.2.2.2.2.2.2.2.2.2.2.2.2.2.2.2.1, u.2.2.2.2.2.2.2.2.2.2.2.2.2.2.2.2.2.2.2.1, u.2.2.2.2.2.2.2.2.2.2.2.2.2.2.2.2.2.2.2.2.1, u.2.2.2.2.2.2.2.2.2.2.2.2.2.2.2.2.2.2.2.2.2.1, u.2.2.2.2.2.2.2.2.2.2.2.2.2.2.2.2.2.2.2.2.2.2.1, u.2.2.2.2.2.2.2.2.2.2.2.2.2.2.2.2.2.2.2.2.2.2.2.1, u.2.2.2.2.2.2.2.2.2.2.2.2.2.2.2.2.2.2.2.2.2.2.2.2.1, u.2.2.2.2.2.2.2.2.2.2.2.2.2.2.2.2.2.2.2.2.2.2.2.2.2.1, u.2.2.2.2.2.2.2.2.2.2.2.2.2.2.2.2.2.2.2.2.2.2.2.2.2.2)
def sM_requests (u : TM) (v : (Nat → Int32)) : TM := (u.1, u.2.1, u.2.2.1, u.2.2.2.1, u.2.2.2.2.1, v, u.2.2.2.2.2.2.1, u.2.2.2.2.2.2.2.1, u.2.2.2.2.2.2.2.2.1, u.2.2.2.2.2.2.2.2.2.1, u.2.2.2.2.2.2.2.2.2.2.1, u.2.2.2.2.2.2.2.2.2.2.2.1, u.2.2.2.2.2.2.2.2.2.2.2.2.1, u.2.2.2.2.2.2.2.2.2.2.2.2.2.1, u.2.2.2.2.2.2.2.2.2.2.2.2.2.2.1, u.2.2.2.2.2.2.2.2.2.2.2.2.2.2.2.1, u.2.2.2.2.2.2.2.2.2.2.2.2.2.2.2.2.1, u.2.2.2.2.2.2.2.2.2.2.2.2.2.2.2.2.2.1, u.2.2.2.2.2.2.2.2.2.2.2.2.2.2.2.2.2.2.1, u.2.2.2.2.2.2.2.2.2.2.2.2.2.2.2.2.2.2.2.1, u.2.2.2.2.2.2.2.2.2.2.2.2.2.2.2.2.2.2.2.2.1, u.2.2.2.2.2.2.2.2.2.2.2.2.2.2.2.2.2.2.2.2.2.1, u.2.2.2.2.2.2.2.2.2.2.2.2.2.2.2.2.2.2.2.2.2.2.1, u.2.2.2.2.2.2.2.2.2.2.2.2.2.2.2.2.2.2.2.2.2.2.2.1, u.2.2.2.2.2.2.2.2.2.2.2.2.2.2.2.2.2.2.2.2.2.2.2.2.1, u.2.2.2.2.2.2.2.2.2.2.2.2.2.2.2.2.2.2.2.2.2.2.2.2.2.1, u.2.2.2.2.2.2.2.2.2.2.2.2.2.2.2.2.2.2.2.2.2.2.2.2.2.2)
def sM_requestMany (u : TM) (v : Int32) : TM := (u.1, u.2.1, u.2.2.1, u.2.2.2.1, u.2.2.2.2.1, u.2.2.2.2.2.1, v, u.2.2.2.2.2.2.2.1, u.2.2.2.2.2.2.2.2.1, u.2.2.2.2.2.2.2.2.2.1, u.2.2.2.2.2.2.2.2.2.2.1, u.2.2.2.2.2.2.2.2.2.2.2.1, u.2.2.2.2.2.2.2.2.2.2.2.2.1, u.2.2.2.2.2.2.2.2.2.2.2.2.2.1, u.2.2.2.2.2.2.2.2.2.2.2.2.2.2.1, u.2.2.2.2.2.2.2.2.2.2.2.2.2.2.2.1, u.2.2.2.2.2.2.2.2.2.2.2.2.2.2.2.2.1, u.2.2.2.2.2.2.2.2.2.2.2.2.2.2.2.2.2.1, u.2.2.2.2.2.2.2.2.2.2.2.2.2.2.2.2.2.2.1, u.2.2.2.2.2.2.2.2.2.2.2.2.2.2.2.2.2.2.2.1, u.2.2.2.2.2.2.2.2.2.2.2.2.2.2.2.2.2.2.2.2.1, u.2.2.2.2.2.2.2.2.2.2.2.2.2.2.2.2.2.2.2.2.2.1, u.2.2.2.2.2.2.2.2.2.2.2.2.2.2.2.2.2.2.2.2.2.2.1, u.2.2.2.2.2.2.2.2.2.2.2.2.2.2.2.2.2.2.2.2.2.2.2.1, u.2.2.2.2.2.2.2.2.2.2.2.2.2.2.2.2.2.2.2.2.2.2.2.2.1, u.2.2.2.2.2.2.2.2.2.2.2.2.2.2.2.2.2.2.2.2.2.2.2.2.2.1, u.2.2.2.2.2.2.2.2.2.2.2.2.2.2.2.2.2.2.2.2.2.2.2.2.2.2)
def sM_lastRequest (u : TM) (v : Int32) : TM := (u.1, u.2.1, u.2.2.1, u.2.2.2.1, u.2.2.2.2.1, u.2.2.2.2.2.1, u.2.2.2.2.2.2.1, v, u.2.2.2.2.2.2.2.2.1, u.2.2.2.2.2.2.2.2.2.1, u.2.2.2.2.2.2.2.2.2.2.1, u.2.2.2.2.2.2.2.2.2.2.2.1, u.2.2.2.2.2.2.2.2.2.2.2.2.1, u.2.2.2.2.2.2.2.2.2.2.2.2.2.1, u.2.2.2.2.2.2.2.2.2.2.2.2.2.2.1, u.2.2.2.2.2.2.2.2.2.2.2.2.2.2.2.1, u.2.2.2.2.2.2.2.2.2.2.2.2.2.2.2.2.1, u.2.2.2.2.2.2.2.2.2.2.2.2.2.2.2.2.2.1, u.2.2.2.2.2.2.2.2.2.2.2.2.2.2.2.2.2.2.1, u.2.2.2.2.2.2.2.2.2.2.2.2.2.2.2.2.2.2.2.1, u.2.2.2.2.2.2.2.2.2.2.2.2.2.2.2.2.2.2.2.2.1, u.2.2.2.2.2.2.2.2.2.2.2.2.2.2.2.2.2.2.2.2.2.1, u.2.2.2.2.2.2.2.2.2.2.2.2.2.2.2.2.2.2.2.2.2.2.1, u.2.2.2.2.2.2.2.2.2.2.2.2.2.2.2.2.2.2.2.2.2.2.2.1, u.2.2.2.2.2.2.2.2.2.2.2.2.2.2.2.2.2.2.2.2.2.2.2.2.1, u.2.2.2.2.2.2.2.2.2.2.2.2.2.2.2.2.2.2.2.2.2.2.2.2.2.1, u.2.2.2.2.2.2.2.2.2.2.2.2.2.2.2.2.2.2.2.2.2.2.2.2.2.2)
def sM_given (u : TM) (v : (Nat → Int32)) : TM := (u.1, u.2.1, u.2.2.1, u.2.2.2.1, u.2.2.2.2.1, u.2.2.2.2.2.1, u.2.2.2.2.2.2.1, u.2.2.2.2.2.2.2.1, v, u.2.2.2.2.2.2.2.2.2.1, u.2.2.2.2.2.2.2.2.2.2.1, u.2.2.2.2.2.2.2.2.2.2.2.1, u.2.2.2.2.2.2.2.2.2.2.2.2.1, u.2.2.2.2.2.2.2.2.2.2.2.2.2.1, u.2.2.2.2.2.2.2.2.2.2.2.2.2.2.1, u.2.2.2.2.2.2.2.2.2.2.2.2.2.2.2.1, u.2.2.2.2.2.2.2.2.2.2.2.2.2.2.2.2.1, u.2.2.2.2.2.2.2.2.2.2.2.2.2.2.2.2.2.1, u.2.2.2.2.2.2.2.2.2.2.2.2.2.2.2.2.2.2.1, u.2.2.2.2.2.2.2.2.2.2.2.2.2.2.2.2.2.2.2.1, u.2.2.2.2.2.2.2.2.2.2.2.2.2.2.2.2.2.2.2.2.1, u.2.2.2.2.2.2.2.2.2.2.2.2.2.2.2.2.2.2.2.2.2.1, u.2.2.2.2.2.2.2.2.2.2.2.2.2.2.2.2.2.2.2.2.2.2.1, u.2.2.2.2.2.2.2.2.2.2.2.2.2.2.2.2.2.2.2.2.2.2.2.1, u.2.2.2.2.2.2.2.2.2.2.2.2.2.2.2.2.2.2.2.2.2.2.2.2.1, u.2.2.2.2.2.2.2.2.2.2.2.2.2.2.2.2.2.2.2.2.2.2.2.2.2.1, u.2.2.2.2.2.2.2.2.2.2.2.2.2.2.2.2.2.2.2.2.2.2.2.2.2.2)
def sM_size (u : TM) (v : (Nat → Int32)) : TM := (u.1, u.2.1, u.2.2.1, u.2.2.2.1, u.2.2.2.2.1, u.2.2.2.2.2.1, u.2.2.2.2.2.2.1, u.2.2.2.2.2.2.2.1, u.2.2.2.2.2.2.2.2.1, v, u.2.2.2.2.2.2.2.2.2.2.1, u.2.2.2.2.2.2.2.2.2.2.2.1, u.2.2.2.2.2.2.2.2.2.2.2.2.1, u.2.2.2.2.2.2.2.2.2.2.2.2.2.1, u.2.2.2.2.2.2.2.2.2.2.2.2.2.2.1, u.2.2.2.2.2.2.2.2.2.2.2.2.2.2.2.1, u.2.2.2.2.2.2.2.2.2.2.2.2.2.2.2.2.1, u.2.2.2.2.2.2.2.2.2.2.2.2.2.2.2.2.2.1, u.2.2.2.2.2.2.2.2.2.2.2.2.2.2.2.2.2.2.1, u.2.2.2.2.2.2.2.2.2.2.2.2.2.2.2.2.2.2.2.1, u.2.2.2.2.2.2.2.2.2.2.2.2.2.2.2.2.2.2.2.2.1, u.2.2.2.2.2.2.2.2.2.2.2.2.2.2.2.2.2.2.2.2.2.1, u.2.2.2.2.2.2.2.2.2.2.2.2.2.2.2.2.2.2.2.2.2.2.1, u.2.2.2.2.2.2.2.2.2.2.2.2.2.2.2.2.2.2.2.2.2.2.2.1, u.2.2.2.2.2.2.2.2.2.2.2.2.2.2.2.2.2.2.2.2.2.2.2.2.1, u.2.2.2.2.2.2.2.2.2.2.2.2.2.2.2.2.2.2.2.2.2.2.2.2.2.1, u.2.2.2.2.2.2.2.2.2.2.2.2.2.2.2.2.2.2.2.2.2.2.2.2.2.2)
def sM_length (u : TM) (v : (Nat → Int32)) : TM := (u.1, u.2.1, u.2.2.1, u.2.2.2.1, u.2.2.2.2.1, u.2.2.2.2.2.1, u.2.2.2.2.2.2.1, u.2.2.2.2.2.2.2.1, u.2.2.2.2.2.2.2.2.1, u.2.2.2.2.2.2.2.2.2.1, v, u.2.2.2.2.2.2.2.2.2.2.2.1, u.2.2.2.2.2.2.2.2.2.2.2.2.1, u.2.2.2.2.2.2.2.2.2.2.2.2.2.1, u.2.2.2.2.2.2.2.2.2.2.2.2.2.2.1, u.2.2.2.2.2.2.2.2.2.2.2.2.2.2.2.1, u.2.2.2.2.2.2.2.2.2.2.2.2.2.2.2.2.1, u.2.2.2.2.2.2.2.2.2.2.2.2.2.2.2.2.2.1, u.2.2.2.2.2.2.2.2.2.2.2.2.2.2.2.2.2.2.1, u.2.2.2.2.2.2.2.2.2.2.2.2.2.2.2.2.2.2.2.1, u.2.2.2.2.2.2.2.2.2.2.2.2.2.2.2.2.2.2.2.2.1, u.2.2.2.2.2.2.2.2.2.2.2.2.2.2.2.2.2.2.2.2.2.1, u.2.2.2.2.2.2.2.2.2.2.2.2.2.2.2.2.2.2.2.2.2.2.1, u.2.2.2.2.2.2.2.2.2.2.2.2.2.2.2.2.2.2.2.2.2.2.2.1, u.2.2.2.2.2.2.2.2.2.2.2.2.2.2.2.2.2.2.2.2.2.2.2.2.1, u.2.2.2.2.2.2.2.2.2.2.2.2.2.2.2.2.2.2.2.2.2.2.2.2.2.1, u.2.2.2.2.2.2.2.2.2.2.2.2.2.2.2.2.2.2.2.2.2.2.2.2.2.2)
def sM_pages (u : TM) (v : (Nat → Int32)) : TM := (u.1, u.2.1, u.2.2.1, u.2.2.2.1, u.2.2.2.2.1, u.2.2.2.2.2.1, u.2.2.2.2.2.2.1, u.2.2.2.2.2.2.2.1, u.2.2.2.2.2.2.2.2.1, u.2.2.2.2.2.2.2.2.2.1, u.2.2.2.2.2.2.2.2.2.2.1, v, u.2.2.2.2.2.2.2.2.2.2.2.2.1, u.2.2.2.2.2.2.2.2.2.2.2.2.2.1, u.2.2.2.2.2.2.2.2.2.2.2.2.2.2.1, u.2.2.2.2.2.2.2.2.2.2.2.2.2.2.2.1, u.2.2.2.2.2.2.2.2.2.2.2.2.2.2.2.2.1, u.2.2.2.2.2.2.2.2.2.2.2.2.2.2.2.2.2.1, u.2.2.2.2.2.2.2.2.2.2.2.2.2.2.2.2.2.2.1, u.2.2.2.2.2.2.2.2.2.2.2.2.2.2.2.2.2.2.2.1, u.2.2.2.2.2.2.2.2.2.2.2.2.2.2.2.2.2.2.2.2.1, u.2.2.2.2.2.2.2.2.2.2.2.2.2.2.2.2.2.2.2.2.2.1, u.2.2.2.2.2.2.2.2.2.2.2.2.2.2.2.2.2.2.2.2.2.2.1, u.2.2.2.2.2.2.2.2.2.2.2.2.2.2.2.2.2.2.2.2.2.2.2.1, u.2.2.2.2.2.2.2.2.2.2.2.2.2.2.2.2.2.2.2.2.2.2.2.2.1, u.2.2.2.2.2.2.2.2.2.2.2.2.2.2.2.2.2.2.2.2.2.2.2.2.2.1, u.2.2.2.2.2.2.2.2.2.2.2.2.2.2.2.2.2.2.2.2.2.2.2.2.2.2)
def sM_which (u : TM) (v : (Nat → Int32)) : TM := (u.1, u.2.1, u.2.2.1, u.2.2.2.1, u.2.2.2.2.1, u.2.2.2.2.2.1, u.2.2.2.2.2.2.1, u.2.2.2.2.2.2.2.1, u.2.2.2.2.2.2.2.2.1, u.2.2.2.2.2.2.2.2.2.1, u.2.2.2.2.2.2.2.2.2.2.1, u.2.2.2.2.2.2.2.2.2.2.2.1, v, u.2.2.2.2.2.2.2.2.2.2.2.2.2.1, u.2.2.2.2.2.2.2.2.2.2.2.2.2.2.1, u.2.2.2.2.2.2.2.2.2.2.2.2.2.2.2.1, u.2.2.2.2.2.2.2.2.2.2.2.2.2.2.2.2.1, u.2.2.2.2.2.2.2.2.2.2.2.2.2.2.2.2.2.1, u.2.2.2.2.2.2.2.2.2.2.2.2.2.2.2.2.2.2.1, u.2.2.2.2.2.2.2.2.2.2.2.2.2.2.2.2.2.2.2.1, u.2.2.2.2.2.2.2.2.2.2.2.2.2.2.2.2.2.2.2.2.1, u.2.2.2.2.2.2.2.2.2.2.2.2.2.2.2.2.2.2.2.2.2.1, u.2.2.2.2.2.2.2.2.2.2.2.2.2.2.2.2.2.2.2.2.2.2.1, u.2.2.2.2.2.2.2.2.2.2.2.2.2.2.2.2.2.2.2.2.2.2.2.1, u.2.2.2.2.2.2.2.2.2.2.2.2.2.2.2.2.2.2.2.2.2.2.2.2.1, u.2.2.2.2.2.2.2.2.2.2.2.2.2.2.2.2.2.2.2.2.2.2.2.2.2.1, u.2.2.2.2.2.2.2.2.2.2.2.2.2.2.2.2.2.2.2.2.2.2.2.2.2.2)
def sM_exitAt (u : TM) (v : (Nat → Int32)) : TM := (u.1, u.2.1, u.2.2.1, u.2.2.2.1, u.2.2.2.2.1, u.2.2.2.2.2.1, u.2.2.2.2.2.2.1, u.2.2.2.2.2.2.2.1, u.2.2.2.2.2.2.2.2.1, u.2.2.2.2.2.2.2.2.2.1, u.2.2.2.2.2.2.2.2.2.2.1, u.2.2.2.2.2.2.2.2.2.2.2.1, u.2.2.2.2.2.2.2.2.2.2.2.2.1, v, u.2.2.2.2.2.2.2.2.2.2.2.2.2.2.1, u.2.2.2.2.2.2.2.2.2.2.2.2.2.2.2.1, u.2.2.2.2.2.2.2.2.2.2.2.2.2.2.2.2.1, u.2.2.2.2.2.2.2.2.2.2.2.2.2.2.2.2.2.1, u.2.2.2.2.2.2.2.2.2.2.2.2.2.2.2.2.2.2.1, u.2.2.2.2.2.2.2.2.2.2.2.2.2.2.2.2.2.2.2.1, u.2.2.2.2.2.2.2.2.2.2.2.2.2.2.2.2.2.2.2.2.1, u.2.2.2.2.2.2.2.2.2.2.2.2.2.2.2.2.2.2.2.2.2.1, u.2.2.2.2.2.2.2.2.2.2.2.2.2.2.2.2.2.2.2.2.2.2.1, u.2.2.2.2.2.2.2.2.2.2.2.2.2.2.2.2.2.2.2.2.2.2.2.1, u.2.2.2.2.2.2.2.2.2.2.2.2.2.2.2.2.2.2.2.2.2.2.2.2.1, u.2.2.2.2.2.2.2.2.2.2.2.2.2.2.2.2.2.2.2.2.2.2.2.2.2.1, u.2.2.2.2.2.2.2.2.2.2.2.2.2.2.2.2.2.2.2.2.2.2.2.2.2.2)
def sM_exitTo (u : TM) (v : (Nat → Int32)) : TM := (u.1, u.2.1, u.2.2.1, u.2.2.2.1, u.2.2.2.2.1, u.2.2.2.2.2.1, u.2.2.2.2.2.2.1, u.2.2.2.2.2.2.2.1, u.2.2.2.2.2.2.2.2.1, u.2.2.2.2.2.2.2.2.2.1, u.2.2.2.2.2.2.2.2.2.2.1, u.2.2.2.2.2.2.2.2.2.2.2.1, u.2.2.2.2.2.2.2.2.2.2.2.2.1, u.2.2.2.2.2.2.2.2.2.2.2.2.2.1, v, u.2.2.2.2.2.2.2.2.2.2.2.2.2.2.2.1, u.2.2.2.2.2.2.2.2.2.2.2.2.2.2.2.2.1, u.2.2.2.2.2.2.2.2.2.2.2.2.2.2.2.2.2.1, u.2.2.2.2.2.2.2.2.2.2.2.2.2.2.2.2.2.2.1, u.2.2.2.2.2.2.2.2.2.2.2.2.2.2.2.2.2.2.2.1, u.2.2.2.2.2.2.2.2.2.2.2.2.2.2.2.2.2.2.2.2.1, u.2.2.2.2.2.2.2.2.2.2.2.2.2.2.2.2.2.2.2.2.2.1, u.2.2.2.2.2.2.2.2.2.2.2.2.2.2.2.2.2.2.2.2.2.2.1, u.2.2.2.2.2.2.2.2.2.2.2.2.2.2.2.2.2.2.2.2.2.2.2.1, u.2.2.2.2.2.2.2.2.2.2.2.2.2.2.2.2.2.2.2.2.2.2.2.2.1, u.2.2.2.2.2.2.2.2.2.2.2.2.2.2.2.2.2.2.2.2.2.2.2.2.2.1, u.2.2.2.2.2.2.2.2.2.2.2.2.2.2.2.2.2.2.2.2.2.2.2.2.2.2)
def sM_room (u : TM) (v : Int32) : TM := (u.1, u.2.1, u.2.2.1, u.2.2.2.1, u.2.2.2.2.1, u.2.2.2.2.2.1, u.2.2.2.2.2.2.1, u.2.2.2.2.2.2.2.1, u.2.2.2.2.2.2.2.2.1, u.2.2.2.2.2.2.2.2.2.1, u.2.2.2.2.2.2.2.2.2.2.1, u.2.2.2.2.2.2.2.2.2.2.2.1, u.2.2.2.2.2.2.2.2.2.2.2.2.1, u.2.2.2.2.2.2.2.2.2.2.2.2.2.1, u.2.2.2.2.2.2.2.2.2.2.2.2.2.2.1, v, u.2.2.2.2.2.2.2.2.2.2.2.2.2.2.2.2.1, u.2.2.2.2.2.2.2.2.2.2.2.2.2.2.2.2.2.1, u.2.2.2.2.2.2.2.2.2.2.2.2.2.2.2.2.2.2.1, u.2.2.2.2.2.2.2.2.2.2.2.2.2.2.2.2.2.2.2.1, u.2.2.2.2.2.2.2.2.2.2.2.2.2.2.2.2.2.2.2.2.1, u.2.2.2.2.2.2.2.2.2.2.2.2.2.2.2.2.2.2.2.2.2.1, u.2.2.2.2.2.2.2.2.2.2.2.2.2.2.2.2.2.2.2.2.2.2.1, u.2.2.2.2.2.2.2.2.2.2.2.2.2.2.2.2.2.2.2.2.2.2.2.1, u.2.2.2.2.2.2.2.2.2.2.2.2.2.2.2.2.2.2.2.2.2.2.2.2.1, u.2.2.2.2.2.2.2.2.2.2.2.2.2.2.2.2.2.2.2.2.2.2.2.2.2.1, u.2.2.2.2.2.2.2.2.2.2.2.2.2.2.2.2.2.2.2.2.2.2.2.2.2.2)
def sM_translated (u : TM) (v : Int32) : TM := (u.1, u.2.1, u.2.2.1, u.2.2.2.1, u.2.2.2.2.1, u.2.2.2.2.2.1, u.2.2.2.2.2.2.1, u.2.2.2.2.2.2.2.1, u.2.2.2.2.2.2.2.2.1, u.2.2.2.2.2.2.2.2.2.1, u.2.2.2.2.2.2.2.2.2.2.1, u.2.2.2.2.2.2.2.2.2.2.2.1, u.2.2.2.2.2.2.2.2.2.2.2.2.1, u.2.2.2.2.2.2.2.2.2.2.2.2.2.1, u.2.2.2.2.2.2.2.2.2.2.2.2.2.2.1, u.2.2.2.2.2.2.2.2.2.2.2.2.2.2.2.1, v, u.2.2.2.2.2.2.2.2.2.2.2.2.2.2.2.2.2.1, u.2.2.2.2.2.2.2.2.2.2.2.2.2.2.2.2.2.2.1, u.2.2.2.2.2.2.2.2.2.2.2.2.2.2.2.2.2.2.2.1, u.2.2.2.2.2.2.2.2.2.2.2.2.2.2.2.2.2.2.2.2.1, u.2.2.2.2.2.2.2.2.2.2.2.2.2.2.2.2.2.2.2.2.2.1, u.2.2.2.2.2.2.2.2.2.2.2.2.2.2.2.2.2.2.2.2.2.2.1, u.2.2.2.2.2.2.2.2.2.2.2.2.2.2.2.2.2.2.2.2.2.2.2.1, u.2.2.2.2.2.2.2.2.2.2.2.2.2.2.2.2.2.2.2.2.2.2.2.2.1, u.2.2.2.2.2.2.2.2.2.2.2.2.2.2.2.2.2.2.2.2.2.2.2.2.2.1, u.2.2.2.2.2.2.2.2.2.2.2.2.2.2.2.2.2.2.2.2.2.2.2.2.2.2)
def sM_counts (u : TM) (v : (Nat → Int32)) : TM := (u.1, u.2.1, u.2.2.1, u.2.2.2.1, u.2.2.2.2.1, u.2.2.2.2.2.1, u.2.2.2.2.2.2.1, u.2.2.2.2.2.2.2.1, u.2.2.2.2.2.2.2.2.1, u.2.2.2.2.2.2.2.2.2.1, u.2.2.2.2.2.2.2.2.2.2.1, u.2.2.2.2.2.2.2.2.2.2.2.1, u.2.2.2.2.2.2.2.2.2.2.2.2.1, u.2.2.2.2.2.2.2.2.2.2.2.2.2.1, u.2.2.2.2.2.2.2.2.2.2.2.2.2.2.1, u.2.2.2.2.2.2.2.2.2.2.2.2.2.2.2.1, u.2.2.2.2.2.2.2.2.2.2.2.2.2.2.2.2.1, v, u.2.2.2.2.2.2.2.2.2.2.2.2.2.2.2.2.2.2.1, u.2.2.2.2.2.2.2.2.2.2.2.2.2.2.2.2.2.2.2.1, u.2.2.2.2.2.2.2.2.2.2.2.2.2.2.2.2.2.2.2.2.1, u.2.2.2.2.2.2.2.2.2.2.2.2.2.2.2.2.2.2.2.2.2.1, u.2.2.2.2.2.2.2.2.2.2.2.2.2.2.2.2.2.2.2.2.2.2.1, u.2.2.2.2.2.2.2.2.2.2.2.2.2.2.2.2.2.2.2.2.2.2.2.1, u.2.2.2.2.2.2.2.2.2.2.2.2.2.2.2.2.2.2.2.2.2.2.2.2.1, u.2.2.2.2.2.2.2.2.2.2.2.2.2.2.2.2.2.2.2.2.2.2.2.2.2.1, u.2.2.2.2.2.2.2.2.2.2.2.2.2.2.2.2.2.2.2.2.2.2.2.2.2.2)
def sM_kind (u : TM) (v : Int32) : TM := (u.1, u.2.1, u.2.2.1, u.2.2.2.1, u.2.2.2.2.1, u.2.2.2.2.2.1, u.2.2.2.2.2.2.1, u.2.2.2.2.2.2.2.1, u.2.2.2.2.2.2.2.2.1, u.2.2.2.2.2.2.2.2.2.1, u.2.2.2.2.2.2.2.2.2.2.1, u.2.2.2.2.2.2.2.2.2.2.2.1, u.2.2.2.2.2.2.2.2.2.2.2.2.1, u.2.2.2.2.2.2.2.2.2.2.2.2.2.1, u.2.2.2.2.2.2.2.2.2.2.2.2.2.2.1, u.2.2.2.2.2.2.2.2.2.2.2.2.2.2.2.1, u.2.2.2.2.2.2.2.2.2.2.2.2.2.2.2.2.1, u.2.2.2.2.2.2.2.2.2.2.2.2.2.2.2.2.2.1, v, u.2.2.2.2.2.2.2.2.2.2.2.2.2.2.2.2.2.2.2.1, u.2.2.2.2.2.2.2.2.2.2.2.2.2.2.2.2.2.2.2.2.1, u.2.2.2.2.2.2.2.2.2.2.2.2.2.2.2.2.2.2.2.2.2.1, u.2.2.2.2.2.2.2.2.2.2.2.2.2.2.2.2.2.2.2.2.2.2.1, u.2.2.2.2.2.2.2.2.2.2.2.2.2.2.2.2.2.2.2.2.2.2.2.1, u.2.2.2.2.2.2.2.2.2.2.2.2.2.2.2.2.2.2.2.2.2.2.2.2.1, u.2.2.2.2.2.2.2.2.2.2.2.2.2.2.2.2.2.2.2.2.2.2.2.2.2.1, u.2.2.2.2.2.2.2.2.2.2.2.2.2.2.2.2.2.2.2.2.2.2.2.2.2.2)
def sM_bytes (u : TM) (v : Int32) : TM := (u.1, u.2.1, u.2.2.1, u.2.2.2.1, u.2.2.2.2.1, u.2.2.2.2.2.1, u.2.2.2.2.2.2.1, u.2.2.2.2.2.2.2.1, u.2.2.2.2.2.2.2.2.1, u.2.2.2.2.2.2.2.2.2.1, u.2.2.2.2.2.2.2.2.2.2.1, u.2.2.2.2.2.2.2.2.2.2.2.1, u.2.2.2.2.2.2.2.2.2.2.2.2.1, u.2.2.2.2.2.2.2.2.2.2.2.2.2.1, u.2.2.2.2.2.2.2.2.2.2.2.2.2.2.1, u.2.2.2.2.2.2.2.2.2.2.2.2.2.2.2.1, u.2.2.2.2.2.2.2.2.2.2.2.2.2.2.2.2.1, u.2.2.2.2.2.2.2.2.2.2.2.2.2.2.2.2.2.1, u.2.2.2.2.2.2.2.2.2.2.2.2.2.2.2.2.2.2.1, v, u.2.2.2.2.2.2.2.2.2.2.2.2.2.2.2.2.2.2.2.2.1, u.2.2.2.2.2.2.2.2.2.2.2.2.2.2.2.2.2.2.2.2.2.1, u.2.2.2.2.2.2.2.2.2.2.2.2.2.2.2.2.2.2.2.2.2.2.1, u.2.2.2.2.2.2.2.2.2.2.2.2.2.2.2.2.2.2.2.2.2.2.2.1, u.2.2.2.2.2.2.2.2.2.2.2.2.2.2.2.2.2.2.2.2.2.2.2.2.1, u.2.2.2.2.2.2.2.2.2.2.2.2.2.2.2.2.2.2.2.2.2.2.2.2.2.1, u.2.2.2.2.2.2.2.2.2.2.2.2.2.2.2.2.2.2.2.2.2.2.2.2.2.2)
def sM_foundMany (u : TM) (v : Int32) : TM := (u.1, u.2.1, u.2.2.1, u.2.2.2.1, u.2.2.2.2.1, u.2.2.2.2.2.1, u.2.2.2.2.2.2.1, u.2.2.2.2.2.2.2.1, u.2.2.2.2.2.2.2.2.1, u.2.2.2.2.2.2.2.2.2.1, u.2.2.2.2.2.2.2.2.2.2.1, u.2.2.2.2.2.2.2.2.2.2.2.1, u.2.2.2.2.2.2.2.2.2.2.2.2.1, u.2.2.2.2.2.2.2.2.2.2.2.2.2.1, u.2.2.2.2.2.2.2.2.2.2.2.2.2.2.1, u.2.2.2.2.2.2.2.2.2.2.2.2.2.2.2.1, u.2.2.2.2.2.2.2.2.2.2.2.2.2.2.2.2.1, u.2.2.2.2.2.2.2.2.2.2.2.2.2.2.2.2.2.1, u.2.2.2.2.2.2.2.2.2.2.2.2.2.2.2.2.2.2.1, u.2.2.2.2.2.2.2.2.2.2.2.2.2.2.2.2.2.2.2.1, v, u.2.2.2.2.2.2.2.2.2.2.2.2.2.2.2.2.2.2.2.2.2.1, u.2.2.2.2.2.2.2.2.2.2.2.2.2.2.2.2.2.2.2.2.2.2.1, u.2.2.2.2.2.2.2.2.2.2.2.2.2.2.2.2.2.2.2.2.2.2.2.1, u.2.2.2.2.2.2.2.2.2.2.2.2.2.2.2.2.2.2.2.2.2.2.2.2.1, u.2.2.2.2.2.2.2.2.2.2.2.2.2.2.2.2.2.2.2.2.2.2.2.2.2.1, u.2.2.2.2.2.2.2.2.2.2.2.2.2.2.2.2.2.2.2.2.2.2.2.2.2.2)
def sM_foundSize (u : TM) (v : Int32) : TM := (u.1, u.2.1, u.2.2.1, u.2.2.2.1, u.2.2.2.2.1, u.2.2.2.2.2.1, u.2.2.2.2.2.2.1, u.2.2.2.2.2.2.2.1, u.2.2.2.2.2.2.2.2.1, u.2.2.2.2.2.2.2.2.2.1, u.2.2.2.2.2.2.2.2.2.2.1, u.2.2.2.2.2.2.2.2.2.2.2.1, u.2.2.2.2.2.2.2.2.2.2.2.2.1, u.2.2.2.2.2.2.2.2.2.2.2.2.2.1, u.2.2.2.2.2.2.2.2.2.2.2.2.2.2.1, u.2.2.2.2.2.2.2.2.2.2.2.2.2.2.2.1, u.2.2.2.2.2.2.2.2.2.2.2.2.2.2.2.2.1, u.2.2.2.2.2.2.2.2.2.2.2.2.2.2.2.2.2.1, u.2.2.2.2.2.2.2.2.2.2.2.2.2.2.2.2.2.2.1, u.2.2.2.2.2.2.2.2.2.2.2.2.2.2.2.2.2.2.2.1, u.2.2.2.2.2.2.2.2.2.2.2.2.2.2.2.2.2.2.2.2.1, v, u.2.2.2.2.2.2.2.2.2.2.2.2.2.2.2.2.2.2.2.2.2.2.1, u.2.2.2.2.2.2.2.2.2.2.2.2.2.2.2.2.2.2.2.2.2.2.2.1, u.2.2.2.2.2.2.2.2.2.2.2.2.2.2.2.2.2.2.2.2.2.2.2.2.1, u.2.2.2.2.2.2.2.2.2.2.2.2.2.2.2.2.2.2.2.2.2.2.2.2.2.1, u.2.2.2.2.2.2.2.2.2.2.2.2.2.2.2.2.2.2.2.2.2.2.2.2.2.2)
def sM_foundPages (u : TM) (v : Int32) : TM := (u.1, u.2.1, u.2.2.1, u.2.2.2.1, u.2.2.2.2.1, u.2.2.2.2.2.1, u.2.2.2.2.2.2.1, u.2.2.2.2.2.2.2.1, u.2.2.2.2.2.2.2.2.1, u.2.2.2.2.2.2.2.2.2.1, u.2.2.2.2.2.2.2.2.2.2.1, u.2.2.2.2.2.2.2.2.2.2.2.1, u.2.2.2.2.2.2.2.2.2.2.2.2.1, u.2.2.2.2.2.2.2.2.2.2.2.2.2.1, u.2.2.2.2.2.2.2.2.2.2.2.2.2.2.1, u.2.2.2.2.2.2.2.2.2.2.2.2.2.2.2.1, u.2.2.2.2.2.2.2.2.2.2.2.2.2.2.2.2.1, u.2.2.2.2.2.2.2.2.2.2.2.2.2.2.2.2.2.1, u.2.2.2.2.2.2.2.2.2.2.2.2.2.2.2.2.2.2.1, u.2.2.2.2.2.2.2.2.2.2.2.2.2.2.2.2.2.2.2.1, u.2.2.2.2.2.2.2.2.2.2.2.2.2.2.2.2.2.2.2.2.1, u.2.2.2.2.2.2.2.2.2.2.2.2.2.2.2.2.2.2.2.2.2.1, v, u.2.2.2.2.2.2.2.2.2.2.2.2.2.2.2.2.2.2.2.2.2.2.2.1, u.2.2.2.2.2.2.2.2.2.2.2.2.2.2.2.2.2.2.2.2.2.2.2.2.1, u.2.2.2.2.2.2.2.2.2.2.2.2.2.2.2.2.2.2.2.2.2.2.2.2.2.1, u.2.2.2.2.2.2.2.2.2.2.2.2.2.2.2.2.2.2.2.2.2.2.2.2.2.2)
def sM_foundDead (u : TM) (v : Int32) : TM := (u.1, u.2.1, u.2.2.1, u.2.2.2.1, u.2.2.2.2.1, u.2.2.2.2.2.1, u.2.2.2.2.2.2.1, u.2.2.2.2.2.2.2.1, u.2.2.2.2.2.2.2.2.1, u.2.2.2.2.2.2.2.2.2.1, u.2.2.2.2.2.2.2.2.2.2.1, u.2.2.2.2.2.2.2.2.2.2.2.1, u.2.2.2.2.2.2.2.2.2.2.2.2.1, u.2.2.2.2.2.2.2.2.2.2.2.2.2.1, u.2.2.2.2.2.2.2.2.2.2.2.2.2.2.1, u.2.2.2.2.2.2.2.2.2.2.2.2.2.2.2.1, u.2.2.2.2.2.2.2.2.2.2.2.2.2.2.2.2.1, u.2.2.2.2.2.2.2.2.2.2.2.2.2.2.2.2.2.1, u.2.2.2.2.2.2.2.2.2.2.2.2.2.2.2.2.2.2.1, u.2.2.2.2.2.2.2.2.2.2.2.2.2.2.2.2.2.2.2.1, u.2.2.2.2.2.2.2.2.2.2.2.2.2.2.2.2.2.2.2.2.1, u.2.2.2.2.2.2.2.2.2.2.2.2.2.2.2.2.2.2.2.2.2.1, u.2.2.2.2.2.2.2.2.2.2.2.2.2.2.2.2.2.2.2.2.2.2.1, v, u.2.2.2.2.2.2.2.2.2.2.2.2.2.2.2.2.2.2.2.2.2.2.2.2.1, u.2.2.2.2.2.2.2.2.2.2.2.2.2.2.2.2.2.2.2.2.2.2.2.2.2.1, u.2.2.2.2.2.2.2.2.2.2.2.2.2.2.2.2.2.2.2.2.2.2.2.2.2.2)
def sM_kinds (u : TM) (v : (Nat → Int32)) : TM := (u.1, u.2.1, u.2.2.1, u.2.2.2.1, u.2.2.2.2.1, u.2.2.2.2.2.1, u.2.2.2.2.2.2.1, u.2.2.2.2.2.2.2.1, u.2.2.2.2.2.2.2.2.1, u.2.2.2.2.2.2.2.2.2.1, u.2.2.2.2.2.2.2.2.2.2.1, u.2.2.2.2.2.2.2.2.2.2.2.1, u.2.2.2.2.2.2.2.2.2.2.2.2.1, u.2.2.2.2.2.2.2.2.2.2.2.2.2.1, u.2.2.2.2.2.2.2.2.2.2.2.2.2.2.1, u.2.2.2.2.2.2.2.2.2.2.2.2.2.2.2.1, u.2.2.2.2.2.2.2.2.2.2.2.2.2.2.2.2.1, u.2.2.2.2.2.2.2.2.2.2.2.2.2.2.2.2.2.1, u.2.2.2.2.2.2.2.2.2.2.2.2.2.2.2.2.2.2.1, u.2.2.2.2.2.2.2.2.2.2.2.2.2.2.2.2.2.2.2.1, u.2.2.2.2.2.2.2.2.2.2.2.2.2.2.2.2.2.2.2.2.1, u.2.2.2.2.2.2.2.2.2.2.2.2.2.2.2.2.2.2.2.2.2.1, u.2.2.2.2.2.2.2.2.2.2.2.2.2.2.2.2.2.2.2.2.2.2.1, u.2.2.2.2.2.2.2.2.2.2.2.2.2.2.2.2.2.2.2.2.2.2.2.1, v, u.2.2.2.2.2.2.2.2.2.2.2.2.2.2.2.2.2.2.2.2.2.2.2.2.2.1, u.2.2.2.2.2.2.2.2.2.2.2.2.2.2.2.2.2.2.2.2.2.2.2.2.2.2)
def sM_leftBy (u : TM) (v : Int32) : TM := (u.1, u.2.1, u.2.2.1, u.2.2.2.1, u.2.2.2.2.1, u.2.2.2.2.2.1, u.2.2.2.2.2.2.1, u.2.2.2.2.2.2.2.1, u.2.2.2.2.2.2.2.2.1, u.2.2.2.2.2.2.2.2.2.1, u.2.2.2.2.2.2.2.2.2.2.1, u.2.2.2.2.2.2.2.2.2.2.2.1, u.2.2.2.2.2.2.2.2.2.2.2.2.1, u.2.2.2.2.2.2.2.2.2.2.2.2.2.1, u.2.2.2.2.2.2.2.2.2.2.2.2.2.2.1, u.2.2.2.2.2.2.2.2.2.2.2.2.2.2.2.1, u.2.2.2.2.2.2.2.2.2.2.2.2.2.2.2.2.1, u.2.2.2.2.2.2.2.2.2.2.2.2.2.2.2.2.2.1, u.2.2.2.2.2.2.2.2.2.2.2.2.2.2.2.2.2.2.1, u.2.2.2.2.2.2.2.2.2.2.2.2.2.2.2.2.2.2.2.1, u.2.2.2.2.2.2.2.2.2.2.2.2.2.2.2.2.2.2.2.2.1, u.2.2.2.2.2.2.2.2.2.2.2.2.2.2.2.2.2.2.2.2.2.1, u.2.2.2.2.2.2.2.2.2.2.2.2.2.2.2.2.2.2.2.2.2.2.1, u.2.2.2.2.2.2.2.2.2.2.2.2.2.2.2.2.2.2.2.2.2.2.2.1, u.2.2.2.2.2.2.2.2.2.2.2.2.2.2.2.2.2.2.2.2.2.2.2.2.1, v, u.2.2.2.2.2.2.2.2.2.2.2.2.2.2.2.2.2.2.2.2.2.2.2.2.2.2)
def sM_isOver (u : TM) (v : Int32) : TM := (u.1, u.2.1, u.2.2.1, u.2.2.2.1, u.2.2.2.2.1, u.2.2.2.2.2.1, u.2.2.2.2.2.2.1, u.2.2.2.2.2.2.2.1, u.2.2.2.2.2.2.2.2.1, u.2.2.2.2.2.2.2.2.2.1, u.2.2.2.2.2.2.2.2.2.2.1, u.2.2.2.2.2.2.2.2.2.2.2.1, u.2.2.2.2.2.2.2.2.2.2.2.2.1, u.2.2.2.2.2.2.2.2.2.2.2.2.2.1, u.2.2.2.2.2.2.2.2.2.2.2.2.2.2.1, u.2.2.2.2.2.2.2.2.2.2.2.2.2.2.2.1, u.2.2.2.2.2.2.2.2.2.2.2.2.2.2.2.2.1, u.2.2.2.2.2.2.2.2.2.2.2.2.2.2.2.2.2.1, u.2.2.2.2.2.2.2.2.2.2.2.2.2.2.2.2.2.2.1, u.2.2.2.2.2.2.2.2.2.2.2.2.2.2.2.2.2.2.2.1, u.2.2.2.2.2.2.2.2.2.2.2.2.2.2.2.2.2.2.2.2.1, u.2.2.2.2.2.2.2.2.2.2.2.2.2.2.2.2.2.2.2.2.2.1, u.2.2.2.2.2.2.2.2.2.2.2.2.2.2.2.2.2.2.2.2.2.2.1, u.2.2.2.2.2.2.2.2.2.2.2.2.2.2.2.2.2.2.2.2.2.2.2.1, u.2.2.2.2.2.2.2.2.2.2.2.2.2.2.2.2.2.2.2.2.2.2.2.2.1, u.2.2.2.2.2.2.2.2.2.2.2.2.2.2.2.2.2.2.2.2.2.2.2.2.2.1, v)
abbrev wM (a0 a1 a2 a3 a4 a5 a6 a7 a8 a9 a10 a11 a12 a13 : Nat) (cI : ClassId) (u : TM) : va_W := [(a0, .inr (4, [.int (gM_refusal u), .ref a1, .ref a2, .ref a3, .int (gM_inputMany u), .ref a4, .int (gM_requestMany u), .int (gM_lastRequest u), .ref a5, .ref a6, .ref a7, .ref a8, .ref a9, .ref a10, .ref a11, .int (gM_room u), .int (gM_translated u), .ref a12, .int (gM_kind u), .int (gM_bytes u), .int (gM_foundMany u), .int (gM_foundSize u), .int (gM_foundPages u), .int (gM_foundDead u), .ref a13, .int (gM_leftBy u), .int (gM_isOver u)])), (a1, .inl (cI, 256, .inl (gM_memory u))), (a2, .inl (cI, 10, .inl (gM_reg u))), (a3, .inl (cI, 32, .inl (gM_inputs u))), (a4, .inl (cI, 16, .inl (gM_requests u))), (a5, .inl (cI, 100, .inl (gM_given u))), (a6, .inl (cI, 256, .inl (gM_size u))), (a7, .inl (cI, 256, .inl (gM_length u))), (a8, .inl (cI, 256, .inl (gM_pages u))), (a9, .inl (cI, 256, .inl (gM_which u))), (a10, .inl (cI, 512, .inl (gM_exitAt u))), (a11, .inl (cI, 512, .inl (gM_exitTo u))), (a12, .inl (cI, 12, .inl (gM_counts u))), (a13, .inl (cI, 8, .inl (gM_kinds u)))]
abbrev wCm (a0 a1 a2 a3 a4 a5 a6 a7 b0 : Nat) (cI : ClassId) (u : TC) (f0 : Nat → Int32) : va_W := [(a0, .inr (0, [.ref a1, .ref a2, .ref a3, .ref a4, .ref a5, .ref a6, .ref a7, .int (gC_limit u), .int (gC_blocks u), .int (gC_filled u), .int (gC_translated u), .int (gC_flushes u), .int (gC_deadFlags u)])), (a1, .inl (cI, 2048, .inl (gC_code u))), (a2, .inl (cI, 256, .inl (gC_length u))), (a3, .inl (cI, 256, .inl (gC_behind u))), (a4, .inl (cI, 256, .inl (gC_size u))), (a5, .inl (cI, 256, .inl (gC_serial u))), (a6, .inl (cI, 512, .inl (gC_exitPlace u))), (a7, .inl (cI, 512, .inl (gC_linkedSerial u))), (b0, .inl (cI, 256, .inl f0))]
end
section
/-! pure words: a step that names a value, one that must be in range, one that may fail -/
def pLet {α β : Type} (v : α) (k : α → β) : β := k v
theorem pLet_out {α β : Type} {v : α} {k : α → β} {r : β} (h : pLet v k = r) : ∃ x, x = v ∧ k x = r := ⟨v, rfl, h⟩
def pIn {β : Type} (i : Int32) (n : Nat) (k : Option β) : Option β := if i < 0 ∨ n ≤ i.toNatClampNeg then none else k
theorem pIn_out {β : Type} {i : Int32} {n : Nat} {k : Option β} {r : β} (h : pIn i n k = some r) : vp_in i n ∧ k = some r := by
  unfold pIn at h
  by_cases q : i < 0 ∨ n ≤ i.toNatClampNeg
  · rw [if_pos q] at h; cases h
  · rw [if_neg q] at h; exact ⟨q, h⟩
def pNz {β : Type} (y : Int32) (k : Option β) : Option β := if y = 0 then none else k
theorem pNz_out {β : Type} {y : Int32} {k : Option β} {r : β} (h : pNz y k = some r) : ¬ y = 0 ∧ k = some r := by
  unfold pNz at h
  by_cases q : y = 0
  · rw [if_pos q] at h; cases h
  · rw [if_neg q] at h; exact ⟨q, h⟩
def pB {α β : Type} (o : Option α) (k : α → Option β) : Option β := match o with
  | none => none
  | some a => k a
theorem pB_out {α β : Type} {o : Option α} {k : α → Option β} {r : β} (h : pB o k = some r) : ∃ a, o = some a ∧ k a = some r := by
  cases o with
  | none => cases h
  | some a => exact ⟨a, rfl, h⟩
theorem pI_t {α : Type} {c : Prop} {q : Decidable c} {a b r : α} (h : c) (hf : (if c then a else b) = r) : a = r := by rw [if_pos h] at hf; exact hf
theorem pI_f {α : Type} {c : Prop} {q : Decidable c} {a b r : α} (h : ¬ c) (hf : (if c then a else b) = r) : b = r := by rw [if_neg h] at hf; exact hf
/-! worlds with one picture each -/
def atW (D : va_G) (cl : List vw_C) (tys : List (ClassId × FieldType)) (A : Nat → Prop) (w : va_W) (t : State) : Prop := va_P D cl w t.heap ∧ va_K D cl tys t ∧ va_D A w
def pcW (D : va_G) (cl : List vw_C) (tys : List (ClassId × FieldType)) (sz : Nat) (w : va_W) : State → Prop := fun U => U.heap.size = sz ∧ atW D cl tys (fun _ => True) w U
def oI (D : va_G) (cl : List vw_C) (tys : List (ClassId × FieldType)) (A : Nat → Prop) (r0 : Int32) (w' : va_W) : Array Value → State → Outcome → State → Prop := va_Qi (fun r (_ : Unit) => r = r0) (fun _ t => atW D cl tys A w' t) A
def oV (D : va_G) (cl : List vw_C) (tys : List (ClassId × FieldType)) (A : Nat → Prop) (w' : va_W) : Array Value → State → Outcome → State → Prop := va_Qv (fun (_ : Unit) => True) (fun _ t => atW D cl tys A w' t) A
/-- contracts: from the picture w, with the arguments, the answer r0 and the picture w' -/
def CtI (l : Launch) (y : MethodName) (ws : List Cond) (rm : Room) (D : va_G) (cl : List vw_C) (tys : List (ClassId × FieldType)) (as : List Value) (w : va_W) (r0 : Int32) (w' : va_W) : Prop :=
  ∀ sz : Nat, Met l y ws rm (va_Pc as (pcW D cl tys sz w)) (oI D cl tys (va_A w sz) r0 w') 0 0 (va_A w sz)
def CtV (l : Launch) (y : MethodName) (ws : List Cond) (rm : Room) (D : va_G) (cl : List vw_C) (tys : List (ClassId × FieldType)) (as : List Value) (w w' : va_W) : Prop :=
  ∀ sz : Nat, Met l y ws rm (va_Pc as (pcW D cl tys sz w)) (oV D cl tys (va_A w sz) w') 0 0 (va_A w sz)
theorem blindW {as : List Value} {D : va_G} {cl : List vw_C} {tys : List (ClassId × FieldType)} {sz : Nat} {w : va_W} : FrameBlind (va_Pc as (pcW D cl tys sz w)) := by
  intro a U g mk q
  obtain ⟨q0, q1, qP, qK, qD⟩ := q
  exact ⟨q0, q1, qP, va_K.moved (u := U) (U := U.calling g mk a) (Vm.Alike.refl U.vm) qK, qD⟩
section GW
variable {p : Program} {l : Launch} {e : Env} {R : Room} {s : State} {m : MethodId} {args : Array Value} {below : List Frame} {meth : Method} {c : Code} {H : Heap} {locs : List Loc} {cells slots : Nat} {Q : State → Prop}
  {pc : Nat} {ls : Array Slot} {rest st0 : List Value} {a : Array Value} {A : Nat → Prop} {H0 : Heap} {D : va_G} {cl : List vw_C} {tys : List (ClassId × FieldType)} {w wc wc' w' : va_W}
/-- the top of the stack under another name -/
theorem gTop {x y : Int32} (h : y = x) (k : W p l e R s m args below meth c H locs cells slots Q (F0 m pc ls (.int y :: rest))) : W p l e R s m args below meth c H locs cells slots Q (F0 m pc ls (.int x :: rest)) := by rw [← h]; exact k
theorem gPreS {as : List Value} (hP : va_P D cl w H) (hK : va_K D cl tys s) (hD : va_D A w) (isC : List Nat) (hn : va_nd isC = true) (hC : isC.map (fun i => w[i]?) = wc.map some) : PreS s H (va_Pc as (pcW D cl tys H.size wc)) as := by
  refine ⟨blindW, fun U hU hW => ⟨rfl, by rw [hU], ?_, va_K.moved hW.alike hK, (hD.sub isC hn hC).weaken (fun _ _ _ _ => trivial)⟩⟩
  rw [hU]
  intro k q hk
  have h1 : (isC.map (fun i => w[i]?))[k]? = some (some q) := by rw [hC, List.getElem?_map, hk]; rfl
  rw [List.getElem?_map] at h1
  cases hi : isC[k]? with
  | none => rw [hi] at h1; cases h1
  | some i => rw [hi] at h1; exact hP i q (Option.some.inj h1)
theorem gPreV {C : String} {T : u_T} {N ci : Nat} {b : Addr} {fs As : List Value} (hP : va_P D cl w H) (hK : va_K D cl tys s) (hD : va_D A w) (isC : List Nat) (hn : va_nd isC = true) (hC : isC.map (fun i => w[i]?) = wc.map some) (i0 : Nat) (he : w[i0]? = some (b, .inr (ci, fs))) (hc : cl[ci]? = some (C, T, N)) : PreV s H C b (va_Pc (.ref b :: As) (pcW D cl tys H.size wc)) As := by
  have h1 := gPreS (as := .ref b :: As) hP hK hD isC hn hC
  exact ⟨h1.1, va_recv hK hP hc he, h1.2⟩
theorem gJoin {t : State} {H1 : Heap} (hP : va_P D cl w H) (hD : va_D A w) (hS : va_S A H0 H locs) (hA : ∀ q, H0.size ≤ q → A q) (isC isR pm : List Nat) (hC : isC.map (fun i => w[i]?) = wc.map some) (hR : isR.map (fun i => w[i]?) = (isR.filterMap (fun i => w[i]?)).map some) (hn : va_nd isR = true) (hdis : ∀ i ∈ isR, i ∉ isC) (hw : pm.map (fun i => ((isR.filterMap (fun i => w[i]?)) ++ wc')[i]?) = w'.map some) (hpm : va_nd pm = true)
    (ht : t.heap = H1) (hk : ∀ q : Nat, q < H.size → ¬ va_A wc H.size q → H1[q]? = H[q]?) (hB : atW D cl tys (va_A wc H.size) wc' t) : va_P D cl w' H1 ∧ va_D A w' := by
  obtain ⟨hP1, hK1, hD1⟩ := hB
  rw [ht] at hP1
  have hFc := va_free (wc := wc) hD hS hA isC hC
  obtain ⟨hP2, hD2⟩ := va_join hP hD isC isR hC hR hn hdis hk hFc hP1 hD1
  refine ⟨?_, hD2.sub pm hpm hw⟩
  intro k q hq
  have h1 : (pm.map (fun i => ((isR.filterMap (fun i => w[i]?)) ++ wc')[i]?))[k]? = some (some q) := by rw [hw, List.getElem?_map, hq]; rfl
  rw [List.getElem?_map] at h1
  cases hi : pm[k]? with
  | none => rw [hi] at h1; cases h1
  | some i => rw [hi] at h1; exact hP2 i q (Option.some.inj h1)
/-- a call that answers an int: what came back stands beside the rest, in the caller's order -/
theorem gI {r0 : Int32} (hr : va_Run p l e R s m args below meth c H locs cells slots 0 0 (F0 m pc ls st0) rest (oI D cl tys (va_A wc H.size) r0 wc' a) (va_A wc H.size)) (hP : va_P D cl w H) (hD : va_D A w) (hS : va_S A H0 H locs) (hA : ∀ q, H0.size ≤ q → A q) (isC isR pm : List Nat) (hC : isC.map (fun i => w[i]?) = wc.map some) (hR : isR.map (fun i => w[i]?) = (isR.filterMap (fun i => w[i]?)).map some) (hn : va_nd isR = true) (hdis : ∀ i ∈ isR, i ∉ isC) (hw : pm.map (fun i => ((isR.filterMap (fun i => w[i]?)) ++ wc')[i]?) = w'.map some) (hpm : va_nd pm = true)
    (kk : ∀ (H1 : Heap) (locs1 : List Loc), va_P D cl w' H1 → va_D A w' → va_S A H0 H1 locs1 → W p l e R s m args below meth c H1 locs1 cells slots Q (F0 m (pc + 3) ls (.int r0 :: rest))) : W p l e R s m args below meth c H locs cells slots Q (F0 m pc ls st0) := by
  have hFc := va_free (wc := wc) hD hS hA isC hC
  refine va_calli hr hS (fun q _ h => hFc q h) hFc (fun r u t H1 locs1 ht hvm hp hB hz1 hk1 hS1 => ?_)
  obtain ⟨hP2, hD2⟩ := gJoin hP hD hS hA isC isR pm hC hR hn hdis hw hpm ht hk1 hB
  rw [hp]
  exact kk H1 locs1 hP2 hD2 hS1
theorem gV (hr : va_Run p l e R s m args below meth c H locs cells slots 0 0 (F0 m pc ls st0) rest (oV D cl tys (va_A wc H.size) wc' a) (va_A wc H.size)) (hP : va_P D cl w H) (hD : va_D A w) (hS : va_S A H0 H locs) (hA : ∀ q, H0.size ≤ q → A q) (isC isR pm : List Nat) (hC : isC.map (fun i => w[i]?) = wc.map some) (hR : isR.map (fun i => w[i]?) = (isR.filterMap (fun i => w[i]?)).map some) (hn : va_nd isR = true) (hdis : ∀ i ∈ isR, i ∉ isC) (hw : pm.map (fun i => ((isR.filterMap (fun i => w[i]?)) ++ wc')[i]?) = w'.map some) (hpm : va_nd pm = true)
    (kk : ∀ (H1 : Heap) (locs1 : List Loc), va_P D cl w' H1 → va_D A w' → va_S A H0 H1 locs1 → W p l e R s m args below meth c H1 locs1 cells slots Q (F0 m (pc + 3) ls rest)) : W p l e R s m args below meth c H locs cells slots Q (F0 m pc ls st0) := by
  have hFc := va_free (wc := wc) hD hS hA isC hC
  refine va_callv hr hS (fun q _ h => hFc q h) hFc (fun u t H1 locs1 ht hvm hp hB hz1 hk1 hS1 => ?_)
  obtain ⟨hP2, hD2⟩ := gJoin hP hD hS hA isC isR pm hC hR hn hdis hw hpm ht hk1 hB
  exact kk H1 locs1 hP2 hD2 hS1
/-- a call that has no cells of ours -/
theorem gKeep {H1 : Heap} (hP : va_P D cl w H) (hk : ∀ q : Nat, q < H.size → ¬ va_A [] H.size q → H1[q]? = H[q]?) : va_P D cl w H1 := by
  refine hP.kept (fun k q hq => ?_)
  have hlt := (hP k q hq).lt
  refine hk q.1 hlt (fun h => ?_)
  rcases h with ⟨j, e, h⟩ | h
  · simp at h
  · omega
theorem gI0 {r0 : Int32} (hr : va_Run p l e R s m args below meth c H locs cells slots 0 0 (F0 m pc ls st0) rest (oI D cl tys (va_A [] H.size) r0 [] a) (va_A [] H.size)) (hP : va_P D cl w H) (hD : va_D A w) (hS : va_S A H0 H locs) (hA : ∀ q, H0.size ≤ q → A q)
    (kk : ∀ (H1 : Heap) (locs1 : List Loc), va_P D cl w H1 → va_S A H0 H1 locs1 → W p l e R s m args below meth c H1 locs1 cells slots Q (F0 m (pc + 3) ls (.int r0 :: rest))) : W p l e R s m args below meth c H locs cells slots Q (F0 m pc ls st0) := by
  have hFc := va_free (wc := []) hD hS hA [] rfl
  refine va_calli hr hS (fun q _ h => hFc q h) hFc (fun r u t H1 locs1 ht hvm hp hB hz1 hk1 hS1 => ?_)
  rw [hp]
  exact kk H1 locs1 (gKeep hP hk1) hS1
theorem gV0 (hr : va_Run p l e R s m args below meth c H locs cells slots 0 0 (F0 m pc ls st0) rest (oV D cl tys (va_A [] H.size) [] a) (va_A [] H.size)) (hP : va_P D cl w H) (hD : va_D A w) (hS : va_S A H0 H locs) (hA : ∀ q, H0.size ≤ q → A q)
    (kk : ∀ (H1 : Heap) (locs1 : List Loc), va_P D cl w H1 → va_S A H0 H1 locs1 → W p l e R s m args below meth c H1 locs1 cells slots Q (F0 m (pc + 3) ls rest)) : W p l e R s m args below meth c H locs cells slots Q (F0 m pc ls st0) := by
  have hFc := va_free (wc := []) hD hS hA [] rfl
  refine va_callv hr hS (fun q _ h => hFc q h) hFc (fun u t H1 locs1 ht hvm hp hB hz1 hk1 hS1 => ?_)
  exact kk H1 locs1 (gKeep hP hk1) hS1
/-- the ends -/
theorem gRetI {cc : ByteArray} {v r0 : Int32} (hx : p.tables.exec = Jvm.exec) (hb : c.code = cc) (hr : meth.sig.returnType = some .int) (hlocks : meth.locks = false) (hK : va_K D cl tys s) (hP : va_P D cl w H) (hD : va_D A w) (hS : va_S A s.heap H locs) (hv : v = r0) (hw : w = w') (hdg : decode cc pc = .ok (.ireturn, 1)) :
    W p l e R s m args below meth c H locs cells slots (MQ below (oI D cl tys A r0 w') args s cells slots A) (F0 m pc ls [.int v]) := by
  subst hv; subst hw
  exact W.iret hx hb hr (fun t ht hW => ⟨⟨v, (), rfl, rfl, by rw [ht]; exact hP, va_K.moved hW.alike hK, hD⟩, hS.F ht⟩) hS.2.2 hdg hlocks
theorem gRetZ {cc : ByteArray} {v r0 : Int32} (hx : p.tables.exec = Jvm.exec) (hb : c.code = cc) (hr : meth.sig.returnType = some .boolean) (hlocks : meth.locks = false) (hK : va_K D cl tys s) (hP : va_P D cl w H) (hD : va_D A w) (hS : va_S A s.heap H locs) (hn : narrow .boolean (.int v) = .int v) (hv : v = r0) (hw : w = w') (hdg : decode cc pc = .ok (.ireturn, 1)) :
    W p l e R s m args below meth c H locs cells slots (MQ below (oI D cl tys A r0 w') args s cells slots A) (F0 m pc ls [.int v]) := by
  subst hv; subst hw
  exact W.zret hx hb hr hn (fun t ht hW => ⟨⟨v, (), rfl, rfl, by rw [ht]; exact hP, va_K.moved hW.alike hK, hD⟩, hS.F ht⟩) hS.2.2 hdg hlocks
theorem gRetV {cc : ByteArray} (hx : p.tables.exec = Jvm.exec) (hb : c.code = cc) (hr : meth.sig.returnType = none) (hlocks : meth.locks = false) (hK : va_K D cl tys s) (hP : va_P D cl w H) (hD : va_D A w) (hS : va_S A s.heap H locs) (hw : w = w') (hdg : decode cc pc = .ok (.return_, 1)) :
    W p l e R s m args below meth c H locs cells slots (MQ below (oV D cl tys A w') args s cells slots A) (F0 m pc ls []) := by
  subst hw
  exact W.vret hx hb hr (fun t ht hW => ⟨⟨(), rfl, trivial, by rw [ht]; exact hP, va_K.moved hW.alike hK, hD⟩, hS.F ht⟩) hS.2.2 hdg hlocks
end GW
/-- what a method's walk stands on -/
def cxt (p : Program) (s : State) (m : MethodId) (args : Array Value) (meth : Method) (c : Code) (cc : ByteArray) (rt : Option FieldType) (nL : Nat) (own : String) (Ts : List Cond) (D : va_G) (cl : List vw_C) (tys : List (ClassId × FieldType)) (A : Nat → Prop) : Prop :=
  p.tables.exec = Jvm.exec ∧ c.code = cc ∧ meth.sig.returnType = rt ∧ c.maxLocals = nL ∧ s.vm.findClass own = some m.cls ∧ (∀ w ∈ Ts, w.before args s = true) ∧ meth.locks = false ∧ va_K D cl tys s ∧ ∀ q : Nat, s.heap.size ≤ q → A q
/-- a contract out of the walk from the entry -/
theorem ctI_of {l : Launch} {y : MethodName} {ws ws' : List Cond} {rm : Room} {D : va_G} {cl : List vw_C} {tys : List (ClassId × FieldType)} {as : List Value} {w w' : va_W} {r0 : Int32} {cc : ByteArray} {maxL : Nat} {ret : Option FieldType} (hy : plainName y.cls = true) (hw : ws = Cond.code y cc maxL ret :: ws') (hle : (lg_sl as).length ≤ maxL)
    (body : ∀ p e s m below meth c A (ls : Array Slot), cxt p s m as.toArray meth c cc ret maxL y.cls ws D cl tys A → lv_has ls maxL (lv_args 0 as) → va_P D cl w s.heap → va_D A w → va_S A s.heap s.heap [] → W p l e rm s m as.toArray below meth c s.heap [] 0 0 (MQ below (oI D cl tys A r0 w') as.toArray s 0 0 A) (F0 m 0 ls [])) : CtI l y ws rm D cl tys as w r0 w' := by
  intro sz
  refine Met.ofW (cc := cc) (maxL := maxL) (ret := ret) hy hw ?_
  intro p e s m args below meth c s₁ B hml hv
  obtain ⟨rfl, hsz, hP, hK, hD0⟩ := hv
  have hts := atoms_spec (ws := ws) B.pre
  have hown : s.vm.findClass y.cls = some m.cls := findClass_of_methodNamed B.named
  subst hsz
  have hl := lv_entry as (n := maxL) hle
  rw [lg_entry_eq]
  generalize (lg_sl as ++ List.replicate (maxL - (lg_sl as).length) Slot.unset).toArray = ls at hl ⊢
  exact body p e s m below meth c (va_A w s.heap.size) ls ⟨B.exec, B.bytes, B.returns, hml, hown, hts, B.notSynchronized, hK, fun q h => Or.inr h⟩ hl hP (hD0.self) va_S.rf
theorem ctV_of {l : Launch} {y : MethodName} {ws ws' : List Cond} {rm : Room} {D : va_G} {cl : List vw_C} {tys : List (ClassId × FieldType)} {as : List Value} {w w' : va_W} {cc : ByteArray} {maxL : Nat} {ret : Option FieldType} (hy : plainName y.cls = true) (hw : ws = Cond.code y cc maxL ret :: ws') (hle : (lg_sl as).length ≤ maxL)
    (body : ∀ p e s m below meth c A (ls : Array Slot), cxt p s m as.toArray meth c cc ret maxL y.cls ws D cl tys A → lv_has ls maxL (lv_args 0 as) → va_P D cl w s.heap → va_D A w → va_S A s.heap s.heap [] → W p l e rm s m as.toArray below meth c s.heap [] 0 0 (MQ below (oV D cl tys A w') as.toArray s 0 0 A) (F0 m 0 ls [])) : CtV l y ws rm D cl tys as w w' := by
  intro sz
  refine Met.ofW (cc := cc) (maxL := maxL) (ret := ret) hy hw ?_
  intro p e s m args below meth c s₁ B hml hv
  obtain ⟨rfl, hsz, hP, hK, hD0⟩ := hv
  have hts := atoms_spec (ws := ws) B.pre
  have hown : s.vm.findClass y.cls = some m.cls := findClass_of_methodNamed B.named
  subst hsz
  have hl := lv_entry as (n := maxL) hle
  rw [lg_entry_eq]
  generalize (lg_sl as ++ List.replicate (maxL - (lg_sl as).length) Slot.unset).toArray = ls at hl ⊢
  exact body p e s m below meth c (va_A w s.heap.size) ls ⟨B.exec, B.bytes, B.returns, hml, hown, hts, B.notSynchronized, hK, fun q h => Or.inr h⟩ hl hP (hD0.self) va_S.rf
end
section
abbrev rmX3_isFull : Room := { frames := 0, cells := 0, slots := 0, locals := 0 }
theorem inX3_isFull_X3 : ∀ w ∈ wsX30, w ∈ wsX3_isFull := by decide +kernel
def fX3_isFull (n : Nat) (u : TQ) : Int32 :=
  if (gQ_many u) < (Int32.ofNat n) then (
  0) else (
  1)
set_option maxRecDepth 100000 in
set_option maxHeartbeats 4000000 in
theorem wkX3_isFull {p : Program} {l : Launch} {e : Env} {s : State} {m : MethodId} {args : Array Value} {below : List Frame} {meth : Method} {c : Code} {D : va_G} {cI : ClassId} {A : Nat → Prop} {a0 a1 : Nat} {n : Nat} (C : cxt p s m args meth c cX3_isFull (some .boolean) 1 RX3 wsX3_isFull D vwCl [(cI, .int)] A) : ∀ (z : Int32) (u : TQ) (H : Heap) (locs : List Loc) (ls : Array Slot), fX3_isFull n u = z → va_P D vwCl (wQ a0 a1 cI n u) H → va_D A (wQ a0 a1 cI n u) → va_S A s.heap H locs → lv_has ls 1 [(0, .ref a0)] → W p l e rmX3_isFull s m args below meth c H locs 0 0 (MQ below (oI D vwCl [(cI, .int)] A z (wQ a0 a1 cI n u)) args s 0 0 A) (F0 m 0 ls []) := by
  have C0 := C
  obtain ⟨hx, hb, hr, hml, hown, hts, hlocks, hK, hA⟩ := C
  intro z u H locs ls hf hP hD hS hl
  unfold fX3_isFull at hf
  refine lv_aload_n hx hb dX3_isFull_0 rfl (lv_at hl 0 rfl) ?_
  refine va_get (D := D) (ci := 2) (v := .int (gQ_many u)) (C := RX3) (T := TX3) (N := 3) hx hb hts inX3_isFull_X3 hown hK hP 0 rfl rfl 2 (by decide) (hts (.fieldLink RX3 13 "BlockCache$Queue" "many" "I") (by decide +kernel)) (fun _ h9 => h9) rfl dX3_isFull_1 ?_
  refine lv_aload_n hx hb dX3_isFull_4 rfl (lv_at hl 0 rfl) ?_
  refine va_get (D := D) (ci := 2) (v := .ref a1) (C := RX3) (T := TX3) (N := 3) hx hb hts inX3_isFull_X3 hown hK hP 0 rfl rfl 0 (by decide) (hts (.fieldLink RX3 7 "BlockCache$Queue" "ring" "[I") (by decide +kernel)) (fun _ h9 => h9) rfl dX3_isFull_5 ?_
  refine va_alen (v := (Int32.ofNat n)) hx hb hK hP 1 0 rfl rfl rfl dX3_isFull_8 ?_
  refine lv_icmp_lt (tgt := 16) hx hb dX3_isFull_9 (by decide) (fun c_1 => ?_) (fun c_1 => ?_)
  · replace hf := pI_t c_1 hf
    refine lv_iconst (v := 0) hx hb dX3_isFull_16 (by decide) ?_
    have hz := hf
    subst hz
    exact gRetZ hx hb hr hlocks hK hP hD hS (by decide) rfl rfl dX3_isFull_17
  · replace hf := pI_f c_1 hf
    refine lv_iconst (v := 1) hx hb dX3_isFull_12 (by decide) ?_
    refine lv_goto (tgt := 17) hx hb dX3_isFull_13 (by decide) ?_
    have hz := hf
    subst hz
    exact gRetZ hx hb hr hlocks hK hP hD hS (by decide) rfl rfl dX3_isFull_17
theorem ctX3_isFull (l : Launch) (D : va_G) (cI : ClassId) (a0 a1 : Nat) (n : Nat) (u : TQ) (z : Int32) (hz : fX3_isFull n u = z) : CtI l yX3_isFull wsX3_isFull rmX3_isFull D vwCl [(cI, .int)] [.ref a0] (wQ a0 a1 cI n u) z (wQ a0 a1 cI n u) :=
  ctI_of (cc := cX3_isFull) (maxL := 1) (ret := (some .boolean)) (by decide) rfl (Nat.le_of_ble_eq_true rfl) (fun p e s m below meth c A ls C hl hP hD hS => wkX3_isFull C z _ s.heap [] ls hz hP hD hS hl)
abbrev rmX3_wrapped : Room := { frames := 0, cells := 0, slots := 0, locals := 0 }
theorem inX3_wrapped_X3 : ∀ w ∈ wsX30, w ∈ wsX3_wrapped := by decide +kernel
def fX3_wrapped (n : Nat) (u : TQ) (x1 : Int32) : Int32 :=
  if (Int32.ofNat n) ≤ x1 then (
  (x1 - (Int32.ofNat n))) else (
  x1)
set_option maxRecDepth 100000 in
set_option maxHeartbeats 4000000 in
theorem wkX3_wrapped {p : Program} {l : Launch} {e : Env} {s : State} {m : MethodId} {args : Array Value} {below : List Frame} {meth : Method} {c : Code} {D : va_G} {cI : ClassId} {A : Nat → Prop} {a0 a1 : Nat} {n : Nat} (C : cxt p s m args meth c cX3_wrapped (some .int) 2 RX3 wsX3_wrapped D vwCl [(cI, .int)] A) : ∀ (z : Int32) (u : TQ) (x1 : Int32) (H : Heap) (locs : List Loc) (ls : Array Slot), fX3_wrapped n u x1 = z → va_P D vwCl (wQ a0 a1 cI n u) H → va_D A (wQ a0 a1 cI n u) → va_S A s.heap H locs → lv_has ls 2 [(0, .ref a0), (1, .int x1)] → W p l e rmX3_wrapped s m args below meth c H locs 0 0 (MQ below (oI D vwCl [(cI, .int)] A z (wQ a0 a1 cI n u)) args s 0 0 A) (F0 m 0 ls []) := by
  have C0 := C
  obtain ⟨hx, hb, hr, hml, hown, hts, hlocks, hK, hA⟩ := C
  intro z u x1 H locs ls hf hP hD hS hl
  unfold fX3_wrapped at hf
  refine lv_iload_n hx hb dX3_wrapped_0 rfl (lv_at hl 1 rfl) ?_
  refine lv_aload_n hx hb dX3_wrapped_1 rfl (lv_at hl 0 rfl) ?_
  refine va_get (D := D) (ci := 2) (v := .ref a1) (C := RX3) (T := TX3) (N := 3) hx hb hts inX3_wrapped_X3 hown hK hP 0 rfl rfl 0 (by decide) (hts (.fieldLink RX3 7 "BlockCache$Queue" "ring" "[I") (by decide +kernel)) (fun _ h9 => h9) rfl dX3_wrapped_2 ?_
  refine va_alen (v := (Int32.ofNat n)) hx hb hK hP 1 0 rfl rfl rfl dX3_wrapped_5 ?_
  refine lv_icmp_ge (tgt := 13) hx hb dX3_wrapped_6 (by decide) (fun c_1 => ?_) (fun c_1 => ?_)
  · replace hf := pI_t c_1 hf
    refine lv_iload_n hx hb dX3_wrapped_13 rfl (lv_at hl 1 rfl) ?_
    refine lv_aload_n hx hb dX3_wrapped_14 rfl (lv_at hl 0 rfl) ?_
    refine va_get (D := D) (ci := 2) (v := .ref a1) (C := RX3) (T := TX3) (N := 3) hx hb hts inX3_wrapped_X3 hown hK hP 0 rfl rfl 0 (by decide) (hts (.fieldLink RX3 7 "BlockCache$Queue" "ring" "[I") (by decide +kernel)) (fun _ h9 => h9) rfl dX3_wrapped_15 ?_
    refine va_alen (v := (Int32.ofNat n)) hx hb hK hP 1 0 rfl rfl rfl dX3_wrapped_18 ?_
    refine lv_isub hx hb dX3_wrapped_19 ?_
    have hz := hf
    subst hz
    exact gRetI hx hb hr hlocks hK hP hD hS rfl rfl dX3_wrapped_20
  · replace hf := pI_f c_1 hf
    refine lv_iload_n hx hb dX3_wrapped_9 rfl (lv_at hl 1 rfl) ?_
    refine lv_goto (tgt := 20) hx hb dX3_wrapped_10 (by decide) ?_
    have hz := hf
    subst hz
    exact gRetI hx hb hr hlocks hK hP hD hS rfl rfl dX3_wrapped_20
theorem ctX3_wrapped (l : Launch) (D : va_G) (cI : ClassId) (a0 a1 : Nat) (n : Nat) (u : TQ) (x1 : Int32) (z : Int32) (hz : fX3_wrapped n u x1 = z) : CtI l yX3_wrapped wsX3_wrapped rmX3_wrapped D vwCl [(cI, .int)] [.ref a0, .int x1] (wQ a0 a1 cI n u) z (wQ a0 a1 cI n u) :=
  ctI_of (cc := cX3_wrapped) (maxL := 2) (ret := (some .int)) (by decide) rfl (Nat.le_of_ble_eq_true rfl) (fun p e s m below meth c A ls C hl hP hD hS => wkX3_wrapped C z _ _ s.heap [] ls hz hP hD hS hl)
abbrev rmX3_at : Room := { frames := 1, cells := 0, slots := 0, locals := 21 }
theorem inX3_at_X3 : ∀ w ∈ wsX30, w ∈ wsX3_at := by decide +kernel
def fX3_at (n : Nat) (u : TQ) (x1 : Int32) : Option (Int32) :=
  pLet (fX3_wrapped n u ((gQ_start u) + x1)) (fun z_1 =>
  pIn z_1 n (
  some ((gQ_ring u) z_1.toNatClampNeg)))
set_option maxRecDepth 100000 in
set_option maxHeartbeats 4000000 in
theorem wkX3_at {p : Program} {l : Launch} {e : Env} {s : State} {m : MethodId} {args : Array Value} {below : List Frame} {meth : Method} {c : Code} {D : va_G} {cI : ClassId} {A : Nat → Prop} {a0 a1 : Nat} {n : Nat} (C : cxt p s m args meth c cX3_at (some .int) 2 RX3 wsX3_at D vwCl [(cI, .int)] A) : ∀ (z : Int32) (u : TQ) (x1 : Int32) (H : Heap) (locs : List Loc) (ls : Array Slot), fX3_at n u x1 = some z → va_P D vwCl (wQ a0 a1 cI n u) H → va_D A (wQ a0 a1 cI n u) → va_S A s.heap H locs → lv_has ls 2 [(0, .ref a0), (1, .int x1)] → W p l e rmX3_at s m args below meth c H locs 0 0 (MQ below (oI D vwCl [(cI, .int)] A z (wQ a0 a1 cI n u)) args s 0 0 A) (F0 m 0 ls []) := by
  have C0 := C
  obtain ⟨hx, hb, hr, hml, hown, hts, hlocks, hK, hA⟩ := C
  intro z u x1 H locs ls hf hP hD hS hl
  unfold fX3_at at hf
  refine lv_aload_n hx hb dX3_at_0 rfl (lv_at hl 0 rfl) ?_
  refine va_get (D := D) (ci := 2) (v := .ref a1) (C := RX3) (T := TX3) (N := 3) hx hb hts inX3_at_X3 hown hK hP 0 rfl rfl 0 (by decide) (hts (.fieldLink RX3 7 "BlockCache$Queue" "ring" "[I") (by decide +kernel)) (fun _ h9 => h9) rfl dX3_at_1 ?_
  refine lv_aload_n hx hb dX3_at_4 rfl (lv_at hl 0 rfl) ?_
  refine lv_aload_n hx hb dX3_at_5 rfl (lv_at hl 0 rfl) ?_
  refine va_get (D := D) (ci := 2) (v := .int (gQ_start u)) (C := RX3) (T := TX3) (N := 3) hx hb hts inX3_at_X3 hown hK hP 0 rfl rfl 1 (by decide) (hts (.fieldLink RX3 17 "BlockCache$Queue" "start" "I") (by decide +kernel)) (fun _ h9 => h9) rfl dX3_at_6 ?_
  refine lv_iload_n hx hb dX3_at_9 rfl (lv_at hl 1 rfl) ?_
  refine lv_iadd hx hb dX3_at_10 ?_
  obtain ⟨z_1, hz_1, hf⟩ := pLet_out hf
  refine gI (w' := (wQ a0 a1 cI n u)) (va_runV (As := [.int ((gQ_start u) + x1)]) (rest := [.ref a1]) ⟨hx, hb, hml, hown, hts⟩ (ctX3_wrapped l D cI a0 a1 n u ((gQ_start u) + x1) z_1 hz_1.symm H.size) (cwV 1 hts gX3_at_X3_wrapped rfl rfl rfl (by decide +kernel) ⟨Nat.le_of_ble_eq_true rfl, Nat.le_of_ble_eq_true rfl⟩) (gPreV (ci := 2) (C := RX3) (T := TX3) (N := 3) hP hK hD [0, 1] (by decide) rfl 0 rfl rfl) rfl rfl hl.1 rfl (lv_room (Nat.le_of_ble_eq_true rfl)) dX3_at_11 ⟨Nat.le_of_ble_eq_true rfl, Nat.le_of_ble_eq_true rfl⟩) hP hD hS hA [0, 1] [] [0, 1] rfl rfl (by decide) (by decide) rfl (by decide) (fun H locs hP hD hS => ?_)
  obtain ⟨h_2, hf⟩ := pIn_out hf
  refine va_iald hx hb hK hP 1 0 rfl rfl h_2 dX3_at_14 ?_
  have hz := Option.some.inj hf
  subst hz
  exact gRetI hx hb hr hlocks hK hP hD hS rfl rfl dX3_at_15
theorem ctX3_at (l : Launch) (D : va_G) (cI : ClassId) (a0 a1 : Nat) (n : Nat) (u : TQ) (x1 : Int32) (z : Int32) (hz : fX3_at n u x1 = some z) : CtI l yX3_at wsX3_at rmX3_at D vwCl [(cI, .int)] [.ref a0, .int x1] (wQ a0 a1 cI n u) z (wQ a0 a1 cI n u) :=
  ctI_of (cc := cX3_at) (maxL := 2) (ret := (some .int)) (by decide) rfl (Nat.le_of_ble_eq_true rfl) (fun p e s m below meth c A ls C hl hP hD hS => wkX3_at C z _ _ s.heap [] ls hz hP hD hS hl)
abbrev rmX3_first : Room := { frames := 0, cells := 0, slots := 0, locals := 0 }
theorem inX3_first_X3 : ∀ w ∈ wsX30, w ∈ wsX3_first := by decide +kernel
def fX3_first (n : Nat) (u : TQ) : Option (Int32) :=
  pIn (gQ_start u) n (
  some ((gQ_ring u) ((gQ_start u)).toNatClampNeg))
set_option maxRecDepth 100000 in
set_option maxHeartbeats 4000000 in
theorem wkX3_first {p : Program} {l : Launch} {e : Env} {s : State} {m : MethodId} {args : Array Value} {below : List Frame} {meth : Method} {c : Code} {D : va_G} {cI : ClassId} {A : Nat → Prop} {a0 a1 : Nat} {n : Nat} (C : cxt p s m args meth c cX3_first (some .int) 1 RX3 wsX3_first D vwCl [(cI, .int)] A) : ∀ (z : Int32) (u : TQ) (H : Heap) (locs : List Loc) (ls : Array Slot), fX3_first n u = some z → va_P D vwCl (wQ a0 a1 cI n u) H → va_D A (wQ a0 a1 cI n u) → va_S A s.heap H locs → lv_has ls 1 [(0, .ref a0)] → W p l e rmX3_first s m args below meth c H locs 0 0 (MQ below (oI D vwCl [(cI, .int)] A z (wQ a0 a1 cI n u)) args s 0 0 A) (F0 m 0 ls []) := by
  have C0 := C
  obtain ⟨hx, hb, hr, hml, hown, hts, hlocks, hK, hA⟩ := C
  intro z u H locs ls hf hP hD hS hl
  unfold fX3_first at hf
  refine lv_aload_n hx hb dX3_first_0 rfl (lv_at hl 0 rfl) ?_
  refine va_get (D := D) (ci := 2) (v := .ref a1) (C := RX3) (T := TX3) (N := 3) hx hb hts inX3_first_X3 hown hK hP 0 rfl rfl 0 (by decide) (hts (.fieldLink RX3 7 "BlockCache$Queue" "ring" "[I") (by decide +kernel)) (fun _ h9 => h9) rfl dX3_first_1 ?_
  refine lv_aload_n hx hb dX3_first_4 rfl (lv_at hl 0 rfl) ?_
  refine va_get (D := D) (ci := 2) (v := .int (gQ_start u)) (C := RX3) (T := TX3) (N := 3) hx hb hts inX3_first_X3 hown hK hP 0 rfl rfl 1 (by decide) (hts (.fieldLink RX3 17 "BlockCache$Queue" "start" "I") (by decide +kernel)) (fun _ h9 => h9) rfl dX3_first_5 ?_
  obtain ⟨h_1, hf⟩ := pIn_out hf
  refine va_iald hx hb hK hP 1 0 rfl rfl h_1 dX3_first_8 ?_
  have hz := Option.some.inj hf
  subst hz
  exact gRetI hx hb hr hlocks hK hP hD hS rfl rfl dX3_first_9
theorem ctX3_first (l : Launch) (D : va_G) (cI : ClassId) (a0 a1 : Nat) (n : Nat) (u : TQ) (z : Int32) (hz : fX3_first n u = some z) : CtI l yX3_first wsX3_first rmX3_first D vwCl [(cI, .int)] [.ref a0] (wQ a0 a1 cI n u) z (wQ a0 a1 cI n u) :=
  ctI_of (cc := cX3_first) (maxL := 1) (ret := (some .int)) (by decide) rfl (Nat.le_of_ble_eq_true rfl) (fun p e s m below meth c A ls C hl hP hD hS => wkX3_first C z _ s.heap [] ls hz hP hD hS hl)
abbrev rmX3_append : Room := { frames := 1, cells := 0, slots := 0, locals := 21 }
theorem inX3_append_X3 : ∀ w ∈ wsX30, w ∈ wsX3_append := by decide +kernel
def fX3_append (n : Nat) (u : TQ) (x1 : Int32) : Option (TQ) :=
  pLet (fX3_wrapped n u ((gQ_start u) + (gQ_many u))) (fun z_1 =>
  pIn z_1 n (
  pLet (sQ_ring u (upd (gQ_ring u) (z_1).toNatClampNeg x1)) (fun u_3 =>
  pLet (sQ_many u_3 ((gQ_many u_3) + 1)) (fun u_4 =>
  some u_4))))
set_option maxRecDepth 100000 in
set_option maxHeartbeats 4000000 in
theorem wkX3_append {p : Program} {l : Launch} {e : Env} {s : State} {m : MethodId} {args : Array Value} {below : List Frame} {meth : Method} {c : Code} {D : va_G} {cI : ClassId} {A : Nat → Prop} {a0 a1 : Nat} {n : Nat} (C : cxt p s m args meth c cX3_append none 2 RX3 wsX3_append D vwCl [(cI, .int)] A) : ∀ (z : TQ) (u : TQ) (x1 : Int32) (H : Heap) (locs : List Loc) (ls : Array Slot), fX3_append n u x1 = some z → va_P D vwCl (wQ a0 a1 cI n u) H → va_D A (wQ a0 a1 cI n u) → va_S A s.heap H locs → lv_has ls 2 [(0, .ref a0), (1, .int x1)] → W p l e rmX3_append s m args below meth c H locs 0 0 (MQ below (oV D vwCl [(cI, .int)] A (wQ a0 a1 cI n z)) args s 0 0 A) (F0 m 0 ls []) := by
  have C0 := C
  obtain ⟨hx, hb, hr, hml, hown, hts, hlocks, hK, hA⟩ := C
  intro z u x1 H locs ls hf hP hD hS hl
  unfold fX3_append at hf
  refine lv_aload_n hx hb dX3_append_0 rfl (lv_at hl 0 rfl) ?_
  refine va_get (D := D) (ci := 2) (v := .ref a1) (C := RX3) (T := TX3) (N := 3) hx hb hts inX3_append_X3 hown hK hP 0 rfl rfl 0 (by decide) (hts (.fieldLink RX3 7 "BlockCache$Queue" "ring" "[I") (by decide +kernel)) (fun _ h9 => h9) rfl dX3_append_1 ?_
  refine lv_aload_n hx hb dX3_append_4 rfl (lv_at hl 0 rfl) ?_
  refine lv_aload_n hx hb dX3_append_5 rfl (lv_at hl 0 rfl) ?_
  refine va_get (D := D) (ci := 2) (v := .int (gQ_start u)) (C := RX3) (T := TX3) (N := 3) hx hb hts inX3_append_X3 hown hK hP 0 rfl rfl 1 (by decide) (hts (.fieldLink RX3 17 "BlockCache$Queue" "start" "I") (by decide +kernel)) (fun _ h9 => h9) rfl dX3_append_6 ?_
  refine lv_aload_n hx hb dX3_append_9 rfl (lv_at hl 0 rfl) ?_
  refine va_get (D := D) (ci := 2) (v := .int (gQ_many u)) (C := RX3) (T := TX3) (N := 3) hx hb hts inX3_append_X3 hown hK hP 0 rfl rfl 2 (by decide) (hts (.fieldLink RX3 13 "BlockCache$Queue" "many" "I") (by decide +kernel)) (fun _ h9 => h9) rfl dX3_append_10 ?_
  refine lv_iadd hx hb dX3_append_13 ?_
  obtain ⟨z_1, hz_1, hf⟩ := pLet_out hf
  refine gI (w' := (wQ a0 a1 cI n u)) (va_runV (As := [.int ((gQ_start u) + (gQ_many u))]) (rest := [.ref a1]) ⟨hx, hb, hml, hown, hts⟩ (ctX3_wrapped l D cI a0 a1 n u ((gQ_start u) + (gQ_many u)) z_1 hz_1.symm H.size) (cwV 1 hts gX3_append_X3_wrapped rfl rfl rfl (by decide +kernel) ⟨Nat.le_of_ble_eq_true rfl, Nat.le_of_ble_eq_true rfl⟩) (gPreV (ci := 2) (C := RX3) (T := TX3) (N := 3) hP hK hD [0, 1] (by decide) rfl 0 rfl rfl) rfl rfl hl.1 rfl (lv_room (Nat.le_of_ble_eq_true rfl)) dX3_append_14 ⟨Nat.le_of_ble_eq_true rfl, Nat.le_of_ble_eq_true rfl⟩) hP hD hS hA [0, 1] [] [0, 1] rfl rfl (by decide) (by decide) rfl (by decide) (fun H locs hP hD hS => ?_)
  refine lv_iload_n hx hb dX3_append_17 rfl (lv_at hl 1 rfl) ?_
  obtain ⟨h_2, hf⟩ := pIn_out hf
  refine va_iast hx hb hK hP hD hS 1 0 rfl rfl h_2 dX3_append_18 (fun H locs hP hD hS => ?_)
  obtain ⟨u_3, eu_3, hf⟩ := pLet_out hf
  replace hP : va_P D vwCl (wQ a0 a1 cI n u_3) H := by rw [eu_3]; exact hP
  replace hD : va_D A (wQ a0 a1 cI n u_3) := by rw [eu_3]; exact hD
  refine lv_aload_n hx hb dX3_append_19 rfl (lv_at hl 0 rfl) ?_
  refine lv_dup hx hb dX3_append_20 rfl ?_
  refine va_get (D := D) (ci := 2) (v := .int (gQ_many u_3)) (C := RX3) (T := TX3) (N := 3) hx hb hts inX3_append_X3 hown hK hP 0 rfl rfl 2 (by decide) (hts (.fieldLink RX3 13 "BlockCache$Queue" "many" "I") (by decide +kernel)) (fun _ h9 => h9) rfl dX3_append_21 ?_
  refine lv_iconst (v := 1) hx hb dX3_append_24 (by decide) ?_
  refine lv_iadd hx hb dX3_append_25 ?_
  refine va_put (D := D) (ci := 2) (v := .int ((gQ_many u_3) + 1)) (ty := .int) (C := RX3) (T := TX3) (N := 3) hx hb hts inX3_append_X3 tyX3 tyX3_ok nmX3 hown hK hP hD hS 0 rfl rfl 2 (by decide) (hts (.fieldLink RX3 13 "BlockCache$Queue" "many" "I") (by decide +kernel)) (fun _ h9 => h9) rfl (by decide +kernel) rfl rfl (Nat.le_of_ble_eq_true rfl) dX3_append_26 (fun H locs hP hD hS => ?_)
  obtain ⟨u_4, eu_4, hf⟩ := pLet_out hf
  replace hP : va_P D vwCl (wQ a0 a1 cI n u_4) H := by rw [eu_4]; exact hP
  replace hD : va_D A (wQ a0 a1 cI n u_4) := by rw [eu_4]; exact hD
  have hz := Option.some.inj hf
  subst hz
  exact gRetV hx hb hr hlocks hK hP hD hS rfl dX3_append_29
theorem ctX3_append (l : Launch) (D : va_G) (cI : ClassId) (a0 a1 : Nat) (n : Nat) (u : TQ) (x1 : Int32) (z : TQ) (hz : fX3_append n u x1 = some z) : CtV l yX3_append wsX3_append rmX3_append D vwCl [(cI, .int)] [.ref a0, .int x1] (wQ a0 a1 cI n u) (wQ a0 a1 cI n z) :=
  ctV_of (cc := cX3_append) (maxL := 2) (ret := none) (by decide) rfl (Nat.le_of_ble_eq_true rfl) (fun p e s m below meth c A ls C hl hP hD hS => wkX3_append C z _ _ s.heap [] ls hz hP hD hS hl)
abbrev rmX3_takeFirst : Room := { frames := 1, cells := 0, slots := 0, locals := 21 }
theorem inX3_takeFirst_X3 : ∀ w ∈ wsX30, w ∈ wsX3_takeFirst := by decide +kernel
def fX3_takeFirst (n : Nat) (u : TQ) : Option (Int32 × TQ) :=
  pIn (gQ_start u) n (
  pLet ((gQ_ring u) ((gQ_start u)).toNatClampNeg) (fun x_2 =>
  pLet (fX3_wrapped n u ((gQ_start u) + 1)) (fun z_3 =>
  pLet (sQ_start u z_3) (fun u_4 =>
  pLet (sQ_many u_4 ((gQ_many u_4) - 1)) (fun u_5 =>
  some (x_2, u_5))))))
set_option maxRecDepth 100000 in
set_option maxHeartbeats 4000000 in
theorem wkX3_takeFirst {p : Program} {l : Launch} {e : Env} {s : State} {m : MethodId} {args : Array Value} {below : List Frame} {meth : Method} {c : Code} {D : va_G} {cI : ClassId} {A : Nat → Prop} {a0 a1 : Nat} {n : Nat} (C : cxt p s m args meth c cX3_takeFirst (some .int) 2 RX3 wsX3_takeFirst D vwCl [(cI, .int)] A) : ∀ (z : Int32 × TQ) (u : TQ) (H : Heap) (locs : List Loc) (ls : Array Slot), fX3_takeFirst n u = some z → va_P D vwCl (wQ a0 a1 cI n u) H → va_D A (wQ a0 a1 cI n u) → va_S A s.heap H locs → lv_has ls 2 [(0, .ref a0)] → W p l e rmX3_takeFirst s m args below meth c H locs 0 0 (MQ below (oI D vwCl [(cI, .int)] A z.1 (wQ a0 a1 cI n z.2)) args s 0 0 A) (F0 m 0 ls []) := by
  have C0 := C
  obtain ⟨hx, hb, hr, hml, hown, hts, hlocks, hK, hA⟩ := C
  intro z u H locs ls hf hP hD hS hl
  unfold fX3_takeFirst at hf
  refine lv_aload_n hx hb dX3_takeFirst_0 rfl (lv_at hl 0 rfl) ?_
  refine va_get (D := D) (ci := 2) (v := .ref a1) (C := RX3) (T := TX3) (N := 3) hx hb hts inX3_takeFirst_X3 hown hK hP 0 rfl rfl 0 (by decide) (hts (.fieldLink RX3 7 "BlockCache$Queue" "ring" "[I") (by decide +kernel)) (fun _ h9 => h9) rfl dX3_takeFirst_1 ?_
  refine lv_aload_n hx hb dX3_takeFirst_4 rfl (lv_at hl 0 rfl) ?_
  refine va_get (D := D) (ci := 2) (v := .int (gQ_start u)) (C := RX3) (T := TX3) (N := 3) hx hb hts inX3_takeFirst_X3 hown hK hP 0 rfl rfl 1 (by decide) (hts (.fieldLink RX3 17 "BlockCache$Queue" "start" "I") (by decide +kernel)) (fun _ h9 => h9) rfl dX3_takeFirst_5 ?_
  obtain ⟨h_1, hf⟩ := pIn_out hf
  refine va_iald hx hb hK hP 1 0 rfl rfl h_1 dX3_takeFirst_8 ?_
  obtain ⟨x_2, ex_2, hf⟩ := pLet_out hf
  refine gTop ex_2 ?_
  refine lv_istore_n (lv' := [(1, .int x_2), (0, .ref a0)]) hx hb dX3_takeFirst_9 rfl hl (by decide) rfl (fun ls hl => ?_)
  refine lv_aload_n hx hb dX3_takeFirst_10 rfl (lv_at hl 1 rfl) ?_
  refine lv_aload_n hx hb dX3_takeFirst_11 rfl (lv_at hl 1 rfl) ?_
  refine lv_aload_n hx hb dX3_takeFirst_12 rfl (lv_at hl 1 rfl) ?_
  refine va_get (D := D) (ci := 2) (v := .int (gQ_start u)) (C := RX3) (T := TX3) (N := 3) hx hb hts inX3_takeFirst_X3 hown hK hP 0 rfl rfl 1 (by decide) (hts (.fieldLink RX3 17 "BlockCache$Queue" "start" "I") (by decide +kernel)) (fun _ h9 => h9) rfl dX3_takeFirst_13 ?_
  refine lv_iconst (v := 1) hx hb dX3_takeFirst_16 (by decide) ?_
  refine lv_iadd hx hb dX3_takeFirst_17 ?_
  obtain ⟨z_3, hz_3, hf⟩ := pLet_out hf
  refine gI (w' := (wQ a0 a1 cI n u)) (va_runV (As := [.int ((gQ_start u) + 1)]) (rest := [.ref a0]) ⟨hx, hb, hml, hown, hts⟩ (ctX3_wrapped l D cI a0 a1 n u ((gQ_start u) + 1) z_3 hz_3.symm H.size) (cwV 1 hts gX3_takeFirst_X3_wrapped rfl rfl rfl (by decide +kernel) ⟨Nat.le_of_ble_eq_true rfl, Nat.le_of_ble_eq_true rfl⟩) (gPreV (ci := 2) (C := RX3) (T := TX3) (N := 3) hP hK hD [0, 1] (by decide) rfl 0 rfl rfl) rfl rfl hl.1 rfl (lv_room (Nat.le_of_ble_eq_true rfl)) dX3_takeFirst_18 ⟨Nat.le_of_ble_eq_true rfl, Nat.le_of_ble_eq_true rfl⟩) hP hD hS hA [0, 1] [] [0, 1] rfl rfl (by decide) (by decide) rfl (by decide) (fun H locs hP hD hS => ?_)
  refine va_put (D := D) (ci := 2) (v := .int z_3) (ty := .int) (C := RX3) (T := TX3) (N := 3) hx hb hts inX3_takeFirst_X3 tyX3 tyX3_ok nmX3 hown hK hP hD hS 0 rfl rfl 1 (by decide) (hts (.fieldLink RX3 17 "BlockCache$Queue" "start" "I") (by decide +kernel)) (fun _ h9 => h9) rfl (by decide +kernel) rfl rfl (Nat.le_of_ble_eq_true rfl) dX3_takeFirst_21 (fun H locs hP hD hS => ?_)
  obtain ⟨u_4, eu_4, hf⟩ := pLet_out hf
  replace hP : va_P D vwCl (wQ a0 a1 cI n u_4) H := by rw [eu_4]; exact hP
  replace hD : va_D A (wQ a0 a1 cI n u_4) := by rw [eu_4]; exact hD
  refine lv_aload_n hx hb dX3_takeFirst_24 rfl (lv_at hl 1 rfl) ?_
  refine lv_dup hx hb dX3_takeFirst_25 rfl ?_
  refine va_get (D := D) (ci := 2) (v := .int (gQ_many u_4)) (C := RX3) (T := TX3) (N := 3) hx hb hts inX3_takeFirst_X3 hown hK hP 0 rfl rfl 2 (by decide) (hts (.fieldLink RX3 13 "BlockCache$Queue" "many" "I") (by decide +kernel)) (fun _ h9 => h9) rfl dX3_takeFirst_26 ?_
  refine lv_iconst (v := 1) hx hb dX3_takeFirst_29 (by decide) ?_
  refine lv_isub hx hb dX3_takeFirst_30 ?_
  refine va_put (D := D) (ci := 2) (v := .int ((gQ_many u_4) - 1)) (ty := .int) (C := RX3) (T := TX3) (N := 3) hx hb hts inX3_takeFirst_X3 tyX3 tyX3_ok nmX3 hown hK hP hD hS 0 rfl rfl 2 (by decide) (hts (.fieldLink RX3 13 "BlockCache$Queue" "many" "I") (by decide +kernel)) (fun _ h9 => h9) rfl (by decide +kernel) rfl rfl (Nat.le_of_ble_eq_true rfl) dX3_takeFirst_31 (fun H locs hP hD hS => ?_)
  obtain ⟨u_5, eu_5, hf⟩ := pLet_out hf
  replace hP : va_P D vwCl (wQ a0 a1 cI n u_5) H := by rw [eu_5]; exact hP
  replace hD : va_D A (wQ a0 a1 cI n u_5) := by rw [eu_5]; exact hD
  refine lv_iload_n hx hb dX3_takeFirst_34 rfl (lv_at hl 0 rfl) ?_
  have hz := Option.some.inj hf
  subst hz
  exact gRetI hx hb hr hlocks hK hP hD hS rfl rfl dX3_takeFirst_35
theorem ctX3_takeFirst (l : Launch) (D : va_G) (cI : ClassId) (a0 a1 : Nat) (n : Nat) (u : TQ) (z : Int32 × TQ) (hz : fX3_takeFirst n u = some z) : CtI l yX3_takeFirst wsX3_takeFirst rmX3_takeFirst D vwCl [(cI, .int)] [.ref a0] (wQ a0 a1 cI n u) z.1 (wQ a0 a1 cI n z.2) :=
  ctI_of (cc := cX3_takeFirst) (maxL := 2) (ret := (some .int)) (by decide) rfl (Nat.le_of_ble_eq_true rfl) (fun p e s m below meth c A ls C hl hP hD hS => wkX3_takeFirst C z _ s.heap [] ls hz hP hD hS hl)
end
