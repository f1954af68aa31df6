section
-- ===== PART A: goes FIRST, ahead of the names: the tables' words, and 'selects' of the private methods out of them =====
/-- a private method of a class that the tables say can be made, by its rows of tables_1 -/
def lw_okq (q : MethodName × Nat) : Prop := (q.1.cls ≠ "java/lang/invoke/MethodHandle" ∧ q.1.cls ≠ "java/lang/invoke/VarHandle") ∧ Cond.instantiable q.1.cls q.2 ∈ tables_1 ∧ Cond.privateMethod q.1 ∈ tables_1 ∧ Cond.instanceMethod q.1 ∈ tables_1
theorem lw_p0 : lw_okq (⟨"LetterLocks", "lockAt", "(I)LLetterLocks$Lock;"⟩, 6) := ⟨⟨by decide +kernel, by decide +kernel⟩, List.mem_of_getElem? (i := 22) (by decide +kernel), List.mem_of_getElem? (i := 149) (by decide +kernel), List.mem_of_getElem? (i := 150) (by decide +kernel)⟩
theorem lw_p1 : lw_okq (⟨"java/lang/Throwable", "fillInStackTrace", "(I)Ljava/lang/Throwable;"⟩, 6) := ⟨⟨by decide +kernel, by decide +kernel⟩, List.mem_of_getElem? (i := 191) (by decide +kernel), List.mem_of_getElem? (i := 189) (by decide +kernel), List.mem_of_getElem? (i := 190) (by decide +kernel)⟩
theorem lw_p2 : lw_okq (⟨"LetterLocks$Thief", "wordsWith", "(II)I"⟩, 1) := ⟨⟨by decide +kernel, by decide +kernel⟩, List.mem_of_getElem? (i := 76) (by decide +kernel), List.mem_of_getElem? (i := 259) (by decide +kernel), List.mem_of_getElem? (i := 260) (by decide +kernel)⟩
theorem lw_p3 : lw_okq (⟨"LetterLocks$Thief", "lesserWordsOfSum", "(LLetterLocks$Lock;II)I"⟩, 1) := ⟨⟨by decide +kernel, by decide +kernel⟩, List.mem_of_getElem? (i := 76) (by decide +kernel), List.mem_of_getElem? (i := 263) (by decide +kernel), List.mem_of_getElem? (i := 264) (by decide +kernel)⟩
theorem lw_p4 : lw_okq (⟨"LetterLocks", "allWear", "()I"⟩, 6) := ⟨⟨by decide +kernel, by decide +kernel⟩, List.mem_of_getElem? (i := 22) (by decide +kernel), List.mem_of_getElem? (i := 271) (by decide +kernel), List.mem_of_getElem? (i := 272) (by decide +kernel)⟩
theorem lw_p5 : lw_okq (⟨"LetterLocks", "openLocks", "()I"⟩, 6) := ⟨⟨by decide +kernel, by decide +kernel⟩, List.mem_of_getElem? (i := 22) (by decide +kernel), List.mem_of_getElem? (i := 289) (by decide +kernel), List.mem_of_getElem? (i := 290) (by decide +kernel)⟩
theorem lw_p6 : lw_okq (⟨"LetterLocks", "lostWords", "()I"⟩, 6) := ⟨⟨by decide +kernel, by decide +kernel⟩, List.mem_of_getElem? (i := 22) (by decide +kernel), List.mem_of_getElem? (i := 293) (by decide +kernel), List.mem_of_getElem? (i := 294) (by decide +kernel)⟩
theorem lw_p7 : lw_okq (⟨"LetterLocks", "locksInRacks", "()I"⟩, 6) := ⟨⟨by decide +kernel, by decide +kernel⟩, List.mem_of_getElem? (i := 22) (by decide +kernel), List.mem_of_getElem? (i := 297) (by decide +kernel), List.mem_of_getElem? (i := 298) (by decide +kernel)⟩
theorem lw_p8 : lw_okq (⟨"LetterLocks", "locksIn", "(I)I"⟩, 6) := ⟨⟨by decide +kernel, by decide +kernel⟩, List.mem_of_getElem? (i := 22) (by decide +kernel), List.mem_of_getElem? (i := 301) (by decide +kernel), List.mem_of_getElem? (i := 302) (by decide +kernel)⟩
theorem lw_p9 : lw_okq (⟨"LetterLocks", "rackAt", "(I)LLetterLocks$Rack;"⟩, 6) := ⟨⟨by decide +kernel, by decide +kernel⟩, List.mem_of_getElem? (i := 22) (by decide +kernel), List.mem_of_getElem? (i := 310) (by decide +kernel), List.mem_of_getElem? (i := 311) (by decide +kernel)⟩
theorem lw_p10 : lw_okq (⟨"LetterLocks", "isRack", "(I)Z"⟩, 6) := ⟨⟨by decide +kernel, by decide +kernel⟩, List.mem_of_getElem? (i := 22) (by decide +kernel), List.mem_of_getElem? (i := 314) (by decide +kernel), List.mem_of_getElem? (i := 315) (by decide +kernel)⟩
theorem lw_p11 : lw_okq (⟨"LetterLocks", "openLocksIn", "(I)I"⟩, 6) := ⟨⟨by decide +kernel, by decide +kernel⟩, List.mem_of_getElem? (i := 22) (by decide +kernel), List.mem_of_getElem? (i := 323) (by decide +kernel), List.mem_of_getElem? (i := 324) (by decide +kernel)⟩
theorem lw_p12 : lw_okq (⟨"LetterLocks", "digestOfLock", "(JI)J"⟩, 6) := ⟨⟨by decide +kernel, by decide +kernel⟩, List.mem_of_getElem? (i := 22) (by decide +kernel), List.mem_of_getElem? (i := 328) (by decide +kernel), List.mem_of_getElem? (i := 329) (by decide +kernel)⟩
theorem lw_p13 : lw_okq (⟨"LetterLocks$Lock", "mostWorn", "(I)I"⟩, 6) := ⟨⟨by decide +kernel, by decide +kernel⟩, List.mem_of_getElem? (i := 89) (by decide +kernel), List.mem_of_getElem? (i := 344) (by decide +kernel), List.mem_of_getElem? (i := 345) (by decide +kernel)⟩
theorem lw_p14 : lw_okq (⟨"java/util/ArrayList", "add", "(Ljava/lang/Object;[Ljava/lang/Object;I)V"⟩, 3) := ⟨⟨by decide +kernel, by decide +kernel⟩, List.mem_of_getElem? (i := 30) (by decide +kernel), List.mem_of_getElem? (i := 408) (by decide +kernel), List.mem_of_getElem? (i := 409) (by decide +kernel)⟩
theorem lw_p15 : lw_okq (⟨"java/util/ArrayList", "grow", "()[Ljava/lang/Object;"⟩, 3) := ⟨⟨by decide +kernel, by decide +kernel⟩, List.mem_of_getElem? (i := 30) (by decide +kernel), List.mem_of_getElem? (i := 412) (by decide +kernel), List.mem_of_getElem? (i := 413) (by decide +kernel)⟩
def lw_privs_1 : List (MethodName × Nat) := [(⟨"LetterLocks", "lockAt", "(I)LLetterLocks$Lock;"⟩, 6), (⟨"java/lang/Throwable", "fillInStackTrace", "(I)Ljava/lang/Throwable;"⟩, 6), (⟨"LetterLocks$Thief", "wordsWith", "(II)I"⟩, 1), (⟨"LetterLocks$Thief", "lesserWordsOfSum", "(LLetterLocks$Lock;II)I"⟩, 1), (⟨"LetterLocks", "allWear", "()I"⟩, 6), (⟨"LetterLocks", "openLocks", "()I"⟩, 6), (⟨"LetterLocks", "lostWords", "()I"⟩, 6), (⟨"LetterLocks", "locksInRacks", "()I"⟩, 6), (⟨"LetterLocks", "locksIn", "(I)I"⟩, 6), (⟨"LetterLocks", "rackAt", "(I)LLetterLocks$Rack;"⟩, 6), (⟨"LetterLocks", "isRack", "(I)Z"⟩, 6), (⟨"LetterLocks", "openLocksIn", "(I)I"⟩, 6), (⟨"LetterLocks", "digestOfLock", "(JI)J"⟩, 6), (⟨"LetterLocks$Lock", "mostWorn", "(I)I"⟩, 6), (⟨"java/util/ArrayList", "add", "(Ljava/lang/Object;[Ljava/lang/Object;I)V"⟩, 3), (⟨"java/util/ArrayList", "grow", "()[Ljava/lang/Object;"⟩, 3)]
theorem lw_r1 : ∀ q ∈ lw_privs_1, lw_okq q := List.forall_mem_cons.mpr ⟨lw_p0, List.forall_mem_cons.mpr ⟨lw_p1, List.forall_mem_cons.mpr ⟨lw_p2, List.forall_mem_cons.mpr ⟨lw_p3, List.forall_mem_cons.mpr ⟨lw_p4, List.forall_mem_cons.mpr ⟨lw_p5, List.forall_mem_cons.mpr ⟨lw_p6, List.forall_mem_cons.mpr ⟨lw_p7, List.forall_mem_cons.mpr ⟨lw_p8, List.forall_mem_cons.mpr ⟨lw_p9, List.forall_mem_cons.mpr ⟨lw_p10, List.forall_mem_cons.mpr ⟨lw_p11, List.forall_mem_cons.mpr ⟨lw_p12, List.forall_mem_cons.mpr ⟨lw_p13, List.forall_mem_cons.mpr ⟨lw_p14, List.forall_mem_cons.mpr ⟨lw_p15, fun _ h => absurd h List.not_mem_nil⟩⟩⟩⟩⟩⟩⟩⟩⟩⟩⟩⟩⟩⟩⟩⟩
theorem lw_p16 : lw_okq (⟨"java/util/ArrayList", "grow", "(I)[Ljava/lang/Object;"⟩, 3) := ⟨⟨by decide +kernel, by decide +kernel⟩, List.mem_of_getElem? (i := 30) (by decide +kernel), List.mem_of_getElem? (i := 416) (by decide +kernel), List.mem_of_getElem? (i := 417) (by decide +kernel)⟩
theorem lw_p17 : lw_okq (⟨"LetterLocks", "takesAnother", "(I)Z"⟩, 6) := ⟨⟨by decide +kernel, by decide +kernel⟩, List.mem_of_getElem? (i := 22) (by decide +kernel), List.mem_of_getElem? (i := 543) (by decide +kernel), List.mem_of_getElem? (i := 544) (by decide +kernel)⟩
theorem lw_p18 : lw_okq (⟨"LetterLocks", "letHourGoBy", "(LLetterLocks$Lock;I)Z"⟩, 6) := ⟨⟨by decide +kernel, by decide +kernel⟩, List.mem_of_getElem? (i := 22) (by decide +kernel), List.mem_of_getElem? (i := 594) (by decide +kernel), List.mem_of_getElem? (i := 595) (by decide +kernel)⟩
theorem lw_p19 : lw_okq (⟨"LetterLocks$Lock", "wearMore", "(III)V"⟩, 6) := ⟨⟨by decide +kernel, by decide +kernel⟩, List.mem_of_getElem? (i := 89) (by decide +kernel), List.mem_of_getElem? (i := 602) (by decide +kernel), List.mem_of_getElem? (i := 603) (by decide +kernel)⟩
theorem lw_p20 : lw_okq (⟨"LetterLocks", "isInClosedRack", "(LLetterLocks$Lock;I)Z"⟩, 6) := ⟨⟨by decide +kernel, by decide +kernel⟩, List.mem_of_getElem? (i := 22) (by decide +kernel), List.mem_of_getElem? (i := 608) (by decide +kernel), List.mem_of_getElem? (i := 609) (by decide +kernel)⟩
theorem lw_p21 : lw_okq (⟨"LetterLocksModel", "fail", "(I)I"⟩, 7) := ⟨⟨by decide +kernel, by decide +kernel⟩, List.mem_of_getElem? (i := 631) (by decide +kernel), List.mem_of_getElem? (i := 673) (by decide +kernel), List.mem_of_getElem? (i := 674) (by decide +kernel)⟩
theorem lw_p22 : lw_okq (⟨"LetterLocksModel", "let", "(III)V"⟩, 7) := ⟨⟨by decide +kernel, by decide +kernel⟩, List.mem_of_getElem? (i := 631) (by decide +kernel), List.mem_of_getElem? (i := 677) (by decide +kernel), List.mem_of_getElem? (i := 678) (by decide +kernel)⟩
theorem lw_p23 : lw_okq (⟨"LetterLocksModel", "isLock", "(I)Z"⟩, 7) := ⟨⟨by decide +kernel, by decide +kernel⟩, List.mem_of_getElem? (i := 631) (by decide +kernel), List.mem_of_getElem? (i := 685) (by decide +kernel), List.mem_of_getElem? (i := 686) (by decide +kernel)⟩
theorem lw_p24 : lw_okq (⟨"LetterLocksModel", "lo", "(II)I"⟩, 7) := ⟨⟨by decide +kernel, by decide +kernel⟩, List.mem_of_getElem? (i := 631) (by decide +kernel), List.mem_of_getElem? (i := 689) (by decide +kernel), List.mem_of_getElem? (i := 690) (by decide +kernel)⟩
theorem lw_p25 : lw_okq (⟨"LetterLocksModel", "stands", "(I)I"⟩, 7) := ⟨⟨by decide +kernel, by decide +kernel⟩, List.mem_of_getElem? (i := 631) (by decide +kernel), List.mem_of_getElem? (i := 702) (by decide +kernel), List.mem_of_getElem? (i := 703) (by decide +kernel)⟩
theorem lw_p26 : lw_okq (⟨"LetterLocksModel", "close", "(I)V"⟩, 7) := ⟨⟨by decide +kernel, by decide +kernel⟩, List.mem_of_getElem? (i := 631) (by decide +kernel), List.mem_of_getElem? (i := 710) (by decide +kernel), List.mem_of_getElem? (i := 711) (by decide +kernel)⟩
theorem lw_p27 : lw_okq (⟨"LetterLocksModel", "in", "(I)I"⟩, 7) := ⟨⟨by decide +kernel, by decide +kernel⟩, List.mem_of_getElem? (i := 631) (by decide +kernel), List.mem_of_getElem? (i := 729) (by decide +kernel), List.mem_of_getElem? (i := 730) (by decide +kernel)⟩
theorem lw_p28 : lw_okq (⟨"LetterLocksModel", "ra", "(II)I"⟩, 7) := ⟨⟨by decide +kernel, by decide +kernel⟩, List.mem_of_getElem? (i := 631) (by decide +kernel), List.mem_of_getElem? (i := 733) (by decide +kernel), List.mem_of_getElem? (i := 734) (by decide +kernel)⟩
theorem lw_p29 : lw_okq (⟨"LetterLocksModel", "isOpen", "(I)Z"⟩, 7) := ⟨⟨by decide +kernel, by decide +kernel⟩, List.mem_of_getElem? (i := 631) (by decide +kernel), List.mem_of_getElem? (i := 745) (by decide +kernel), List.mem_of_getElem? (i := 746) (by decide +kernel)⟩
theorem lw_p30 : lw_okq (⟨"LetterLocksModel", "lockTold", "(II)I"⟩, 7) := ⟨⟨by decide +kernel, by decide +kernel⟩, List.mem_of_getElem? (i := 631) (by decide +kernel), List.mem_of_getElem? (i := 753) (by decide +kernel), List.mem_of_getElem? (i := 754) (by decide +kernel)⟩
theorem lw_p31 : lw_okq (⟨"LetterLocksModel", "shows", "(I)I"⟩, 7) := ⟨⟨by decide +kernel, by decide +kernel⟩, List.mem_of_getElem? (i := 631) (by decide +kernel), List.mem_of_getElem? (i := 757) (by decide +kernel), List.mem_of_getElem? (i := 758) (by decide +kernel)⟩
def lw_privs_2 : List (MethodName × Nat) := [(⟨"java/util/ArrayList", "grow", "(I)[Ljava/lang/Object;"⟩, 3), (⟨"LetterLocks", "takesAnother", "(I)Z"⟩, 6), (⟨"LetterLocks", "letHourGoBy", "(LLetterLocks$Lock;I)Z"⟩, 6), (⟨"LetterLocks$Lock", "wearMore", "(III)V"⟩, 6), (⟨"LetterLocks", "isInClosedRack", "(LLetterLocks$Lock;I)Z"⟩, 6), (⟨"LetterLocksModel", "fail", "(I)I"⟩, 7), (⟨"LetterLocksModel", "let", "(III)V"⟩, 7), (⟨"LetterLocksModel", "isLock", "(I)Z"⟩, 7), (⟨"LetterLocksModel", "lo", "(II)I"⟩, 7), (⟨"LetterLocksModel", "stands", "(I)I"⟩, 7), (⟨"LetterLocksModel", "close", "(I)V"⟩, 7), (⟨"LetterLocksModel", "in", "(I)I"⟩, 7), (⟨"LetterLocksModel", "ra", "(II)I"⟩, 7), (⟨"LetterLocksModel", "isOpen", "(I)Z"⟩, 7), (⟨"LetterLocksModel", "lockTold", "(II)I"⟩, 7), (⟨"LetterLocksModel", "shows", "(I)I"⟩, 7)]
theorem lw_r2 : ∀ q ∈ lw_privs_2, lw_okq q := List.forall_mem_cons.mpr ⟨lw_p16, List.forall_mem_cons.mpr ⟨lw_p17, List.forall_mem_cons.mpr ⟨lw_p18, List.forall_mem_cons.mpr ⟨lw_p19, List.forall_mem_cons.mpr ⟨lw_p20, List.forall_mem_cons.mpr ⟨lw_p21, List.forall_mem_cons.mpr ⟨lw_p22, List.forall_mem_cons.mpr ⟨lw_p23, List.forall_mem_cons.mpr ⟨lw_p24, List.forall_mem_cons.mpr ⟨lw_p25, List.forall_mem_cons.mpr ⟨lw_p26, List.forall_mem_cons.mpr ⟨lw_p27, List.forall_mem_cons.mpr ⟨lw_p28, List.forall_mem_cons.mpr ⟨lw_p29, List.forall_mem_cons.mpr ⟨lw_p30, List.forall_mem_cons.mpr ⟨lw_p31, fun _ h => absurd h List.not_mem_nil⟩⟩⟩⟩⟩⟩⟩⟩⟩⟩⟩⟩⟩⟩⟩⟩
theorem lw_p32 : lw_okq (⟨"LetterLocksModel", "we", "(III)I"⟩, 7) := ⟨⟨by decide +kernel, by decide +kernel⟩, List.mem_of_getElem? (i := 631) (by decide +kernel), List.mem_of_getElem? (i := 761) (by decide +kernel), List.mem_of_getElem? (i := 762) (by decide +kernel)⟩
theorem lw_p33 : lw_okq (⟨"LetterLocksModel", "rackTold", "(II)I"⟩, 7) := ⟨⟨by decide +kernel, by decide +kernel⟩, List.mem_of_getElem? (i := 631) (by decide +kernel), List.mem_of_getElem? (i := 773) (by decide +kernel), List.mem_of_getElem? (i := 774) (by decide +kernel)⟩
theorem lw_p34 : lw_okq (⟨"LetterLocksModel", "counted", "(I)I"⟩, 7) := ⟨⟨by decide +kernel, by decide +kernel⟩, List.mem_of_getElem? (i := 631) (by decide +kernel), List.mem_of_getElem? (i := 781) (by decide +kernel), List.mem_of_getElem? (i := 782) (by decide +kernel)⟩
theorem lw_p35 : lw_okq (⟨"LetterLocksModel", "tried", "(II)I"⟩, 7) := ⟨⟨by decide +kernel, by decide +kernel⟩, List.mem_of_getElem? (i := 631) (by decide +kernel), List.mem_of_getElem? (i := 799) (by decide +kernel), List.mem_of_getElem? (i := 800) (by decide +kernel)⟩
theorem lw_p36 : lw_okq (⟨"LetterLocksModel", "places", "(I)[I"⟩, 7) := ⟨⟨by decide +kernel, by decide +kernel⟩, List.mem_of_getElem? (i := 631) (by decide +kernel), List.mem_of_getElem? (i := 803) (by decide +kernel), List.mem_of_getElem? (i := 804) (by decide +kernel)⟩
theorem lw_p37 : lw_okq (⟨"LetterLocksModel", "hoursOn", "(I)I"⟩, 7) := ⟨⟨by decide +kernel, by decide +kernel⟩, List.mem_of_getElem? (i := 631) (by decide +kernel), List.mem_of_getElem? (i := 818) (by decide +kernel), List.mem_of_getElem? (i := 819) (by decide +kernel)⟩
theorem lw_p38 : lw_okq (⟨"LetterLocksModel", "hourOn", "()I"⟩, 7) := ⟨⟨by decide +kernel, by decide +kernel⟩, List.mem_of_getElem? (i := 631) (by decide +kernel), List.mem_of_getElem? (i := 822) (by decide +kernel), List.mem_of_getElem? (i := 823) (by decide +kernel)⟩
theorem lw_p39 : lw_okq (⟨"LetterLocksModel", "wearAt", "(IIII)V"⟩, 7) := ⟨⟨by decide +kernel, by decide +kernel⟩, List.mem_of_getElem? (i := 631) (by decide +kernel), List.mem_of_getElem? (i := 826) (by decide +kernel), List.mem_of_getElem? (i := 827) (by decide +kernel)⟩
theorem lw_p40 : lw_okq (⟨"LetterLocksModel", "bringBack", "([I[II)V"⟩, 7) := ⟨⟨by decide +kernel, by decide +kernel⟩, List.mem_of_getElem? (i := 631) (by decide +kernel), List.mem_of_getElem? (i := 841) (by decide +kernel), List.mem_of_getElem? (i := 842) (by decide +kernel)⟩
def lw_privs_3 : List (MethodName × Nat) := [(⟨"LetterLocksModel", "we", "(III)I"⟩, 7), (⟨"LetterLocksModel", "rackTold", "(II)I"⟩, 7), (⟨"LetterLocksModel", "counted", "(I)I"⟩, 7), (⟨"LetterLocksModel", "tried", "(II)I"⟩, 7), (⟨"LetterLocksModel", "places", "(I)[I"⟩, 7), (⟨"LetterLocksModel", "hoursOn", "(I)I"⟩, 7), (⟨"LetterLocksModel", "hourOn", "()I"⟩, 7), (⟨"LetterLocksModel", "wearAt", "(IIII)V"⟩, 7), (⟨"LetterLocksModel", "bringBack", "([I[II)V"⟩, 7)]
theorem lw_r3 : ∀ q ∈ lw_privs_3, lw_okq q := List.forall_mem_cons.mpr ⟨lw_p32, List.forall_mem_cons.mpr ⟨lw_p33, List.forall_mem_cons.mpr ⟨lw_p34, List.forall_mem_cons.mpr ⟨lw_p35, List.forall_mem_cons.mpr ⟨lw_p36, List.forall_mem_cons.mpr ⟨lw_p37, List.forall_mem_cons.mpr ⟨lw_p38, List.forall_mem_cons.mpr ⟨lw_p39, List.forall_mem_cons.mpr ⟨lw_p40, fun _ h => absurd h List.not_mem_nil⟩⟩⟩⟩⟩⟩⟩⟩⟩
def lw_privs : List (MethodName × Nat) := lw_privs_1 ++ (lw_privs_2 ++ (lw_privs_3))
def lw_tbl : List Cond := k2_sels lw_privs ++ tables_1
theorem lw_privs_ok : ∀ q ∈ lw_privs, lw_okq q := by
  show ∀ q ∈ lw_privs_1 ++ (lw_privs_2 ++ (lw_privs_3)), lw_okq q
  exact List.forall_mem_append.mpr ⟨lw_r1, List.forall_mem_append.mpr ⟨lw_r2, lw_r3⟩⟩
/-- the streams that the claim lets the run draw from -/
abbrev lw_cs : List Choice := [Jvm.Choice.named "NaN.bits"]
theorem lw_bits : nanBits ∈ lw_cs := by first | decide | exact List.mem_cons_self | simp [lw_cs, nanBits]
/-- an array of arrays may be made: the tables' word -/
def va_AOA (ty : FieldType) (U : State) : Prop := (Cond.arrayOver (.array ty)).before #[] U = true
theorem va_AOA.use {ty : FieldType} {A : Array Value} {U : State} (h : va_AOA ty U) : (Cond.arrayOver (.array ty)).before A U = true := h
end
section
/-! ===== BEGIN words of one list among another's, by their places ===== -/
theorem goodIn_r {big : List Cond} (ws : List Cond) (ps : List Nat) (hp : ws = ps.filterMap (fun i => big[i]?)) (h : ws.all goodWord = true) : GoodIn big ws := by
  intro w hw
  have h1 := List.all_eq_true.mp h w hw
  rw [hp] at hw
  obtain ⟨i, -, hi⟩ := List.mem_filterMap.mp hw
  have hm : w ∈ big := by first | exact List.mem_of_getElem? hi | exact List.getElem?_mem hi
  exact ⟨hm, good_of_word h1⟩
theorem goodIn_app {big a b : List Cond} (ha : GoodIn big a) (hb : GoodIn big b) : GoodIn big (a ++ b) := fun w h => (List.mem_append.mp h).elim (ha w) (hb w)
theorem goodIn_ca {big a b : List Cond} {c : Cond} (ha : GoodIn big (c :: a)) (hb : GoodIn big b) : GoodIn big (c :: (a ++ b)) := fun w h => (List.mem_cons.mp h).elim (fun e => ha w (List.mem_cons.mpr (Or.inl e))) (fun h => (List.mem_append.mp h).elim (fun h => ha w (List.mem_cons.mpr (Or.inr h))) (hb w))
theorem goodIn_sub {big ws : List Cond} (hm : ∀ w ∈ ws, w ∈ big) (h : ws.all goodWord = true) : GoodIn big ws := fun w hw => ⟨hm w hw, good_of_word (List.all_eq_true.mp h w hw)⟩
/-! ===== END ===== -/

/-! ===== BEGIN new T[n][m]: the outer array a place, the inner ones among the pooled ===== -/
/-- f, but v at every address of l -/
def vr_up {α : Type} (f : Nat → α) (l : List Nat) (v : α) : Nat → α := fun a => if a ∈ l then v else f a
theorem vr_up_in {α : Type} {f : Nat → α} {l : List Nat} {v : α} {a : Nat} (h : a ∈ l) : vr_up f l v a = v := if_pos h
theorem vr_up_ne {α : Type} {f : Nat → α} {l : List Nat} {v : α} {a : Nat} (h : a ∉ l) : vr_up f l v a = f a := if_neg h
theorem vr_rows {L l : List Nat} {f : Nat → va_E} {e : va_E} (h : ∀ a, a ∈ l → a ∉ L) : va_pl L f ++ l.map (fun a => (a, e)) = va_pl (L ++ l) (vr_up f l e) := by
  unfold va_pl
  rw [List.map_append]
  congr 1
  · apply List.map_congr_left
    intro a ha
    rw [vr_up_ne (fun q => h a q ha)]
  · apply List.map_congr_left
    intro a ha
    rw [vr_up_in ha]
theorem vr_lay {X rows : va_W} {x : Nat × va_E} {pl : va_W} {D : va_G} {cl : List vw_C} {H : Heap} (hP : va_P D cl (((X ++ pl) ++ [x]) ++ rows) H) : va_P D cl ((X ++ [x]) ++ (pl ++ rows)) H := by
  rw [List.append_assoc (X ++ pl)] at hP
  have h := va_P.swap hP
  rw [← List.append_assoc X] at h
  have h2 := va_P.swap h
  rw [List.append_assoc (X ++ [x])] at h2
  exact h2
theorem vr_layD {X rows : va_W} {x : Nat × va_E} {pl : va_W} {A : Nat → Prop} (hD : va_D A (((X ++ pl) ++ [x]) ++ rows)) : va_D A ((X ++ [x]) ++ (pl ++ rows)) := by
  rw [List.append_assoc (X ++ pl)] at hD
  have h := va_D.swap hD
  rw [← List.append_assoc X] at h
  have h2 := va_D.swap h
  rw [List.append_assoc (X ++ [x])] at h2
  exact h2
theorem vr_outer (c : ClassId) (N h0 : Nat) : ∀ i : Nat, Jvm.Free.Multi.outerC c N h0 i = arrV c N (fun j => va_rf (if j < i then some (h0 + 1 + j) else none))
  | 0 => by
    show ({ cls := c, slots := Array.replicate N .null, vm := .none } : Cell) = _
    rw [arrV_new]
    refine congrArg (arrV c N) (funext fun j => ?_)
    simp [va_rf]
  | i + 1 => by
    show (Jvm.Free.Multi.outerC c N h0 i).setSlot i (.ref (h0 + 1 + i)) = _
    rw [vr_outer c N h0 i, arrV_store]
    refine congrArg (arrV c N) (funext fun j => ?_)
    by_cases e : j = i
    · subst e
      simp [updV, va_rf]
    · by_cases h : j < i
      · simp [updV, e, h, Nat.lt_succ_of_lt h]
      · simp [updV, e, h, show ¬ j < i + 1 by omega]
section VGM
variable {p : Program} {l : Launch} {e : Env} {R : Room} {s : State} {m : MethodId} {args : Array Value} {below : List Frame} {meth : Method} {c : Code} {H : Heap} {locs : List Loc} {cells slots : Nat} {Q : State → Prop}
variable {cc : ByteArray} {pc : Nat} {ls : Array Slot} {rest : List Value} {D : va_G} {cl : List vw_C} {A : Nat → Prop} {a : Nat} {tys : List (ClassId × FieldType)} {ws : va_W} {H0 : Heap}
theorem va_mna {X : va_W} {L : List Nat} {f : Nat → va_E} {cc : ByteArray} (hexec : p.tables.exec = Jvm.exec) (hb : c.code = cc) {own : String} {index : Nat} {ty : FieldType} {cy : ClassId} (hown : s.vm.findClass own = some m.cls) (hclink : (Cond.classLink own index ("[" ++ (FieldType.array ty).toString)).before args s = true) (hover : va_AOA ty s) (harr : (Cond.arrayClass ty).before args s = true) (hcy : s.vm.findClass (FieldType.array ty).toString = some cy)
    (hK : va_K D cl tys s) (hP : va_P D cl (X ++ va_pl L f) H) (hD : va_D A (X ++ va_pl L f)) (hS : va_S A H0 H locs) (hA : ∀ q, H0.size ≤ q → A q) {n k : Int32} {N' K' : Nat} {z : vp_A} (hn : ¬ n < 0) (hk : ¬ k < 0) (hN : n.toNatClampNeg = N') (hM : k.toNatClampNeg = K')
    (hb1 : N' * 4 ≤ 536870912) (hb2 : K' * componentBytes ty ≤ 536870912) (hb3 : K' ≤ 536870912) (hdf : fits ty (defaultValue ty) = true) (hdd : (defaultValue ty).isDefault = true) (hcells : cells + (1 + N') ≤ R.cells) (hslots : slots + (N' + N' * K') ≤ R.slots) (hz : ∀ c : ClassId, Jvm.Free.Multi.innerC c K' (defaultValue ty) = vp_cell c z) (hdg : decode cc pc = .ok (.multianewarray index 2, 4))
    (kk : ∀ (q : Nat) (r : Nat → Nat) (cA : ClassId) (H1 : Heap), (∀ i j : Nat, i < N' → j < N' → r i = r j → i = j) → (∀ i : Nat, i < N' → r i ∉ L) → va_K D cl (tys ++ [(cA, .array ty)]) s →
      va_P D cl ((X ++ [(q, .inl (cA, N', .inr (.inr (.inr (.inr (fun i => if i < N' then some (r i) else none))))))]) ++ va_pl (L ++ (List.range N').map r) (vr_up f ((List.range N').map r) (.inl (cy, z)))) H1 → va_D A ((X ++ [(q, .inl (cA, N', .inr (.inr (.inr (.inr (fun i => if i < N' then some (r i) else none))))))]) ++ va_pl (L ++ (List.range N').map r) (vr_up f ((List.range N').map r) (.inl (cy, z)))) → va_S A H0 H1 locs →
      W p l e R s m args below meth c H1 locs (cells + 1 + N') (slots + N' + N' * K') Q (F0 m (pc + 4) ls (.ref q :: rest))) : W p l e R s m args below meth c H locs cells slots Q (F0 m pc ls (.int k :: .int n :: rest)) := by
  subst hN
  subst hM
  intro T hT Xs
  obtain ⟨vm₁, cA, comp, -, fA, fC, hO, -, X', step⟩ := Xs.multianewarray2F hexec hown hclink (va_AOA.use hover) harr (g := F0 m pc ls (.int k :: .int n :: rest)) rfl (by rw [hb]; exact hdg) rfl hn hk hb1 hb2 hb3 hdf hdd hcells hslots
  have ec : some cy = some comp := hcy.symm.trans fC
  cases ec
  generalize hF : Jvm.Free.Multi.fill (T.setVm vm₁) cA cy n.toNatClampNeg k.toNatClampNeg (defaultValue ty) n.toNatClampNeg = F at X' step
  have hTh : (T.setVm vm₁).heap = H := hT
  obtain ⟨f1, f2, -, -⟩ := Jvm.Free.Multi.fill_facts (T.setVm vm₁) cA cy n.toNatClampNeg k.toNatClampNeg (defaultValue ty) n.toNatClampNeg
  rw [hF, hTh] at f1 f2
  have hold : ∀ x : Nat, x < H.size → F.heap[x]? = H[x]? := fun x hx => by
    have := Jvm.Free.Multi.fill_old (T.setVm vm₁) cA cy n.toNatClampNeg k.toNatClampNeg (defaultValue ty) (a := x) (by rw [hTh]; exact hx) n.toNatClampNeg
    rw [hF, hTh] at this
    exact this
  have hrow : ∀ j : Nat, j < n.toNatClampNeg → F.heap[H.size + 1 + j]? = some (vp_cell cy z) := fun j hj => by
    have := Jvm.Free.Multi.fill_inner (T.setVm vm₁) cA cy n.toNatClampNeg k.toNatClampNeg (defaultValue ty) n.toNatClampNeg j hj
    rw [hF, hTh, hz] at this
    exact this
  have hout : Jvm.Free.Multi.outerC cA n.toNatClampNeg H.size n.toNatClampNeg = vp_cell cA (n.toNatClampNeg, .inr (.inr (.inr (.inr (fun i => if i < n.toNatClampNeg then some (H.size + 1 + i) else none))))) := by
    rw [vp_cell_q]
    exact vr_outer cA n.toNatClampNeg H.size n.toNatClampNeg
  rw [hout] at f2
  have hlt : ∀ a, a ∈ L → a < H.size := fun a ha => by
    obtain ⟨k9, hk9⟩ := va_pl_get (X := X) (f := f) ha
    exact (hP k9 _ hk9).lt
  have hnl : ∀ i : Nat, i < n.toNatClampNeg → H.size + 1 + i ∉ L := fun i _ h => by
    have := hlt _ h
    omega
  have hnm : ∀ a, a ∈ (List.range n.toNatClampNeg).map (fun i => H.size + 1 + i) → a ∉ L := fun a ha h => by
    obtain ⟨i, -, rfl⟩ := List.mem_map.mp ha
    have := hlt _ h
    omega
  have hP0 : va_P D cl (X ++ va_pl L f) F.heap := hP.kept (fun k9 x hx => hold x.1 ((hP k9 x hx).lt))
  have hP1 : va_P D cl ((X ++ va_pl L f) ++ [(H.size, .inl (cA, n.toNatClampNeg, .inr (.inr (.inr (.inr (fun i => if i < n.toNatClampNeg then some (H.size + 1 + i) else none))))))]) F.heap := hP0.app (fun k9 x hx => by
    have h0 : k9 < 1 := (List.getElem?_eq_some_iff.mp hx).1
    rw [show k9 = 0 by omega] at hx
    cases hx
    exact f2)
  have hP2 : va_P D cl (((X ++ va_pl L f) ++ [(H.size, .inl (cA, n.toNatClampNeg, .inr (.inr (.inr (.inr (fun i => if i < n.toNatClampNeg then some (H.size + 1 + i) else none))))))]) ++ ((List.range n.toNatClampNeg).map (fun i => H.size + 1 + i)).map (fun a => (a, .inl (cy, z)))) F.heap := hP1.app (fun k9 x hx => by
    obtain ⟨a, ha, rfl⟩ := List.mem_map.mp (List.mem_of_getElem? hx)
    obtain ⟨i, hi, rfl⟩ := List.mem_map.mp ha
    exact hrow i (List.mem_range.mp hi))
  have hD2 : va_D A (((X ++ va_pl L f) ++ [(H.size, .inl (cA, n.toNatClampNeg, .inr (.inr (.inr (.inr (fun i => if i < n.toNatClampNeg then some (H.size + 1 + i) else none))))))]) ++ ((List.range n.toNatClampNeg).map (fun i => H.size + 1 + i)).map (fun a => (a, .inl (cy, z)))) := by
    have hD1 := hD.push (e := .inl (cA, n.toNatClampNeg, .inr (.inr (.inr (.inr (fun i => if i < n.toNatClampNeg then some (H.size + 1 + i) else none)))))) hP rfl (hA _ hS.1)
    generalize hW1 : (X ++ va_pl L f) ++ [(H.size, .inl (cA, n.toNatClampNeg, .inr (.inr (.inr (.inr (fun i => if i < n.toNatClampNeg then some (H.size + 1 + i) else none))))))] = W1 at hD1 hP1 ⊢
    have hle : ∀ (k9 : Nat) (x : Nat × va_E), W1[k9]? = some x → x.1 ≤ H.size := fun k9 x hx => by
      rw [← hW1] at hx
      by_cases hl : k9 < (X ++ va_pl L f).length
      · rw [List.getElem?_append_left hl] at hx
        exact Nat.le_of_lt ((hP k9 x hx).lt)
      · rw [List.getElem?_append_right (by omega)] at hx
        have h0 : k9 - (X ++ va_pl L f).length < 1 := (List.getElem?_eq_some_iff.mp hx).1
        rw [show k9 - (X ++ va_pl L f).length = 0 by omega] at hx
        cases hx
        exact Nat.le_refl _
    have hr : ∀ (k9 : Nat) (x : Nat × va_E), (((List.range n.toNatClampNeg).map (fun i => H.size + 1 + i)).map (fun a => ((a, .inl (cy, z)) : Nat × va_E)))[k9]? = some x → x.1 = H.size + 1 + k9 := fun k9 x hx => by
      rw [List.getElem?_map, List.getElem?_map] at hx
      by_cases h9 : k9 < n.toNatClampNeg
      · rw [List.getElem?_range h9] at hx
        cases hx
        rfl
      · have hn0 : (List.range n.toNatClampNeg)[k9]? = none := List.getElem?_eq_none (by rw [List.length_range]; omega)
        rw [hn0] at hx
        cases hx
    refine ⟨fun i j x y hi hj hxy => ?_, fun k9 x hx => ?_⟩
    · by_cases h1 : i < W1.length <;> by_cases h2 : j < W1.length
      · rw [List.getElem?_append_left h1] at hi
        rw [List.getElem?_append_left h2] at hj
        exact hD1.1 i j x y hi hj hxy
      · rw [List.getElem?_append_left h1] at hi
        rw [List.getElem?_append_right (by omega)] at hj
        have := hle _ _ hi
        have := hr _ _ hj
        omega
      · rw [List.getElem?_append_right (by omega)] at hi
        rw [List.getElem?_append_left h2] at hj
        have := hle _ _ hj
        have := hr _ _ hi
        omega
      · rw [List.getElem?_append_right (by omega)] at hi hj
        have := hr _ _ hi
        have := hr _ _ hj
        omega
    · by_cases h1 : k9 < W1.length
      · rw [List.getElem?_append_left h1] at hx
        exact hD1.2 k9 x hx
      · rw [List.getElem?_append_right (by omega)] at hx
        have := hr _ _ hx
        exact hA _ (by have := hS.1; omega)
  have hAr : ArrOfT s cA (.array ty) := fun N9 z9 => by
    obtain ⟨-, k9, hk9, cm9, hkk9⟩ := (hO 0 0 0).1
    exact ⟨(fun q hq => by cases hq), k9, hk9, cm9, hkk9⟩
  have hK2 : va_K D cl (tys ++ [(cA, .array ty)]) s := ⟨hK.1, fun k9 x hx => by
    by_cases hl : k9 < tys.length
    · rw [List.getElem?_append_left hl] at hx
      exact hK.2 k9 x hx
    · rw [List.getElem?_append_right (by omega)] at hx
      have h0 : k9 - tys.length < 1 := (List.getElem?_eq_some_iff.mp hx).1
      rw [show k9 - tys.length = 0 by omega] at hx
      cases hx
      exact ⟨hAr, fA⟩⟩
  obtain ⟨t, a1, b1⟩ := kk H.size (fun i => H.size + 1 + i) cA F.heap (fun i j _ _ h => by have h9 : H.size + 1 + i = H.size + 1 + j := h; omega) hnl hK2 (by rw [← vr_rows hnm]; exact vr_lay hP2) (by rw [← vr_rows hnm]; exact vr_layD hD2) ⟨by rw [f1]; have := hS.1; omega, fun x h1 h2 => (hold x (Nat.lt_of_lt_of_le h1 hS.1)).trans (hS.2.1 x h1 h2), hS.2.2⟩ F rfl X'
  refine ⟨t, step t ?_, b1⟩
  have e : T.heap.size = H.size := by rw [hT]
  rw [e]
  exact a1
end VGM
/-! ===== END ===== -/

/-! ===== BEGIN exceptions that leave a method, and their catching by the caller (launches without stack traces) ===== -/
section VXA
/-! The laws vx_back, vx_callV, vx_callS, vx_callSW, vx_throw0, vx_throwS follow proofs of the library, with one case more: JvmDerived/Free/Laws.lean (Back.of_free), Shelf42/LK1.lean (callV, callS), Shelf/KitTraced.lean (throwNew0V, throwNewS). -/
/-- where a method has thrown q: the class by its name, the cell, what was written, the world -/
def vx_T (XC : String → State → State → Prop) (st : State) (q : Addr) (t : State) (mc ms : Nat) (free : Addr → Prop) : Prop :=
  ∃ (E : String) (ce : Cell) (L : List Loc), XC E st t ∧ t.heap[q]? = some ce ∧ ce.vm = .none ∧ st.vm.findClass E = some ce.cls ∧ st.WarmedH t.vm ∧ st.sameButNew ({ t with vm := st.vm } : State) L mc ms ∧ ∀ z ∈ L, free z.base
def vx_Q (Qc : Array Value → State → Outcome → State → Prop) (XC : String → State → State → Prop) (mc ms : Nat) (free : Addr → Prop) : Array Value → State → Outcome → State → Prop := fun a st o t =>
  (Qc a st o t ∧ ∃ L, FrameEnd st o t L mc ms ∧ ∀ q ∈ L, free q.base) ∨ ∃ q, o = .threw q ∧ vx_T XC st q t mc ms free
/-- a callee that returns or throws -/
def vx_Met (l : Launch) (y : MethodName) (ws : List Cond) (rm : Room) (Pc : Array Value → State → Prop) (Qc : Array Value → State → Outcome → State → Prop) (XC : String → State → State → Prop) (mc ms : Nat) (free : Addr → Prop) : Prop :=
  MetFree l y (headSpec ws rm) Pc (fun _ _ _ _ _ => True) (vx_Q Qc XC mc ms free)
def vx_Post (XC : String → State → State → Prop) (mc ms : Nat) (free : Addr → Prop) : Pt → Array Value → Addr → Pt → Prop := fun A a q B =>
  ∃ (g : JFrame) (mk : MethodId) (t : State) (L : List Loc) (E : String) (ce : Cell), B.U.heap = t.heap ∧ B.U.vm = t.vm ∧ XC E (A.U.calling g mk a) t ∧ t.heap[q]? = some ce ∧ ce.vm = .none ∧ A.U.vm.findClass E = some ce.cls ∧ B.locs = A.locs ++ L ∧ (∀ z ∈ L, free z.base) ∧ B.cells = A.cells + mc ∧ B.slots = A.slots + ms
def vx_Back (l : Launch) (R : Room) (p : Program) (e : Env) (below : List Frame) (s : State) (sargs : Array Value) (y : MethodName) (len W9 : Nat)
    (Pre : Pt → Array Value → Prop) (Post : Pt → Array Value → Option Value → Pt → Prop) (PostX : Pt → Array Value → Addr → Pt → Prop) : Prop :=
  ∀ (m : MethodId) (meth : Method) (c : Code) (A : Pt) (g : JFrame) (ig : Instr) (mk : MethodId) (a : Array Value),
    Stand p l e R s m sargs below meth c A.U A.locs A.cells A.slots → g.method = m → g.locals.size = c.maxLocals → decode c.code g.pc = .ok (ig, len) →
    2 * g.monitorRoom + (g.stack.map fun v => v.category).sum ≤ W9 → A.U.methodNamed? y = some mk → Pre A a →
    (∃ (v : Option Value) (B : Pt), Stand p l e R s m sargs below meth c B.U B.locs B.cells B.slots ∧ Post A a v B ∧
      Steps p.tables e below (doInvoke e (A.U.setTop g) [] mk a).1 (B.U.setTop { g with pc := g.pc + len, stack := v.toList ++ g.stack })) ∨
    (∃ (q : Addr) (B : Pt), Stand p l e R s m sargs below meth c B.U B.locs B.cells B.slots ∧ PostX A a q B ∧
      Steps p.tables e below (doInvoke e (A.U.setTop g) [] mk a).1 ((B.U.setTop g).pushFrame (.throwing q)))
section Payer
variable {l : Launch} {R : Room} {p : Program} {e : Env} {below : List Frame} {s : State} {sargs : Array Value} {y : MethodName} {len W9 : Nat}
theorem vx_back {ws : List Cond} {rm : Room} {Pc : Array Value → State → Prop} {Qc : Array Value → State → Outcome → State → Prop} {XC : String → State → State → Prop} {mc ms : Nat} {free : Addr → Prop} {bytes : ByteArray} {maxL : Nat} {ret : Option FieldType}
    (hM : vx_Met l y ws rm Pc Qc XC mc ms free) (hblind : FrameBlind Pc) (hrc : rm.cells = mc) (hrs : rm.slots = ms)
    (hframes : rm.frames + 1 ≤ R.frames) (hlocals : W9 + (maxL + 11) + rm.locals ≤ R.locals)
    (hws : ∀ w ∈ ws, ∀ a' U, s.WarmedH U.vm → w.before a' U = true) (hcode : Cond.code y bytes maxL ret ∈ ws) (hinit : ∀ a' U, s.WarmedH U.vm → (Cond.initialized y.cls).before a' U = true) :
    vx_Back l R p e below s sargs y len W9 (PreOf R mc ms Pc) (PostOf Qc mc ms free) (vx_Post XC mc ms free) := by
  intro m meth c A g ig mk a X hg hsize hdg hW hn hp
  have h1 : (headSpec ws rm).pre.before a A.U = true := atoms_intro fun w hw => hws w hw _ _ X.warmed
  have h2 : (Cond.code y bytes maxL ret).before a A.U = true := hws _ hcode _ _ X.warmed
  have h3 : (Cond.initialized y.cls).before a A.U = true := hinit _ _ X.warmed
  have h4 : A.cells + (headSpec ws rm).room.cells ≤ R.cells := by rw [show (headSpec ws rm).room.cells = mc from hrc]; exact hp.1
  have h5 : A.slots + (headSpec ws rm).room.slots ≤ R.slots := by rw [show (headSpec ws rm).room.slots = ms from hrs]; exact hp.2.1
  have hPc : Pc a (A.U.calling g mk a) := hblind _ _ _ _ hp.2.2
  obtain ⟨U, Ls, c0, s0⟩ := A
  dsimp only [Pt.U, Pt.locs, Pt.cells, Pt.slots] at h1 h2 h3 h4 h5 X hn hPc ⊢
  obtain ⟨methY, cY, hmY, hcY, -, hlY, -, -, -, -⟩ := Cond.code_spec hn h2
  obtain ⟨kY, hkY, -⟩ := className_of_methodNamed hn
  have hinitY : kY.init = .initialized := Cond.initialized_spec (findClass_of_methodNamed hn) hkY h3
  have h : At U g.method c below := by rw [hg]; exact X.here
  have hlocals9 : W9 + (maxL + 11) + (headSpec ws rm).room.locals ≤ R.locals := hlocals
  have happ : (headSpec ws rm).appliesLoose y e.platform (U.calling g mk a) = true :=
    Spec.appliesLoose_calling (g := g) h hdg hn hkY hinitY
      (X.room_calling (g := g) (R' := (headSpec ws rm).room) hsize hmY hcY hframes (by rw [hlY]; omega) h4 h5) h1
  obtain ⟨mid, hmid⟩ := h.above
  have hfr : (U.setTop g).frames = (.java g :: mid) ++ below := by rw [State.frames_setTop' g h.top, hmid]; rfl
  obtain ⟨o, s₂, hsteps, -, hend, hq⟩ := Steps.callFree hM p X.admits X.cas X.clock (acts := []) hfr happ hPc trivial
  have hq' : vx_Q Qc XC mc ms free a (U.calling g mk a) o s₂ := hq
  rw [State.frames_setTop' g h.top] at hend
  obtain ⟨g₀, hg0⟩ := Option.isSome_iff_exists.mp h.top
  obtain ⟨r, hr⟩ := State.topJava?_eq_some.mp hg0
  have hr' : (({ U with heap := s₂.heap, slotsUsed := s₂.slotsUsed } : State).setVm s₂.vm).frames = .java g₀ :: r := hr
  rcases hq' with ⟨hqc, L, hfe, hL⟩ | ⟨q, rfl, E, ce, L, hx, hce, hcv, hcl, hW₂, hsm, hL⟩
  · obtain ⟨⟨v, rfl⟩, hW₂, e2, q2, q3, q4, q5, q6⟩ := id hfe
    have e3 : s₂ = ({ (U.calling g mk a).setFrames s₂.frames with heap := s₂.heap, slotsUsed := s₂.slotsUsed } : State).setVm s₂.vm := by
      have : s₂ = ({ s₂ with vm := (U.calling g mk a).vm } : State).setVm s₂.vm := rfl
      rw [e2] at this
      exact this
    obtain ⟨c₂, i₂, len₂, hc₂, hd₂, hf₂⟩ := hend
    have hW' : U.WarmedH s₂.vm := hW₂
    have hcc : c₂ = c := by
      have h1 : s₂.code? g.method = U.code? g.method := by
        rw [State.code?_eq, State.code?_eq, hW'.alike.method?]
      exact Option.some.inj (hc₂.symm.trans (h1.trans h.code))
    subst hcc
    have hlen : len₂ = len := by rw [hdg] at hd₂; cases hd₂; rfl
    subst hlen
    have hs₂ : s₂ = (({ U with heap := s₂.heap, slotsUsed := s₂.slotsUsed } : State).setVm s₂.vm).setTop { g with pc := g.pc + len₂, stack := v.toList ++ g.stack } := by
      refine e3.trans ?_
      rw [hf₂, State.calling_eq h.top, State.setFrames_setFrames, State.setTop_of_frames _ hr', hr]
      rfl
    have hsame : U.sameButNew ({ U with heap := s₂.heap, slotsUsed := s₂.slotsUsed } : State) L mc ms := by
      refine ⟨?_, q2, q3, q4, q5, q6⟩
      obtain ⟨t, ht, -⟩ := State.frames_cons hr
      show ({ U with heap := s₂.heap, slotsUsed := s₂.slotsUsed } : State) = { U.setFrames U.frames with heap := s₂.heap, slotsUsed := s₂.slotsUsed }
      rw [State.setFrames_self ht]
    subst hg
    refine Or.inl ⟨v, ⟨(({ U with heap := s₂.heap, slotsUsed := s₂.slotsUsed } : State).setVm s₂.vm), Ls ++ L, c0 + mc, s0 + ms⟩,
      ⟨X.admits, X.cas, X.clock, X.frames, X.room, X.hears, X.method, X.code, (X.here.setHeapUsed s₂.heap s₂.slotsUsed).setVm hW'.alike, X.tail, State.WarmedH.trans X.warmed hW', X.limits, X.bytes, X.same.trans (hsame.setVm s.vm)⟩,
      ⟨g, mk, s₂, L, rfl, rfl, hqc, rfl, hL, rfl, rfl⟩, ?_⟩
    show Steps p.tables e below _ ((({ U with heap := s₂.heap, slotsUsed := s₂.slotsUsed } : State).setVm s₂.vm).setTop { g with pc := g.pc + len₂, stack := v.toList ++ g.stack })
    rw [← hs₂]
    exact hsteps
  · obtain ⟨e2, q2, q3, q4, q5, q6⟩ := id hsm
    have e3 : s₂ = ({ (U.calling g mk a).setFrames s₂.frames with heap := s₂.heap, slotsUsed := s₂.slotsUsed } : State).setVm s₂.vm := by
      have : s₂ = ({ s₂ with vm := (U.calling g mk a).vm } : State).setVm s₂.vm := rfl
      rw [e2] at this
      exact this
    have hf₂ : s₂.frames = .throwing q :: .java g :: U.frames.tail := hend
    have hW' : U.WarmedH s₂.vm := hW₂
    have hs₂ : s₂ = ((({ U with heap := s₂.heap, slotsUsed := s₂.slotsUsed } : State).setVm s₂.vm).setTop g).pushFrame (.throwing q) := by
      refine e3.trans ?_
      rw [hf₂, State.calling_eq h.top, State.setFrames_setFrames, State.pushFrame, State.frames_setTop _ hr', State.setTop_of_frames _ hr', State.setFrames_setFrames, hr]
      rfl
    have hsame : U.sameButNew ({ U with heap := s₂.heap, slotsUsed := s₂.slotsUsed } : State) L mc ms := by
      refine ⟨?_, q2, q3, q4, q5, q6⟩
      obtain ⟨t, ht, -⟩ := State.frames_cons hr
      show ({ U with heap := s₂.heap, slotsUsed := s₂.slotsUsed } : State) = { U.setFrames U.frames with heap := s₂.heap, slotsUsed := s₂.slotsUsed }
      rw [State.setFrames_self ht]
    subst hg
    refine Or.inr ⟨q, ⟨(({ U with heap := s₂.heap, slotsUsed := s₂.slotsUsed } : State).setVm s₂.vm), Ls ++ L, c0 + mc, s0 + ms⟩,
      ⟨X.admits, X.cas, X.clock, X.frames, X.room, X.hears, X.method, X.code, (X.here.setHeapUsed s₂.heap s₂.slotsUsed).setVm hW'.alike, X.tail, State.WarmedH.trans X.warmed hW', X.limits, X.bytes, X.same.trans (hsame.setVm s.vm)⟩,
      ⟨g, mk, s₂, L, E, ce, rfl, rfl, hx, hce, hcv, hcl, rfl, hL, rfl, rfl⟩, ?_⟩
    show Steps p.tables e below _ (((({ U with heap := s₂.heap, slotsUsed := s₂.slotsUsed } : State).setVm s₂.vm).setTop g).pushFrame (.throwing q))
    rw [← hs₂]
    exact hsteps
end Payer
section Calls
variable {p : Program} {l : Launch} {e : Env} {R : Room} {s : State} {m : MethodId} {args : Array Value} {below : List Frame} {meth : Method} {c : Code} {T : State} {locs : List Loc} {cells slots : Nat}
theorem vx_callV (X : Stand p l e R s m args below meth c T locs cells slots) (hexec : p.tables.exec = Jvm.exec) {own C : String} {index : Nat} {y : MethodName} {bytes : ByteArray} {maxL : Nat} {ret : Option FieldType}
    (hown : s.vm.findClass own = some m.cls) (hlink : (Cond.methodLink own index y).before args s = true) (hinst : (Cond.instanceMethod y).before args s = true) (hsel : (Cond.selects C y y).before args s = true)
    (hcode : (Cond.code y bytes maxL ret).before args s = true) (hy : y.cls ≠ "java/lang/invoke/MethodHandle" ∧ y.cls ≠ "java/lang/invoke/VarHandle")
    {W9 : Nat} {Pre : Pt → Array Value → Prop} {Post : Pt → Array Value → Option Value → Pt → Prop} {PostX : Pt → Array Value → Addr → Pt → Prop} (hK : vx_Back l R p e below s args y 3 W9 Pre Post PostX)
    {b : Addr} {cellB : Cell} (hcell : T.heap[b]? = some cellB) (hobj : cellB.vm.isStatics = false) (hcls : s.vm.findClass C = some cellB.cls)
    {g : JFrame} (hg : g.method = m) (hsize : g.locals.size = c.maxLocals) {argsL rest : List Value} (hlen : ∀ sig, parseMethodDescriptor y.desc = some sig → argsL.length = sig.parameters.length)
    (hstack : g.stack = argsL.reverse ++ .ref b :: rest) (hW : 2 * g.monitorRoom + (rest.map fun v => v.category).sum ≤ W9) (hdg : decode c.code g.pc = .ok (.invokevirtual index, 3))
    (hpre : ∀ vm₁, s.WarmedH vm₁ → Pre ⟨T.setVm vm₁, locs, cells, slots⟩ (Value.ref b :: argsL).toArray) :
    (∃ (v : Option Value) (vm₁ : Vm) (B : Pt), s.WarmedH vm₁ ∧ Stand p l e R s m args below meth c B.U B.locs B.cells B.slots ∧ Post ⟨T.setVm vm₁, locs, cells, slots⟩ (Value.ref b :: argsL).toArray v B ∧
      ∀ target, Steps p.tables e below (B.U.setTop { g with pc := g.pc + 3, stack := v.toList ++ rest }) target → Steps p.tables e below (T.setTop g) target) ∨
    (∃ (q : Addr) (vm₁ : Vm) (B : Pt), s.WarmedH vm₁ ∧ Stand p l e R s m args below meth c B.U B.locs B.cells B.slots ∧ PostX ⟨T.setVm vm₁, locs, cells, slots⟩ (Value.ref b :: argsL).toArray q B ∧
      Steps p.tables e below (T.setTop g) ((B.U.setTop { g with stack := rest }).pushFrame (.throwing q))) := by
  obtain ⟨mk, methM, hnamed, hmethM, hstM, habM⟩ := Cond.instanceMethod_spec hinst
  obtain ⟨methM', cM, hmethM', -, -, -, -, -, -, hsigM⟩ := Cond.code_spec hnamed hcode
  cases hmethM.symm.trans hmethM'
  obtain ⟨c2, r2, m2, q1, q2, q3, q4, kP, hkP, hkPi⟩ := Cond.selects_spec hsel
  cases hcls.symm.trans q1
  cases (State.methodFound?_of_named hnamed hy).symm.trans q2
  cases hnamed.symm.trans q3
  have hselP : selectMethod e.platform s.vm cellB.cls mk = .method mk := by rw [Launch.admits_selectMethod X.admits]; exact q4
  obtain ⟨vm₁, X₁, hstep₁⟩ := X.invokevirtual hexec hown hlink hnamed hmethM hstM hkP hkPi hy (a := b) (cell := cellB) hcell
    (fun z h => by rw [h] at hobj; cases hobj) hselP hmethM habM hkP hkPi (g := g) hg (argsL := argsL) (rest := rest) (hlen _ hsigM) hstack hdg
  rcases hK m meth c ⟨T.setVm vm₁, locs, cells, slots⟩ { g with stack := rest } (.invokevirtual index) mk (Value.ref b :: argsL).toArray X₁ hg hsize hdg hW (X₁.named hnamed) (hpre vm₁ X₁.warmed) with ⟨v, B, X', hpost, hsteps⟩ | ⟨q, B, X', hpost, hsteps⟩
  · exact Or.inl ⟨v, vm₁, B, X₁.warmed, X', hpost, fun target h => hstep₁ _ fun acts => by rw [doInvoke_state]; exact hsteps.trans h⟩
  · exact Or.inr ⟨q, vm₁, B, X₁.warmed, X', hpost, hstep₁ _ fun acts => by rw [doInvoke_state]; exact hsteps⟩
theorem vx_callS (X : Stand p l e R s m args below meth c T locs cells slots) (hexec : p.tables.exec = Jvm.exec) {own : String} {index : Nat} {y : MethodName} {bytes : ByteArray} {maxL : Nat} {ret : Option FieldType}
    (hown : s.vm.findClass own = some m.cls) (hlink : (Cond.methodLink own index y).before args s = true) (hstat : (Cond.static y).before args s = true) (hinit : (Cond.initialized y.cls).before args s = true)
    (hcode : (Cond.code y bytes maxL ret).before args s = true) (hy : y.cls ≠ "java/lang/invoke/MethodHandle" ∧ y.cls ≠ "java/lang/invoke/VarHandle")
    {W9 : Nat} {Pre : Pt → Array Value → Prop} {Post : Pt → Array Value → Option Value → Pt → Prop} {PostX : Pt → Array Value → Addr → Pt → Prop} (hK : vx_Back l R p e below s args y 3 W9 Pre Post PostX)
    {g : JFrame} (hg : g.method = m) (hsize : g.locals.size = c.maxLocals) {argsL rest : List Value} (hlen : ∀ sig, parseMethodDescriptor y.desc = some sig → argsL.length = sig.parameters.length)
    (hstack : g.stack = argsL.reverse ++ rest) (hW : 2 * g.monitorRoom + (rest.map fun v => v.category).sum ≤ W9) (hdg : decode c.code g.pc = .ok (.invokestatic index, 3))
    (hpre : ∀ vm₁, s.WarmedH vm₁ → Pre ⟨T.setVm vm₁, locs, cells, slots⟩ argsL.toArray) :
    (∃ (v : Option Value) (vm₁ : Vm) (B : Pt), s.WarmedH vm₁ ∧ Stand p l e R s m args below meth c B.U B.locs B.cells B.slots ∧ Post ⟨T.setVm vm₁, locs, cells, slots⟩ argsL.toArray v B ∧
      ∀ target, Steps p.tables e below (B.U.setTop { g with pc := g.pc + 3, stack := v.toList ++ rest }) target → Steps p.tables e below (T.setTop g) target) ∨
    (∃ (q : Addr) (vm₁ : Vm) (B : Pt), s.WarmedH vm₁ ∧ Stand p l e R s m args below meth c B.U B.locs B.cells B.slots ∧ PostX ⟨T.setVm vm₁, locs, cells, slots⟩ argsL.toArray q B ∧
      Steps p.tables e below (T.setTop g) ((B.U.setTop { g with stack := rest }).pushFrame (.throwing q))) := by
  obtain ⟨mk, hnamed⟩ := Cond.code_named hcode
  obtain ⟨methM, cM, hmethM, -, -, -, -, -, -, hsigM⟩ := Cond.code_spec hnamed hcode
  have hstatic : methM.isStatic = true := Cond.static_spec hnamed hmethM hstat
  obtain ⟨kP, hkP, -⟩ := className_of_methodNamed hnamed
  have hinitP : kP.init = .initialized := Cond.initialized_spec (findClass_of_methodNamed hnamed) hkP hinit
  obtain ⟨vm₁, X₁, hstep₁⟩ := X.invokestatic hexec hown hlink hnamed hmethM hstatic hkP hinitP hy (g := g) hg (argsL := argsL) (rest := rest) (hlen _ hsigM) hstack hdg
  rcases hK m meth c ⟨T.setVm vm₁, locs, cells, slots⟩ { g with stack := rest } (.invokestatic index) mk argsL.toArray X₁ hg hsize hdg hW (X₁.named hnamed) (hpre vm₁ X₁.warmed) with ⟨v, B, X', hpost, hsteps⟩ | ⟨q, B, X', hpost, hsteps⟩
  · exact Or.inl ⟨v, vm₁, B, X₁.warmed, X', hpost, fun target h => hstep₁ _ fun acts => by rw [doInvoke_state]; exact hsteps.trans h⟩
  · exact Or.inr ⟨q, vm₁, B, X₁.warmed, X', hpost, hstep₁ _ fun acts => by rw [doInvoke_state]; exact hsteps⟩
end Calls
theorem vx_cls {s : State} {T : State} {vm₁ : Vm} {E : String} {k : ClassId} (hW : s.WarmedH vm₁) (h : (T.setVm vm₁).vm.findClass E = some k) : s.vm.findClass E = some k := by
  have h1 : vm₁.findClass E = some k := h
  rw [hW.alike.findClass] at h1
  exact h1
/-- the method's frame g, with q thrown over it -/
def vx_W (p : Program) (l : Launch) (e : Env) (R : Room) (s : State) (m : MethodId) (args : Array Value) (below : List Frame) (meth : Method) (c : Code) (H : Heap) (locs : List Loc) (cells slots : Nat) (Q : State → Prop) (g : JFrame) (q : Addr) : Prop :=
  ∀ T : State, T.heap = H → Stand p l e R s m args below meth c T locs cells slots → ∃ t, Steps p.tables e below ((T.setTop g).pushFrame (.throwing q)) t ∧ Q t
def vx_Run (p : Program) (l : Launch) (e : Env) (R : Room) (s : State) (m : MethodId) (args : Array Value) (below : List Frame) (meth : Method) (c : Code) (H : Heap) (locs : List Loc) (cells slots mc ms : Nat) (g : JFrame) (rest : List Value) (Qa : State → Outcome → State → Prop) (XC : String → State → State → Prop) (free : Addr → Prop) : Prop :=
  ∀ T : State, T.heap = H → Stand p l e R s m args below meth c T locs cells slots →
    (∃ (v : Option Value) (st₀ t T' : State) (L : List Loc), st₀.heap = H ∧ Stand p l e R s m args below meth c T' (locs ++ L) (cells + mc) (slots + ms) ∧ (∀ q ∈ L, free q.base) ∧ T'.heap = t.heap ∧ T'.vm = t.vm ∧ Qa st₀ (.returned v) t ∧
      Goes p e below T g T' { g with pc := g.pc + 3, stack := v.toList ++ rest }) ∨
    (∃ (q : Addr) (st₀ t T' : State) (L : List Loc) (E : String) (ce : Cell), st₀.heap = H ∧ Stand p l e R s m args below meth c T' (locs ++ L) (cells + mc) (slots + ms) ∧ (∀ z ∈ L, free z.base) ∧ T'.heap = t.heap ∧ T'.vm = t.vm ∧ XC E st₀ t ∧ t.heap[q]? = some ce ∧ ce.vm = .none ∧ s.vm.findClass E = some ce.cls ∧
      Steps p.tables e below (T.setTop g) ((T'.setTop { g with stack := rest }).pushFrame (.throwing q)))
def vx_X {S : Type} (px : S → Prop) (B : String → S → State → Prop) (A : Nat → Prop) : String → State → State → Prop := fun E st t => ∃ u : S, px u ∧ B E u t ∧ va_F A st t
section Runs
variable {p : Program} {l : Launch} {e : Env} {R : Room} {s : State} {m : MethodId} {args : Array Value} {below : List Frame} {meth : Method} {c : Code} {H : Heap} {locs : List Loc} {cells slots : Nat}
variable {y : MethodName} {bytes cc : ByteArray} {maxL nL mc ms n index : Nat} {ret : Option FieldType} {ws : List Cond} {rm : Room} {Pc : Array Value → State → Prop} {Qc : Array Value → State → Outcome → State → Prop} {XC : String → State → State → Prop} {free : Addr → Prop} {Ts : List Cond} {own C : String} {b : Addr} {As rest : List Value} {g : JFrame}
theorem vx_callBack (cb : CallB R s args own index y bytes maxL ret ws rm mc ms n) (hM : vx_Met l y ws rm Pc Qc XC mc ms free) (hbl : FrameBlind Pc) : vx_Back l R p e below s args y 3 8 (PreOf R mc ms Pc) (PostOf Qc mc ms free) (vx_Post XC mc ms free) := by
  obtain ⟨hrc, hrs, hfr, hlo, hws, hcw, -, hini, -⟩ := cb
  exact vx_back (bytes := bytes) (maxL := maxL) (ret := ret) hM hbl hrc hrs hfr hlo hws hcw (fun a' U hW => word_at hW (Or.inl (by first | rfl | simp [Cond.onTables, Cond.keeps, Cond.steady])) hini)
theorem vx_runV (S : CallFix p m c cc nL s args Ts own) (hM : vx_Met l y ws rm Pc Qc XC mc ms free) (cw : CallW R s args own C index y bytes maxL ret ws rm mc ms n) (hp : PreV s H C b Pc As)
    (hg : g.method = m) (hn : As.length = n) (hsize : g.locals.size = nL) (hstack : g.stack = As.reverse ++ .ref b :: rest) (hW : 2 * g.monitorRoom + (rest.map fun v => v.category).sum ≤ 8) (hdg : decode cc g.pc = .ok (.invokevirtual index, 3)) (hf : cells + mc ≤ R.cells ∧ slots + ms ≤ R.slots) :
    vx_Run p l e R s m args below meth c H locs cells slots mc ms g rest (Qc (Value.ref b :: As).toArray) XC free := by
  have hK : vx_Back l R p e below s args y 3 8 (PreOf R mc ms Pc) (PostOf Qc mc ms free) (vx_Post XC mc ms free) := vx_callBack cw.1 hM hp.1
  obtain ⟨⟨-, -, -, -, -, -, hcode, -, hy, hlen, hl⟩, hin, hse⟩ := cw
  obtain ⟨hx, hb, hml, ho, -⟩ := S
  obtain ⟨-, ⟨cellB, hcB, hoB, hclB⟩, hPc⟩ := hp
  intro T hT X
  rcases vx_callV X hx (C := C) (bytes := bytes) (maxL := maxL) (ret := ret) ho hl hin hse hcode hy hK (by rw [hT]; exact hcB) hoB hclB hg (hsize.trans hml.symm) (argsL := As) (rest := rest) (fun sig h => hn.trans (hlen sig h)) hstack hW (by rw [hb]; exact hdg)
    (fun vm₁ hW₁ => ⟨hf.1, hf.2, hPc (T.setVm vm₁) hT hW₁⟩) with ⟨v, vm₁, ⟨U', l2, c2, s2⟩, hW₁, X', ⟨g', mk, t, L, e1, e2, hq, h1, hL, h2, h3⟩, st⟩ | ⟨q, vm₁, ⟨U', l2, c2, s2⟩, hW₁, X', ⟨g', mk, t, L, E, ce, e1, e2, hq, hce, hcv, hcl, h1, hL, h2, h3⟩, st⟩
  · dsimp only [Pt.U, Pt.locs, Pt.cells, Pt.slots] at X' e1 e2 h1 h2 h3 st
    subst h1; subst h2; subst h3
    exact Or.inl ⟨v, (T.setVm vm₁).calling g' mk (Value.ref b :: As).toArray, t, U', L, hT, X', hL, e1, e2, hq, st⟩
  · dsimp only [Pt.U, Pt.locs, Pt.cells, Pt.slots] at X' e1 e2 h1 h2 h3 st hcl
    subst h1; subst h2; subst h3
    exact Or.inr ⟨q, (T.setVm vm₁).calling g' mk (Value.ref b :: As).toArray, t, U', L, E, ce, hT, X', hL, e1, e2, hq, hce, hcv, vx_cls hW₁ hcl, st⟩
theorem vx_runS (S : CallFix p m c cc nL s args Ts own) (hM : vx_Met l y ws rm Pc Qc XC mc ms free) (cw : CallB R s args own index y bytes maxL ret ws rm mc ms n ∧ (Cond.static y).before args s = true) (hp : PreS s H Pc As)
    (hg : g.method = m) (hn : As.length = n) (hsize : g.locals.size = nL) (hstack : g.stack = As.reverse ++ rest) (hW : 2 * g.monitorRoom + (rest.map fun v => v.category).sum ≤ 8) (hdg : decode cc g.pc = .ok (.invokestatic index, 3)) (hf : cells + mc ≤ R.cells ∧ slots + ms ≤ R.slots) :
    vx_Run p l e R s m args below meth c H locs cells slots mc ms g rest (Qc As.toArray) XC free := by
  have hK : vx_Back l R p e below s args y 3 8 (PreOf R mc ms Pc) (PostOf Qc mc ms free) (vx_Post XC mc ms free) := vx_callBack cw.1 hM hp.1
  obtain ⟨⟨-, -, -, -, -, -, hcode, hini, hy, hlen, hl⟩, hstt⟩ := cw
  obtain ⟨hx, hb, hml, ho, -⟩ := S
  intro T hT X
  rcases vx_callS X hx (bytes := bytes) (maxL := maxL) (ret := ret) ho hl hstt hini hcode hy hK hg (hsize.trans hml.symm) (argsL := As) (rest := rest) (fun sig h => hn.trans (hlen sig h)) hstack hW (by rw [hb]; exact hdg)
    (fun vm₁ hW₁ => ⟨hf.1, hf.2, hp.2 (T.setVm vm₁) hT hW₁⟩) with ⟨v, vm₁, ⟨U', l2, c2, s2⟩, hW₁, X', ⟨g', mk, t, L, e1, e2, hq, h1, hL, h2, h3⟩, st⟩ | ⟨q, vm₁, ⟨U', l2, c2, s2⟩, hW₁, X', ⟨g', mk, t, L, E, ce, e1, e2, hq, hce, hcv, hcl, h1, hL, h2, h3⟩, st⟩
  · dsimp only [Pt.U, Pt.locs, Pt.cells, Pt.slots] at X' e1 e2 h1 h2 h3 st
    subst h1; subst h2; subst h3
    exact Or.inl ⟨v, (T.setVm vm₁).calling g' mk As.toArray, t, U', L, hT, X', hL, e1, e2, hq, st⟩
  · dsimp only [Pt.U, Pt.locs, Pt.cells, Pt.slots] at X' e1 e2 h1 h2 h3 st hcl
    subst h1; subst h2; subst h3
    exact Or.inr ⟨q, (T.setVm vm₁).calling g' mk As.toArray, t, U', L, E, ce, hT, X', hL, e1, e2, hq, hce, hcv, vx_cls hW₁ hcl, st⟩
end Runs
section Rows
variable {p : Program} {l : Launch} {e : Env} {R : Room} {s : State} {m : MethodId} {args : Array Value} {below : List Frame} {meth : Method} {c : Code} {H : Heap} {locs : List Loc} {cells slots : Nat} {Q : State → Prop}
variable {mc ms : Nat} {free : Addr → Prop} {A0 A1 : Nat → Prop} {H0 : Heap} {a : Array Value} {pc : Nat} {ls : Array Slot} {st0 rest : List Value}
theorem vx_keep {st₀ t T' : State} {L : List Loc} (h0 : st₀.heap = H) (e1 : T'.heap = t.heap) (hS : va_S A0 H0 H locs) (hA : ∀ q, q < H.size → A1 q → A0 q) (hf : ∀ q, free q → A0 q) (hL : ∀ q ∈ L, free q.base) (hF : va_F A1 st₀ t) :
    H.size ≤ T'.heap.size ∧ (∀ q : Nat, q < H.size → ¬ A1 q → T'.heap[q]? = H[q]?) ∧ va_S A0 H0 T'.heap (locs ++ L) := by
  obtain ⟨hz, hk⟩ := hF
  rw [h0] at hz hk
  exact ⟨by rw [e1]; exact hz, fun q h1 h2 => by rw [e1]; exact hk q h1 h2,
    ⟨Nat.le_trans hS.1 (by rw [e1]; exact hz), fun q h1 h2 => by rw [e1, hk q (Nat.lt_of_lt_of_le h1 hS.1) (fun z => h2 (hA q (Nat.lt_of_lt_of_le h1 hS.1) z))]; exact hS.2.1 q h1 h2, fun q hq => by
      rcases List.mem_append.mp hq with h | h
      · exact hS.2.2 q h
      · exact hf _ (hL q h)⟩⟩
theorem vx_calli {S SX : Type} {post : Int32 → S → Prop} {px : SX → Prop} {B : S → State → Prop} {BX : String → SX → State → Prop} {AX : Nat → Prop} (hr : vx_Run p l e R s m args below meth c H locs cells slots mc ms (F0 m pc ls st0) rest (va_Qi post B A1 a) (vx_X px BX AX) free) (hS : va_S A0 H0 H locs) (hA : ∀ q, q < H.size → A1 q → A0 q) (hf : ∀ q, free q → A0 q) (hAX : ∀ q, q < H.size → AX q → A0 q)
    (kx : ∀ (E : String) (ce : Cell) (q9 : Addr) (u : SX) (t : State) (H1 : Heap) (locs1 : List Loc), t.heap = H1 → s.vm.Alike t.vm → px u → BX E u t → H.size ≤ H1.size → (∀ q : Nat, q < H.size → ¬ AX q → H1[q]? = H[q]?) → va_S A0 H0 H1 locs1 → H1[q9]? = some ce → ce.vm = .none → s.vm.findClass E = some ce.cls → vx_W p l e R s m args below meth c H1 locs1 (cells + mc) (slots + ms) Q (F0 m pc ls rest) q9)
    (kk : ∀ (r : Int32) (u : S) (t : State) (H1 : Heap) (locs1 : List Loc), t.heap = H1 → s.vm.Alike t.vm → post r u → B u t → H.size ≤ H1.size → (∀ q : Nat, q < H.size → ¬ A1 q → H1[q]? = H[q]?) → va_S A0 H0 H1 locs1 → W p l e R s m args below meth c H1 locs1 (cells + mc) (slots + ms) Q (F0 m (pc + 3) ls (.int r :: rest))) : W p l e R s m args below meth c H locs cells slots Q (F0 m pc ls st0) := by
  intro T hT X
  rcases hr T hT X with ⟨v, st₀, t, T', L, h0, X', hL, e1, e2, ⟨⟨r, u, hv, hp, hb⟩, hF⟩, st⟩ | ⟨q, st₀, t, T', L, E, ce, h0, X', hL, e1, e2, ⟨u, hp, hb, hF⟩, hce, hcv, hcl, st⟩
  · cases hv
    obtain ⟨k1, k2, k3⟩ := vx_keep h0 e1 hS hA hf hL hF
    obtain ⟨t2, a1, b1⟩ := kk r u t T'.heap (locs ++ L) e1.symm (by rw [← e2]; exact X'.warmed.alike) hp hb k1 k2 k3 T' rfl X'
    exact ⟨t2, st t2 a1, b1⟩
  · obtain ⟨k1, k2, k3⟩ := vx_keep h0 e1 hS hAX hf hL hF
    obtain ⟨t2, a1, b1⟩ := kx E ce q u t T'.heap (locs ++ L) e1.symm (by rw [← e2]; exact X'.warmed.alike) hp hb k1 k2 k3 (by rw [e1]; exact hce) hcv hcl T' rfl X'
    exact ⟨t2, st.trans a1, b1⟩
theorem vx_calll {S SX : Type} {post : Int64 → S → Prop} {px : SX → Prop} {B : S → State → Prop} {BX : String → SX → State → Prop} {AX : Nat → Prop} (hr : vx_Run p l e R s m args below meth c H locs cells slots mc ms (F0 m pc ls st0) rest (va_Ql post B A1 a) (vx_X px BX AX) free) (hS : va_S A0 H0 H locs) (hA : ∀ q, q < H.size → A1 q → A0 q) (hf : ∀ q, free q → A0 q) (hAX : ∀ q, q < H.size → AX q → A0 q)
    (kx : ∀ (E : String) (ce : Cell) (q9 : Addr) (u : SX) (t : State) (H1 : Heap) (locs1 : List Loc), t.heap = H1 → s.vm.Alike t.vm → px u → BX E u t → H.size ≤ H1.size → (∀ q : Nat, q < H.size → ¬ AX q → H1[q]? = H[q]?) → va_S A0 H0 H1 locs1 → H1[q9]? = some ce → ce.vm = .none → s.vm.findClass E = some ce.cls → vx_W p l e R s m args below meth c H1 locs1 (cells + mc) (slots + ms) Q (F0 m pc ls rest) q9)
    (kk : ∀ (r : Int64) (u : S) (t : State) (H1 : Heap) (locs1 : List Loc), t.heap = H1 → s.vm.Alike t.vm → post r u → B u t → H.size ≤ H1.size → (∀ q : Nat, q < H.size → ¬ A1 q → H1[q]? = H[q]?) → va_S A0 H0 H1 locs1 → W p l e R s m args below meth c H1 locs1 (cells + mc) (slots + ms) Q (F0 m (pc + 3) ls (.long r :: rest))) : W p l e R s m args below meth c H locs cells slots Q (F0 m pc ls st0) := by
  intro T hT X
  rcases hr T hT X with ⟨v, st₀, t, T', L, h0, X', hL, e1, e2, ⟨⟨r, u, hv, hp, hb⟩, hF⟩, st⟩ | ⟨q, st₀, t, T', L, E, ce, h0, X', hL, e1, e2, ⟨u, hp, hb, hF⟩, hce, hcv, hcl, st⟩
  · cases hv
    obtain ⟨k1, k2, k3⟩ := vx_keep h0 e1 hS hA hf hL hF
    obtain ⟨t2, a1, b1⟩ := kk r u t T'.heap (locs ++ L) e1.symm (by rw [← e2]; exact X'.warmed.alike) hp hb k1 k2 k3 T' rfl X'
    exact ⟨t2, st t2 a1, b1⟩
  · obtain ⟨k1, k2, k3⟩ := vx_keep h0 e1 hS hAX hf hL hF
    obtain ⟨t2, a1, b1⟩ := kx E ce q u t T'.heap (locs ++ L) e1.symm (by rw [← e2]; exact X'.warmed.alike) hp hb k1 k2 k3 (by rw [e1]; exact hce) hcv hcl T' rfl X'
    exact ⟨t2, st.trans a1, b1⟩
theorem vx_callf {S SX : Type} {post : UInt32 → S → Prop} {px : SX → Prop} {B : S → State → Prop} {BX : String → SX → State → Prop} {AX : Nat → Prop} (hr : vx_Run p l e R s m args below meth c H locs cells slots mc ms (F0 m pc ls st0) rest (va_Qf post B A1 a) (vx_X px BX AX) free) (hS : va_S A0 H0 H locs) (hA : ∀ q, q < H.size → A1 q → A0 q) (hf : ∀ q, free q → A0 q) (hAX : ∀ q, q < H.size → AX q → A0 q)
    (kx : ∀ (E : String) (ce : Cell) (q9 : Addr) (u : SX) (t : State) (H1 : Heap) (locs1 : List Loc), t.heap = H1 → s.vm.Alike t.vm → px u → BX E u t → H.size ≤ H1.size → (∀ q : Nat, q < H.size → ¬ AX q → H1[q]? = H[q]?) → va_S A0 H0 H1 locs1 → H1[q9]? = some ce → ce.vm = .none → s.vm.findClass E = some ce.cls → vx_W p l e R s m args below meth c H1 locs1 (cells + mc) (slots + ms) Q (F0 m pc ls rest) q9)
    (kk : ∀ (r : UInt32) (u : S) (t : State) (H1 : Heap) (locs1 : List Loc), t.heap = H1 → s.vm.Alike t.vm → post r u → B u t → H.size ≤ H1.size → (∀ q : Nat, q < H.size → ¬ A1 q → H1[q]? = H[q]?) → va_S A0 H0 H1 locs1 → W p l e R s m args below meth c H1 locs1 (cells + mc) (slots + ms) Q (F0 m (pc + 3) ls (.float r :: rest))) : W p l e R s m args below meth c H locs cells slots Q (F0 m pc ls st0) := by
  intro T hT X
  rcases hr T hT X with ⟨v, st₀, t, T', L, h0, X', hL, e1, e2, ⟨⟨r, u, hv, hp, hb⟩, hF⟩, st⟩ | ⟨q, st₀, t, T', L, E, ce, h0, X', hL, e1, e2, ⟨u, hp, hb, hF⟩, hce, hcv, hcl, st⟩
  · cases hv
    obtain ⟨k1, k2, k3⟩ := vx_keep h0 e1 hS hA hf hL hF
    obtain ⟨t2, a1, b1⟩ := kk r u t T'.heap (locs ++ L) e1.symm (by rw [← e2]; exact X'.warmed.alike) hp hb k1 k2 k3 T' rfl X'
    exact ⟨t2, st t2 a1, b1⟩
  · obtain ⟨k1, k2, k3⟩ := vx_keep h0 e1 hS hAX hf hL hF
    obtain ⟨t2, a1, b1⟩ := kx E ce q u t T'.heap (locs ++ L) e1.symm (by rw [← e2]; exact X'.warmed.alike) hp hb k1 k2 k3 (by rw [e1]; exact hce) hcv hcl T' rfl X'
    exact ⟨t2, st.trans a1, b1⟩
theorem vx_calld {S SX : Type} {post : UInt64 → S → Prop} {px : SX → Prop} {B : S → State → Prop} {BX : String → SX → State → Prop} {AX : Nat → Prop} (hr : vx_Run p l e R s m args below meth c H locs cells slots mc ms (F0 m pc ls st0) rest (va_Qd post B A1 a) (vx_X px BX AX) free) (hS : va_S A0 H0 H locs) (hA : ∀ q, q < H.size → A1 q → A0 q) (hf : ∀ q, free q → A0 q) (hAX : ∀ q, q < H.size → AX q → A0 q)
    (kx : ∀ (E : String) (ce : Cell) (q9 : Addr) (u : SX) (t : State) (H1 : Heap) (locs1 : List Loc), t.heap = H1 → s.vm.Alike t.vm → px u → BX E u t → H.size ≤ H1.size → (∀ q : Nat, q < H.size → ¬ AX q → H1[q]? = H[q]?) → va_S A0 H0 H1 locs1 → H1[q9]? = some ce → ce.vm = .none → s.vm.findClass E = some ce.cls → vx_W p l e R s m args below meth c H1 locs1 (cells + mc) (slots + ms) Q (F0 m pc ls rest) q9)
    (kk : ∀ (r : UInt64) (u : S) (t : State) (H1 : Heap) (locs1 : List Loc), t.heap = H1 → s.vm.Alike t.vm → post r u → B u t → H.size ≤ H1.size → (∀ q : Nat, q < H.size → ¬ A1 q → H1[q]? = H[q]?) → va_S A0 H0 H1 locs1 → W p l e R s m args below meth c H1 locs1 (cells + mc) (slots + ms) Q (F0 m (pc + 3) ls (.double r :: rest))) : W p l e R s m args below meth c H locs cells slots Q (F0 m pc ls st0) := by
  intro T hT X
  rcases hr T hT X with ⟨v, st₀, t, T', L, h0, X', hL, e1, e2, ⟨⟨r, u, hv, hp, hb⟩, hF⟩, st⟩ | ⟨q, st₀, t, T', L, E, ce, h0, X', hL, e1, e2, ⟨u, hp, hb, hF⟩, hce, hcv, hcl, st⟩
  · cases hv
    obtain ⟨k1, k2, k3⟩ := vx_keep h0 e1 hS hA hf hL hF
    obtain ⟨t2, a1, b1⟩ := kk r u t T'.heap (locs ++ L) e1.symm (by rw [← e2]; exact X'.warmed.alike) hp hb k1 k2 k3 T' rfl X'
    exact ⟨t2, st t2 a1, b1⟩
  · obtain ⟨k1, k2, k3⟩ := vx_keep h0 e1 hS hAX hf hL hF
    obtain ⟨t2, a1, b1⟩ := kx E ce q u t T'.heap (locs ++ L) e1.symm (by rw [← e2]; exact X'.warmed.alike) hp hb k1 k2 k3 (by rw [e1]; exact hce) hcv hcl T' rfl X'
    exact ⟨t2, st.trans a1, b1⟩
theorem vx_callv {S SX : Type} {post : S → Prop} {px : SX → Prop} {B : S → State → Prop} {BX : String → SX → State → Prop} {AX : Nat → Prop} (hr : vx_Run p l e R s m args below meth c H locs cells slots mc ms (F0 m pc ls st0) rest (va_Qv post B A1 a) (vx_X px BX AX) free) (hS : va_S A0 H0 H locs) (hA : ∀ q, q < H.size → A1 q → A0 q) (hf : ∀ q, free q → A0 q) (hAX : ∀ q, q < H.size → AX q → A0 q)
    (kx : ∀ (E : String) (ce : Cell) (q9 : Addr) (u : SX) (t : State) (H1 : Heap) (locs1 : List Loc), t.heap = H1 → s.vm.Alike t.vm → px u → BX E u t → H.size ≤ H1.size → (∀ q : Nat, q < H.size → ¬ AX q → H1[q]? = H[q]?) → va_S A0 H0 H1 locs1 → H1[q9]? = some ce → ce.vm = .none → s.vm.findClass E = some ce.cls → vx_W p l e R s m args below meth c H1 locs1 (cells + mc) (slots + ms) Q (F0 m pc ls rest) q9)
    (kk : ∀ (u : S) (t : State) (H1 : Heap) (locs1 : List Loc), t.heap = H1 → s.vm.Alike t.vm → post u → B u t → H.size ≤ H1.size → (∀ q : Nat, q < H.size → ¬ A1 q → H1[q]? = H[q]?) → va_S A0 H0 H1 locs1 → W p l e R s m args below meth c H1 locs1 (cells + mc) (slots + ms) Q (F0 m (pc + 3) ls (rest))) : W p l e R s m args below meth c H locs cells slots Q (F0 m pc ls st0) := by
  intro T hT X
  rcases hr T hT X with ⟨v, st₀, t, T', L, h0, X', hL, e1, e2, ⟨⟨u, hv, hp, hb⟩, hF⟩, st⟩ | ⟨q, st₀, t, T', L, E, ce, h0, X', hL, e1, e2, ⟨u, hp, hb, hF⟩, hce, hcv, hcl, st⟩
  · cases hv
    obtain ⟨k1, k2, k3⟩ := vx_keep h0 e1 hS hA hf hL hF
    obtain ⟨t2, a1, b1⟩ := kk u t T'.heap (locs ++ L) e1.symm (by rw [← e2]; exact X'.warmed.alike) hp hb k1 k2 k3 T' rfl X'
    exact ⟨t2, st t2 a1, b1⟩
  · obtain ⟨k1, k2, k3⟩ := vx_keep h0 e1 hS hAX hf hL hF
    obtain ⟨t2, a1, b1⟩ := kx E ce q u t T'.heap (locs ++ L) e1.symm (by rw [← e2]; exact X'.warmed.alike) hp hb k1 k2 k3 (by rw [e1]; exact hce) hcv hcl T' rfl X'
    exact ⟨t2, st.trans a1, b1⟩
/-- caught by the row x of this method's table; the rows ahead don't take it -/
theorem vx_catch {own name : String} {E : String} {ce : Cell} {q : Addr} (hown : s.vm.findClass own = some m.cls) (pre : List ExceptionTableEntry) (x : ExceptionTableEntry) (suf : List ExceptionTableEntry) (hsplit : c.exceptionTable.toList = pre ++ x :: suf)
    (hpass : ∀ z ∈ pre, covers z pc = false ∨ (z.catchType ≠ 0 ∧ ∃ nm : String, (Cond.classLink own z.catchType nm).before args s = true ∧ va_Nc E nm s)) (hx : covers x pc = true) (h0 : x.catchType ≠ 0)
    (hlink : (Cond.classLink own x.catchType name).before args s = true) (hcast : (Cond.castable E name).before args s = true) (hcell : H[q]? = some ce) (hv : ce.vm = .none) (hcl : s.vm.findClass E = some ce.cls)
    (kk : W p l e R s m args below meth c H locs cells slots Q (F0 m x.handlerPc ls [.ref q])) : vx_W p l e R s m args below meth c H locs cells slots Q (F0 m pc ls rest) q := by
  intro T hT X
  have hpl : e.platform.magicAccessors = ({} : Platform).magicAccessors := by rw [X.admits.platform]
  obtain ⟨c3, c4, hc3, hc4, hasg⟩ := Cond.castable_spec hcast
  cases Option.some.inj (hc3.symm.trans hcl)
  obtain ⟨c5, hc5, hcl5⟩ := Cond.classLink_spec hown hlink e.platform hpl
  cases Option.some.inj (hc4.symm.trans hc5)
  obtain ⟨vm', X', st⟩ := X.thenCaughtThrough q (g := F0 m pc ls rest) rfl (Steps.refl _) (by rw [hT]; exact hcell) (by rw [hv]; rfl) (by obtain ⟨k9, h9, -⟩ := Vm.findClass_spec hcl; exact ⟨k9, h9⟩) pre x suf hsplit
    (fun z hz => by
      rcases hpass z hz with h | ⟨hz0, nm, hl1, hn1⟩
      · exact Or.inl h
      · obtain ⟨c6, hc6, hcl6⟩ := Cond.classLink_spec hown hl1 e.platform hpl
        obtain ⟨a8, b8, h1, h2, h3⟩ := hn1
        cases Option.some.inj (h1.symm.trans hcl)
        cases Option.some.inj (h2.symm.trans hc6)
        exact Or.inr ⟨hz0, _, hcl6, h3⟩) hx (Or.inr ⟨h0, c4, hcl5, hasg⟩)
  obtain ⟨t, a1, b1⟩ := kk (T.setVm vm') hT X'
  exact ⟨t, st.trans a1, b1⟩
end Rows
section Ends
variable {p : Program} {l : Launch} {e : Env} {R : Room} {s : State} {m : MethodId} {args : Array Value} {below : List Frame} {meth : Method} {c : Code} {H : Heap} {locs : List Loc} {cells slots : Nat} {Q : State → Prop}
variable {mc ms : Nat} {free : Addr → Prop} {A0 A1 : Nat → Prop} {H0 : Heap} {a : Array Value} {ls : Array Slot} {st0 rest : List Value}
variable {Qc : Array Value → State → Outcome → State → Prop} {XC : String → State → State → Prop}
/-- what a body that may throw owes at its end -/
def vx_MQ (below : List Frame) (Qc : Array Value → State → Outcome → State → Prop) (XC : String → State → State → Prop) (a : Array Value) (s : State) (mc ms : Nat) (free : Addr → Prop) : State → Prop := fun t =>
  ∃ o, t.status = .running ∧ Ended t below o ∧ vx_Q Qc XC mc ms free a s o t
theorem vx_ret {g : JFrame} {mc ms : Nat} (k : W p l e R s m args below meth c H locs cells slots (MQ below Qc args s mc ms free) g) : W p l e R s m args below meth c H locs cells slots (vx_MQ below Qc XC args s mc ms free) g := by
  intro T hT X
  obtain ⟨t, a1, o, b1, b2, b3, b4⟩ := k T hT X
  exact ⟨t, a1, o, b1, b2, Or.inl ⟨b3, b4⟩⟩
/-- not caught here: it goes on to the caller -/
theorem vx_widen {g : JFrame} {q : Addr} {k n : Nat} (h1 : cells ≤ k) (h2 : slots ≤ n) (kk : vx_W p l e R s m args below meth c H locs k n Q g q) : vx_W p l e R s m args below meth c H locs cells slots Q g q := fun T hT X => kk T hT (stand_widen X h1 h2)
theorem vx_out {pc : Nat} {E : String} {ce : Cell} {q : Addr} {mc ms : Nat} (hout : ∀ x ∈ c.exceptionTable.toList, covers x pc = false) (hlocks : meth.locks = false) (hcell : H[q]? = some ce) (hv : ce.vm = .none) (hcl : s.vm.findClass E = some ce.cls)
    (hx : ∀ t : State, t.heap = H → s.vm.Alike t.vm → XC E s t) (hf : ∀ z ∈ locs, free z.base) (hc : cells ≤ mc) (hs : slots ≤ ms) :
    vx_W p l e R s m args below meth c H locs cells slots (vx_MQ below Qc XC args s mc ms free) (F0 m pc ls rest) q := by
  intro T hT X
  obtain ⟨st1, hrun, hend, hW, hsm⟩ := X.leaveThrown q (g := F0 m pc ls rest) rfl rfl rfl hout hlocks
  have hcell9 : (T.setFrames (.throwing q :: below)).heap[q]? = some ce := by
    show T.heap[q]? = some ce
    rw [hT]; exact hcell
  exact ⟨_, st1, .threw q, hrun, hend, Or.inr ⟨q, rfl, E, ce, locs, hx _ hT hW.alike, hcell9, hv, hcl, hW, hsm.mono hc hs, hf⟩⟩
theorem vx_frame {U : State} {k n : Nat} (h : s.sameButNew ({ U with vm := s.vm } : State) locs k n) : s.heap.size ≤ U.heap.size ∧ ∀ q : Nat, q < s.heap.size → (∀ z ∈ locs, z.base ≠ q) → U.heap[q]? = s.heap[q]? := by
  obtain ⟨-, h2, -, -, -, h6⟩ := h
  refine ⟨h2, fun q hq hz => ?_⟩
  obtain ⟨c9, e1, e2, e3, e4⟩ := h6 q _ (Array.getElem?_eq_getElem hq)
  have hs : c9.slots = (s.heap[q]).slots := Array.ext_getElem? fun i => e4 i fun hm => hz _ hm rfl
  have h9 : c9 = s.heap[q] := by
    rw [hs] at e2
    exact e2
  have e5 : U.heap[q]? = some c9 := e1
  rw [e5, h9, Array.getElem?_eq_getElem hq]
/-- the words of a throw but the four that speak of the heap -/
def vx_no (w : Cond) : Bool := decide (w ≠ .isRef (.static Bundle.tN "UNASSIGNED_STACK" Bundle.steD)) && decide (w ≠ .isRef (.static Bundle.tN "SUPPRESSED_SENTINEL" Bundle.listD)) && decide (w ≠ .laysStatic Bundle.tN "UNASSIGNED_STACK" Bundle.steD) && decide (w ≠ .laysStatic Bundle.tN "SUPPRESSED_SENTINEL" Bundle.listD)
def vx_at0 (own : String) (ic : Nat) (X : String) (names : List String) : List Cond := (Bundle.ownAtoms0 own ic X names).filter vx_no
def vx_atS (own : String) (ic : Nat) (X : String) (names : List String) : List Cond := (Bundle.ownAtoms own ic X names).filter vx_no
/-- a word that the tables alone decide, or a good one -/
def vx_ot (w : Cond) : Bool := w.onTables || goodWord w
theorem vx_ot_at {args a' : Array Value} {s U : State} {w : Cond} (hW : s.WarmedH U.vm) (hvm : s.vm = U.vm) (hg : vx_ot w = true) (h : w.before args s = true) : w.before a' U = true := by
  simp only [vx_ot, Bool.or_eq_true] at hg
  rcases hg with hg | hg
  · exact va_tabs hg hvm h
  · exact word_at hW (good_of_word hg) h
/-- a list's words: the good ones out of the method's own list, the others by premises of their own -/
theorem vx_hat {args : Array Value} {s : State} {L B : List Cond} (h1 : ∀ w ∈ L.filter goodWord, w.before args s = true) (h2 : ∀ w ∈ L.filter (fun w => !goodWord w), w ∈ B) (h3 : ∀ w ∈ B, w.before args s = true) : ∀ w ∈ L, w.before args s = true := by
  intro w hw
  by_cases g : goodWord w = true
  · exact h1 w (List.mem_filter.mpr ⟨hw, g⟩)
  · refine h3 w (h2 w (List.mem_filter.mpr ⟨hw, ?_⟩))
    show (!goodWord w) = true
    cases hgw : goodWord w
    · rfl
    · exact absurd hgw g
theorem vx_c {args : Array Value} {s : State} {w : Cond} {B : List Cond} (h : w.before args s = true) (t : ∀ w ∈ B, w.before args s = true) : ∀ w' ∈ w :: B, w'.before args s = true := fun w' h' => (List.mem_cons.mp h').elim (fun e => by rw [e]; exact h) (t w')
theorem vx_n {args : Array Value} {s : State} : ∀ w ∈ ([] : List Cond), w.before args s = true := fun _ h => nomatch h
theorem vx_own {args : Array Value} {s : State} {L : List Cond} (h1 : ∀ w ∈ L.filter vx_no, w.before args s = true)
    (hU : (Cond.isRef (.static Bundle.tN "UNASSIGNED_STACK" Bundle.steD)).before args s = true) (hN : (Cond.isRef (.static Bundle.tN "SUPPRESSED_SENTINEL" Bundle.listD)).before args s = true)
    (lU : (Cond.laysStatic Bundle.tN "UNASSIGNED_STACK" Bundle.steD).before args s = true) (lN : (Cond.laysStatic Bundle.tN "SUPPRESSED_SENTINEL" Bundle.listD).before args s = true) : ∀ w ∈ L, w.before args s = true := by
  intro w hw
  by_cases e1 : w = .isRef (.static Bundle.tN "UNASSIGNED_STACK" Bundle.steD)
  · rw [e1]; exact hU
  · by_cases e2 : w = .isRef (.static Bundle.tN "SUPPRESSED_SENTINEL" Bundle.listD)
    · rw [e2]; exact hN
    · by_cases e3 : w = .laysStatic Bundle.tN "UNASSIGNED_STACK" Bundle.steD
      · rw [e3]; exact lU
      · by_cases e4 : w = .laysStatic Bundle.tN "SUPPRESSED_SENTINEL" Bundle.listD
        · rw [e4]; exact lN
        · exact h1 w (List.mem_filter.mpr ⟨hw, by unfold vx_no; rw [decide_eq_true e1, decide_eq_true e2, decide_eq_true e3, decide_eq_true e4]; rfl⟩)
/-- where a static field lies, its class's statics cell in H -/
def vx_L (C n d : String) (A : Nat → Prop) (U : State) (H : Heap) : Prop := ∃ (c : ClassId) (k : Class) (i : Nat) (f : Field) (a : Nat) (cell : Cell), U.vm.findClass C = some c ∧ U.fieldFound? C n d = some (c, k, i, f) ∧ f.isStatic = true ∧ k.statics = some a ∧ H[a]? = some cell ∧ cell.vm.isStatics = true ∧ cell.cls = c ∧ f.slot < cell.slots.size ∧ k.staticTypes[f.slot]? = some f.type ∧ ¬ A a
theorem vx_L.moved {C n d : String} {A : Nat → Prop} {u U : State} {H : Heap} (hvm : u.vm.Alike U.vm) (h : vx_L C n d A u H) : vx_L C n d A U H := by
  obtain ⟨c, k, i, f, a, cell, h1, h2, h3, h4, h5, h6, h7, h8, h9, h10⟩ := h
  obtain ⟨k', hi', he⟩ := State.fieldFound?_setVm hvm h2
  exact ⟨c, k', i, f, a, cell, by rw [hvm.findClass]; exact h1, hi', h3, by rw [he]; exact h4, h5, h6, h7, h8, by rw [he]; exact h9, h10⟩
theorem vx_L.kept {C n d : String} {A : Nat → Prop} {U : State} {H H1 : Heap} (h : vx_L C n d A U H) (hq : ∀ a : Nat, a < H.size → ¬ A a → H1[a]? = H[a]?) : vx_L C n d A U H1 := by
  obtain ⟨c, k, i, f, a, cell, h1, h2, h3, h4, h5, h6, h7, h8, h9, h10⟩ := h
  exact ⟨c, k, i, f, a, cell, h1, h2, h3, h4, by rw [hq a (Array.getElem?_eq_some_iff.mp h5).1 h10]; exact h5, h6, h7, h8, h9, h10⟩
theorem vx_L.narrow {C n d : String} {A B : Nat → Prop} {U : State} {H : Heap} (h : vx_L C n d A U H) (hAB : ∀ q, B q → A q) : vx_L C n d B U H := by
  obtain ⟨c, k, i, f, a, cell, h1, h2, h3, h4, h5, h6, h7, h8, h9, h10⟩ := h
  exact ⟨c, k, i, f, a, cell, h1, h2, h3, h4, h5, h6, h7, h8, h9, fun z => h10 (hAB _ z)⟩
theorem vx_L.word {C n d : String} {A : Nat → Prop} {s : State} {args : Array Value} (h : vx_L C n d A s s.heap) : (Cond.laysStatic C n d).before args s = true := by
  obtain ⟨c, k, i, f, a, cell, h1, h2, h3, h4, h5, h6, h7, h8, h9, -⟩ := h
  show (Cond.laysStatic C n d).holds args s none s [] = true
  exact Cond.laysStatic_of h1 h2 h3 h4 h5 h6 h7 h8 h9
/-- .. and what it holds: null or some reference -/
def vx_Zq (C n d : String) (A : Nat → Prop) (U : State) (H : Heap) : Prop := va_Zq C n d A U H ∧ vx_L C n d A U H
theorem vx_Zq.moved {C n d : String} {A : Nat → Prop} {u U : State} {H : Heap} (hvm : u.vm.Alike U.vm) (h : vx_Zq C n d A u H) : vx_Zq C n d A U H := ⟨va_Zq.moved hvm h.1, vx_L.moved hvm h.2⟩
theorem vx_Zq.kept {C n d : String} {A : Nat → Prop} {U : State} {H H1 : Heap} (h : vx_Zq C n d A U H) (hq : ∀ a : Nat, a < H.size → ¬ A a → H1[a]? = H[a]?) : vx_Zq C n d A U H1 := ⟨va_Zq.kept h.1 hq, vx_L.kept h.2 hq⟩
theorem vx_Zq.narrow {C n d : String} {A B : Nat → Prop} {U : State} {H : Heap} (h : vx_Zq C n d A U H) (hAB : ∀ q, B q → A q) : vx_Zq C n d B U H := ⟨va_Zq.narrow h.1 hAB, vx_L.narrow h.2 hAB⟩
theorem vx_Zqof {args : Array Value} {s : State} {C n d : String} {A : Nat → Prop} (hl : (Cond.laysStatic C n d).before args s = true) (hini : (Cond.initialized C).before args s = true) (h : (Cond.isRef (.static C n d)).before args s = true) (hA : ∀ a : Nat, a < s.heap.size → ¬ A a) : vx_Zq C n d A s s.heap := by
  refine ⟨va_Zqof hl hini h hA, ?_⟩
  obtain ⟨c, k, i, f, a, cell, h1, h2, h3, h4, h5, h6, h7, h8, h9⟩ := Cond.laysStatic_spec hl
  exact ⟨c, k, i, f, a, cell, h1, h2, h3, h4, h5, h6, h7, h8, h9, hA a (Array.getElem?_eq_some_iff.mp h5).1⟩
theorem vx_isRef {C n d : String} {v : Value} {A : Nat → Prop} {s : State} {args : Array Value} (h : va_Z C n d v A s s.heap) (hv : v.isRef = true) : (Cond.isRef (.static C n d)).before args s = true := by
  obtain ⟨cf, kf, fi, f, a, cell, h1, h2, h3, h4, h5, h6, h7, -⟩ := h
  have he : (Term.static C n d).eval args s none [] s = some v := by
    simp [Term.eval, State.fieldNamed?, h1, h2, h4, h5, h6, h7]
  simp only [Cond.before, Cond.holds, Cond.value, he]
  cases v <;> simp_all [Value.isRef]
theorem vx_isRefq {C n d : String} {A : Nat → Prop} {s : State} {args : Array Value} (h : va_Zq C n d A s s.heap) : (Cond.isRef (.static C n d)).before args s = true := by
  rcases h with h | ⟨t, h⟩
  · exact vx_isRef h rfl
  · exact vx_isRef h rfl
/-- the same frame, seen from here: as if the method were called anew in this heap -/
theorem vx_rebase {T : State} (X : Stand p l e R s m args below meth c T locs cells slots) {R' : Room} (hf : R'.frames ≤ R.frames) (hl : R'.locals ≤ R.locals) (hc : cells + R'.cells ≤ R.cells) (hs : slots + R'.slots ≤ R.slots) :
    Stand p l e R' ((T.setVm s.vm).setFrames (.invoking m args :: below)) m args below meth c T [] 0 0 := by
  have htop : (T.setVm s.vm).topJava?.isSome := X.here.top
  have hF : ((T.setVm s.vm).setFrames (.invoking m args :: below)).frames = .invoking m args :: below := State.frames_setFrames _ (State.cur_lt_of_top htop)
  obtain ⟨g₀, hg0⟩ := Option.isSome_iff_exists.mp htop
  obtain ⟨r, hr⟩ := State.topJava?_eq_some.mp hg0
  have hl9 : e.platform.stackLimits (T.setVm s.vm).me = e.platform.stackLimits s.me := X.limits
  have hb9 : (T.setVm s.vm).me.stackBytes = s.me.stackBytes := X.bytes
  refine ⟨X.admits, X.cas, X.clock, hF, ?_, X.hears, X.method, X.code, X.here, X.tail, X.warmed, ?_, ?_, ?_⟩
  · have h := X.room
    have hU : ((T.setVm s.vm).setFrames (.invoking m args :: below)).localsInUse = s.localsInUse := by
      rw [State.localsInUse_invoking hF (meth := meth) (c := c) X.method X.code, State.localsInUse_invoking X.frames X.method X.code]
    simp only [State.hasRoom, Bool.and_eq_true, decide_eq_true_eq] at h ⊢
    obtain ⟨⟨⟨⟨h1, h2, h3, h4, h5, h6⟩, h7⟩, h8⟩, h9⟩ := h
    rw [X.frames, List.length_cons] at h2 h3
    have q1 := X.heapSize
    have q2 := X.used
    simp only [hF, hU, List.length_cons, State.stackLimits_setFrames, State.stackBytes_setFrames, hl9, hb9]
    refine ⟨⟨⟨⟨by omega, by omega, by omega, by omega, by omega, h6⟩, ?_⟩, ?_⟩, X.book⟩
    · show T.heap.size + R'.cells ≤ e.platform.maxCells
      omega
    · show T.slotsUsed + R'.slots ≤ e.platform.maxSlots
      omega
  · rw [State.stackLimits_setFrames]; rfl
  · rw [State.stackBytes_setFrames]; rfl
  · refine ⟨?_, Nat.le_refl _, Nat.le_refl _, ?_, ?_, fun a c9 h9 => ⟨c9, h9, rfl, rfl, fun _ _ => rfl⟩⟩
    · obtain ⟨t, ht, -⟩ := State.frames_cons hr
      show T.setVm s.vm = { ((T.setVm s.vm).setFrames (.invoking m args :: below)).setFrames (T.setVm s.vm).frames with heap := T.heap, slotsUsed := T.slotsUsed }
      rw [State.setFrames_setFrames, State.setFrames_self ht]
      rfl
    · show T.slotsUsed = T.slotsUsed + ((T.heap.toList.drop T.heap.size).map (·.slots.size)).sum
      rw [List.drop_eq_nil_of_le (Nat.le_of_eq Array.length_toList)]
      rfl
    · show ((T.heap.toList.drop T.heap.size).map (·.slots.size)).sum ≤ 0
      rw [List.drop_eq_nil_of_le (Nat.le_of_eq Array.length_toList)]
      exact Nat.le_refl _
/-- 'throw new E()': new; dup; invokespecial; athrow -/
theorem vx_throw0 {cc : ByteArray} {pc : Nat} (hexec : p.tables.exec = Jvm.exec) (hb : c.code = cc) (hl : l.stackTraces = false) {own cls : String} {names : List String} {ik ic mc ms : Nat} {A : Nat → Prop}
    (hown : s.vm.findClass own = some m.cls) (hcls : Bundle.fit cls = true) (hnames : ∀ n ∈ names, Bundle.fit n = true)
    (hk : (Cond.classLink own ik cls).before args s = true) (hini : (Cond.initialized cls).before args s = true) (hat : ∀ w ∈ vx_at0 own ic cls names, w.before args s = true)
    (hgood : ∀ w ∈ Cond.classLink own ik cls :: Cond.initialized cls :: vx_at0 own ic cls names, vx_ot w = true)
    (hU : vx_Zq Bundle.tN "UNASSIGNED_STACK" Bundle.steD A s s.heap) (hN : vx_Zq Bundle.tN "SUPPRESSED_SENTINEL" Bundle.listD A s s.heap) (hS : va_S A s.heap H locs) (hsize : ls.size = c.maxLocals)
    (d0 : decode cc pc = .ok (.new ik, 3)) (d3 : decode cc (pc + 3) = .ok (.dup, 1)) (d4 : decode cc (pc + 4) = .ok (.invokespecial ic, 3)) (d7 : decode cc (pc + 7) = .ok (.athrow, 1))
    (hout : ∀ x ∈ c.exceptionTable.toList, covers x (pc + 7) = false)
    (hRframes : names.length + 3 < R.frames) (hRlocals : (rest.map fun v => v.category).sum + (13 * (names.length + 1) + 42) ≤ R.locals) (hRcells : cells + 1 ≤ R.cells) (hRslots : slots + 6 ≤ R.slots) (hlocks : meth.locks = false)
    (hx : ∀ t : State, s.vm.Alike t.vm → H.size ≤ t.heap.size → (∀ q : Nat, q < H.size → t.heap[q]? = H[q]?) → XC cls s t)
    (hf : ∀ z ∈ locs, free z.base) (hc : cells + 1 ≤ mc) (hs : slots + 6 ≤ ms) :
    W p l e R s m args below meth c H locs cells slots (vx_MQ below Qc XC args s mc ms free) (F0 m pc ls rest) := by
  intro T hT X
  have htr : e.platform.stackTraces = false := (show e.platform.stackTraces = l.stackTraces by rw [X.admits.platform]).trans hl
  have Y := vx_rebase X (R' := { frames := R.frames, locals := R.locals, cells := 1, slots := 6 }) (Nat.le_refl _) (Nat.le_refl _) hRcells hRslots
  obtain ⟨s', hA⟩ : ∃ z, z = (T.setVm s.vm).setFrames (.invoking m args :: below) := ⟨_, rfl⟩
  rw [← hA] at Y
  have hvm : s'.vm = s.vm := by rw [hA]; rfl
  have hhp : s'.heap = H := by rw [hA]; exact hT
  have hW0 : s.WarmedH s'.vm := by rw [hvm]; exact State.WarmedH.refl s
  have hat' : ∀ w ∈ vx_at0 own ic cls names, w.before args s' = true := fun w hw => vx_ot_at hW0 hvm.symm (hgood w (List.mem_cons_of_mem _ (List.mem_cons_of_mem _ hw))) (hat w hw)
  have hk' : (Cond.classLink own ik cls).before args s' = true := vx_ot_at hW0 hvm.symm (hgood _ List.mem_cons_self) hk
  have hini' : (Cond.initialized cls).before args s' = true := vx_ot_at hW0 hvm.symm (hgood _ (List.mem_cons_of_mem _ List.mem_cons_self)) hini
  have hU' : vx_Zq Bundle.tN "UNASSIGNED_STACK" Bundle.steD A s' s'.heap := by rw [hhp]; exact vx_Zq.moved hW0.alike (hU.kept hS.2.1)
  have hN' : vx_Zq Bundle.tN "SUPPRESSED_SENTINEL" Bundle.listD A s' s'.heap := by rw [hhp]; exact vx_Zq.moved hW0.alike (hN.kept hS.2.1)
  have h : ∀ w ∈ Bundle.ownAtoms0 own ic cls names, w.before args s' = true := vx_own hat' (vx_isRefq hU'.1) (vx_isRefq hN'.1) hU'.2.word hN'.2.word
  have hown' : s'.vm.findClass own = some m.cls := by rw [hvm]; exact hown
  have hins : (Cond.instantiable cls 6).before args s' = true := h _ (by simp [Bundle.ownAtoms0])
  obtain ⟨vm₁, cX, kX, hfX, hkX, -, -, X₁, st1⟩ := Y.newCold hexec (own := own) (C := cls) (index := ik) (n := 6) hown' hk' hins hini'
    (g := F0 m pc ls rest) rfl (by rw [hb]; exact d0) (Nat.le_refl _) (Nat.le_refl _)
  generalize hT1 : (T.setVm vm₁).pushCell { cls := cX, slots := kX.instanceTypes.map defaultValue, vm := .none } = T1 at X₁ st1
  have hcat : (Value.ref T.heap.size).category = 1 := rfl
  have hcellA : T1.heap[T.heap.size]? = some (freshCell cX kX) := by rw [← hT1]; exact State.heap_pushCell_size _ _
  have d3' : decode c.code (pc + 3) = .ok (.dup, 1) := by rw [hb]; exact d3
  obtain ⟨U, hsteps, hrun, hend, hW, hsame, ce, hce, hO⟩ := X₁.ctorThrow0 hexec htr (own := own) (cls := cls) (names := names) (ic := ic) hown' hcls hnames h (fun x hx => nomatch hx) hfX hkX hcellA (by rw [hhp, hT]; exact Nat.le_refl _)
    (g := { method := m, pc := pc + 4, locals := ls, stack := .ref T.heap.size :: .ref T.heap.size :: rest, locked := none }) rfl hsize rfl rfl (rest := rest) rfl
    (by rw [hb]; exact d4) (by rw [hb]; exact d7) hout hRframes (by simp only [List.map_cons, List.sum_cons, hcat]; omega) hlocks
  obtain ⟨f1, f2⟩ := vx_frame hsame
  rw [hhp] at f1 f2
  have hWs : s.WarmedH U.vm := State.WarmedH.trans hW0 hW
  have hcl : s.vm.findClass cls = some ce.cls := by
    have h9 := hO.cls
    rw [hvm] at h9
    exact h9
  have hall : s.sameButNew ({ U with vm := s.vm } : State) locs mc ms := by
    subst hA
    obtain ⟨e1, e2⟩ := hsame
    rw [State.setFrames_setFrames] at e1
    have h2 : (T.setVm s.vm).sameButNew ({ U with vm := s.vm } : State) [] (0 + 1) (0 + 6) := ⟨e1, e2⟩
    have h3 := X.same.trans h2
    rw [List.append_nil] at h3
    exact h3.mono hc hs
  refine ⟨U, ?_, .threw T.heap.size, hrun, hend, Or.inr ⟨T.heap.size, rfl, cls, ce, locs, hx U hWs.alike f1 (fun q hq => f2 q hq (fun z hz => nomatch hz)), hce, hO.vm, hcl, hWs, hall, hf⟩⟩
  refine st1 _ ?_
  show Steps p.tables e below (T1.setTop { method := m, pc := pc + 3, locals := ls, stack := .ref T.heap.size :: rest, locked := none }) _
  jvm_step X₁.here [X₁.here.top, hexec, d3', Value.category]
  exact hsteps
/-- 'throw new E("text")': new; dup; ldc; invokespecial; athrow -/
theorem vx_throwS {cc : ByteArray} {pc : Nat} (hexec : p.tables.exec = Jvm.exec) (hb : c.code = cc) (hl : l.stackTraces = false) {own cls text : String} {names : List String} {ik is ic mc ms sa : Nat} {A : Nat → Prop}
    (hown : s.vm.findClass own = some m.cls) (hcls : Bundle.fit cls = true) (hnames : ∀ n ∈ names, Bundle.fit n = true)
    (hk : (Cond.classLink own ik cls).before args s = true) (hini : (Cond.initialized cls).before args s = true) (hstr : vk_R own is text sa s) (hat : ∀ w ∈ vx_atS own ic cls names, w.before args s = true)
    (hgood : ∀ w ∈ Cond.classLink own ik cls :: Cond.initialized cls :: vx_atS own ic cls names, vx_ot w = true)
    (hU : vx_Zq Bundle.tN "UNASSIGNED_STACK" Bundle.steD A s s.heap) (hN : vx_Zq Bundle.tN "SUPPRESSED_SENTINEL" Bundle.listD A s s.heap) (hS : va_S A s.heap H locs) (hsize : ls.size = c.maxLocals)
    (d0 : decode cc pc = .ok (.new ik, 3)) (d3 : decode cc (pc + 3) = .ok (.dup, 1)) (d4 : decode cc (pc + 4) = .ok (.ldc is, 2)) (d6 : decode cc (pc + 6) = .ok (.invokespecial ic, 3)) (d9 : decode cc (pc + 9) = .ok (.athrow, 1))
    (hout : ∀ x ∈ c.exceptionTable.toList, covers x (pc + 9) = false)
    (hRframes : names.length + 3 < R.frames) (hRlocals : (rest.map fun v => v.category).sum + (13 * (names.length + 1) + 43) ≤ R.locals) (hRcells : cells + 1 ≤ R.cells) (hRslots : slots + 6 ≤ R.slots) (hlocks : meth.locks = false)
    (hx : ∀ t : State, s.vm.Alike t.vm → H.size ≤ t.heap.size → (∀ q : Nat, q < H.size → t.heap[q]? = H[q]?) → XC cls s t)
    (hf : ∀ z ∈ locs, free z.base) (hc : cells + 1 ≤ mc) (hs : slots + 6 ≤ ms) :
    W p l e R s m args below meth c H locs cells slots (vx_MQ below Qc XC args s mc ms free) (F0 m pc ls rest) := by
  intro T hT X
  have htr : e.platform.stackTraces = false := (show e.platform.stackTraces = l.stackTraces by rw [X.admits.platform]).trans hl
  have Y := vx_rebase X (R' := { frames := R.frames, locals := R.locals, cells := 1, slots := 6 }) (Nat.le_refl _) (Nat.le_refl _) hRcells hRslots
  obtain ⟨s', hA⟩ : ∃ z, z = (T.setVm s.vm).setFrames (.invoking m args :: below) := ⟨_, rfl⟩
  rw [← hA] at Y
  have hvm : s'.vm = s.vm := by rw [hA]; rfl
  have hhp : s'.heap = H := by rw [hA]; exact hT
  have hW0 : s.WarmedH s'.vm := by rw [hvm]; exact State.WarmedH.refl s
  have hat' : ∀ w ∈ vx_atS own ic cls names, w.before args s' = true := fun w hw => vx_ot_at hW0 hvm.symm (hgood w (List.mem_cons_of_mem _ (List.mem_cons_of_mem _ hw))) (hat w hw)
  have hk' : (Cond.classLink own ik cls).before args s' = true := vx_ot_at hW0 hvm.symm (hgood _ List.mem_cons_self) hk
  have hini' : (Cond.initialized cls).before args s' = true := vx_ot_at hW0 hvm.symm (hgood _ (List.mem_cons_of_mem _ List.mem_cons_self)) hini
  have hU' : vx_Zq Bundle.tN "UNASSIGNED_STACK" Bundle.steD A s' s'.heap := by rw [hhp]; exact vx_Zq.moved hW0.alike (hU.kept hS.2.1)
  have hN' : vx_Zq Bundle.tN "SUPPRESSED_SENTINEL" Bundle.listD A s' s'.heap := by rw [hhp]; exact vx_Zq.moved hW0.alike (hN.kept hS.2.1)
  have h : ∀ w ∈ Bundle.ownAtoms own ic cls names, w.before args s' = true := vx_own hat' (vx_isRefq hU'.1) (vx_isRefq hN'.1) hU'.2.word hN'.2.word
  have hown' : s'.vm.findClass own = some m.cls := by rw [hvm]; exact hown
  have hins : (Cond.instantiable cls 6).before args s' = true := h _ (by simp [Bundle.ownAtoms])
  obtain ⟨vm₁, cX, kX, hfX, hkX, -, -, X₁, st1⟩ := Y.newCold hexec (own := own) (C := cls) (index := ik) (n := 6) hown' hk' hins hini'
    (g := F0 m pc ls rest) rfl (by rw [hb]; exact d0) (Nat.le_refl _) (Nat.le_refl _)
  generalize hT1 : (T.setVm vm₁).pushCell { cls := cX, slots := kX.instanceTypes.map defaultValue, vm := .none } = T1 at X₁ st1
  have hcat : (Value.ref T.heap.size).category = 1 := rfl
  have hcellA : T1.heap[T.heap.size]? = some (freshCell cX kX) := by rw [← hT1]; exact State.heap_pushCell_size _ _
  have d3' : decode c.code (pc + 3) = .ok (.dup, 1) := by rw [hb]; exact d3
  have d4' : decode c.code (pc + 4) = .ok (.ldc is, 2) := by rw [hb]; exact d4
  have hstr' : vk_R own is text sa s' := vk_R.warm hW0 hstr
  obtain ⟨U, hsteps, hrun, hend, hW, hsame, ce, hce, hO⟩ := X₁.ctorThrowS hexec htr (own := own) (cls := cls) (names := names) (ic := ic) hown' hcls hnames h (fun x hx => nomatch hx) hfX hkX hcellA (by rw [hhp, hT]; exact Nat.le_refl _) (msg := .ref sa) rfl
    (g := { method := m, pc := pc + 6, locals := ls, stack := .ref sa :: .ref T.heap.size :: .ref T.heap.size :: rest, locked := none }) rfl hsize rfl rfl (rest := rest) rfl
    (by rw [hb]; exact d6) (by rw [hb]; exact d9) hout hRframes (by simp only [List.map_cons, List.sum_cons, hcat]; omega) hlocks
  obtain ⟨f1, f2⟩ := vx_frame hsame
  rw [hhp] at f1 f2
  have hWs : s.WarmedH U.vm := State.WarmedH.trans hW0 hW
  have hcl : s.vm.findClass cls = some ce.cls := by
    have h9 := hO.cls
    rw [hvm] at h9
    exact h9
  have hall : s.sameButNew ({ U with vm := s.vm } : State) locs mc ms := by
    subst hA
    obtain ⟨e1, e2⟩ := hsame
    rw [State.setFrames_setFrames] at e1
    have h2 : (T.setVm s.vm).sameButNew ({ U with vm := s.vm } : State) [] (0 + 1) (0 + 6) := ⟨e1, e2⟩
    have h3 := X.same.trans h2
    rw [List.append_nil] at h3
    exact h3.mono hc hs
  refine ⟨U, ?_, .threw T.heap.size, hrun, hend, Or.inr ⟨T.heap.size, rfl, cls, ce, locs, hx U hWs.alike f1 (fun q hq => f2 q hq (fun z hz => nomatch hz)), hce, hO.vm, hcl, hWs, hall, hf⟩⟩
  refine st1 _ ?_
  show Steps p.tables e below (T1.setTop { method := m, pc := pc + 3, locals := ls, stack := .ref T.heap.size :: rest, locked := none }) _
  jvm_step X₁.here [X₁.here.top, hexec, d3', Value.category]
  exact X₁.ldcString hexec (own := own) (text := text) (index := is) (a := sa) hown' hstr'.1 hstr'.2
    (g := { method := m, pc := pc + 4, locals := ls, stack := .ref T.heap.size :: .ref T.heap.size :: rest, locked := none }) rfl d4' _ hsteps
/-- 'throw new E("text")', the text by a wide index -/
theorem vx_throwSW {cc : ByteArray} {pc : Nat} (hexec : p.tables.exec = Jvm.exec) (hb : c.code = cc) (hl : l.stackTraces = false) {own cls text : String} {names : List String} {ik is ic mc ms sa : Nat} {A : Nat → Prop}
    (hown : s.vm.findClass own = some m.cls) (hcls : Bundle.fit cls = true) (hnames : ∀ n ∈ names, Bundle.fit n = true)
    (hk : (Cond.classLink own ik cls).before args s = true) (hini : (Cond.initialized cls).before args s = true) (hstr : vk_R own is text sa s) (hat : ∀ w ∈ vx_atS own ic cls names, w.before args s = true)
    (hgood : ∀ w ∈ Cond.classLink own ik cls :: Cond.initialized cls :: vx_atS own ic cls names, vx_ot w = true)
    (hU : vx_Zq Bundle.tN "UNASSIGNED_STACK" Bundle.steD A s s.heap) (hN : vx_Zq Bundle.tN "SUPPRESSED_SENTINEL" Bundle.listD A s s.heap) (hS : va_S A s.heap H locs) (hsize : ls.size = c.maxLocals)
    (d0 : decode cc pc = .ok (.new ik, 3)) (d3 : decode cc (pc + 3) = .ok (.dup, 1)) (d4 : decode cc (pc + 4) = .ok (.ldc_w is, 3)) (d7 : decode cc (pc + 7) = .ok (.invokespecial ic, 3)) (d10 : decode cc (pc + 10) = .ok (.athrow, 1))
    (hout : ∀ x ∈ c.exceptionTable.toList, covers x (pc + 10) = false)
    (hRframes : names.length + 3 < R.frames) (hRlocals : (rest.map fun v => v.category).sum + (13 * (names.length + 1) + 43) ≤ R.locals) (hRcells : cells + 1 ≤ R.cells) (hRslots : slots + 6 ≤ R.slots) (hlocks : meth.locks = false)
    (hx : ∀ t : State, s.vm.Alike t.vm → H.size ≤ t.heap.size → (∀ q : Nat, q < H.size → t.heap[q]? = H[q]?) → XC cls s t)
    (hf : ∀ z ∈ locs, free z.base) (hc : cells + 1 ≤ mc) (hs : slots + 6 ≤ ms) :
    W p l e R s m args below meth c H locs cells slots (vx_MQ below Qc XC args s mc ms free) (F0 m pc ls rest) := by
  intro T hT X
  have htr : e.platform.stackTraces = false := (show e.platform.stackTraces = l.stackTraces by rw [X.admits.platform]).trans hl
  have Y := vx_rebase X (R' := { frames := R.frames, locals := R.locals, cells := 1, slots := 6 }) (Nat.le_refl _) (Nat.le_refl _) hRcells hRslots
  obtain ⟨s', hA⟩ : ∃ z, z = (T.setVm s.vm).setFrames (.invoking m args :: below) := ⟨_, rfl⟩
  rw [← hA] at Y
  have hvm : s'.vm = s.vm := by rw [hA]; rfl
  have hhp : s'.heap = H := by rw [hA]; exact hT
  have hW0 : s.WarmedH s'.vm := by rw [hvm]; exact State.WarmedH.refl s
  have hat' : ∀ w ∈ vx_atS own ic cls names, w.before args s' = true := fun w hw => vx_ot_at hW0 hvm.symm (hgood w (List.mem_cons_of_mem _ (List.mem_cons_of_mem _ hw))) (hat w hw)
  have hk' : (Cond.classLink own ik cls).before args s' = true := vx_ot_at hW0 hvm.symm (hgood _ List.mem_cons_self) hk
  have hini' : (Cond.initialized cls).before args s' = true := vx_ot_at hW0 hvm.symm (hgood _ (List.mem_cons_of_mem _ List.mem_cons_self)) hini
  have hU' : vx_Zq Bundle.tN "UNASSIGNED_STACK" Bundle.steD A s' s'.heap := by rw [hhp]; exact vx_Zq.moved hW0.alike (hU.kept hS.2.1)
  have hN' : vx_Zq Bundle.tN "SUPPRESSED_SENTINEL" Bundle.listD A s' s'.heap := by rw [hhp]; exact vx_Zq.moved hW0.alike (hN.kept hS.2.1)
  have h : ∀ w ∈ Bundle.ownAtoms own ic cls names, w.before args s' = true := vx_own hat' (vx_isRefq hU'.1) (vx_isRefq hN'.1) hU'.2.word hN'.2.word
  have hown' : s'.vm.findClass own = some m.cls := by rw [hvm]; exact hown
  have hins : (Cond.instantiable cls 6).before args s' = true := h _ (by simp [Bundle.ownAtoms])
  obtain ⟨vm₁, cX, kX, hfX, hkX, -, -, X₁, st1⟩ := Y.newCold hexec (own := own) (C := cls) (index := ik) (n := 6) hown' hk' hins hini'
    (g := F0 m pc ls rest) rfl (by rw [hb]; exact d0) (Nat.le_refl _) (Nat.le_refl _)
  generalize hT1 : (T.setVm vm₁).pushCell { cls := cX, slots := kX.instanceTypes.map defaultValue, vm := .none } = T1 at X₁ st1
  have hcat : (Value.ref T.heap.size).category = 1 := rfl
  have hcellA : T1.heap[T.heap.size]? = some (freshCell cX kX) := by rw [← hT1]; exact State.heap_pushCell_size _ _
  have d3' : decode c.code (pc + 3) = .ok (.dup, 1) := by rw [hb]; exact d3
  have d4' : decode c.code (pc + 4) = .ok (.ldc_w is, 3) := by rw [hb]; exact d4
  have hstr' : vk_R own is text sa s' := vk_R.warm hW0 hstr
  obtain ⟨U, hsteps, hrun, hend, hW, hsame, ce, hce, hO⟩ := X₁.ctorThrowS hexec htr (own := own) (cls := cls) (names := names) (ic := ic) hown' hcls hnames h (fun x hx => nomatch hx) hfX hkX hcellA (by rw [hhp, hT]; exact Nat.le_refl _) (msg := .ref sa) rfl
    (g := { method := m, pc := pc + 7, locals := ls, stack := .ref sa :: .ref T.heap.size :: .ref T.heap.size :: rest, locked := none }) rfl hsize rfl rfl (rest := rest) rfl
    (by rw [hb]; exact d7) (by rw [hb]; exact d10) hout hRframes (by simp only [List.map_cons, List.sum_cons, hcat]; omega) hlocks
  obtain ⟨f1, f2⟩ := vx_frame hsame
  rw [hhp] at f1 f2
  have hWs : s.WarmedH U.vm := State.WarmedH.trans hW0 hW
  have hcl : s.vm.findClass cls = some ce.cls := by
    have h9 := hO.cls
    rw [hvm] at h9
    exact h9
  have hall : s.sameButNew ({ U with vm := s.vm } : State) locs mc ms := by
    subst hA
    obtain ⟨e1, e2⟩ := hsame
    rw [State.setFrames_setFrames] at e1
    have h2 : (T.setVm s.vm).sameButNew ({ U with vm := s.vm } : State) [] (0 + 1) (0 + 6) := ⟨e1, e2⟩
    have h3 := X.same.trans h2
    rw [List.append_nil] at h3
    exact h3.mono hc hs
  refine ⟨U, ?_, .threw T.heap.size, hrun, hend, Or.inr ⟨T.heap.size, rfl, cls, ce, locs, hx U hWs.alike f1 (fun q hq => f2 q hq (fun z hz => nomatch hz)), hce, hO.vm, hcl, hWs, hall, hf⟩⟩
  refine st1 _ ?_
  show Steps p.tables e below (T1.setTop { method := m, pc := pc + 3, locals := ls, stack := .ref T.heap.size :: rest, locked := none }) _
  jvm_step X₁.here [X₁.here.top, hexec, d3', Value.category]
  exact X₁.ldcStringW hexec (own := own) (text := text) (index := is) (a := sa) hown' hstr'.1 hstr'.2
    (g := { method := m, pc := pc + 4, locals := ls, stack := .ref T.heap.size :: .ref T.heap.size :: rest, locked := none }) rfl d4' _ hsteps
end Ends
section Bodies
variable {l : Launch}
theorem vx_ofW {y : MethodName} {ws ws' : List Cond} {rm : Room} {Pc : Array Value → State → Prop} {Qc : Array Value → State → Outcome → State → Prop} {XC : String → State → State → Prop} {mc ms : Nat} {free : Addr → Prop} {cc : ByteArray} {maxL : Nat} {ret : Option FieldType}
    (hy : plainName y.cls = true) (hw : ws = Cond.code y cc maxL ret :: ws')
    (body : ∀ p e s m args below meth c s₁, BodyLoose p l y (headSpec ws rm) cc maxL ret e s m args below meth c s₁ → c.maxLocals = maxL → (∀ x ∈ c.exceptionTable.toList, False) → Pc args s →
      W p l e (headSpec ws rm).room s m args below meth c s.heap [] 0 0 (vx_MQ below Qc XC args s mc ms free) (entryFrame m args maxL)) : vx_Met l y ws rm Pc Qc XC mc ms free := by
  refine MetFree.of_bodyS (code := cc) (maxLocals := maxL) (ret := ret) hy ?_ ?_
  · intro args s m h hn
    obtain ⟨meth, c, h1, h2, h3, h4, h5, h6, -, -⟩ := Cond.code_spec hn (atoms_spec (ws := ws) h _ (by rw [hw]; exact List.mem_cons_self))
    exact ⟨meth, c, h1, h2, h3, h4, h5, h6⟩
  · intro p e s m args below meth c s₁ B hml hP _
    have hh0 : s₁.heap = s.heap := by rw [B.state]; rfl
    have ht : ∀ x ∈ c.exceptionTable.toList, False := by
      obtain ⟨meth9, c9, h1, h2, -, -, -, -, h7, -⟩ := Cond.code_spec B.named (atoms_spec (ws := ws) B.pre _ (by rw [hw]; exact List.mem_cons_self))
      cases Option.some.inj (h1.symm.trans B.method)
      cases Option.some.inj (h2.symm.trans (Stand.of_body B).code)
      intro x hx
      rw [Array.isEmpty_iff.mp h7] at hx
      cases hx
    obtain ⟨t, a1, o, b1, b2, b3⟩ := body p e s m args below meth c s₁ B hml ht hP s₁ hh0 (Stand.of_body B)
    exact ⟨t, o, a1, b1, b2, b3⟩
/-- the table of a body with handlers -/
theorem vx_table {p : Program} {x y : MethodName} {S : Spec} {cc bytes : ByteArray} {maxL maxL' : Nat} {ret ret' : Option FieldType} {e : Env} {s s₁ : State} {m : MethodId} {args : Array Value} {below : List Frame} {meth : Method} {c : Code} {hh : List (Nat × Nat × Nat × Nat)}
    (B : BodyLoose p l y S cc maxL ret e s m args below meth c s₁) (h : (Cond.codeWith y bytes maxL' ret' hh).before args s = true) : c.exceptionTable.toList = tableOf hh := by
  obtain ⟨m9, meth9, c9, hn9, h1, h2, -, -, h6, -⟩ := Cond.codeWith_spec h
  cases Option.some.inj (hn9.symm.trans B.named)
  cases Option.some.inj (h1.symm.trans B.method)
  cases Option.some.inj (h2.symm.trans (Stand.of_body B).code)
  rw [← h6, table_eq]
end Bodies
end VXA
/-! ===== END ===== -/
/-! ===== BEGIN a static call of a method with an exception table ===== -/
section VXS
variable {p : Program} {l : Launch} {e : Env} {R : Room} {s : State} {m : MethodId} {args : Array Value} {below : List Frame} {meth : Method} {c : Code} {T : State} {H : Heap} {locs : List Loc} {cells slots : Nat}
abbrev vx_CSW (R : Room) (s : State) (args : Array Value) (own : String) (index : Nat) (y : MethodName) (bytes : ByteArray) (maxL : Nat) (ret : Option FieldType) (hh : List (Nat × Nat × Nat × Nat)) (ws : List Cond) (rm : Room) (mc ms n : Nat) : Prop :=
  (rm.cells = mc ∧ rm.slots = ms ∧ rm.frames + 1 ≤ R.frames ∧ 8 + (maxL + 11) + rm.locals ≤ R.locals ∧ (∀ w ∈ ws, ∀ (a' : Array Value) (U : State), s.WarmedH U.vm → w.before a' U = true) ∧ Cond.codeWith y bytes maxL ret hh ∈ ws) ∧
  (Cond.codeWith y bytes maxL ret hh).before args s = true ∧ (Cond.initialized y.cls).before args s = true ∧ (y.cls ≠ "java/lang/invoke/MethodHandle" ∧ y.cls ≠ "java/lang/invoke/VarHandle") ∧
  (∀ sig, parseMethodDescriptor y.desc = some sig → n = sig.parameters.length) ∧ (Cond.methodLink own index y).before args s = true ∧ (Cond.static y).before args s = true
theorem vx_cwSW {own : String} {index maxL mc ms : Nat} {y : MethodName} {bytes : ByteArray} {ret : Option FieldType} {hh : List (Nat × Nat × Nat × Nat)} {Ts ws ws' : List Cond} {rm : Room} (n : Nat) (ht : ∀ w ∈ Ts, w.before args s = true) (hT : GoodIn Ts (va_wsS own index y ws)) (hw : ws = Cond.codeWith y bytes maxL ret hh :: ws') (hrc : rm.cells = mc) (hrs : rm.slots = ms)
    (hd : y.cls ≠ "java/lang/invoke/MethodHandle" ∧ y.cls ≠ "java/lang/invoke/VarHandle" ∧ (parseMethodDescriptor y.desc).map (fun d => d.parameters.length) = some n) (hR : rm.frames + 1 ≤ R.frames ∧ 8 + (maxL + 11) + rm.locals ≤ R.locals) :
    vx_CSW R s args own index y bytes maxL ret hh ws rm mc ms n := by
  have ok : ∀ w ∈ va_wsS own index y ws, w.before args s = true := fun w h => ht w (hT w h).1
  have hG : GoodIn Ts ws := fun w h => hT w (by unfold va_wsS; exact List.mem_append_right _ h)
  have hc : Cond.codeWith y bytes maxL ret hh ∈ ws := by rw [hw]; exact List.mem_cons_self
  refine ⟨⟨hrc, hrs, hR.1, hR.2, pay_in ht hG, hc⟩, ht _ (hG _ hc).1, ok _ (by simp [va_wsS]), ⟨hd.1, hd.2.1⟩, fun sig h => ?_, ok _ (by simp [va_wsS]), ok _ (by simp [va_wsS])⟩
  have h2 := hd.2.2
  rw [h] at h2
  exact (Option.some.inj h2).symm
theorem vx_callSW (X : Stand p l e R s m args below meth c T locs cells slots) (hexec : p.tables.exec = Jvm.exec) {own : String} {index : Nat} {y : MethodName} {bytes : ByteArray} {maxL : Nat} {ret : Option FieldType} {hh : List (Nat × Nat × Nat × Nat)}
    (hown : s.vm.findClass own = some m.cls) (hlink : (Cond.methodLink own index y).before args s = true) (hstat : (Cond.static y).before args s = true) (hinit : (Cond.initialized y.cls).before args s = true)
    (hcode : (Cond.codeWith y bytes maxL ret hh).before args s = true) (hy : y.cls ≠ "java/lang/invoke/MethodHandle" ∧ y.cls ≠ "java/lang/invoke/VarHandle")
    {W9 : Nat} {Pre : Pt → Array Value → Prop} {Post : Pt → Array Value → Option Value → Pt → Prop} (hK : Back l R p e below s args y 3 W9 Pre Post)
    {g : JFrame} (hg : g.method = m) (hsize : g.locals.size = c.maxLocals) {argsL rest : List Value} (hlen : ∀ sig, parseMethodDescriptor y.desc = some sig → argsL.length = sig.parameters.length)
    (hstack : g.stack = argsL.reverse ++ rest) (hW : 2 * g.monitorRoom + (rest.map fun v => v.category).sum ≤ W9) (hdg : decode c.code g.pc = .ok (.invokestatic index, 3))
    (hpre : ∀ vm₁, s.WarmedH vm₁ → Pre ⟨T.setVm vm₁, locs, cells, slots⟩ argsL.toArray) :
    ∃ (v : Option Value) (vm₁ : Vm) (B : Pt), s.WarmedH vm₁ ∧ Stand p l e R s m args below meth c B.U B.locs B.cells B.slots ∧ Post ⟨T.setVm vm₁, locs, cells, slots⟩ argsL.toArray v B ∧
      ∀ target, Steps p.tables e below (B.U.setTop { g with pc := g.pc + 3, stack := v.toList ++ rest }) target → Steps p.tables e below (T.setTop g) target := by
  obtain ⟨mk, methM, cM, hnamed, hmethM, -, -, -, -, -, -, hsigM⟩ := Cond.codeWith_spec hcode
  have hstatic : methM.isStatic = true := Cond.static_spec hnamed hmethM hstat
  obtain ⟨kP, hkP, -⟩ := className_of_methodNamed hnamed
  have hinitP : kP.init = .initialized := Cond.initialized_spec (findClass_of_methodNamed hnamed) hkP hinit
  obtain ⟨vm₁, X₁, hstep₁⟩ := X.invokestatic hexec hown hlink hnamed hmethM hstatic hkP hinitP hy (g := g) hg (argsL := argsL) (rest := rest) (hlen _ hsigM) hstack hdg
  obtain ⟨v, B, X', hpost, hsteps⟩ := hK m meth c ⟨T.setVm vm₁, locs, cells, slots⟩ { g with stack := rest } (.invokestatic index) mk argsL.toArray X₁ hg hsize hdg hW (X₁.named hnamed) (hpre vm₁ X₁.warmed)
  exact ⟨v, vm₁, B, X₁.warmed, X', hpost, fun target h => hstep₁ _ fun acts => by rw [doInvoke_state]; exact hsteps.trans h⟩
theorem vx_runSW {y : MethodName} {bytes cc : ByteArray} {maxL nL mc ms n index : Nat} {ret : Option FieldType} {hh : List (Nat × Nat × Nat × Nat)} {ws : List Cond} {rm : Room} {Pc : Array Value → State → Prop} {Qc : Array Value → State → Outcome → State → Prop} {free : Addr → Prop} {Ts : List Cond} {own : String} {As rest : List Value} {g : JFrame}
    (S : CallFix p m c cc nL s args Ts own) (hM : Met l y ws rm Pc Qc mc ms free) (cw : vx_CSW R s args own index y bytes maxL ret hh ws rm mc ms n) (hp : PreS s H Pc As)
    (hg : g.method = m) (hn : As.length = n) (hsize : g.locals.size = nL) (hstack : g.stack = As.reverse ++ rest) (hW : 2 * g.monitorRoom + (rest.map fun v => v.category).sum ≤ 8) (hdg : decode cc g.pc = .ok (.invokestatic index, 3)) (hf : cells + mc ≤ R.cells ∧ slots + ms ≤ R.slots) :
    va_Run p l e R s m args below meth c H locs cells slots mc ms g rest (Qc As.toArray) (free) := by
  obtain ⟨⟨hrc, hrs, hfr, hlo, hws, hcw⟩, hcode, hini, hy, hlen, hl, hstt⟩ := cw
  have hK : Back l R p e below s args y 3 8 (PreOf R mc ms Pc) (PostOf Qc mc ms free) := va_backW (hh := hh) (bytes := bytes) (maxL := maxL) (ret := ret) hM hp.1 hrc hrs hfr hlo hws hcw (fun a' U hW => word_at hW (Or.inl (by first | rfl | simp [Cond.onTables, Cond.keeps, Cond.steady])) hini)
  obtain ⟨hx, hb, hml, ho, -⟩ := S
  intro T hT X
  obtain ⟨v, vm₁, ⟨U', l2, c2, s2⟩, hW₁, X', ⟨g', mk, t, L, e1, e2, hq, h1, hL, h2, h3⟩, st⟩ := vx_callSW X hx (hh := hh) (bytes := bytes) (maxL := maxL) (ret := ret) ho hl hstt hini hcode hy hK hg (hsize.trans hml.symm) (argsL := As) (rest := rest) (fun sig h => hn.trans (hlen sig h)) hstack hW (by rw [hb]; exact hdg)
    (fun vm₁ hW₁ => ⟨hf.1, hf.2, hp.2 (T.setVm vm₁) hT hW₁⟩)
  dsimp only [Pt.U, Pt.locs, Pt.cells, Pt.slots] at X' e1 e2 h1 h2 h3 st
  subst h1; subst h2; subst h3
  exact ⟨v, (T.setVm vm₁).calling g' mk As.toArray, t, U', L, hT, X', hL, e1, e2, hq, st⟩
/-- not caught here, past rows that name other classes: it goes on to the caller -/
theorem vx_outP {p : Program} {l : Launch} {e : Env} {R : Room} {s : State} {m : MethodId} {args : Array Value} {below : List Frame} {meth : Method} {c : Code} {H : Heap} {locs : List Loc} {cells slots : Nat} {free : Addr → Prop} {ls : Array Slot} {rest : List Value} {Qc : Array Value → State → Outcome → State → Prop} {XC : String → State → State → Prop}
    {pc : Nat} {own E : String} {ce : Cell} {q : Addr} {mc ms : Nat} (hown : s.vm.findClass own = some m.cls) (hlocks : meth.locks = false)
    (hpass : ∀ z ∈ c.exceptionTable.toList, covers z pc = false ∨ (z.catchType ≠ 0 ∧ ∃ nm : String, (Cond.classLink own z.catchType nm).before args s = true ∧ va_Nc E nm s)) (hcell : H[q]? = some ce) (hv : ce.vm = .none) (hcl : s.vm.findClass E = some ce.cls)
    (hx : ∀ t : State, t.heap = H → s.vm.Alike t.vm → XC E s t) (hf : ∀ z ∈ locs, free z.base) (hc : cells ≤ mc) (hs : slots ≤ ms) :
    vx_W p l e R s m args below meth c H locs cells slots (vx_MQ below Qc XC args s mc ms free) (F0 m pc ls rest) q := by
  intro T hT X
  have hpl : e.platform.magicAccessors = ({} : Platform).magicAccessors := by rw [X.admits.platform]
  obtain ⟨vm', hW', X', st⟩ := X.outThrough hlocks q (g := F0 m pc ls rest) rfl rfl rfl (cell := ce) (by rw [hT]; exact hcell) (by rw [hv]; rfl)
    (by obtain ⟨k9, h9, -⟩ := Vm.findClass_spec hcl; exact ⟨k9, h9⟩) (fun z hz => by
      rcases hpass z hz with h | ⟨hz0, nm, hl1, hn1⟩
      · exact Or.inl h
      · obtain ⟨c6, hc6, hcl6⟩ := Cond.classLink_spec hown hl1 e.platform hpl
        obtain ⟨a8, b8, h1, h2, h3⟩ := hn1
        cases Option.some.inj (h1.symm.trans hcl)
        cases Option.some.inj (h2.symm.trans hc6)
        exact Or.inr ⟨hz0, _, hcl6, h3⟩)
  obtain ⟨g₀, hfr⟩ := X'.frames_eq
  have hcell9 : ((T.setVm vm').setFrames (.throwing q :: below)).heap[q]? = some ce := by
    show T.heap[q]? = some ce
    rw [hT]; exact hcell
  have hend : Ended ((T.setVm vm').setFrames (.throwing q :: below)) below (.threw q) := State.frames_setFrames _ (State.cur_lt_of_frames hfr)
  refine ⟨(T.setVm vm').setFrames (.throwing q :: below), ?_, .threw q, X'.here.running, hend, Or.inr ⟨q, rfl, E, ce, locs, hx _ hT (X'.ends _).1.alike, hcell9, hv, hcl, (X'.ends _).1, (X'.ends _).2.mono hc hs, hf⟩⟩
  rw [X.pushThrowing_eq]
  exact st
/-- a thing of a world lies in the heap -/
theorem vx_lt {D : va_G} {cl : List vw_C} {ws : va_W} {H1 : Heap} (h : va_P D cl ws H1) {k : Nat} {q : Nat × va_E} (hk : ws[k]? = some q) : q.1 < H1.size := (h k q hk).lt
end VXS
/-! ===== END ===== -/
/-! ===== BEGIN methods with a table of their own: called by a name, returning or throwing ===== -/
section VXH
/-! vx_backW, vx_callVX, vx_callSX, vx_callVW, vx_runVW, vx_runVX, vx_runSX, vx_ofWH follow the same proofs as their sisters above (Free/Laws.lean, Shelf42/LK1.lean); vx_outP calls Shelf42/NT130.lean (outThrough). -/
section
variable {l : Launch} {R : Room} {p : Program} {e : Env} {below : List Frame} {s : State} {sargs : Array Value} {y : MethodName} {len W9 : Nat}
theorem vx_backW {ws : List Cond} {rm : Room} {Pc : Array Value → State → Prop} {Qc : Array Value → State → Outcome → State → Prop} {XC : String → State → State → Prop} {mc ms : Nat} {free : Addr → Prop} {bytes : ByteArray} {maxL : Nat} {ret : Option FieldType} {hh : List (Nat × Nat × Nat × Nat)}
    (hM : vx_Met l y ws rm Pc Qc XC mc ms free) (hblind : FrameBlind Pc) (hrc : rm.cells = mc) (hrs : rm.slots = ms)
    (hframes : rm.frames + 1 ≤ R.frames) (hlocals : W9 + (maxL + 11) + rm.locals ≤ R.locals)
    (hws : ∀ w ∈ ws, ∀ a' U, s.WarmedH U.vm → w.before a' U = true) (hcode : Cond.codeWith y bytes maxL ret hh ∈ ws) (hinit : ∀ a' U, s.WarmedH U.vm → (Cond.initialized y.cls).before a' U = true) :
    vx_Back l R p e below s sargs y len W9 (PreOf R mc ms Pc) (PostOf Qc mc ms free) (vx_Post XC mc ms free) := by
  intro m meth c A g ig mk a X hg hsize hdg hW hn hp
  have h1 : (headSpec ws rm).pre.before a A.U = true := atoms_intro fun w hw => hws w hw _ _ X.warmed
  have h2 : (Cond.codeWith y bytes maxL ret hh).before a A.U = true := hws _ hcode _ _ X.warmed
  have h3 : (Cond.initialized y.cls).before a A.U = true := hinit _ _ X.warmed
  have h4 : A.cells + (headSpec ws rm).room.cells ≤ R.cells := by rw [show (headSpec ws rm).room.cells = mc from hrc]; exact hp.1
  have h5 : A.slots + (headSpec ws rm).room.slots ≤ R.slots := by rw [show (headSpec ws rm).room.slots = ms from hrs]; exact hp.2.1
  have hPc : Pc a (A.U.calling g mk a) := hblind _ _ _ _ hp.2.2
  obtain ⟨U, Ls, c0, s0⟩ := A
  dsimp only [Pt.U, Pt.locs, Pt.cells, Pt.slots] at h1 h2 h3 h4 h5 X hn hPc ⊢
  obtain ⟨m9, methY, cY, hn9, hmY, hcY, -, hlY, -⟩ := Cond.codeWith_spec h2
  cases Option.some.inj (hn9.symm.trans hn)
  obtain ⟨kY, hkY, -⟩ := className_of_methodNamed hn
  have hinitY : kY.init = .initialized := Cond.initialized_spec (findClass_of_methodNamed hn) hkY h3
  have h : At U g.method c below := by rw [hg]; exact X.here
  have hlocals9 : W9 + (maxL + 11) + (headSpec ws rm).room.locals ≤ R.locals := hlocals
  have happ : (headSpec ws rm).appliesLoose y e.platform (U.calling g mk a) = true :=
    Spec.appliesLoose_calling (g := g) h hdg hn hkY hinitY
      (X.room_calling (g := g) (R' := (headSpec ws rm).room) hsize hmY hcY hframes (by rw [hlY]; omega) h4 h5) h1
  obtain ⟨mid, hmid⟩ := h.above
  have hfr : (U.setTop g).frames = (.java g :: mid) ++ below := by rw [State.frames_setTop' g h.top, hmid]; rfl
  obtain ⟨o, s₂, hsteps, -, hend, hq⟩ := Steps.callFree hM p X.admits X.cas X.clock (acts := []) hfr happ hPc trivial
  have hq' : vx_Q Qc XC mc ms free a (U.calling g mk a) o s₂ := hq
  rw [State.frames_setTop' g h.top] at hend
  obtain ⟨g₀, hg0⟩ := Option.isSome_iff_exists.mp h.top
  obtain ⟨r, hr⟩ := State.topJava?_eq_some.mp hg0
  have hr' : (({ U with heap := s₂.heap, slotsUsed := s₂.slotsUsed } : State).setVm s₂.vm).frames = .java g₀ :: r := hr
  rcases hq' with ⟨hqc, L, hfe, hL⟩ | ⟨q, rfl, E, ce, L, hx, hce, hcv, hcl, hW₂, hsm, hL⟩
  · obtain ⟨⟨v, rfl⟩, hW₂, e2, q2, q3, q4, q5, q6⟩ := id hfe
    have e3 : s₂ = ({ (U.calling g mk a).setFrames s₂.frames with heap := s₂.heap, slotsUsed := s₂.slotsUsed } : State).setVm s₂.vm := by
      have : s₂ = ({ s₂ with vm := (U.calling g mk a).vm } : State).setVm s₂.vm := rfl
      rw [e2] at this
      exact this
    obtain ⟨c₂, i₂, len₂, hc₂, hd₂, hf₂⟩ := hend
    have hW' : U.WarmedH s₂.vm := hW₂
    have hcc : c₂ = c := by
      have h1 : s₂.code? g.method = U.code? g.method := by
        rw [State.code?_eq, State.code?_eq, hW'.alike.method?]
      exact Option.some.inj (hc₂.symm.trans (h1.trans h.code))
    subst hcc
    have hlen : len₂ = len := by rw [hdg] at hd₂; cases hd₂; rfl
    subst hlen
    have hs₂ : s₂ = (({ U with heap := s₂.heap, slotsUsed := s₂.slotsUsed } : State).setVm s₂.vm).setTop { g with pc := g.pc + len₂, stack := v.toList ++ g.stack } := by
      refine e3.trans ?_
      rw [hf₂, State.calling_eq h.top, State.setFrames_setFrames, State.setTop_of_frames _ hr', hr]
      rfl
    have hsame : U.sameButNew ({ U with heap := s₂.heap, slotsUsed := s₂.slotsUsed } : State) L mc ms := by
      refine ⟨?_, q2, q3, q4, q5, q6⟩
      obtain ⟨t, ht, -⟩ := State.frames_cons hr
      show ({ U with heap := s₂.heap, slotsUsed := s₂.slotsUsed } : State) = { U.setFrames U.frames with heap := s₂.heap, slotsUsed := s₂.slotsUsed }
      rw [State.setFrames_self ht]
    subst hg
    refine Or.inl ⟨v, ⟨(({ U with heap := s₂.heap, slotsUsed := s₂.slotsUsed } : State).setVm s₂.vm), Ls ++ L, c0 + mc, s0 + ms⟩,
      ⟨X.admits, X.cas, X.clock, X.frames, X.room, X.hears, X.method, X.code, (X.here.setHeapUsed s₂.heap s₂.slotsUsed).setVm hW'.alike, X.tail, State.WarmedH.trans X.warmed hW', X.limits, X.bytes, X.same.trans (hsame.setVm s.vm)⟩,
      ⟨g, mk, s₂, L, rfl, rfl, hqc, rfl, hL, rfl, rfl⟩, ?_⟩
    show Steps p.tables e below _ ((({ U with heap := s₂.heap, slotsUsed := s₂.slotsUsed } : State).setVm s₂.vm).setTop { g with pc := g.pc + len₂, stack := v.toList ++ g.stack })
    rw [← hs₂]
    exact hsteps
  · obtain ⟨e2, q2, q3, q4, q5, q6⟩ := id hsm
    have e3 : s₂ = ({ (U.calling g mk a).setFrames s₂.frames with heap := s₂.heap, slotsUsed := s₂.slotsUsed } : State).setVm s₂.vm := by
      have : s₂ = ({ s₂ with vm := (U.calling g mk a).vm } : State).setVm s₂.vm := rfl
      rw [e2] at this
      exact this
    have hf₂ : s₂.frames = .throwing q :: .java g :: U.frames.tail := hend
    have hW' : U.WarmedH s₂.vm := hW₂
    have hs₂ : s₂ = ((({ U with heap := s₂.heap, slotsUsed := s₂.slotsUsed } : State).setVm s₂.vm).setTop g).pushFrame (.throwing q) := by
      refine e3.trans ?_
      rw [hf₂, State.calling_eq h.top, State.setFrames_setFrames, State.pushFrame, State.frames_setTop _ hr', State.setTop_of_frames _ hr', State.setFrames_setFrames, hr]
      rfl
    have hsame : U.sameButNew ({ U with heap := s₂.heap, slotsUsed := s₂.slotsUsed } : State) L mc ms := by
      refine ⟨?_, q2, q3, q4, q5, q6⟩
      obtain ⟨t, ht, -⟩ := State.frames_cons hr
      show ({ U with heap := s₂.heap, slotsUsed := s₂.slotsUsed } : State) = { U.setFrames U.frames with heap := s₂.heap, slotsUsed := s₂.slotsUsed }
      rw [State.setFrames_self ht]
    subst hg
    refine Or.inr ⟨q, ⟨(({ U with heap := s₂.heap, slotsUsed := s₂.slotsUsed } : State).setVm s₂.vm), Ls ++ L, c0 + mc, s0 + ms⟩,
      ⟨X.admits, X.cas, X.clock, X.frames, X.room, X.hears, X.method, X.code, (X.here.setHeapUsed s₂.heap s₂.slotsUsed).setVm hW'.alike, X.tail, State.WarmedH.trans X.warmed hW', X.limits, X.bytes, X.same.trans (hsame.setVm s.vm)⟩,
      ⟨g, mk, s₂, L, E, ce, rfl, rfl, hx, hce, hcv, hcl, rfl, hL, rfl, rfl⟩, ?_⟩
    show Steps p.tables e below _ (((({ U with heap := s₂.heap, slotsUsed := s₂.slotsUsed } : State).setVm s₂.vm).setTop g).pushFrame (.throwing q))
    rw [← hs₂]
    exact hsteps
end
variable {p : Program} {l : Launch} {e : Env} {R : Room} {s : State} {m : MethodId} {args : Array Value} {below : List Frame} {meth : Method} {c : Code} {T : State} {H : Heap} {locs : List Loc} {cells slots : Nat}
theorem vx_callVX (X : Stand p l e R s m args below meth c T locs cells slots) (hexec : p.tables.exec = Jvm.exec) {own C : String} {index : Nat} {y : MethodName} {bytes : ByteArray} {maxL : Nat} {ret : Option FieldType} {hh : List (Nat × Nat × Nat × Nat)}
    (hown : s.vm.findClass own = some m.cls) (hlink : (Cond.methodLink own index y).before args s = true) (hinst : (Cond.instanceMethod y).before args s = true) (hsel : (Cond.selects C y y).before args s = true)
    (hcode : (Cond.codeWith y bytes maxL ret hh).before args s = true) (hy : y.cls ≠ "java/lang/invoke/MethodHandle" ∧ y.cls ≠ "java/lang/invoke/VarHandle")
    {W9 : Nat} {Pre : Pt → Array Value → Prop} {Post : Pt → Array Value → Option Value → Pt → Prop} {PostX : Pt → Array Value → Addr → Pt → Prop} (hK : vx_Back l R p e below s args y 3 W9 Pre Post PostX)
    {b : Addr} {cellB : Cell} (hcell : T.heap[b]? = some cellB) (hobj : cellB.vm.isStatics = false) (hcls : s.vm.findClass C = some cellB.cls)
    {g : JFrame} (hg : g.method = m) (hsize : g.locals.size = c.maxLocals) {argsL rest : List Value} (hlen : ∀ sig, parseMethodDescriptor y.desc = some sig → argsL.length = sig.parameters.length)
    (hstack : g.stack = argsL.reverse ++ .ref b :: rest) (hW : 2 * g.monitorRoom + (rest.map fun v => v.category).sum ≤ W9) (hdg : decode c.code g.pc = .ok (.invokevirtual index, 3))
    (hpre : ∀ vm₁, s.WarmedH vm₁ → Pre ⟨T.setVm vm₁, locs, cells, slots⟩ (Value.ref b :: argsL).toArray) :
    (∃ (v : Option Value) (vm₁ : Vm) (B : Pt), s.WarmedH vm₁ ∧ Stand p l e R s m args below meth c B.U B.locs B.cells B.slots ∧ Post ⟨T.setVm vm₁, locs, cells, slots⟩ (Value.ref b :: argsL).toArray v B ∧
      ∀ target, Steps p.tables e below (B.U.setTop { g with pc := g.pc + 3, stack := v.toList ++ rest }) target → Steps p.tables e below (T.setTop g) target) ∨
    (∃ (q : Addr) (vm₁ : Vm) (B : Pt), s.WarmedH vm₁ ∧ Stand p l e R s m args below meth c B.U B.locs B.cells B.slots ∧ PostX ⟨T.setVm vm₁, locs, cells, slots⟩ (Value.ref b :: argsL).toArray q B ∧
      Steps p.tables e below (T.setTop g) ((B.U.setTop { g with stack := rest }).pushFrame (.throwing q))) := by
  obtain ⟨mk, methM, hnamed, hmethM, hstM, habM⟩ := Cond.instanceMethod_spec hinst
  obtain ⟨m8, methM', cM, hn8, hmethM', -, -, -, -, -, -, hsigM⟩ := Cond.codeWith_spec hcode
  cases Option.some.inj (hn8.symm.trans hnamed)
  cases hmethM.symm.trans hmethM'
  obtain ⟨c2, r2, m2, q1, q2, q3, q4, kP, hkP, hkPi⟩ := Cond.selects_spec hsel
  cases hcls.symm.trans q1
  cases (State.methodFound?_of_named hnamed hy).symm.trans q2
  cases hnamed.symm.trans q3
  have hselP : selectMethod e.platform s.vm cellB.cls mk = .method mk := by rw [Launch.admits_selectMethod X.admits]; exact q4
  obtain ⟨vm₁, X₁, hstep₁⟩ := X.invokevirtual hexec hown hlink hnamed hmethM hstM hkP hkPi hy (a := b) (cell := cellB) hcell
    (fun z h => by rw [h] at hobj; cases hobj) hselP hmethM habM hkP hkPi (g := g) hg (argsL := argsL) (rest := rest) (hlen _ hsigM) hstack hdg
  rcases hK m meth c ⟨T.setVm vm₁, locs, cells, slots⟩ { g with stack := rest } (.invokevirtual index) mk (Value.ref b :: argsL).toArray X₁ hg hsize hdg hW (X₁.named hnamed) (hpre vm₁ X₁.warmed) with ⟨v, B, X', hpost, hsteps⟩ | ⟨q, B, X', hpost, hsteps⟩
  · exact Or.inl ⟨v, vm₁, B, X₁.warmed, X', hpost, fun target h => hstep₁ _ fun acts => by rw [doInvoke_state]; exact hsteps.trans h⟩
  · exact Or.inr ⟨q, vm₁, B, X₁.warmed, X', hpost, hstep₁ _ fun acts => by rw [doInvoke_state]; exact hsteps⟩
theorem vx_callSX (X : Stand p l e R s m args below meth c T locs cells slots) (hexec : p.tables.exec = Jvm.exec) {own : String} {index : Nat} {y : MethodName} {bytes : ByteArray} {maxL : Nat} {ret : Option FieldType} {hh : List (Nat × Nat × Nat × Nat)}
    (hown : s.vm.findClass own = some m.cls) (hlink : (Cond.methodLink own index y).before args s = true) (hstat : (Cond.static y).before args s = true) (hinit : (Cond.initialized y.cls).before args s = true)
    (hcode : (Cond.codeWith y bytes maxL ret hh).before args s = true) (hy : y.cls ≠ "java/lang/invoke/MethodHandle" ∧ y.cls ≠ "java/lang/invoke/VarHandle")
    {W9 : Nat} {Pre : Pt → Array Value → Prop} {Post : Pt → Array Value → Option Value → Pt → Prop} {PostX : Pt → Array Value → Addr → Pt → Prop} (hK : vx_Back l R p e below s args y 3 W9 Pre Post PostX)
    {g : JFrame} (hg : g.method = m) (hsize : g.locals.size = c.maxLocals) {argsL rest : List Value} (hlen : ∀ sig, parseMethodDescriptor y.desc = some sig → argsL.length = sig.parameters.length)
    (hstack : g.stack = argsL.reverse ++ rest) (hW : 2 * g.monitorRoom + (rest.map fun v => v.category).sum ≤ W9) (hdg : decode c.code g.pc = .ok (.invokestatic index, 3))
    (hpre : ∀ vm₁, s.WarmedH vm₁ → Pre ⟨T.setVm vm₁, locs, cells, slots⟩ argsL.toArray) :
    (∃ (v : Option Value) (vm₁ : Vm) (B : Pt), s.WarmedH vm₁ ∧ Stand p l e R s m args below meth c B.U B.locs B.cells B.slots ∧ Post ⟨T.setVm vm₁, locs, cells, slots⟩ argsL.toArray v B ∧
      ∀ target, Steps p.tables e below (B.U.setTop { g with pc := g.pc + 3, stack := v.toList ++ rest }) target → Steps p.tables e below (T.setTop g) target) ∨
    (∃ (q : Addr) (vm₁ : Vm) (B : Pt), s.WarmedH vm₁ ∧ Stand p l e R s m args below meth c B.U B.locs B.cells B.slots ∧ PostX ⟨T.setVm vm₁, locs, cells, slots⟩ argsL.toArray q B ∧
      Steps p.tables e below (T.setTop g) ((B.U.setTop { g with stack := rest }).pushFrame (.throwing q))) := by
  obtain ⟨mk, methM, cM, hnamed, hmethM, -, -, -, -, -, -, hsigM⟩ := Cond.codeWith_spec hcode
  have hstatic : methM.isStatic = true := Cond.static_spec hnamed hmethM hstat
  obtain ⟨kP, hkP, -⟩ := className_of_methodNamed hnamed
  have hinitP : kP.init = .initialized := Cond.initialized_spec (findClass_of_methodNamed hnamed) hkP hinit
  obtain ⟨vm₁, X₁, hstep₁⟩ := X.invokestatic hexec hown hlink hnamed hmethM hstatic hkP hinitP hy (g := g) hg (argsL := argsL) (rest := rest) (hlen _ hsigM) hstack hdg
  rcases hK m meth c ⟨T.setVm vm₁, locs, cells, slots⟩ { g with stack := rest } (.invokestatic index) mk argsL.toArray X₁ hg hsize hdg hW (X₁.named hnamed) (hpre vm₁ X₁.warmed) with ⟨v, B, X', hpost, hsteps⟩ | ⟨q, B, X', hpost, hsteps⟩
  · exact Or.inl ⟨v, vm₁, B, X₁.warmed, X', hpost, fun target h => hstep₁ _ fun acts => by rw [doInvoke_state]; exact hsteps.trans h⟩
  · exact Or.inr ⟨q, vm₁, B, X₁.warmed, X', hpost, hstep₁ _ fun acts => by rw [doInvoke_state]; exact hsteps⟩
theorem vx_callVW (X : Stand p l e R s m args below meth c T locs cells slots) (hexec : p.tables.exec = Jvm.exec) {own C : String} {index : Nat} {y : MethodName} {bytes : ByteArray} {maxL : Nat} {ret : Option FieldType} {hh : List (Nat × Nat × Nat × Nat)}
    (hown : s.vm.findClass own = some m.cls) (hlink : (Cond.methodLink own index y).before args s = true) (hinst : (Cond.instanceMethod y).before args s = true) (hsel : (Cond.selects C y y).before args s = true)
    (hcode : (Cond.codeWith y bytes maxL ret hh).before args s = true) (hy : y.cls ≠ "java/lang/invoke/MethodHandle" ∧ y.cls ≠ "java/lang/invoke/VarHandle")
    {W9 : Nat} {Pre : Pt → Array Value → Prop} {Post : Pt → Array Value → Option Value → Pt → Prop} (hK : Back l R p e below s args y 3 W9 Pre Post)
    {b : Addr} {cellB : Cell} (hcell : T.heap[b]? = some cellB) (hobj : cellB.vm.isStatics = false) (hcls : s.vm.findClass C = some cellB.cls)
    {g : JFrame} (hg : g.method = m) (hsize : g.locals.size = c.maxLocals) {argsL rest : List Value} (hlen : ∀ sig, parseMethodDescriptor y.desc = some sig → argsL.length = sig.parameters.length)
    (hstack : g.stack = argsL.reverse ++ .ref b :: rest) (hW : 2 * g.monitorRoom + (rest.map fun v => v.category).sum ≤ W9) (hdg : decode c.code g.pc = .ok (.invokevirtual index, 3))
    (hpre : ∀ vm₁, s.WarmedH vm₁ → Pre ⟨T.setVm vm₁, locs, cells, slots⟩ (Value.ref b :: argsL).toArray) :
    ∃ (v : Option Value) (vm₁ : Vm) (B : Pt), s.WarmedH vm₁ ∧ Stand p l e R s m args below meth c B.U B.locs B.cells B.slots ∧ Post ⟨T.setVm vm₁, locs, cells, slots⟩ (Value.ref b :: argsL).toArray v B ∧
      ∀ target, Steps p.tables e below (B.U.setTop { g with pc := g.pc + 3, stack := v.toList ++ rest }) target → Steps p.tables e below (T.setTop g) target := by
  obtain ⟨mk, methM, hnamed, hmethM, hstM, habM⟩ := Cond.instanceMethod_spec hinst
  obtain ⟨m8, methM', cM, hn8, hmethM', -, -, -, -, -, -, hsigM⟩ := Cond.codeWith_spec hcode
  cases Option.some.inj (hn8.symm.trans hnamed)
  cases hmethM.symm.trans hmethM'
  obtain ⟨c2, r2, m2, q1, q2, q3, q4, kP, hkP, hkPi⟩ := Cond.selects_spec hsel
  cases hcls.symm.trans q1
  cases (State.methodFound?_of_named hnamed hy).symm.trans q2
  cases hnamed.symm.trans q3
  have hselP : selectMethod e.platform s.vm cellB.cls mk = .method mk := by rw [Launch.admits_selectMethod X.admits]; exact q4
  obtain ⟨vm₁, X₁, hstep₁⟩ := X.invokevirtual hexec hown hlink hnamed hmethM hstM hkP hkPi hy (a := b) (cell := cellB) hcell
    (fun z h => by rw [h] at hobj; cases hobj) hselP hmethM habM hkP hkPi (g := g) hg (argsL := argsL) (rest := rest) (hlen _ hsigM) hstack hdg
  obtain ⟨v, B, X', hpost, hsteps⟩ := hK m meth c ⟨T.setVm vm₁, locs, cells, slots⟩ { g with stack := rest } (.invokevirtual index) mk (Value.ref b :: argsL).toArray X₁ hg hsize hdg hW (X₁.named hnamed) (hpre vm₁ X₁.warmed)
  exact ⟨v, vm₁, B, X₁.warmed, X', hpost, fun target h => hstep₁ _ fun acts => by rw [doInvoke_state]; exact hsteps.trans h⟩
abbrev vx_CVW (R : Room) (s : State) (args : Array Value) (own C : String) (index : Nat) (y : MethodName) (bytes : ByteArray) (maxL : Nat) (ret : Option FieldType) (hh : List (Nat × Nat × Nat × Nat)) (ws : List Cond) (rm : Room) (mc ms n : Nat) : Prop :=
  (rm.cells = mc ∧ rm.slots = ms ∧ rm.frames + 1 ≤ R.frames ∧ 8 + (maxL + 11) + rm.locals ≤ R.locals ∧ (∀ w ∈ ws, ∀ (a' : Array Value) (U : State), s.WarmedH U.vm → w.before a' U = true) ∧ Cond.codeWith y bytes maxL ret hh ∈ ws) ∧
  (Cond.codeWith y bytes maxL ret hh).before args s = true ∧ (Cond.initialized y.cls).before args s = true ∧ (y.cls ≠ "java/lang/invoke/MethodHandle" ∧ y.cls ≠ "java/lang/invoke/VarHandle") ∧
  (∀ sig, parseMethodDescriptor y.desc = some sig → n = sig.parameters.length) ∧ (Cond.methodLink own index y).before args s = true ∧ (Cond.instanceMethod y).before args s = true ∧ (Cond.selects C y y).before args s = true
theorem vx_cwVW {own C : String} {index maxL mc ms : Nat} {y : MethodName} {bytes : ByteArray} {ret : Option FieldType} {hh : List (Nat × Nat × Nat × Nat)} {Ts ws ws' : List Cond} {rm : Room} (n : Nat) (ht : ∀ w ∈ Ts, w.before args s = true) (hT : GoodIn Ts (wsV own index C y ws)) (hw : ws = Cond.codeWith y bytes maxL ret hh :: ws') (hrc : rm.cells = mc) (hrs : rm.slots = ms)
    (hd : y.cls = C ∧ y.cls ≠ "java/lang/invoke/MethodHandle" ∧ y.cls ≠ "java/lang/invoke/VarHandle" ∧ (parseMethodDescriptor y.desc).map (fun d => d.parameters.length) = some n) (hR : rm.frames + 1 ≤ R.frames ∧ 8 + (maxL + 11) + rm.locals ≤ R.locals) :
    vx_CVW R s args own C index y bytes maxL ret hh ws rm mc ms n := by
  obtain ⟨hC, hd⟩ := hd
  subst hC
  have ok : ∀ w ∈ wsV own index y.cls y ws, w.before args s = true := fun w h => ht w (hT w h).1
  have hG : GoodIn Ts ws := fun w h => hT w (by unfold wsV; exact List.mem_append_right _ h)
  have hc : Cond.codeWith y bytes maxL ret hh ∈ ws := by rw [hw]; exact List.mem_cons_self
  refine ⟨⟨hrc, hrs, hR.1, hR.2, pay_in ht hG, hc⟩, ht _ (hG _ hc).1, ok _ (by simp [wsV]), ⟨hd.1, hd.2.1⟩, fun sig h => ?_, ok _ (by simp [wsV]), ok _ (by simp [wsV]), ok _ (by simp [wsV])⟩
  have h2 := hd.2.2
  rw [h] at h2
  exact (Option.some.inj h2).symm
theorem vx_runVW {y : MethodName} {bytes cc : ByteArray} {maxL nL mc ms n index : Nat} {ret : Option FieldType} {hh : List (Nat × Nat × Nat × Nat)} {ws : List Cond} {rm : Room} {Pc : Array Value → State → Prop} {Qc : Array Value → State → Outcome → State → Prop} {free : Addr → Prop} {Ts : List Cond} {own C : String} {b : Addr} {As rest : List Value} {g : JFrame}
    (S : CallFix p m c cc nL s args Ts own) (hM : Met l y ws rm Pc Qc mc ms free) (cw : vx_CVW R s args own C index y bytes maxL ret hh ws rm mc ms n) (hp : PreV s H C b Pc As)
    (hg : g.method = m) (hn : As.length = n) (hsize : g.locals.size = nL) (hstack : g.stack = As.reverse ++ .ref b :: rest) (hW : 2 * g.monitorRoom + (rest.map fun v => v.category).sum ≤ 8) (hdg : decode cc g.pc = .ok (.invokevirtual index, 3)) (hf : cells + mc ≤ R.cells ∧ slots + ms ≤ R.slots) :
    va_Run p l e R s m args below meth c H locs cells slots mc ms g rest (Qc (Value.ref b :: As).toArray) free := by
  obtain ⟨⟨hrc, hrs, hfr, hlo, hws, hcw⟩, hcode, hini, hy, hlen, hl, hin, hse⟩ := cw
  have hK : Back l R p e below s args y 3 8 (PreOf R mc ms Pc) (PostOf Qc mc ms free) := va_backW (hh := hh) (bytes := bytes) (maxL := maxL) (ret := ret) hM hp.1 hrc hrs hfr hlo hws hcw (fun a' U hW => word_at hW (Or.inl (by first | rfl | simp [Cond.onTables, Cond.keeps, Cond.steady])) hini)
  obtain ⟨hx, hb, hml, ho, -⟩ := S
  obtain ⟨-, ⟨cellB, hcB, hoB, hclB⟩, hPc⟩ := hp
  intro T hT X
  obtain ⟨v, vm₁, ⟨U', l2, c2, s2⟩, hW₁, X', ⟨g', mk, t, L, e1, e2, hq, h1, hL, h2, h3⟩, st⟩ := vx_callVW X hx (C := C) (hh := hh) (bytes := bytes) (maxL := maxL) (ret := ret) ho hl hin hse hcode hy hK (by rw [hT]; exact hcB) hoB hclB hg (hsize.trans hml.symm) (argsL := As) (rest := rest) (fun sig h => hn.trans (hlen sig h)) hstack hW (by rw [hb]; exact hdg)
    (fun vm₁ hW₁ => ⟨hf.1, hf.2, hPc (T.setVm vm₁) hT hW₁⟩)
  dsimp only [Pt.U, Pt.locs, Pt.cells, Pt.slots] at X' e1 e2 h1 h2 h3 st
  subst h1; subst h2; subst h3
  exact ⟨v, (T.setVm vm₁).calling g' mk (Value.ref b :: As).toArray, t, U', L, hT, X', hL, e1, e2, hq, st⟩
section
variable {y : MethodName} {bytes cc : ByteArray} {maxL nL mc ms n index : Nat} {ret : Option FieldType} {ws : List Cond} {rm : Room} {Pc : Array Value → State → Prop} {Qc : Array Value → State → Outcome → State → Prop} {XC : String → State → State → Prop} {free : Addr → Prop} {Ts : List Cond} {own C : String} {b : Addr} {As rest : List Value} {g : JFrame}
theorem vx_runVX {hh : List (Nat × Nat × Nat × Nat)} (S : CallFix p m c cc nL s args Ts own) (hM : vx_Met l y ws rm Pc Qc XC mc ms free) (cw : vx_CVW R s args own C index y bytes maxL ret hh ws rm mc ms n) (hp : PreV s H C b Pc As)
    (hg : g.method = m) (hn : As.length = n) (hsize : g.locals.size = nL) (hstack : g.stack = As.reverse ++ .ref b :: rest) (hW : 2 * g.monitorRoom + (rest.map fun v => v.category).sum ≤ 8) (hdg : decode cc g.pc = .ok (.invokevirtual index, 3)) (hf : cells + mc ≤ R.cells ∧ slots + ms ≤ R.slots) :
    vx_Run p l e R s m args below meth c H locs cells slots mc ms g rest (Qc (Value.ref b :: As).toArray) XC free := by
  obtain ⟨⟨hrc, hrs, hfr, hlo, hws, hcw⟩, hcode, hini, hy, hlen, hl, hin, hse⟩ := cw
  have hK : vx_Back l R p e below s args y 3 8 (PreOf R mc ms Pc) (PostOf Qc mc ms free) (vx_Post XC mc ms free) := vx_backW (hh := hh) (bytes := bytes) (maxL := maxL) (ret := ret) hM hp.1 hrc hrs hfr hlo hws hcw (fun a' U hW => word_at hW (Or.inl (by first | rfl | simp [Cond.onTables, Cond.keeps, Cond.steady])) hini)
  obtain ⟨hx, hb, hml, ho, -⟩ := S
  obtain ⟨-, ⟨cellB, hcB, hoB, hclB⟩, hPc⟩ := hp
  intro T hT X
  rcases vx_callVX X hx (C := C) (hh := hh) (bytes := bytes) (maxL := maxL) (ret := ret) ho hl hin hse hcode hy hK (by rw [hT]; exact hcB) hoB hclB hg (hsize.trans hml.symm) (argsL := As) (rest := rest) (fun sig h => hn.trans (hlen sig h)) hstack hW (by rw [hb]; exact hdg)
    (fun vm₁ hW₁ => ⟨hf.1, hf.2, hPc (T.setVm vm₁) hT hW₁⟩) with ⟨v, vm₁, ⟨U', l2, c2, s2⟩, hW₁, X', ⟨g', mk, t, L, e1, e2, hq, h1, hL, h2, h3⟩, st⟩ | ⟨q, vm₁, ⟨U', l2, c2, s2⟩, hW₁, X', ⟨g', mk, t, L, E, ce, e1, e2, hq, hce, hcv, hcl, h1, hL, h2, h3⟩, st⟩
  · dsimp only [Pt.U, Pt.locs, Pt.cells, Pt.slots] at X' e1 e2 h1 h2 h3 st
    subst h1; subst h2; subst h3
    exact Or.inl ⟨v, (T.setVm vm₁).calling g' mk (Value.ref b :: As).toArray, t, U', L, hT, X', hL, e1, e2, hq, st⟩
  · dsimp only [Pt.U, Pt.locs, Pt.cells, Pt.slots] at X' e1 e2 h1 h2 h3 st hcl
    subst h1; subst h2; subst h3
    exact Or.inr ⟨q, (T.setVm vm₁).calling g' mk (Value.ref b :: As).toArray, t, U', L, E, ce, hT, X', hL, e1, e2, hq, hce, hcv, vx_cls hW₁ hcl, st⟩
theorem vx_runSX {hh : List (Nat × Nat × Nat × Nat)} (S : CallFix p m c cc nL s args Ts own) (hM : vx_Met l y ws rm Pc Qc XC mc ms free) (cw : vx_CSW R s args own index y bytes maxL ret hh ws rm mc ms n) (hp : PreS s H Pc As)
    (hg : g.method = m) (hn : As.length = n) (hsize : g.locals.size = nL) (hstack : g.stack = As.reverse ++ rest) (hW : 2 * g.monitorRoom + (rest.map fun v => v.category).sum ≤ 8) (hdg : decode cc g.pc = .ok (.invokestatic index, 3)) (hf : cells + mc ≤ R.cells ∧ slots + ms ≤ R.slots) :
    vx_Run p l e R s m args below meth c H locs cells slots mc ms g rest (Qc As.toArray) XC free := by
  obtain ⟨⟨hrc, hrs, hfr, hlo, hws, hcw⟩, hcode, hini, hy, hlen, hl, hstt⟩ := cw
  have hK : vx_Back l R p e below s args y 3 8 (PreOf R mc ms Pc) (PostOf Qc mc ms free) (vx_Post XC mc ms free) := vx_backW (hh := hh) (bytes := bytes) (maxL := maxL) (ret := ret) hM hp.1 hrc hrs hfr hlo hws hcw (fun a' U hW => word_at hW (Or.inl (by first | rfl | simp [Cond.onTables, Cond.keeps, Cond.steady])) hini)
  obtain ⟨hx, hb, hml, ho, -⟩ := S
  intro T hT X
  rcases vx_callSX X hx (hh := hh) (bytes := bytes) (maxL := maxL) (ret := ret) ho hl hstt hini hcode hy hK hg (hsize.trans hml.symm) (argsL := As) (rest := rest) (fun sig h => hn.trans (hlen sig h)) hstack hW (by rw [hb]; exact hdg)
    (fun vm₁ hW₁ => ⟨hf.1, hf.2, hp.2 (T.setVm vm₁) hT hW₁⟩) with ⟨v, vm₁, ⟨U', l2, c2, s2⟩, hW₁, X', ⟨g', mk, t, L, e1, e2, hq, h1, hL, h2, h3⟩, st⟩ | ⟨q, vm₁, ⟨U', l2, c2, s2⟩, hW₁, X', ⟨g', mk, t, L, E, ce, e1, e2, hq, hce, hcv, hcl, h1, hL, h2, h3⟩, st⟩
  · dsimp only [Pt.U, Pt.locs, Pt.cells, Pt.slots] at X' e1 e2 h1 h2 h3 st
    subst h1; subst h2; subst h3
    exact Or.inl ⟨v, (T.setVm vm₁).calling g' mk As.toArray, t, U', L, hT, X', hL, e1, e2, hq, st⟩
  · dsimp only [Pt.U, Pt.locs, Pt.cells, Pt.slots] at X' e1 e2 h1 h2 h3 st hcl
    subst h1; subst h2; subst h3
    exact Or.inr ⟨q, (T.setVm vm₁).calling g' mk As.toArray, t, U', L, E, ce, hT, X', hL, e1, e2, hq, hce, hcv, vx_cls hW₁ hcl, st⟩
end
end VXH
theorem vx_ofWH {l : Launch} {y : MethodName} {ws ws' : List Cond} {rm : Room} {Pc : Array Value → State → Prop} {Qc : Array Value → State → Outcome → State → Prop} {XC : String → State → State → Prop} {mc ms : Nat} {free : Addr → Prop} {cc : ByteArray} {maxL : Nat} {ret : Option FieldType} {hh : List (Nat × Nat × Nat × Nat)}
    (hy : plainName y.cls = true) (hw : ws = Cond.codeWith y cc maxL ret hh :: ws')
    (body : ∀ p e s m args below meth c s₁, BodyLoose p l y (headSpec ws rm) cc maxL ret e s m args below meth c s₁ → c.maxLocals = maxL → Pc args s →
      W p l e (headSpec ws rm).room s m args below meth c s.heap [] 0 0 (vx_MQ below Qc XC args s mc ms free) (entryFrame m args maxL)) : vx_Met l y ws rm Pc Qc XC mc ms free := by
  refine MetFree.of_bodyS (code := cc) (maxLocals := maxL) (ret := ret) hy ?_ ?_
  · intro args s m h hn
    obtain ⟨m9, meth, c, hn9, h1, h2, h3, h4, -, h5, h6, -⟩ := Cond.codeWith_spec (atoms_spec (ws := ws) h _ (by rw [hw]; exact List.mem_cons_self))
    cases hn.symm.trans hn9
    exact ⟨meth, c, h1, h2, h3, h4, h5, h6⟩
  · intro p e s m args below meth c s₁ B hml hP _
    have hh0 : s₁.heap = s.heap := by rw [B.state]; rfl
    obtain ⟨t, a1, o, b1, b2, b3⟩ := body p e s m args below meth c s₁ B hml hP s₁ hh0 (Stand.of_body B)
    exact ⟨t, o, a1, b1, b2, b3⟩
/-! ===== END ===== -/
end
section
def RX0 : String := "LetterLocks$Lock"
def TX0 : u_T := fun k => match k with
  | 0 => ("LetterLocks$Lock", "letters", "[I", true)
  | 1 => ("LetterLocks$Lock", "wears", "[I", true)
  | 2 => ("LetterLocks$Lock", "word", "I", false)
  | 3 => ("LetterLocks$Lock", "inRack", "I", false)
  | 4 => ("LetterLocks$Lock", "isOpen", "Z", false)
  | _ => ("LetterLocks$Lock", "isLost", "Z", false)
def tyX0 : Nat → FieldType := fun k => match k with
  | 0 => .array .int
  | 1 => .array .int
  | 2 => .int
  | 3 => .int
  | 4 => .boolean
  | _ => .boolean
abbrev wsX00 : List Cond := u_ws RX0 TX0 6
theorem nmX0 : ∀ a, a < 6 → ∀ b, b < 6 → a ≠ b → (TX0 a).2.1 ≠ (TX0 b).2.1 := by decide +kernel
theorem tyX0_ok : ∀ k, k < 6 → parseFieldDescriptor (TX0 k).2.2.1 = some (tyX0 k) := by decide +kernel
abbrev cX0_init : ByteArray := prog_2_method_1_code
def yX0_init : MethodName := ⟨RX0, "<init>", "(I)V"⟩
abbrev cX0_become : ByteArray := prog_2_method_2_code
def yX0_become : MethodName := ⟨RX0, "become", "(LLetterLocks$Lock;)V"⟩
abbrev cX0_letterAt : ByteArray := prog_2_method_3_code
def yX0_letterAt : MethodName := ⟨RX0, "letterAt", "(I)I"⟩
abbrev cX0_turnTo : ByteArray := prog_2_method_4_code
def yX0_turnTo : MethodName := ⟨RX0, "turnTo", "(II)V"⟩
abbrev cX0_standing : ByteArray := prog_2_method_5_code
def yX0_standing : MethodName := ⟨RX0, "standing", "()I"⟩
abbrev cX0_close : ByteArray := prog_2_method_6_code
def yX0_close : MethodName := ⟨RX0, "close", "()V"⟩
abbrev cX0_wearAt : ByteArray := prog_2_method_7_code
def yX0_wearAt : MethodName := ⟨RX0, "wearAt", "(II)I"⟩
abbrev cX0_wearByAnHour : ByteArray := prog_2_method_8_code
def yX0_wearByAnHour : MethodName := ⟨RX0, "wearByAnHour", "()V"⟩
abbrev cX0_wearMore : ByteArray := prog_2_method_9_code
def yX0_wearMore : MethodName := ⟨RX0, "wearMore", "(III)V"⟩
abbrev cX0_allWears : ByteArray := prog_2_method_10_code
def yX0_allWears : MethodName := ⟨RX0, "allWears", "()I"⟩
abbrev cX0_showing : ByteArray := prog_2_method_11_code
def yX0_showing : MethodName := ⟨RX0, "showing", "()I"⟩
abbrev cX0_mostWorn : ByteArray := prog_2_method_12_code
def yX0_mostWorn : MethodName := ⟨RX0, "mostWorn", "(I)I"⟩
abbrev cX0_placeInOrder : ByteArray := prog_2_method_13_code
def yX0_placeInOrder : MethodName := ⟨RX0, "placeInOrder", "(II)I"⟩
def RX1 : String := "LetterLocks$Rack"
def TX1 : u_T := fun k => match k with
  | 0 => ("LetterLocks$Rack", "places", "I", false)
  | 1 => ("LetterLocks$Rack", "from", "I", false)
  | _ => ("LetterLocks$Rack", "to", "I", false)
def tyX1 : Nat → FieldType := fun k => match k with
  | 0 => .int
  | 1 => .int
  | _ => .int
abbrev wsX10 : List Cond := u_ws RX1 TX1 3
theorem nmX1 : ∀ a, a < 3 → ∀ b, b < 3 → a ≠ b → (TX1 a).2.1 ≠ (TX1 b).2.1 := by decide +kernel
theorem tyX1_ok : ∀ k, k < 3 → parseFieldDescriptor (TX1 k).2.2.1 = some (tyX1 k) := by decide +kernel
abbrev cX1_init : ByteArray := prog_3_method_1_code
def yX1_init : MethodName := ⟨RX1, "<init>", "()V"⟩
abbrev cX1_isOpenIn : ByteArray := prog_3_method_2_code
def yX1_isOpenIn : MethodName := ⟨RX1, "isOpenIn", "(I)Z"⟩
def RX2 : String := "LetterLocks$Thief"
def TX2 : u_T := fun k => match k with
  | _ => ("LetterLocks$Thief", "wordsOfRingsAndSum", "[[I", true)
def tyX2 : Nat → FieldType := fun k => match k with
  | _ => .array (.array .int)
abbrev wsX20 : List Cond := u_ws RX2 TX2 1
theorem nmX2 : ∀ a, a < 1 → ∀ b, b < 1 → a ≠ b → (TX2 a).2.1 ≠ (TX2 b).2.1 := by decide +kernel
theorem tyX2_ok : ∀ k, k < 1 → parseFieldDescriptor (TX2 k).2.2.1 = some (tyX2 k) := by decide +kernel
abbrev cX2_init : ByteArray := prog_4_method_1_code
def yX2_init : MethodName := ⟨RX2, "<init>", "()V"⟩
abbrev cX2_trialOf : ByteArray := prog_4_method_2_code
def yX2_trialOf : MethodName := ⟨RX2, "trialOf", "(LLetterLocks$Lock;I)I"⟩
abbrev cX2_sumOfPlaces : ByteArray := prog_4_method_3_code
def yX2_sumOfPlaces : MethodName := ⟨RX2, "sumOfPlaces", "(LLetterLocks$Lock;I)I"⟩
abbrev cX2_lesserWordsOfSum : ByteArray := prog_4_method_4_code
def yX2_lesserWordsOfSum : MethodName := ⟨RX2, "lesserWordsOfSum", "(LLetterLocks$Lock;II)I"⟩
abbrev cX2_wordsWith : ByteArray := prog_4_method_5_code
def yX2_wordsWith : MethodName := ⟨RX2, "wordsWith", "(II)I"⟩
def RX3 : String := "LetterLocks"
def TX3 : u_T := fun k => match k with
  | 0 => ("LetterLocks", "locks", "Ljava/util/ArrayList;", true)
  | 1 => ("LetterLocks", "racks", "[LLetterLocks$Rack;", true)
  | 2 => ("LetterLocks", "thief", "LLetterLocks$Thief;", true)
  | 3 => ("LetterLocks", "foreseen", "LLetterLocks$Lock;", true)
  | 4 => ("LetterLocks", "hour", "I", false)
  | _ => ("LetterLocks", "turns", "I", false)
def tyX3 : Nat → FieldType := fun k => match k with
  | 0 => .object "java/util/ArrayList"
  | 1 => .array (.object "LetterLocks$Rack")
  | 2 => .object "LetterLocks$Thief"
  | 3 => .object "LetterLocks$Lock"
  | 4 => .int
  | _ => .int
abbrev wsX30 : List Cond := u_ws RX3 TX3 6
theorem nmX3 : ∀ a, a < 6 → ∀ b, b < 6 → a ≠ b → (TX3 a).2.1 ≠ (TX3 b).2.1 := by decide +kernel
theorem tyX3_ok : ∀ k, k < 6 → parseFieldDescriptor (TX3 k).2.2.1 = some (tyX3 k) := by decide +kernel
abbrev cX3_init : ByteArray := prog_1_method_1_code
def yX3_init : MethodName := ⟨RX3, "<init>", "()V"⟩
abbrev cX3_lock : ByteArray := prog_1_method_2_code
def yX3_lock : MethodName := ⟨RX3, "lock", "(I)I"⟩
abbrev cX3_turn : ByteArray := prog_1_method_3_code
def yX3_turn : MethodName := ⟨RX3, "turn", "(III)I"⟩
abbrev cX3_open : ByteArray := prog_1_method_4_code
def yX3_open : MethodName := ⟨RX3, "open", "(I)Z"⟩
abbrev cX3_shut : ByteArray := prog_1_method_5_code
def yX3_shut : MethodName := ⟨RX3, "shut", "(I)I"⟩
abbrev cX3_rename : ByteArray := prog_1_method_6_code
def yX3_rename : MethodName := ⟨RX3, "rename", "(II)I"⟩
abbrev cX3_lose : ByteArray := prog_1_method_7_code
def yX3_lose : MethodName := ⟨RX3, "lose", "(IZ)Z"⟩
abbrev cX3_setPlaces : ByteArray := prog_1_method_8_code
def yX3_setPlaces : MethodName := ⟨RX3, "setPlaces", "(II)I"⟩
abbrev cX3_setHours : ByteArray := prog_1_method_9_code
def yX3_setHours : MethodName := ⟨RX3, "setHours", "(III)I"⟩
abbrev cX3_put : ByteArray := prog_1_method_10_code
def yX3_put : MethodName := ⟨RX3, "put", "(II)I"⟩
abbrev cX3_told : ByteArray := prog_1_method_11_code
def yX3_told : MethodName := ⟨RX3, "told", "(II)I"⟩
abbrev cX3_wear : ByteArray := prog_1_method_12_code
def yX3_wear : MethodName := ⟨RX3, "wear", "(III)I"⟩
abbrev cX3_rack : ByteArray := prog_1_method_13_code
def yX3_rack : MethodName := ⟨RX3, "rack", "(II)I"⟩
abbrev cX3_count : ByteArray := prog_1_method_14_code
def yX3_count : MethodName := ⟨RX3, "count", "(I)I"⟩
abbrev cX3_apart : ByteArray := prog_1_method_15_code
def yX3_apart : MethodName := ⟨RX3, "apart", "(II)I"⟩
abbrev cX3_trial : ByteArray := prog_1_method_16_code
def yX3_trial : MethodName := ⟨RX3, "trial", "(II)I"⟩
abbrev cX3_safe : ByteArray := prog_1_method_17_code
def yX3_safe : MethodName := ⟨RX3, "safe", "(I)I"⟩
abbrev cX3_pass : ByteArray := prog_1_method_18_code
def yX3_pass : MethodName := ⟨RX3, "pass", "(I)I"⟩
abbrev cX3_foresee : ByteArray := prog_1_method_19_code
def yX3_foresee : MethodName := ⟨RX3, "foresee", "(II)I"⟩
abbrev cX3_until : ByteArray := prog_1_method_20_code
def yX3_until : MethodName := ⟨RX3, "until", "(I)I"⟩
abbrev cX3_weakest : ByteArray := prog_1_method_21_code
def yX3_weakest : MethodName := ⟨RX3, "weakest", "()I"⟩
abbrev cX3_mean : ByteArray := prog_1_method_22_code
def yX3_mean : MethodName := ⟨RX3, "mean", "()D"⟩
abbrev cX3_digest : ByteArray := prog_1_method_23_code
def yX3_digest : MethodName := ⟨RX3, "digest", "()J"⟩
abbrev cX3_digestOfLock : ByteArray := prog_1_method_24_code
def yX3_digestOfLock : MethodName := ⟨RX3, "digestOfLock", "(JI)J"⟩
abbrev cX3_lockAt : ByteArray := prog_1_method_25_code
def yX3_lockAt : MethodName := ⟨RX3, "lockAt", "(I)LLetterLocks$Lock;"⟩
abbrev cX3_rackAt : ByteArray := prog_1_method_26_code
def yX3_rackAt : MethodName := ⟨RX3, "rackAt", "(I)LLetterLocks$Rack;"⟩
abbrev cX3_requireRing : ByteArray := prog_1_method_27_code
def yX3_requireRing : MethodName := ⟨RX3, "requireRing", "(I)V"⟩
abbrev cX3_requireWord : ByteArray := prog_1_method_28_code
def yX3_requireWord : MethodName := ⟨RX3, "requireWord", "(I)V"⟩
abbrev cX3_requireHours : ByteArray := prog_1_method_29_code
def yX3_requireHours : MethodName := ⟨RX3, "requireHours", "(I)V"⟩
abbrev cX3_requireOpen : ByteArray := prog_1_method_30_code
def yX3_requireOpen : MethodName := ⟨RX3, "requireOpen", "(LLetterLocks$Lock;)V"⟩
abbrev cX3_isRack : ByteArray := prog_1_method_31_code
def yX3_isRack : MethodName := ⟨RX3, "isRack", "(I)Z"⟩
abbrev cX3_isRing : ByteArray := prog_1_method_32_code
def yX3_isRing : MethodName := ⟨RX3, "isRing", "(I)Z"⟩
abbrev cX3_isLetter : ByteArray := prog_1_method_33_code
def yX3_isLetter : MethodName := ⟨RX3, "isLetter", "(I)Z"⟩
abbrev cX3_letterOf : ByteArray := prog_1_method_34_code
def yX3_letterOf : MethodName := ⟨RX3, "letterOf", "(II)I"⟩
abbrev cX3_turnsBetween : ByteArray := prog_1_method_35_code
def yX3_turnsBetween : MethodName := ⟨RX3, "turnsBetween", "(II)I"⟩
abbrev cX3_locksIn : ByteArray := prog_1_method_36_code
def yX3_locksIn : MethodName := ⟨RX3, "locksIn", "(I)I"⟩
abbrev cX3_openLocksIn : ByteArray := prog_1_method_37_code
def yX3_openLocksIn : MethodName := ⟨RX3, "openLocksIn", "(I)I"⟩
abbrev cX3_takesAnother : ByteArray := prog_1_method_38_code
def yX3_takesAnother : MethodName := ⟨RX3, "takesAnother", "(I)Z"⟩
abbrev cX3_isInClosedRack : ByteArray := prog_1_method_39_code
def yX3_isInClosedRack : MethodName := ⟨RX3, "isInClosedRack", "(LLetterLocks$Lock;I)Z"⟩
abbrev cX3_letHourGoBy : ByteArray := prog_1_method_40_code
def yX3_letHourGoBy : MethodName := ⟨RX3, "letHourGoBy", "(LLetterLocks$Lock;I)Z"⟩
abbrev cX3_openLocks : ByteArray := prog_1_method_41_code
def yX3_openLocks : MethodName := ⟨RX3, "openLocks", "()I"⟩
abbrev cX3_lostWords : ByteArray := prog_1_method_42_code
def yX3_lostWords : MethodName := ⟨RX3, "lostWords", "()I"⟩
abbrev cX3_allWear : ByteArray := prog_1_method_43_code
def yX3_allWear : MethodName := ⟨RX3, "allWear", "()I"⟩
abbrev cX3_locksInRacks : ByteArray := prog_1_method_44_code
def yX3_locksInRacks : MethodName := ⟨RX3, "locksInRacks", "()I"⟩
def RX4 : String := "LetterLocksModel"
def TX4 : u_T := fun k => match k with
  | 0 => ("LetterLocksModel", "thrown", "I", false)
  | 1 => ("LetterLocksModel", "locks", "I", false)
  | 2 => ("LetterLocksModel", "hour", "I", false)
  | 3 => ("LetterLocksModel", "turns", "I", false)
  | 4 => ("LetterLocksModel", "rows", "[I", true)
  | 5 => ("LetterLocksModel", "wear", "[I", true)
  | _ => ("LetterLocksModel", "racks", "[I", true)
def tyX4 : Nat → FieldType := fun k => match k with
  | 0 => .int
  | 1 => .int
  | 2 => .int
  | 3 => .int
  | 4 => .array .int
  | 5 => .array .int
  | _ => .array .int
abbrev wsX40 : List Cond := u_ws RX4 TX4 7
theorem nmX4 : ∀ a, a < 7 → ∀ b, b < 7 → a ≠ b → (TX4 a).2.1 ≠ (TX4 b).2.1 := by decide +kernel
theorem tyX4_ok : ∀ k, k < 7 → parseFieldDescriptor (TX4 k).2.2.1 = some (tyX4 k) := by decide +kernel
abbrev cX4_init : ByteArray := prog_6_method_1_code
def yX4_init : MethodName := ⟨RX4, "<init>", "()V"⟩
abbrev cX4_thrown : ByteArray := prog_6_method_2_code
def yX4_thrown : MethodName := ⟨RX4, "thrown", "()I"⟩
abbrev cX4_fail : ByteArray := prog_6_method_3_code
def yX4_fail : MethodName := ⟨RX4, "fail", "(I)I"⟩
abbrev cX4_isIn : ByteArray := prog_6_method_4_code
def yX4_isIn : MethodName := ⟨RX4, "isIn", "(III)Z"⟩
abbrev cX4_isLock : ByteArray := prog_6_method_5_code
def yX4_isLock : MethodName := ⟨RX4, "isLock", "(I)Z"⟩
abbrev cX4_isWord : ByteArray := prog_6_method_6_code
def yX4_isWord : MethodName := ⟨RX4, "isWord", "(I)Z"⟩
abbrev cX4_isRack : ByteArray := prog_6_method_7_code
def yX4_isRack : MethodName := ⟨RX4, "isRack", "(I)Z"⟩
abbrev cX4_lo : ByteArray := prog_6_method_8_code
def yX4_lo : MethodName := ⟨RX4, "lo", "(II)I"⟩
abbrev cX4_let : ByteArray := prog_6_method_9_code
def yX4_let : MethodName := ⟨RX4, "let", "(III)V"⟩
abbrev cX4_ra : ByteArray := prog_6_method_10_code
def yX4_ra : MethodName := ⟨RX4, "ra", "(II)I"⟩
abbrev cX4_we : ByteArray := prog_6_method_11_code
def yX4_we : MethodName := ⟨RX4, "we", "(III)I"⟩
abbrev cX4_letter : ByteArray := prog_6_method_12_code
def yX4_letter : MethodName := ⟨RX4, "letter", "(II)I"⟩
abbrev cX4_stands : ByteArray := prog_6_method_13_code
def yX4_stands : MethodName := ⟨RX4, "stands", "(I)I"⟩
abbrev cX4_far : ByteArray := prog_6_method_14_code
def yX4_far : MethodName := ⟨RX4, "far", "(II)I"⟩
abbrev cX4_lock : ByteArray := prog_6_method_15_code
def yX4_lock : MethodName := ⟨RX4, "lock", "(I)I"⟩
abbrev cX4_turn : ByteArray := prog_6_method_16_code
def yX4_turn : MethodName := ⟨RX4, "turn", "(III)I"⟩
abbrev cX4_open : ByteArray := prog_6_method_17_code
def yX4_open : MethodName := ⟨RX4, "open", "(I)Z"⟩
abbrev cX4_close : ByteArray := prog_6_method_18_code
def yX4_close : MethodName := ⟨RX4, "close", "(I)V"⟩
abbrev cX4_shut : ByteArray := prog_6_method_19_code
def yX4_shut : MethodName := ⟨RX4, "shut", "(I)I"⟩
abbrev cX4_rename : ByteArray := prog_6_method_20_code
def yX4_rename : MethodName := ⟨RX4, "rename", "(II)I"⟩
abbrev cX4_lose : ByteArray := prog_6_method_21_code
def yX4_lose : MethodName := ⟨RX4, "lose", "(IZ)Z"⟩
abbrev cX4_in : ByteArray := prog_6_method_22_code
def yX4_in : MethodName := ⟨RX4, "in", "(I)I"⟩
abbrev cX4_isOpen : ByteArray := prog_6_method_23_code
def yX4_isOpen : MethodName := ⟨RX4, "isOpen", "(I)Z"⟩
abbrev cX4_setPlaces : ByteArray := prog_6_method_24_code
def yX4_setPlaces : MethodName := ⟨RX4, "setPlaces", "(II)I"⟩
abbrev cX4_setHours : ByteArray := prog_6_method_25_code
def yX4_setHours : MethodName := ⟨RX4, "setHours", "(III)I"⟩
abbrev cX4_put : ByteArray := prog_6_method_26_code
def yX4_put : MethodName := ⟨RX4, "put", "(II)I"⟩
abbrev cX4_shows : ByteArray := prog_6_method_27_code
def yX4_shows : MethodName := ⟨RX4, "shows", "(I)I"⟩
abbrev cX4_lockTold : ByteArray := prog_6_method_28_code
def yX4_lockTold : MethodName := ⟨RX4, "lockTold", "(II)I"⟩
abbrev cX4_told : ByteArray := prog_6_method_29_code
def yX4_told : MethodName := ⟨RX4, "told", "(II)I"⟩
abbrev cX4_wear : ByteArray := prog_6_method_30_code
def yX4_wear : MethodName := ⟨RX4, "wear", "(III)I"⟩
abbrev cX4_rackTold : ByteArray := prog_6_method_31_code
def yX4_rackTold : MethodName := ⟨RX4, "rackTold", "(II)I"⟩
abbrev cX4_rack : ByteArray := prog_6_method_32_code
def yX4_rack : MethodName := ⟨RX4, "rack", "(II)I"⟩
abbrev cX4_counted : ByteArray := prog_6_method_33_code
def yX4_counted : MethodName := ⟨RX4, "counted", "(I)I"⟩
abbrev cX4_count : ByteArray := prog_6_method_34_code
def yX4_count : MethodName := ⟨RX4, "count", "(I)I"⟩
abbrev cX4_between : ByteArray := prog_6_method_35_code
def yX4_between : MethodName := ⟨RX4, "between", "(II)I"⟩
abbrev cX4_apart : ByteArray := prog_6_method_36_code
def yX4_apart : MethodName := ⟨RX4, "apart", "(II)I"⟩
abbrev cX4_places : ByteArray := prog_6_method_37_code
def yX4_places : MethodName := ⟨RX4, "places", "(I)[I"⟩
abbrev cX4_sum : ByteArray := prog_6_method_38_code
def yX4_sum : MethodName := ⟨RX4, "sum", "([II)I"⟩
abbrev cX4_tried : ByteArray := prog_6_method_39_code
def yX4_tried : MethodName := ⟨RX4, "tried", "(II)I"⟩
abbrev cX4_trial : ByteArray := prog_6_method_40_code
def yX4_trial : MethodName := ⟨RX4, "trial", "(II)I"⟩
abbrev cX4_safe : ByteArray := prog_6_method_41_code
def yX4_safe : MethodName := ⟨RX4, "safe", "(I)I"⟩
abbrev cX4_wearAt : ByteArray := prog_6_method_42_code
def yX4_wearAt : MethodName := ⟨RX4, "wearAt", "(IIII)V"⟩
abbrev cX4_hourOn : ByteArray := prog_6_method_43_code
def yX4_hourOn : MethodName := ⟨RX4, "hourOn", "()I"⟩
abbrev cX4_hoursOn : ByteArray := prog_6_method_44_code
def yX4_hoursOn : MethodName := ⟨RX4, "hoursOn", "(I)I"⟩
abbrev cX4_pass : ByteArray := prog_6_method_45_code
def yX4_pass : MethodName := ⟨RX4, "pass", "(I)I"⟩
abbrev cX4_bringBack : ByteArray := prog_6_method_46_code
def yX4_bringBack : MethodName := ⟨RX4, "bringBack", "([I[II)V"⟩
abbrev cX4_foresee : ByteArray := prog_6_method_47_code
def yX4_foresee : MethodName := ⟨RX4, "foresee", "(II)I"⟩
abbrev cX4_until : ByteArray := prog_6_method_48_code
def yX4_until : MethodName := ⟨RX4, "until", "(I)I"⟩
abbrev cX4_weakest : ByteArray := prog_6_method_49_code
def yX4_weakest : MethodName := ⟨RX4, "weakest", "()I"⟩
abbrev cX4_mean : ByteArray := prog_6_method_50_code
def yX4_mean : MethodName := ⟨RX4, "mean", "()D"⟩
abbrev cX4_digest : ByteArray := prog_6_method_51_code
def yX4_digest : MethodName := ⟨RX4, "digest", "()J"⟩
def RJx145de : String := "java/io/Serializable"
def TJx145de : u_T := fun k => match k with
  | _ => ("", "", "", false)
def tyJx145de : Nat → FieldType := fun k => match k with
  | _ => .int
abbrev wsJx145de0 : List Cond := u_ws RJx145de TJx145de 0
theorem nmJx145de : ∀ a, a < 0 → ∀ b, b < 0 → a ≠ b → (TJx145de a).2.1 ≠ (TJx145de b).2.1 := by decide +kernel
theorem tyJx145de_ok : ∀ k, k < 0 → parseFieldDescriptor (TJx145de k).2.2.1 = some (tyJx145de k) := by decide +kernel
def RJx8e188 : String := "java/lang/Cloneable"
def TJx8e188 : u_T := fun k => match k with
  | _ => ("", "", "", false)
def tyJx8e188 : Nat → FieldType := fun k => match k with
  | _ => .int
abbrev wsJx8e1880 : List Cond := u_ws RJx8e188 TJx8e188 0
theorem nmJx8e188 : ∀ a, a < 0 → ∀ b, b < 0 → a ≠ b → (TJx8e188 a).2.1 ≠ (TJx8e188 b).2.1 := by decide +kernel
theorem tyJx8e188_ok : ∀ k, k < 0 → parseFieldDescriptor (TJx8e188 k).2.2.1 = some (tyJx8e188 k) := by decide +kernel
def RJxab1ab : String := "java/lang/Iterable"
def TJxab1ab : u_T := fun k => match k with
  | _ => ("", "", "", false)
def tyJxab1ab : Nat → FieldType := fun k => match k with
  | _ => .int
abbrev wsJxab1ab0 : List Cond := u_ws RJxab1ab TJxab1ab 0
theorem nmJxab1ab : ∀ a, a < 0 → ∀ b, b < 0 → a ≠ b → (TJxab1ab a).2.1 ≠ (TJxab1ab b).2.1 := by decide +kernel
theorem tyJxab1ab_ok : ∀ k, k < 0 → parseFieldDescriptor (TJxab1ab k).2.2.1 = some (tyJxab1ab k) := by decide +kernel
def RJ9 : String := "java/lang/Math"
def TJ9 : u_T := fun k => match k with
  | _ => ("", "", "", false)
def tyJ9 : Nat → FieldType := fun k => match k with
  | _ => .int
abbrev wsJ90 : List Cond := u_ws RJ9 TJ9 0
theorem nmJ9 : ∀ a, a < 0 → ∀ b, b < 0 → a ≠ b → (TJ9 a).2.1 ≠ (TJ9 b).2.1 := by decide +kernel
theorem tyJ9_ok : ∀ k, k < 0 → parseFieldDescriptor (TJ9 k).2.2.1 = some (tyJ9 k) := by decide +kernel
abbrev cJ9_abs_0f7a4 : ByteArray := prog_14_method_59_code
def yJ9_abs_0f7a4 : MethodName := ⟨RJ9, "abs", "(I)I"⟩
abbrev cJ9_max_7cf53 : ByteArray := prog_14_method_65_code
def yJ9_max_7cf53 : MethodName := ⟨RJ9, "max", "(II)I"⟩
abbrev cJ9_min_7cf53 : ByteArray := prog_14_method_69_code
def yJ9_min_7cf53 : MethodName := ⟨RJ9, "min", "(II)I"⟩
def RJ0 : String := "java/lang/String"
def TJ0 : u_T := fun k => match k with
  | _ => ("", "", "", false)
def tyJ0 : Nat → FieldType := fun k => match k with
  | _ => .int
abbrev wsJ00 : List Cond := u_ws RJ0 TJ0 0
theorem nmJ0 : ∀ a, a < 0 → ∀ b, b < 0 → a ≠ b → (TJ0 a).2.1 ≠ (TJ0 b).2.1 := by decide +kernel
theorem tyJ0_ok : ∀ k, k < 0 → parseFieldDescriptor (TJ0 k).2.2.1 = some (tyJ0 k) := by decide +kernel
def RJ10 : String := "java/lang/System"
def TJ10 : u_T := fun k => match k with
  | _ => ("", "", "", false)
def tyJ10 : Nat → FieldType := fun k => match k with
  | _ => .int
abbrev wsJ100 : List Cond := u_ws RJ10 TJ10 0
theorem nmJ10 : ∀ a, a < 0 → ∀ b, b < 0 → a ≠ b → (TJ10 a).2.1 ≠ (TJ10 b).2.1 := by decide +kernel
theorem tyJ10_ok : ∀ k, k < 0 → parseFieldDescriptor (TJ10 k).2.2.1 = some (tyJ10 k) := by decide +kernel
def RJxa1e45 : String := "java/util/AbstractCollection"
def TJxa1e45 : u_T := fun k => match k with
  | _ => ("", "", "", false)
def tyJxa1e45 : Nat → FieldType := fun k => match k with
  | _ => .int
abbrev wsJxa1e450 : List Cond := u_ws RJxa1e45 TJxa1e45 0
theorem nmJxa1e45 : ∀ a, a < 0 → ∀ b, b < 0 → a ≠ b → (TJxa1e45 a).2.1 ≠ (TJxa1e45 b).2.1 := by decide +kernel
theorem tyJxa1e45_ok : ∀ k, k < 0 → parseFieldDescriptor (TJxa1e45 k).2.2.1 = some (tyJxa1e45 k) := by decide +kernel
abbrev cJxa1e45_init_da8c8 : ByteArray := prog_19_method_1_code
def yJxa1e45_init_da8c8 : MethodName := ⟨RJxa1e45, "<init>", "()V"⟩
def RJxc12de : String := "java/util/AbstractList"
def TJxc12de : u_T := fun k => match k with
  | _ => ("", "", "", false)
def tyJxc12de : Nat → FieldType := fun k => match k with
  | _ => .int
abbrev wsJxc12de0 : List Cond := u_ws RJxc12de TJxc12de 0
theorem nmJxc12de : ∀ a, a < 0 → ∀ b, b < 0 → a ≠ b → (TJxc12de a).2.1 ≠ (TJxc12de b).2.1 := by decide +kernel
theorem tyJxc12de_ok : ∀ k, k < 0 → parseFieldDescriptor (TJxc12de k).2.2.1 = some (tyJxc12de k) := by decide +kernel
abbrev cJxc12de_init_da8c8 : ByteArray := prog_20_method_1_code
def yJxc12de_init_da8c8 : MethodName := ⟨RJxc12de, "<init>", "()V"⟩
def RJx4a65c : String := "java/util/ArrayList"
def TJx4a65c : u_T := fun k => match k with
  | 0 => ("java/util/AbstractList", "modCount", "I", false)
  | 1 => ("java/util/ArrayList", "elementData", "[Ljava/lang/Object;", false)
  | _ => ("java/util/ArrayList", "size", "I", false)
def tyJx4a65c : Nat → FieldType := fun k => match k with
  | 0 => .int
  | 1 => .array (.object "java/lang/Object")
  | _ => .int
abbrev wsJx4a65c0 : List Cond := u_ws RJx4a65c TJx4a65c 3
theorem nmJx4a65c : ∀ a, a < 3 → ∀ b, b < 3 → a ≠ b → (TJx4a65c a).2.1 ≠ (TJx4a65c b).2.1 := by decide +kernel
theorem tyJx4a65c_ok : ∀ k, k < 3 → parseFieldDescriptor (TJx4a65c k).2.2.1 = some (tyJx4a65c k) := by decide +kernel
abbrev cJx4a65c_init_da8c8 : ByteArray := prog_21_method_2_code
def yJx4a65c_init_da8c8 : MethodName := ⟨RJx4a65c, "<init>", "()V"⟩
abbrev cJx4a65c_grow_92f84 : ByteArray := prog_21_method_6_code
def yJx4a65c_grow_92f84 : MethodName := ⟨RJx4a65c, "grow", "(I)[Ljava/lang/Object;"⟩
abbrev cJx4a65c_grow_d5877 : ByteArray := prog_21_method_7_code
def yJx4a65c_grow_d5877 : MethodName := ⟨RJx4a65c, "grow", "()[Ljava/lang/Object;"⟩
abbrev cJx4a65c_size_8abf5 : ByteArray := prog_21_method_8_code
def yJx4a65c_size_8abf5 : MethodName := ⟨RJx4a65c, "size", "()I"⟩
abbrev cJx4a65c_elementData_915e3 : ByteArray := prog_21_method_18_code
def yJx4a65c_elementData_915e3 : MethodName := ⟨RJx4a65c, "elementData", "(I)Ljava/lang/Object;"⟩
abbrev cJx4a65c_get_915e3 : ByteArray := prog_21_method_20_code
def yJx4a65c_get_915e3 : MethodName := ⟨RJx4a65c, "get", "(I)Ljava/lang/Object;"⟩
abbrev cJx4a65c_add_72be8 : ByteArray := prog_21_method_24_code
def yJx4a65c_add_72be8 : MethodName := ⟨RJx4a65c, "add", "(Ljava/lang/Object;[Ljava/lang/Object;I)V"⟩
abbrev cJx4a65c_add_9ea2d : ByteArray := prog_21_method_25_code
def yJx4a65c_add_9ea2d : MethodName := ⟨RJx4a65c, "add", "(Ljava/lang/Object;)Z"⟩
def RJ7 : String := "java/util/Arrays"
def TJ7 : u_T := fun k => match k with
  | _ => ("", "", "", false)
def tyJ7 : Nat → FieldType := fun k => match k with
  | _ => .int
abbrev wsJ70 : List Cond := u_ws RJ7 TJ7 0
theorem nmJ7 : ∀ a, a < 0 → ∀ b, b < 0 → a ≠ b → (TJ7 a).2.1 ≠ (TJ7 b).2.1 := by decide +kernel
theorem tyJ7_ok : ∀ k, k < 0 → parseFieldDescriptor (TJ7 k).2.2.1 = some (tyJ7 k) := by decide +kernel
abbrev cJ7_copyOf_1904c : ByteArray := prog_22_method_119_code
def yJ7_copyOf_1904c : MethodName := ⟨RJ7, "copyOf", "([Ljava/lang/Object;I)[Ljava/lang/Object;"⟩
abbrev cJ7_copyOf_6403c : ByteArray := prog_22_method_120_code
def yJ7_copyOf_6403c : MethodName := ⟨RJ7, "copyOf", "([Ljava/lang/Object;ILjava/lang/Class;)[Ljava/lang/Object;"⟩
def RJx5ef63 : String := "java/util/Collection"
def TJx5ef63 : u_T := fun k => match k with
  | _ => ("", "", "", false)
def tyJx5ef63 : Nat → FieldType := fun k => match k with
  | _ => .int
abbrev wsJx5ef630 : List Cond := u_ws RJx5ef63 TJx5ef63 0
theorem nmJx5ef63 : ∀ a, a < 0 → ∀ b, b < 0 → a ≠ b → (TJx5ef63 a).2.1 ≠ (TJx5ef63 b).2.1 := by decide +kernel
theorem tyJx5ef63_ok : ∀ k, k < 0 → parseFieldDescriptor (TJx5ef63 k).2.2.1 = some (tyJx5ef63 k) := by decide +kernel
def RJxbd725 : String := "java/util/List"
def TJxbd725 : u_T := fun k => match k with
  | _ => ("", "", "", false)
def tyJxbd725 : Nat → FieldType := fun k => match k with
  | _ => .int
abbrev wsJxbd7250 : List Cond := u_ws RJxbd725 TJxbd725 0
theorem nmJxbd725 : ∀ a, a < 0 → ∀ b, b < 0 → a ≠ b → (TJxbd725 a).2.1 ≠ (TJxbd725 b).2.1 := by decide +kernel
theorem tyJxbd725_ok : ∀ k, k < 0 → parseFieldDescriptor (TJxbd725 k).2.2.1 = some (tyJxbd725 k) := by decide +kernel
def RJ15 : String := "java/util/Objects"
def TJ15 : u_T := fun k => match k with
  | _ => ("", "", "", false)
def tyJ15 : Nat → FieldType := fun k => match k with
  | _ => .int
abbrev wsJ150 : List Cond := u_ws RJ15 TJ15 0
theorem nmJ15 : ∀ a, a < 0 → ∀ b, b < 0 → a ≠ b → (TJ15 a).2.1 ≠ (TJ15 b).2.1 := by decide +kernel
theorem tyJ15_ok : ∀ k, k < 0 → parseFieldDescriptor (TJ15 k).2.2.1 = some (tyJ15 k) := by decide +kernel
abbrev cJ15_checkIndex_7cf53 : ByteArray := prog_25_method_17_code
def yJ15_checkIndex_7cf53 : MethodName := ⟨RJ15, "checkIndex", "(II)I"⟩
def RJxf0a74 : String := "java/util/RandomAccess"
def TJxf0a74 : u_T := fun k => match k with
  | _ => ("", "", "", false)
def tyJxf0a74 : Nat → FieldType := fun k => match k with
  | _ => .int
abbrev wsJxf0a740 : List Cond := u_ws RJxf0a74 TJxf0a74 0
theorem nmJxf0a74 : ∀ a, a < 0 → ∀ b, b < 0 → a ≠ b → (TJxf0a74 a).2.1 ≠ (TJxf0a74 b).2.1 := by decide +kernel
theorem tyJxf0a74_ok : ∀ k, k < 0 → parseFieldDescriptor (TJxf0a74 k).2.2.1 = some (tyJxf0a74 k) := by decide +kernel
def RJxa66e6 : String := "java/util/SequencedCollection"
def TJxa66e6 : u_T := fun k => match k with
  | _ => ("", "", "", false)
def tyJxa66e6 : Nat → FieldType := fun k => match k with
  | _ => .int
abbrev wsJxa66e60 : List Cond := u_ws RJxa66e6 TJxa66e6 0
theorem nmJxa66e6 : ∀ a, a < 0 → ∀ b, b < 0 → a ≠ b → (TJxa66e6 a).2.1 ≠ (TJxa66e6 b).2.1 := by decide +kernel
theorem tyJxa66e6_ok : ∀ k, k < 0 → parseFieldDescriptor (TJxa66e6 k).2.2.1 = some (tyJxa66e6 k) := by decide +kernel
def RJ8 : String := "jdk/internal/util/ArraysSupport"
def TJ8 : u_T := fun k => match k with
  | _ => ("", "", "", false)
def tyJ8 : Nat → FieldType := fun k => match k with
  | _ => .int
abbrev wsJ80 : List Cond := u_ws RJ8 TJ8 0
theorem nmJ8 : ∀ a, a < 0 → ∀ b, b < 0 → a ≠ b → (TJ8 a).2.1 ≠ (TJ8 b).2.1 := by decide +kernel
theorem tyJ8_ok : ∀ k, k < 0 → parseFieldDescriptor (TJ8 k).2.2.1 = some (tyJ8 k) := by decide +kernel
abbrev cJ8_newLength_cabcc : ByteArray := prog_28_method_27_code
def yJ8_newLength_cabcc : MethodName := ⟨RJ8, "newLength", "(III)I"⟩
abbrev cJ8_hugeLength_7cf53 : ByteArray := prog_28_method_28_code
def yJ8_hugeLength_7cf53 : MethodName := ⟨RJ8, "hugeLength", "(II)I"⟩
def RJ3 : String := "jdk/internal/util/Preconditions"
def TJ3 : u_T := fun k => match k with
  | _ => ("", "", "", false)
def tyJ3 : Nat → FieldType := fun k => match k with
  | _ => .int
abbrev wsJ30 : List Cond := u_ws RJ3 TJ3 0
theorem nmJ3 : ∀ a, a < 0 → ∀ b, b < 0 → a ≠ b → (TJ3 a).2.1 ≠ (TJ3 b).2.1 := by decide +kernel
theorem tyJ3_ok : ∀ k, k < 0 → parseFieldDescriptor (TJ3 k).2.2.1 = some (tyJ3 k) := by decide +kernel
abbrev cJ3_checkIndex_8e157 : ByteArray := prog_29_method_11_code
def yJ3_checkIndex_8e157 : MethodName := ⟨RJ3, "checkIndex", "(IILjava/util/function/BiFunction;)I"⟩
def RL : String := "LetterLocksLaw"
abbrev cL_lock : ByteArray := method_3_code
def yL_lock : MethodName := ⟨RL, "lock", "(LLetterLocks;I[J)I"⟩
abbrev cL_turn : ByteArray := method_4_code
def yL_turn : MethodName := ⟨RL, "turn", "(LLetterLocks;III[J)I"⟩
abbrev cL_open : ByteArray := method_5_code
def yL_open : MethodName := ⟨RL, "open", "(LLetterLocks;I[J)I"⟩
abbrev cL_shut : ByteArray := method_6_code
def yL_shut : MethodName := ⟨RL, "shut", "(LLetterLocks;I[J)I"⟩
abbrev cL_rename : ByteArray := method_7_code
def yL_rename : MethodName := ⟨RL, "rename", "(LLetterLocks;II[J)I"⟩
abbrev cL_lose : ByteArray := method_8_code
def yL_lose : MethodName := ⟨RL, "lose", "(LLetterLocks;IZ[J)I"⟩
abbrev cL_setPlaces : ByteArray := method_9_code
def yL_setPlaces : MethodName := ⟨RL, "setPlaces", "(LLetterLocks;II[J)I"⟩
abbrev cL_setHours : ByteArray := method_10_code
def yL_setHours : MethodName := ⟨RL, "setHours", "(LLetterLocks;III[J)I"⟩
abbrev cL_put : ByteArray := method_11_code
def yL_put : MethodName := ⟨RL, "put", "(LLetterLocks;II[J)I"⟩
abbrev cL_told : ByteArray := method_12_code
def yL_told : MethodName := ⟨RL, "told", "(LLetterLocks;II[J)I"⟩
abbrev cL_wear : ByteArray := method_13_code
def yL_wear : MethodName := ⟨RL, "wear", "(LLetterLocks;III[J)I"⟩
abbrev cL_rack : ByteArray := method_14_code
def yL_rack : MethodName := ⟨RL, "rack", "(LLetterLocks;II[J)I"⟩
abbrev cL_count : ByteArray := method_15_code
def yL_count : MethodName := ⟨RL, "count", "(LLetterLocks;I[J)I"⟩
abbrev cL_apart : ByteArray := method_16_code
def yL_apart : MethodName := ⟨RL, "apart", "(LLetterLocks;II[J)I"⟩
abbrev cL_trial : ByteArray := method_17_code
def yL_trial : MethodName := ⟨RL, "trial", "(LLetterLocks;II[J)I"⟩
abbrev cL_safe : ByteArray := method_18_code
def yL_safe : MethodName := ⟨RL, "safe", "(LLetterLocks;I[J)I"⟩
abbrev cL_pass : ByteArray := method_19_code
def yL_pass : MethodName := ⟨RL, "pass", "(LLetterLocks;I[J)I"⟩
abbrev cL_foresee : ByteArray := method_20_code
def yL_foresee : MethodName := ⟨RL, "foresee", "(LLetterLocks;II[J)I"⟩
abbrev cL_until : ByteArray := method_21_code
def yL_until : MethodName := ⟨RL, "until", "(LLetterLocks;I[J)I"⟩
abbrev cL_law : ByteArray := code
def yL_law : MethodName := ⟨RL, "law", "([I)Z"⟩
abbrev vwCl : List vw_C := [(RJx4a65c, TJx4a65c, 3), (RX0, TX0, 6), (RX1, TX1, 3), (RX2, TX2, 1), (RX3, TX3, 6), (RX4, TX4, 7)]
end
section
theorem dX0_init_0 : decode cX0_init 0 = .ok (.aload_n 0, 1) := by decide +kernel
theorem dX0_init_1 : decode cX0_init 1 = .ok (.invokespecial 3, 3) := by decide +kernel
theorem dX0_init_4 : decode cX0_init 4 = .ok (.aload_n 0, 1) := by decide +kernel
theorem dX0_init_5 : decode cX0_init 5 = .ok (.iconst 4, 1) := by decide +kernel
theorem dX0_init_6 : decode cX0_init 6 = .ok (.newarray .int, 2) := by decide +kernel
theorem dX0_init_8 : decode cX0_init 8 = .ok (.putfield 9, 3) := by decide +kernel
theorem dX0_init_11 : decode cX0_init 11 = .ok (.aload_n 0, 1) := by decide +kernel
theorem dX0_init_12 : decode cX0_init 12 = .ok (.bipush 24, 2) := by decide +kernel
theorem dX0_init_14 : decode cX0_init 14 = .ok (.newarray .int, 2) := by decide +kernel
theorem dX0_init_16 : decode cX0_init 16 = .ok (.putfield 15, 3) := by decide +kernel
theorem dX0_init_19 : decode cX0_init 19 = .ok (.aload_n 0, 1) := by decide +kernel
theorem dX0_init_20 : decode cX0_init 20 = .ok (.iconst (-1), 1) := by decide +kernel
theorem dX0_init_21 : decode cX0_init 21 = .ok (.putfield 18, 3) := by decide +kernel
theorem dX0_init_24 : decode cX0_init 24 = .ok (.aload_n 0, 1) := by decide +kernel
theorem dX0_init_25 : decode cX0_init 25 = .ok (.iconst 1, 1) := by decide +kernel
theorem dX0_init_26 : decode cX0_init 26 = .ok (.putfield 22, 3) := by decide +kernel
theorem dX0_init_29 : decode cX0_init 29 = .ok (.aload_n 0, 1) := by decide +kernel
theorem dX0_init_30 : decode cX0_init 30 = .ok (.iconst 0, 1) := by decide +kernel
theorem dX0_init_31 : decode cX0_init 31 = .ok (.putfield 26, 3) := by decide +kernel
theorem dX0_init_34 : decode cX0_init 34 = .ok (.aload_n 0, 1) := by decide +kernel
theorem dX0_init_35 : decode cX0_init 35 = .ok (.iload_n 1, 1) := by decide +kernel
theorem dX0_init_36 : decode cX0_init 36 = .ok (.putfield 29, 3) := by decide +kernel
theorem dX0_init_39 : decode cX0_init 39 = .ok (.return_, 1) := by decide +kernel
theorem dX0_become_0 : decode cX0_become 0 = .ok (.aload_n 1, 1) := by decide +kernel
theorem dX0_become_1 : decode cX0_become 1 = .ok (.getfield 9, 3) := by decide +kernel
theorem dX0_become_4 : decode cX0_become 4 = .ok (.iconst 0, 1) := by decide +kernel
theorem dX0_become_5 : decode cX0_become 5 = .ok (.aload_n 0, 1) := by decide +kernel
theorem dX0_become_6 : decode cX0_become 6 = .ok (.getfield 9, 3) := by decide +kernel
theorem dX0_become_9 : decode cX0_become 9 = .ok (.iconst 0, 1) := by decide +kernel
theorem dX0_become_10 : decode cX0_become 10 = .ok (.iconst 4, 1) := by decide +kernel
theorem dX0_become_11 : decode cX0_become 11 = .ok (.invokestatic 32, 3) := by decide +kernel
theorem dX0_become_14 : decode cX0_become 14 = .ok (.aload_n 1, 1) := by decide +kernel
theorem dX0_become_15 : decode cX0_become 15 = .ok (.getfield 15, 3) := by decide +kernel
theorem dX0_become_18 : decode cX0_become 18 = .ok (.iconst 0, 1) := by decide +kernel
theorem dX0_become_19 : decode cX0_become 19 = .ok (.aload_n 0, 1) := by decide +kernel
theorem dX0_become_20 : decode cX0_become 20 = .ok (.getfield 15, 3) := by decide +kernel
theorem dX0_become_23 : decode cX0_become 23 = .ok (.iconst 0, 1) := by decide +kernel
theorem dX0_become_24 : decode cX0_become 24 = .ok (.bipush 24, 2) := by decide +kernel
theorem dX0_become_26 : decode cX0_become 26 = .ok (.invokestatic 32, 3) := by decide +kernel
theorem dX0_become_29 : decode cX0_become 29 = .ok (.aload_n 0, 1) := by decide +kernel
theorem dX0_become_30 : decode cX0_become 30 = .ok (.aload_n 1, 1) := by decide +kernel
theorem dX0_become_31 : decode cX0_become 31 = .ok (.getfield 29, 3) := by decide +kernel
theorem dX0_become_34 : decode cX0_become 34 = .ok (.putfield 29, 3) := by decide +kernel
theorem dX0_become_37 : decode cX0_become 37 = .ok (.aload_n 0, 1) := by decide +kernel
theorem dX0_become_38 : decode cX0_become 38 = .ok (.aload_n 1, 1) := by decide +kernel
theorem dX0_become_39 : decode cX0_become 39 = .ok (.getfield 18, 3) := by decide +kernel
theorem dX0_become_42 : decode cX0_become 42 = .ok (.putfield 18, 3) := by decide +kernel
theorem dX0_become_45 : decode cX0_become 45 = .ok (.aload_n 0, 1) := by decide +kernel
theorem dX0_become_46 : decode cX0_become 46 = .ok (.aload_n 1, 1) := by decide +kernel
theorem dX0_become_47 : decode cX0_become 47 = .ok (.getfield 22, 3) := by decide +kernel
theorem dX0_become_50 : decode cX0_become 50 = .ok (.putfield 22, 3) := by decide +kernel
theorem dX0_become_53 : decode cX0_become 53 = .ok (.aload_n 0, 1) := by decide +kernel
theorem dX0_become_54 : decode cX0_become 54 = .ok (.aload_n 1, 1) := by decide +kernel
theorem dX0_become_55 : decode cX0_become 55 = .ok (.getfield 26, 3) := by decide +kernel
theorem dX0_become_58 : decode cX0_become 58 = .ok (.putfield 26, 3) := by decide +kernel
theorem dX0_become_61 : decode cX0_become 61 = .ok (.return_, 1) := by decide +kernel
theorem dX0_letterAt_0 : decode cX0_letterAt 0 = .ok (.iload_n 1, 1) := by decide +kernel
theorem dX0_letterAt_1 : decode cX0_letterAt 1 = .ok (.invokestatic 38, 3) := by decide +kernel
theorem dX0_letterAt_4 : decode cX0_letterAt 4 = .ok (.ifCond .eq 12, 3) := by decide +kernel
theorem dX0_letterAt_7 : decode cX0_letterAt 7 = .ok (.aload_n 0, 1) := by decide +kernel
theorem dX0_letterAt_8 : decode cX0_letterAt 8 = .ok (.getfield 9, 3) := by decide +kernel
theorem dX0_letterAt_11 : decode cX0_letterAt 11 = .ok (.iload_n 1, 1) := by decide +kernel
theorem dX0_letterAt_12 : decode cX0_letterAt 12 = .ok (.iaload, 1) := by decide +kernel
theorem dX0_letterAt_13 : decode cX0_letterAt 13 = .ok (.goto 4, 3) := by decide +kernel
theorem dX0_letterAt_16 : decode cX0_letterAt 16 = .ok (.iconst 0, 1) := by decide +kernel
theorem dX0_letterAt_17 : decode cX0_letterAt 17 = .ok (.ireturn, 1) := by decide +kernel
theorem dX0_turnTo_0 : decode cX0_turnTo 0 = .ok (.iload_n 1, 1) := by decide +kernel
theorem dX0_turnTo_1 : decode cX0_turnTo 1 = .ok (.invokestatic 38, 3) := by decide +kernel
theorem dX0_turnTo_4 : decode cX0_turnTo 4 = .ok (.ifCond .eq 10, 3) := by decide +kernel
theorem dX0_turnTo_7 : decode cX0_turnTo 7 = .ok (.aload_n 0, 1) := by decide +kernel
theorem dX0_turnTo_8 : decode cX0_turnTo 8 = .ok (.getfield 9, 3) := by decide +kernel
theorem dX0_turnTo_11 : decode cX0_turnTo 11 = .ok (.iload_n 1, 1) := by decide +kernel
theorem dX0_turnTo_12 : decode cX0_turnTo 12 = .ok (.iload_n 2, 1) := by decide +kernel
theorem dX0_turnTo_13 : decode cX0_turnTo 13 = .ok (.iastore, 1) := by decide +kernel
theorem dX0_turnTo_14 : decode cX0_turnTo 14 = .ok (.return_, 1) := by decide +kernel
theorem dX0_standing_0 : decode cX0_standing 0 = .ok (.iconst 0, 1) := by decide +kernel
theorem dX0_standing_1 : decode cX0_standing 1 = .ok (.istore_n 1, 1) := by decide +kernel
theorem dX0_standing_2 : decode cX0_standing 2 = .ok (.iconst 0, 1) := by decide +kernel
theorem dX0_standing_3 : decode cX0_standing 3 = .ok (.istore_n 2, 1) := by decide +kernel
theorem dX0_standing_4 : decode cX0_standing 4 = .ok (.iload_n 2, 1) := by decide +kernel
theorem dX0_standing_5 : decode cX0_standing 5 = .ok (.iconst 4, 1) := by decide +kernel
theorem dX0_standing_6 : decode cX0_standing 6 = .ok (.if_icmp .ge 21, 3) := by decide +kernel
theorem dX0_standing_9 : decode cX0_standing 9 = .ok (.iload_n 1, 1) := by decide +kernel
theorem dX0_standing_10 : decode cX0_standing 10 = .ok (.bipush 6, 2) := by decide +kernel
theorem dX0_standing_12 : decode cX0_standing 12 = .ok (.imul, 1) := by decide +kernel
theorem dX0_standing_13 : decode cX0_standing 13 = .ok (.aload_n 0, 1) := by decide +kernel
theorem dX0_standing_14 : decode cX0_standing 14 = .ok (.getfield 9, 3) := by decide +kernel
theorem dX0_standing_17 : decode cX0_standing 17 = .ok (.iload_n 2, 1) := by decide +kernel
theorem dX0_standing_18 : decode cX0_standing 18 = .ok (.iaload, 1) := by decide +kernel
theorem dX0_standing_19 : decode cX0_standing 19 = .ok (.iadd, 1) := by decide +kernel
theorem dX0_standing_20 : decode cX0_standing 20 = .ok (.istore_n 1, 1) := by decide +kernel
theorem dX0_standing_21 : decode cX0_standing 21 = .ok (.iinc 2 1, 3) := by decide +kernel
theorem dX0_standing_24 : decode cX0_standing 24 = .ok (.goto (-20), 3) := by decide +kernel
theorem dX0_standing_27 : decode cX0_standing 27 = .ok (.iload_n 1, 1) := by decide +kernel
theorem dX0_standing_28 : decode cX0_standing 28 = .ok (.ireturn, 1) := by decide +kernel
theorem dX0_close_0 : decode cX0_close 0 = .ok (.iconst 0, 1) := by decide +kernel
theorem dX0_close_1 : decode cX0_close 1 = .ok (.istore_n 1, 1) := by decide +kernel
theorem dX0_close_2 : decode cX0_close 2 = .ok (.iload_n 1, 1) := by decide +kernel
theorem dX0_close_3 : decode cX0_close 3 = .ok (.iconst 4, 1) := by decide +kernel
theorem dX0_close_4 : decode cX0_close 4 = .ok (.if_icmp .ge 28, 3) := by decide +kernel
theorem dX0_close_7 : decode cX0_close 7 = .ok (.aload_n 0, 1) := by decide +kernel
theorem dX0_close_8 : decode cX0_close 8 = .ok (.getfield 9, 3) := by decide +kernel
theorem dX0_close_11 : decode cX0_close 11 = .ok (.iload_n 1, 1) := by decide +kernel
theorem dX0_close_12 : decode cX0_close 12 = .ok (.aload_n 0, 1) := by decide +kernel
theorem dX0_close_13 : decode cX0_close 13 = .ok (.getfield 9, 3) := by decide +kernel
theorem dX0_close_16 : decode cX0_close 16 = .ok (.iload_n 1, 1) := by decide +kernel
theorem dX0_close_17 : decode cX0_close 17 = .ok (.iaload, 1) := by decide +kernel
theorem dX0_close_18 : decode cX0_close 18 = .ok (.iload_n 1, 1) := by decide +kernel
theorem dX0_close_19 : decode cX0_close 19 = .ok (.iadd, 1) := by decide +kernel
theorem dX0_close_20 : decode cX0_close 20 = .ok (.iconst 1, 1) := by decide +kernel
theorem dX0_close_21 : decode cX0_close 21 = .ok (.iadd, 1) := by decide +kernel
theorem dX0_close_22 : decode cX0_close 22 = .ok (.bipush 6, 2) := by decide +kernel
theorem dX0_close_24 : decode cX0_close 24 = .ok (.irem, 1) := by decide +kernel
theorem dX0_close_25 : decode cX0_close 25 = .ok (.iastore, 1) := by decide +kernel
theorem dX0_close_26 : decode cX0_close 26 = .ok (.iinc 1 1, 3) := by decide +kernel
theorem dX0_close_29 : decode cX0_close 29 = .ok (.goto (-27), 3) := by decide +kernel
theorem dX0_close_32 : decode cX0_close 32 = .ok (.aload_n 0, 1) := by decide +kernel
theorem dX0_close_33 : decode cX0_close 33 = .ok (.iconst 0, 1) := by decide +kernel
theorem dX0_close_34 : decode cX0_close 34 = .ok (.putfield 22, 3) := by decide +kernel
theorem dX0_close_37 : decode cX0_close 37 = .ok (.return_, 1) := by decide +kernel
theorem dX0_wearAt_0 : decode cX0_wearAt 0 = .ok (.iload_n 1, 1) := by decide +kernel
theorem dX0_wearAt_1 : decode cX0_wearAt 1 = .ok (.invokestatic 38, 3) := by decide +kernel
theorem dX0_wearAt_4 : decode cX0_wearAt 4 = .ok (.ifCond .eq 24, 3) := by decide +kernel
theorem dX0_wearAt_7 : decode cX0_wearAt 7 = .ok (.iload_n 2, 1) := by decide +kernel
theorem dX0_wearAt_8 : decode cX0_wearAt 8 = .ok (.invokestatic 42, 3) := by decide +kernel
theorem dX0_wearAt_11 : decode cX0_wearAt 11 = .ok (.ifCond .eq 17, 3) := by decide +kernel
theorem dX0_wearAt_14 : decode cX0_wearAt 14 = .ok (.aload_n 0, 1) := by decide +kernel
theorem dX0_wearAt_15 : decode cX0_wearAt 15 = .ok (.getfield 15, 3) := by decide +kernel
theorem dX0_wearAt_18 : decode cX0_wearAt 18 = .ok (.iload_n 1, 1) := by decide +kernel
theorem dX0_wearAt_19 : decode cX0_wearAt 19 = .ok (.bipush 6, 2) := by decide +kernel
theorem dX0_wearAt_21 : decode cX0_wearAt 21 = .ok (.imul, 1) := by decide +kernel
theorem dX0_wearAt_22 : decode cX0_wearAt 22 = .ok (.iload_n 2, 1) := by decide +kernel
theorem dX0_wearAt_23 : decode cX0_wearAt 23 = .ok (.iadd, 1) := by decide +kernel
theorem dX0_wearAt_24 : decode cX0_wearAt 24 = .ok (.iaload, 1) := by decide +kernel
theorem dX0_wearAt_25 : decode cX0_wearAt 25 = .ok (.goto 4, 3) := by decide +kernel
theorem dX0_wearAt_28 : decode cX0_wearAt 28 = .ok (.iconst 0, 1) := by decide +kernel
theorem dX0_wearAt_29 : decode cX0_wearAt 29 = .ok (.ireturn, 1) := by decide +kernel
theorem dX0_wearByAnHour_0 : decode cX0_wearByAnHour 0 = .ok (.iconst 0, 1) := by decide +kernel
theorem dX0_wearByAnHour_1 : decode cX0_wearByAnHour 1 = .ok (.istore_n 1, 1) := by decide +kernel
theorem dX0_wearByAnHour_2 : decode cX0_wearByAnHour 2 = .ok (.iload_n 1, 1) := by decide +kernel
theorem dX0_wearByAnHour_3 : decode cX0_wearByAnHour 3 = .ok (.iconst 4, 1) := by decide +kernel
theorem dX0_wearByAnHour_4 : decode cX0_wearByAnHour 4 = .ok (.if_icmp .ge 53, 3) := by decide +kernel
theorem dX0_wearByAnHour_7 : decode cX0_wearByAnHour 7 = .ok (.aload_n 0, 1) := by decide +kernel
theorem dX0_wearByAnHour_8 : decode cX0_wearByAnHour 8 = .ok (.getfield 22, 3) := by decide +kernel
theorem dX0_wearByAnHour_11 : decode cX0_wearByAnHour 11 = .ok (.ifCond .ne 18, 3) := by decide +kernel
theorem dX0_wearByAnHour_14 : decode cX0_wearByAnHour 14 = .ok (.aload_n 0, 1) := by decide +kernel
theorem dX0_wearByAnHour_15 : decode cX0_wearByAnHour 15 = .ok (.iload_n 1, 1) := by decide +kernel
theorem dX0_wearByAnHour_16 : decode cX0_wearByAnHour 16 = .ok (.aload_n 0, 1) := by decide +kernel
theorem dX0_wearByAnHour_17 : decode cX0_wearByAnHour 17 = .ok (.getfield 9, 3) := by decide +kernel
theorem dX0_wearByAnHour_20 : decode cX0_wearByAnHour 20 = .ok (.iload_n 1, 1) := by decide +kernel
theorem dX0_wearByAnHour_21 : decode cX0_wearByAnHour 21 = .ok (.iaload, 1) := by decide +kernel
theorem dX0_wearByAnHour_22 : decode cX0_wearByAnHour 22 = .ok (.iconst 1, 1) := by decide +kernel
theorem dX0_wearByAnHour_23 : decode cX0_wearByAnHour 23 = .ok (.invokevirtual 45, 3) := by decide +kernel
theorem dX0_wearByAnHour_26 : decode cX0_wearByAnHour 26 = .ok (.goto 25, 3) := by decide +kernel
theorem dX0_wearByAnHour_29 : decode cX0_wearByAnHour 29 = .ok (.aload_n 0, 1) := by decide +kernel
theorem dX0_wearByAnHour_30 : decode cX0_wearByAnHour 30 = .ok (.getfield 18, 3) := by decide +kernel
theorem dX0_wearByAnHour_33 : decode cX0_wearByAnHour 33 = .ok (.iconst (-1), 1) := by decide +kernel
theorem dX0_wearByAnHour_34 : decode cX0_wearByAnHour 34 = .ok (.if_icmp .eq 17, 3) := by decide +kernel
theorem dX0_wearByAnHour_37 : decode cX0_wearByAnHour 37 = .ok (.aload_n 0, 1) := by decide +kernel
theorem dX0_wearByAnHour_38 : decode cX0_wearByAnHour 38 = .ok (.iload_n 1, 1) := by decide +kernel
theorem dX0_wearByAnHour_39 : decode cX0_wearByAnHour 39 = .ok (.aload_n 0, 1) := by decide +kernel
theorem dX0_wearByAnHour_40 : decode cX0_wearByAnHour 40 = .ok (.getfield 29, 3) := by decide +kernel
theorem dX0_wearByAnHour_43 : decode cX0_wearByAnHour 43 = .ok (.iload_n 1, 1) := by decide +kernel
theorem dX0_wearByAnHour_44 : decode cX0_wearByAnHour 44 = .ok (.invokestatic 49, 3) := by decide +kernel
theorem dX0_wearByAnHour_47 : decode cX0_wearByAnHour 47 = .ok (.iconst 2, 1) := by decide +kernel
theorem dX0_wearByAnHour_48 : decode cX0_wearByAnHour 48 = .ok (.invokevirtual 45, 3) := by decide +kernel
theorem dX0_wearByAnHour_51 : decode cX0_wearByAnHour 51 = .ok (.iinc 1 1, 3) := by decide +kernel
theorem dX0_wearByAnHour_54 : decode cX0_wearByAnHour 54 = .ok (.goto (-52), 3) := by decide +kernel
theorem dX0_wearByAnHour_57 : decode cX0_wearByAnHour 57 = .ok (.return_, 1) := by decide +kernel
theorem dX0_wearMore_0 : decode cX0_wearMore 0 = .ok (.iload_n 1, 1) := by decide +kernel
theorem dX0_wearMore_1 : decode cX0_wearMore 1 = .ok (.invokestatic 38, 3) := by decide +kernel
theorem dX0_wearMore_4 : decode cX0_wearMore 4 = .ok (.ifCond .eq 39, 3) := by decide +kernel
theorem dX0_wearMore_7 : decode cX0_wearMore 7 = .ok (.iload_n 2, 1) := by decide +kernel
theorem dX0_wearMore_8 : decode cX0_wearMore 8 = .ok (.invokestatic 42, 3) := by decide +kernel
theorem dX0_wearMore_11 : decode cX0_wearMore 11 = .ok (.ifCond .eq 32, 3) := by decide +kernel
theorem dX0_wearMore_14 : decode cX0_wearMore 14 = .ok (.iload_n 1, 1) := by decide +kernel
theorem dX0_wearMore_15 : decode cX0_wearMore 15 = .ok (.bipush 6, 2) := by decide +kernel
theorem dX0_wearMore_17 : decode cX0_wearMore 17 = .ok (.imul, 1) := by decide +kernel
theorem dX0_wearMore_18 : decode cX0_wearMore 18 = .ok (.iload_n 2, 1) := by decide +kernel
theorem dX0_wearMore_19 : decode cX0_wearMore 19 = .ok (.iadd, 1) := by decide +kernel
theorem dX0_wearMore_20 : decode cX0_wearMore 20 = .ok (.istore 4, 2) := by decide +kernel
theorem dX0_wearMore_22 : decode cX0_wearMore 22 = .ok (.aload_n 0, 1) := by decide +kernel
theorem dX0_wearMore_23 : decode cX0_wearMore 23 = .ok (.getfield 15, 3) := by decide +kernel
theorem dX0_wearMore_26 : decode cX0_wearMore 26 = .ok (.iload 4, 2) := by decide +kernel
theorem dX0_wearMore_28 : decode cX0_wearMore 28 = .ok (.bipush 99, 2) := by decide +kernel
theorem dX0_wearMore_30 : decode cX0_wearMore 30 = .ok (.aload_n 0, 1) := by decide +kernel
theorem dX0_wearMore_31 : decode cX0_wearMore 31 = .ok (.getfield 15, 3) := by decide +kernel
theorem dX0_wearMore_34 : decode cX0_wearMore 34 = .ok (.iload 4, 2) := by decide +kernel
theorem dX0_wearMore_36 : decode cX0_wearMore 36 = .ok (.iaload, 1) := by decide +kernel
theorem dX0_wearMore_37 : decode cX0_wearMore 37 = .ok (.iload_n 3, 1) := by decide +kernel
theorem dX0_wearMore_38 : decode cX0_wearMore 38 = .ok (.iadd, 1) := by decide +kernel
theorem dX0_wearMore_39 : decode cX0_wearMore 39 = .ok (.invokestatic 53, 3) := by decide +kernel
theorem dX0_wearMore_42 : decode cX0_wearMore 42 = .ok (.iastore, 1) := by decide +kernel
theorem dX0_wearMore_43 : decode cX0_wearMore 43 = .ok (.return_, 1) := by decide +kernel
theorem dX0_allWears_0 : decode cX0_allWears 0 = .ok (.iconst 0, 1) := by decide +kernel
theorem dX0_allWears_1 : decode cX0_allWears 1 = .ok (.istore_n 1, 1) := by decide +kernel
theorem dX0_allWears_2 : decode cX0_allWears 2 = .ok (.iconst 0, 1) := by decide +kernel
theorem dX0_allWears_3 : decode cX0_allWears 3 = .ok (.istore_n 2, 1) := by decide +kernel
theorem dX0_allWears_4 : decode cX0_allWears 4 = .ok (.iload_n 2, 1) := by decide +kernel
theorem dX0_allWears_5 : decode cX0_allWears 5 = .ok (.aload_n 0, 1) := by decide +kernel
theorem dX0_allWears_6 : decode cX0_allWears 6 = .ok (.getfield 15, 3) := by decide +kernel
theorem dX0_allWears_9 : decode cX0_allWears 9 = .ok (.arraylength, 1) := by decide +kernel
theorem dX0_allWears_10 : decode cX0_allWears 10 = .ok (.if_icmp .ge 18, 3) := by decide +kernel
theorem dX0_allWears_13 : decode cX0_allWears 13 = .ok (.iload_n 1, 1) := by decide +kernel
theorem dX0_allWears_14 : decode cX0_allWears 14 = .ok (.aload_n 0, 1) := by decide +kernel
theorem dX0_allWears_15 : decode cX0_allWears 15 = .ok (.getfield 15, 3) := by decide +kernel
theorem dX0_allWears_18 : decode cX0_allWears 18 = .ok (.iload_n 2, 1) := by decide +kernel
theorem dX0_allWears_19 : decode cX0_allWears 19 = .ok (.iaload, 1) := by decide +kernel
theorem dX0_allWears_20 : decode cX0_allWears 20 = .ok (.iadd, 1) := by decide +kernel
theorem dX0_allWears_21 : decode cX0_allWears 21 = .ok (.istore_n 1, 1) := by decide +kernel
theorem dX0_allWears_22 : decode cX0_allWears 22 = .ok (.iinc 2 1, 3) := by decide +kernel
theorem dX0_allWears_25 : decode cX0_allWears 25 = .ok (.goto (-21), 3) := by decide +kernel
theorem dX0_allWears_28 : decode cX0_allWears 28 = .ok (.iload_n 1, 1) := by decide +kernel
theorem dX0_allWears_29 : decode cX0_allWears 29 = .ok (.ireturn, 1) := by decide +kernel
theorem dX0_showing_0 : decode cX0_showing 0 = .ok (.iconst 0, 1) := by decide +kernel
theorem dX0_showing_1 : decode cX0_showing 1 = .ok (.istore_n 1, 1) := by decide +kernel
theorem dX0_showing_2 : decode cX0_showing 2 = .ok (.iconst 0, 1) := by decide +kernel
theorem dX0_showing_3 : decode cX0_showing 3 = .ok (.istore_n 2, 1) := by decide +kernel
theorem dX0_showing_4 : decode cX0_showing 4 = .ok (.iload_n 2, 1) := by decide +kernel
theorem dX0_showing_5 : decode cX0_showing 5 = .ok (.iconst 4, 1) := by decide +kernel
theorem dX0_showing_6 : decode cX0_showing 6 = .ok (.if_icmp .ge 20, 3) := by decide +kernel
theorem dX0_showing_9 : decode cX0_showing 9 = .ok (.iload_n 1, 1) := by decide +kernel
theorem dX0_showing_10 : decode cX0_showing 10 = .ok (.bipush 6, 2) := by decide +kernel
theorem dX0_showing_12 : decode cX0_showing 12 = .ok (.imul, 1) := by decide +kernel
theorem dX0_showing_13 : decode cX0_showing 13 = .ok (.aload_n 0, 1) := by decide +kernel
theorem dX0_showing_14 : decode cX0_showing 14 = .ok (.iload_n 2, 1) := by decide +kernel
theorem dX0_showing_15 : decode cX0_showing 15 = .ok (.invokevirtual 58, 3) := by decide +kernel
theorem dX0_showing_18 : decode cX0_showing 18 = .ok (.iadd, 1) := by decide +kernel
theorem dX0_showing_19 : decode cX0_showing 19 = .ok (.istore_n 1, 1) := by decide +kernel
theorem dX0_showing_20 : decode cX0_showing 20 = .ok (.iinc 2 1, 3) := by decide +kernel
theorem dX0_showing_23 : decode cX0_showing 23 = .ok (.goto (-19), 3) := by decide +kernel
theorem dX0_showing_26 : decode cX0_showing 26 = .ok (.iload_n 1, 1) := by decide +kernel
theorem dX0_showing_27 : decode cX0_showing 27 = .ok (.ireturn, 1) := by decide +kernel
theorem dX0_mostWorn_0 : decode cX0_mostWorn 0 = .ok (.iconst 0, 1) := by decide +kernel
theorem dX0_mostWorn_1 : decode cX0_mostWorn 1 = .ok (.istore_n 2, 1) := by decide +kernel
theorem dX0_mostWorn_2 : decode cX0_mostWorn 2 = .ok (.iconst 1, 1) := by decide +kernel
theorem dX0_mostWorn_3 : decode cX0_mostWorn 3 = .ok (.istore_n 3, 1) := by decide +kernel
theorem dX0_mostWorn_4 : decode cX0_mostWorn 4 = .ok (.iload_n 3, 1) := by decide +kernel
theorem dX0_mostWorn_5 : decode cX0_mostWorn 5 = .ok (.bipush 6, 2) := by decide +kernel
theorem dX0_mostWorn_7 : decode cX0_mostWorn 7 = .ok (.if_icmp .ge 26, 3) := by decide +kernel
theorem dX0_mostWorn_10 : decode cX0_mostWorn 10 = .ok (.aload_n 0, 1) := by decide +kernel
theorem dX0_mostWorn_11 : decode cX0_mostWorn 11 = .ok (.iload_n 1, 1) := by decide +kernel
theorem dX0_mostWorn_12 : decode cX0_mostWorn 12 = .ok (.iload_n 3, 1) := by decide +kernel
theorem dX0_mostWorn_13 : decode cX0_mostWorn 13 = .ok (.invokevirtual 62, 3) := by decide +kernel
theorem dX0_mostWorn_16 : decode cX0_mostWorn 16 = .ok (.aload_n 0, 1) := by decide +kernel
theorem dX0_mostWorn_17 : decode cX0_mostWorn 17 = .ok (.iload_n 1, 1) := by decide +kernel
theorem dX0_mostWorn_18 : decode cX0_mostWorn 18 = .ok (.iload_n 2, 1) := by decide +kernel
theorem dX0_mostWorn_19 : decode cX0_mostWorn 19 = .ok (.invokevirtual 62, 3) := by decide +kernel
theorem dX0_mostWorn_22 : decode cX0_mostWorn 22 = .ok (.if_icmp .le 5, 3) := by decide +kernel
theorem dX0_mostWorn_25 : decode cX0_mostWorn 25 = .ok (.iload_n 3, 1) := by decide +kernel
theorem dX0_mostWorn_26 : decode cX0_mostWorn 26 = .ok (.istore_n 2, 1) := by decide +kernel
theorem dX0_mostWorn_27 : decode cX0_mostWorn 27 = .ok (.iinc 3 1, 3) := by decide +kernel
theorem dX0_mostWorn_30 : decode cX0_mostWorn 30 = .ok (.goto (-26), 3) := by decide +kernel
theorem dX0_mostWorn_33 : decode cX0_mostWorn 33 = .ok (.iload_n 2, 1) := by decide +kernel
theorem dX0_mostWorn_34 : decode cX0_mostWorn 34 = .ok (.ireturn, 1) := by decide +kernel
theorem dX0_placeInOrder_0 : decode cX0_placeInOrder 0 = .ok (.iconst 0, 1) := by decide +kernel
theorem dX0_placeInOrder_1 : decode cX0_placeInOrder 1 = .ok (.istore_n 3, 1) := by decide +kernel
theorem dX0_placeInOrder_2 : decode cX0_placeInOrder 2 = .ok (.aload_n 0, 1) := by decide +kernel
theorem dX0_placeInOrder_3 : decode cX0_placeInOrder 3 = .ok (.iload_n 1, 1) := by decide +kernel
theorem dX0_placeInOrder_4 : decode cX0_placeInOrder 4 = .ok (.iload_n 2, 1) := by decide +kernel
theorem dX0_placeInOrder_5 : decode cX0_placeInOrder 5 = .ok (.invokevirtual 62, 3) := by decide +kernel
theorem dX0_placeInOrder_8 : decode cX0_placeInOrder 8 = .ok (.istore 4, 2) := by decide +kernel
theorem dX0_placeInOrder_10 : decode cX0_placeInOrder 10 = .ok (.iconst 0, 1) := by decide +kernel
theorem dX0_placeInOrder_11 : decode cX0_placeInOrder 11 = .ok (.istore 5, 2) := by decide +kernel
theorem dX0_placeInOrder_13 : decode cX0_placeInOrder 13 = .ok (.iload 5, 2) := by decide +kernel
theorem dX0_placeInOrder_15 : decode cX0_placeInOrder 15 = .ok (.bipush 6, 2) := by decide +kernel
theorem dX0_placeInOrder_17 : decode cX0_placeInOrder 17 = .ok (.if_icmp .ge 41, 3) := by decide +kernel
theorem dX0_placeInOrder_20 : decode cX0_placeInOrder 20 = .ok (.aload_n 0, 1) := by decide +kernel
theorem dX0_placeInOrder_21 : decode cX0_placeInOrder 21 = .ok (.iload_n 1, 1) := by decide +kernel
theorem dX0_placeInOrder_22 : decode cX0_placeInOrder 22 = .ok (.iload 5, 2) := by decide +kernel
theorem dX0_placeInOrder_24 : decode cX0_placeInOrder 24 = .ok (.invokevirtual 62, 3) := by decide +kernel
theorem dX0_placeInOrder_27 : decode cX0_placeInOrder 27 = .ok (.istore 6, 2) := by decide +kernel
theorem dX0_placeInOrder_29 : decode cX0_placeInOrder 29 = .ok (.iload 6, 2) := by decide +kernel
theorem dX0_placeInOrder_31 : decode cX0_placeInOrder 31 = .ok (.iload 4, 2) := by decide +kernel
theorem dX0_placeInOrder_33 : decode cX0_placeInOrder 33 = .ok (.if_icmp .gt 16, 3) := by decide +kernel
theorem dX0_placeInOrder_36 : decode cX0_placeInOrder 36 = .ok (.iload 6, 2) := by decide +kernel
theorem dX0_placeInOrder_38 : decode cX0_placeInOrder 38 = .ok (.iload 4, 2) := by decide +kernel
theorem dX0_placeInOrder_40 : decode cX0_placeInOrder 40 = .ok (.if_icmp .ne 12, 3) := by decide +kernel
theorem dX0_placeInOrder_43 : decode cX0_placeInOrder 43 = .ok (.iload 5, 2) := by decide +kernel
theorem dX0_placeInOrder_45 : decode cX0_placeInOrder 45 = .ok (.iload_n 2, 1) := by decide +kernel
theorem dX0_placeInOrder_46 : decode cX0_placeInOrder 46 = .ok (.if_icmp .ge 6, 3) := by decide +kernel
theorem dX0_placeInOrder_49 : decode cX0_placeInOrder 49 = .ok (.iinc 3 1, 3) := by decide +kernel
theorem dX0_placeInOrder_52 : decode cX0_placeInOrder 52 = .ok (.iinc 5 1, 3) := by decide +kernel
theorem dX0_placeInOrder_55 : decode cX0_placeInOrder 55 = .ok (.goto (-42), 3) := by decide +kernel
theorem dX0_placeInOrder_58 : decode cX0_placeInOrder 58 = .ok (.iload_n 3, 1) := by decide +kernel
theorem dX0_placeInOrder_59 : decode cX0_placeInOrder 59 = .ok (.ireturn, 1) := by decide +kernel
theorem dX1_init_0 : decode cX1_init 0 = .ok (.aload_n 0, 1) := by decide +kernel
theorem dX1_init_1 : decode cX1_init 1 = .ok (.invokespecial 3, 3) := by decide +kernel
theorem dX1_init_4 : decode cX1_init 4 = .ok (.aload_n 0, 1) := by decide +kernel
theorem dX1_init_5 : decode cX1_init 5 = .ok (.iconst 4, 1) := by decide +kernel
theorem dX1_init_6 : decode cX1_init 6 = .ok (.putfield 9, 3) := by decide +kernel
theorem dX1_init_9 : decode cX1_init 9 = .ok (.aload_n 0, 1) := by decide +kernel
theorem dX1_init_10 : decode cX1_init 10 = .ok (.iconst 0, 1) := by decide +kernel
theorem dX1_init_11 : decode cX1_init 11 = .ok (.putfield 15, 3) := by decide +kernel
theorem dX1_init_14 : decode cX1_init 14 = .ok (.aload_n 0, 1) := by decide +kernel
theorem dX1_init_15 : decode cX1_init 15 = .ok (.bipush 24, 2) := by decide +kernel
theorem dX1_init_17 : decode cX1_init 17 = .ok (.putfield 18, 3) := by decide +kernel
theorem dX1_init_20 : decode cX1_init 20 = .ok (.return_, 1) := by decide +kernel
theorem dX1_isOpenIn_0 : decode cX1_isOpenIn 0 = .ok (.iload_n 1, 1) := by decide +kernel
theorem dX1_isOpenIn_1 : decode cX1_isOpenIn 1 = .ok (.bipush 24, 2) := by decide +kernel
theorem dX1_isOpenIn_3 : decode cX1_isOpenIn 3 = .ok (.irem, 1) := by decide +kernel
theorem dX1_isOpenIn_4 : decode cX1_isOpenIn 4 = .ok (.istore_n 2, 1) := by decide +kernel
theorem dX1_isOpenIn_5 : decode cX1_isOpenIn 5 = .ok (.aload_n 0, 1) := by decide +kernel
theorem dX1_isOpenIn_6 : decode cX1_isOpenIn 6 = .ok (.getfield 15, 3) := by decide +kernel
theorem dX1_isOpenIn_9 : decode cX1_isOpenIn 9 = .ok (.aload_n 0, 1) := by decide +kernel
theorem dX1_isOpenIn_10 : decode cX1_isOpenIn 10 = .ok (.getfield 18, 3) := by decide +kernel
theorem dX1_isOpenIn_13 : decode cX1_isOpenIn 13 = .ok (.if_icmp .gt 25, 3) := by decide +kernel
theorem dX1_isOpenIn_16 : decode cX1_isOpenIn 16 = .ok (.iload_n 2, 1) := by decide +kernel
theorem dX1_isOpenIn_17 : decode cX1_isOpenIn 17 = .ok (.aload_n 0, 1) := by decide +kernel
theorem dX1_isOpenIn_18 : decode cX1_isOpenIn 18 = .ok (.getfield 15, 3) := by decide +kernel
theorem dX1_isOpenIn_21 : decode cX1_isOpenIn 21 = .ok (.if_icmp .lt 15, 3) := by decide +kernel
theorem dX1_isOpenIn_24 : decode cX1_isOpenIn 24 = .ok (.iload_n 2, 1) := by decide +kernel
theorem dX1_isOpenIn_25 : decode cX1_isOpenIn 25 = .ok (.aload_n 0, 1) := by decide +kernel
theorem dX1_isOpenIn_26 : decode cX1_isOpenIn 26 = .ok (.getfield 18, 3) := by decide +kernel
theorem dX1_isOpenIn_29 : decode cX1_isOpenIn 29 = .ok (.if_icmp .ge 7, 3) := by decide +kernel
theorem dX1_isOpenIn_32 : decode cX1_isOpenIn 32 = .ok (.iconst 1, 1) := by decide +kernel
theorem dX1_isOpenIn_33 : decode cX1_isOpenIn 33 = .ok (.goto 4, 3) := by decide +kernel
theorem dX1_isOpenIn_36 : decode cX1_isOpenIn 36 = .ok (.iconst 0, 1) := by decide +kernel
theorem dX1_isOpenIn_37 : decode cX1_isOpenIn 37 = .ok (.ireturn, 1) := by decide +kernel
theorem dX1_isOpenIn_38 : decode cX1_isOpenIn 38 = .ok (.iload_n 2, 1) := by decide +kernel
theorem dX1_isOpenIn_39 : decode cX1_isOpenIn 39 = .ok (.aload_n 0, 1) := by decide +kernel
theorem dX1_isOpenIn_40 : decode cX1_isOpenIn 40 = .ok (.getfield 15, 3) := by decide +kernel
theorem dX1_isOpenIn_43 : decode cX1_isOpenIn 43 = .ok (.if_icmp .ge 11, 3) := by decide +kernel
theorem dX1_isOpenIn_46 : decode cX1_isOpenIn 46 = .ok (.iload_n 2, 1) := by decide +kernel
theorem dX1_isOpenIn_47 : decode cX1_isOpenIn 47 = .ok (.aload_n 0, 1) := by decide +kernel
theorem dX1_isOpenIn_48 : decode cX1_isOpenIn 48 = .ok (.getfield 18, 3) := by decide +kernel
theorem dX1_isOpenIn_51 : decode cX1_isOpenIn 51 = .ok (.if_icmp .ge 7, 3) := by decide +kernel
theorem dX1_isOpenIn_54 : decode cX1_isOpenIn 54 = .ok (.iconst 1, 1) := by decide +kernel
theorem dX1_isOpenIn_55 : decode cX1_isOpenIn 55 = .ok (.goto 4, 3) := by decide +kernel
theorem dX1_isOpenIn_58 : decode cX1_isOpenIn 58 = .ok (.iconst 0, 1) := by decide +kernel
theorem dX1_isOpenIn_59 : decode cX1_isOpenIn 59 = .ok (.ireturn, 1) := by decide +kernel
theorem dX2_init_0 : decode cX2_init 0 = .ok (.aload_n 0, 1) := by decide +kernel
theorem dX2_init_1 : decode cX2_init 1 = .ok (.invokespecial 3, 3) := by decide +kernel
theorem dX2_init_4 : decode cX2_init 4 = .ok (.aload_n 0, 1) := by decide +kernel
theorem dX2_init_5 : decode cX2_init 5 = .ok (.iconst 5, 1) := by decide +kernel
theorem dX2_init_6 : decode cX2_init 6 = .ok (.bipush 21, 2) := by decide +kernel
theorem dX2_init_8 : decode cX2_init 8 = .ok (.multianewarray 11 2, 4) := by decide +kernel
theorem dX2_init_12 : decode cX2_init 12 = .ok (.putfield 13, 3) := by decide +kernel
theorem dX2_init_15 : decode cX2_init 15 = .ok (.aload_n 0, 1) := by decide +kernel
theorem dX2_init_16 : decode cX2_init 16 = .ok (.getfield 13, 3) := by decide +kernel
theorem dX2_init_19 : decode cX2_init 19 = .ok (.iconst 0, 1) := by decide +kernel
theorem dX2_init_20 : decode cX2_init 20 = .ok (.aaload, 1) := by decide +kernel
theorem dX2_init_21 : decode cX2_init 21 = .ok (.iconst 0, 1) := by decide +kernel
theorem dX2_init_22 : decode cX2_init 22 = .ok (.iconst 1, 1) := by decide +kernel
theorem dX2_init_23 : decode cX2_init 23 = .ok (.iastore, 1) := by decide +kernel
theorem dX2_init_24 : decode cX2_init 24 = .ok (.iconst 1, 1) := by decide +kernel
theorem dX2_init_25 : decode cX2_init 25 = .ok (.istore_n 1, 1) := by decide +kernel
theorem dX2_init_26 : decode cX2_init 26 = .ok (.iload_n 1, 1) := by decide +kernel
theorem dX2_init_27 : decode cX2_init 27 = .ok (.iconst 4, 1) := by decide +kernel
theorem dX2_init_28 : decode cX2_init 28 = .ok (.if_icmp .gt 65, 3) := by decide +kernel
theorem dX2_init_31 : decode cX2_init 31 = .ok (.iconst 0, 1) := by decide +kernel
theorem dX2_init_32 : decode cX2_init 32 = .ok (.istore_n 2, 1) := by decide +kernel
theorem dX2_init_33 : decode cX2_init 33 = .ok (.iload_n 2, 1) := by decide +kernel
theorem dX2_init_34 : decode cX2_init 34 = .ok (.bipush 20, 2) := by decide +kernel
theorem dX2_init_36 : decode cX2_init 36 = .ok (.if_icmp .gt 51, 3) := by decide +kernel
theorem dX2_init_39 : decode cX2_init 39 = .ok (.iconst 0, 1) := by decide +kernel
theorem dX2_init_40 : decode cX2_init 40 = .ok (.istore_n 3, 1) := by decide +kernel
theorem dX2_init_41 : decode cX2_init 41 = .ok (.iload_n 3, 1) := by decide +kernel
theorem dX2_init_42 : decode cX2_init 42 = .ok (.bipush 6, 2) := by decide +kernel
theorem dX2_init_44 : decode cX2_init 44 = .ok (.if_icmp .ge 37, 3) := by decide +kernel
theorem dX2_init_47 : decode cX2_init 47 = .ok (.iload_n 3, 1) := by decide +kernel
theorem dX2_init_48 : decode cX2_init 48 = .ok (.iload_n 2, 1) := by decide +kernel
theorem dX2_init_49 : decode cX2_init 49 = .ok (.if_icmp .gt 32, 3) := by decide +kernel
theorem dX2_init_52 : decode cX2_init 52 = .ok (.aload_n 0, 1) := by decide +kernel
theorem dX2_init_53 : decode cX2_init 53 = .ok (.getfield 13, 3) := by decide +kernel
theorem dX2_init_56 : decode cX2_init 56 = .ok (.iload_n 1, 1) := by decide +kernel
theorem dX2_init_57 : decode cX2_init 57 = .ok (.aaload, 1) := by decide +kernel
theorem dX2_init_58 : decode cX2_init 58 = .ok (.iload_n 2, 1) := by decide +kernel
theorem dX2_init_59 : decode cX2_init 59 = .ok (.dup2, 1) := by decide +kernel
theorem dX2_init_60 : decode cX2_init 60 = .ok (.iaload, 1) := by decide +kernel
theorem dX2_init_61 : decode cX2_init 61 = .ok (.aload_n 0, 1) := by decide +kernel
theorem dX2_init_62 : decode cX2_init 62 = .ok (.getfield 13, 3) := by decide +kernel
theorem dX2_init_65 : decode cX2_init 65 = .ok (.iload_n 1, 1) := by decide +kernel
theorem dX2_init_66 : decode cX2_init 66 = .ok (.iconst 1, 1) := by decide +kernel
theorem dX2_init_67 : decode cX2_init 67 = .ok (.isub, 1) := by decide +kernel
theorem dX2_init_68 : decode cX2_init 68 = .ok (.aaload, 1) := by decide +kernel
theorem dX2_init_69 : decode cX2_init 69 = .ok (.iload_n 2, 1) := by decide +kernel
theorem dX2_init_70 : decode cX2_init 70 = .ok (.iload_n 3, 1) := by decide +kernel
theorem dX2_init_71 : decode cX2_init 71 = .ok (.isub, 1) := by decide +kernel
theorem dX2_init_72 : decode cX2_init 72 = .ok (.iaload, 1) := by decide +kernel
theorem dX2_init_73 : decode cX2_init 73 = .ok (.iadd, 1) := by decide +kernel
theorem dX2_init_74 : decode cX2_init 74 = .ok (.iastore, 1) := by decide +kernel
theorem dX2_init_75 : decode cX2_init 75 = .ok (.iinc 3 1, 3) := by decide +kernel
theorem dX2_init_78 : decode cX2_init 78 = .ok (.goto (-37), 3) := by decide +kernel
theorem dX2_init_81 : decode cX2_init 81 = .ok (.iinc 2 1, 3) := by decide +kernel
theorem dX2_init_84 : decode cX2_init 84 = .ok (.goto (-51), 3) := by decide +kernel
theorem dX2_init_87 : decode cX2_init 87 = .ok (.iinc 1 1, 3) := by decide +kernel
theorem dX2_init_90 : decode cX2_init 90 = .ok (.goto (-64), 3) := by decide +kernel
theorem dX2_init_93 : decode cX2_init 93 = .ok (.return_, 1) := by decide +kernel
theorem dX2_trialOf_0 : decode cX2_trialOf 0 = .ok (.aload_n 1, 1) := by decide +kernel
theorem dX2_trialOf_1 : decode cX2_trialOf 1 = .ok (.iload_n 2, 1) := by decide +kernel
theorem dX2_trialOf_2 : decode cX2_trialOf 2 = .ok (.invokestatic 16, 3) := by decide +kernel
theorem dX2_trialOf_5 : decode cX2_trialOf 5 = .ok (.istore_n 3, 1) := by decide +kernel
theorem dX2_trialOf_6 : decode cX2_trialOf 6 = .ok (.iconst 0, 1) := by decide +kernel
theorem dX2_trialOf_7 : decode cX2_trialOf 7 = .ok (.istore 4, 2) := by decide +kernel
theorem dX2_trialOf_9 : decode cX2_trialOf 9 = .ok (.iconst 0, 1) := by decide +kernel
theorem dX2_trialOf_10 : decode cX2_trialOf 10 = .ok (.istore 5, 2) := by decide +kernel
theorem dX2_trialOf_12 : decode cX2_trialOf 12 = .ok (.iload 5, 2) := by decide +kernel
theorem dX2_trialOf_14 : decode cX2_trialOf 14 = .ok (.iload_n 3, 1) := by decide +kernel
theorem dX2_trialOf_15 : decode cX2_trialOf 15 = .ok (.if_icmp .ge 21, 3) := by decide +kernel
theorem dX2_trialOf_18 : decode cX2_trialOf 18 = .ok (.iload 4, 2) := by decide +kernel
theorem dX2_trialOf_20 : decode cX2_trialOf 20 = .ok (.aload_n 0, 1) := by decide +kernel
theorem dX2_trialOf_21 : decode cX2_trialOf 21 = .ok (.iconst 4, 1) := by decide +kernel
theorem dX2_trialOf_22 : decode cX2_trialOf 22 = .ok (.iload 5, 2) := by decide +kernel
theorem dX2_trialOf_24 : decode cX2_trialOf 24 = .ok (.invokevirtual 20, 3) := by decide +kernel
theorem dX2_trialOf_27 : decode cX2_trialOf 27 = .ok (.iadd, 1) := by decide +kernel
theorem dX2_trialOf_28 : decode cX2_trialOf 28 = .ok (.istore 4, 2) := by decide +kernel
theorem dX2_trialOf_30 : decode cX2_trialOf 30 = .ok (.iinc 5 1, 3) := by decide +kernel
theorem dX2_trialOf_33 : decode cX2_trialOf 33 = .ok (.goto (-21), 3) := by decide +kernel
theorem dX2_trialOf_36 : decode cX2_trialOf 36 = .ok (.iload 4, 2) := by decide +kernel
theorem dX2_trialOf_38 : decode cX2_trialOf 38 = .ok (.aload_n 0, 1) := by decide +kernel
theorem dX2_trialOf_39 : decode cX2_trialOf 39 = .ok (.aload_n 1, 1) := by decide +kernel
theorem dX2_trialOf_40 : decode cX2_trialOf 40 = .ok (.iload_n 2, 1) := by decide +kernel
theorem dX2_trialOf_41 : decode cX2_trialOf 41 = .ok (.iload_n 3, 1) := by decide +kernel
theorem dX2_trialOf_42 : decode cX2_trialOf 42 = .ok (.invokevirtual 24, 3) := by decide +kernel
theorem dX2_trialOf_45 : decode cX2_trialOf 45 = .ok (.iadd, 1) := by decide +kernel
theorem dX2_trialOf_46 : decode cX2_trialOf 46 = .ok (.iconst 1, 1) := by decide +kernel
theorem dX2_trialOf_47 : decode cX2_trialOf 47 = .ok (.iadd, 1) := by decide +kernel
theorem dX2_trialOf_48 : decode cX2_trialOf 48 = .ok (.ireturn, 1) := by decide +kernel
theorem dX2_sumOfPlaces_0 : decode cX2_sumOfPlaces 0 = .ok (.iconst 0, 1) := by decide +kernel
theorem dX2_sumOfPlaces_1 : decode cX2_sumOfPlaces 1 = .ok (.istore_n 2, 1) := by decide +kernel
theorem dX2_sumOfPlaces_2 : decode cX2_sumOfPlaces 2 = .ok (.iconst 0, 1) := by decide +kernel
theorem dX2_sumOfPlaces_3 : decode cX2_sumOfPlaces 3 = .ok (.istore_n 3, 1) := by decide +kernel
theorem dX2_sumOfPlaces_4 : decode cX2_sumOfPlaces 4 = .ok (.iload_n 3, 1) := by decide +kernel
theorem dX2_sumOfPlaces_5 : decode cX2_sumOfPlaces 5 = .ok (.iconst 4, 1) := by decide +kernel
theorem dX2_sumOfPlaces_6 : decode cX2_sumOfPlaces 6 = .ok (.if_icmp .ge 22, 3) := by decide +kernel
theorem dX2_sumOfPlaces_9 : decode cX2_sumOfPlaces 9 = .ok (.iload_n 2, 1) := by decide +kernel
theorem dX2_sumOfPlaces_10 : decode cX2_sumOfPlaces 10 = .ok (.aload_n 0, 1) := by decide +kernel
theorem dX2_sumOfPlaces_11 : decode cX2_sumOfPlaces 11 = .ok (.iload_n 3, 1) := by decide +kernel
theorem dX2_sumOfPlaces_12 : decode cX2_sumOfPlaces 12 = .ok (.iload_n 1, 1) := by decide +kernel
theorem dX2_sumOfPlaces_13 : decode cX2_sumOfPlaces 13 = .ok (.iload_n 3, 1) := by decide +kernel
theorem dX2_sumOfPlaces_14 : decode cX2_sumOfPlaces 14 = .ok (.invokestatic 28, 3) := by decide +kernel
theorem dX2_sumOfPlaces_17 : decode cX2_sumOfPlaces 17 = .ok (.invokevirtual 31, 3) := by decide +kernel
theorem dX2_sumOfPlaces_20 : decode cX2_sumOfPlaces 20 = .ok (.iadd, 1) := by decide +kernel
theorem dX2_sumOfPlaces_21 : decode cX2_sumOfPlaces 21 = .ok (.istore_n 2, 1) := by decide +kernel
theorem dX2_sumOfPlaces_22 : decode cX2_sumOfPlaces 22 = .ok (.iinc 3 1, 3) := by decide +kernel
theorem dX2_sumOfPlaces_25 : decode cX2_sumOfPlaces 25 = .ok (.goto (-21), 3) := by decide +kernel
theorem dX2_sumOfPlaces_28 : decode cX2_sumOfPlaces 28 = .ok (.iload_n 2, 1) := by decide +kernel
theorem dX2_sumOfPlaces_29 : decode cX2_sumOfPlaces 29 = .ok (.ireturn, 1) := by decide +kernel
theorem dX2_lesserWordsOfSum_0 : decode cX2_lesserWordsOfSum 0 = .ok (.iconst 0, 1) := by decide +kernel
theorem dX2_lesserWordsOfSum_1 : decode cX2_lesserWordsOfSum 1 = .ok (.istore 4, 2) := by decide +kernel
theorem dX2_lesserWordsOfSum_3 : decode cX2_lesserWordsOfSum 3 = .ok (.iload_n 3, 1) := by decide +kernel
theorem dX2_lesserWordsOfSum_4 : decode cX2_lesserWordsOfSum 4 = .ok (.istore 5, 2) := by decide +kernel
theorem dX2_lesserWordsOfSum_6 : decode cX2_lesserWordsOfSum 6 = .ok (.iconst 0, 1) := by decide +kernel
theorem dX2_lesserWordsOfSum_7 : decode cX2_lesserWordsOfSum 7 = .ok (.istore 6, 2) := by decide +kernel
theorem dX2_lesserWordsOfSum_9 : decode cX2_lesserWordsOfSum 9 = .ok (.iload 6, 2) := by decide +kernel
theorem dX2_lesserWordsOfSum_11 : decode cX2_lesserWordsOfSum 11 = .ok (.iconst 4, 1) := by decide +kernel
theorem dX2_lesserWordsOfSum_12 : decode cX2_lesserWordsOfSum 12 = .ok (.if_icmp .ge 74, 3) := by decide +kernel
theorem dX2_lesserWordsOfSum_15 : decode cX2_lesserWordsOfSum 15 = .ok (.iload_n 2, 1) := by decide +kernel
theorem dX2_lesserWordsOfSum_16 : decode cX2_lesserWordsOfSum 16 = .ok (.iload 6, 2) := by decide +kernel
theorem dX2_lesserWordsOfSum_18 : decode cX2_lesserWordsOfSum 18 = .ok (.invokestatic 28, 3) := by decide +kernel
theorem dX2_lesserWordsOfSum_21 : decode cX2_lesserWordsOfSum 21 = .ok (.istore 7, 2) := by decide +kernel
theorem dX2_lesserWordsOfSum_23 : decode cX2_lesserWordsOfSum 23 = .ok (.iconst 3, 1) := by decide +kernel
theorem dX2_lesserWordsOfSum_24 : decode cX2_lesserWordsOfSum 24 = .ok (.iload 6, 2) := by decide +kernel
theorem dX2_lesserWordsOfSum_26 : decode cX2_lesserWordsOfSum 26 = .ok (.isub, 1) := by decide +kernel
theorem dX2_lesserWordsOfSum_27 : decode cX2_lesserWordsOfSum 27 = .ok (.istore 8, 2) := by decide +kernel
theorem dX2_lesserWordsOfSum_29 : decode cX2_lesserWordsOfSum 29 = .ok (.iconst 0, 1) := by decide +kernel
theorem dX2_lesserWordsOfSum_30 : decode cX2_lesserWordsOfSum 30 = .ok (.istore 9, 2) := by decide +kernel
theorem dX2_lesserWordsOfSum_32 : decode cX2_lesserWordsOfSum 32 = .ok (.iload 9, 2) := by decide +kernel
theorem dX2_lesserWordsOfSum_34 : decode cX2_lesserWordsOfSum 34 = .ok (.iload 7, 2) := by decide +kernel
theorem dX2_lesserWordsOfSum_36 : decode cX2_lesserWordsOfSum 36 = .ok (.if_icmp .ge 31, 3) := by decide +kernel
theorem dX2_lesserWordsOfSum_39 : decode cX2_lesserWordsOfSum 39 = .ok (.iload 4, 2) := by decide +kernel
theorem dX2_lesserWordsOfSum_41 : decode cX2_lesserWordsOfSum 41 = .ok (.aload_n 0, 1) := by decide +kernel
theorem dX2_lesserWordsOfSum_42 : decode cX2_lesserWordsOfSum 42 = .ok (.iload 8, 2) := by decide +kernel
theorem dX2_lesserWordsOfSum_44 : decode cX2_lesserWordsOfSum 44 = .ok (.iload 5, 2) := by decide +kernel
theorem dX2_lesserWordsOfSum_46 : decode cX2_lesserWordsOfSum 46 = .ok (.aload_n 1, 1) := by decide +kernel
theorem dX2_lesserWordsOfSum_47 : decode cX2_lesserWordsOfSum 47 = .ok (.iload 6, 2) := by decide +kernel
theorem dX2_lesserWordsOfSum_49 : decode cX2_lesserWordsOfSum 49 = .ok (.iload 9, 2) := by decide +kernel
theorem dX2_lesserWordsOfSum_51 : decode cX2_lesserWordsOfSum 51 = .ok (.invokevirtual 31, 3) := by decide +kernel
theorem dX2_lesserWordsOfSum_54 : decode cX2_lesserWordsOfSum 54 = .ok (.isub, 1) := by decide +kernel
theorem dX2_lesserWordsOfSum_55 : decode cX2_lesserWordsOfSum 55 = .ok (.invokevirtual 20, 3) := by decide +kernel
theorem dX2_lesserWordsOfSum_58 : decode cX2_lesserWordsOfSum 58 = .ok (.iadd, 1) := by decide +kernel
theorem dX2_lesserWordsOfSum_59 : decode cX2_lesserWordsOfSum 59 = .ok (.istore 4, 2) := by decide +kernel
theorem dX2_lesserWordsOfSum_61 : decode cX2_lesserWordsOfSum 61 = .ok (.iinc 9 1, 3) := by decide +kernel
theorem dX2_lesserWordsOfSum_64 : decode cX2_lesserWordsOfSum 64 = .ok (.goto (-32), 3) := by decide +kernel
theorem dX2_lesserWordsOfSum_67 : decode cX2_lesserWordsOfSum 67 = .ok (.iload 5, 2) := by decide +kernel
theorem dX2_lesserWordsOfSum_69 : decode cX2_lesserWordsOfSum 69 = .ok (.aload_n 1, 1) := by decide +kernel
theorem dX2_lesserWordsOfSum_70 : decode cX2_lesserWordsOfSum 70 = .ok (.iload 6, 2) := by decide +kernel
theorem dX2_lesserWordsOfSum_72 : decode cX2_lesserWordsOfSum 72 = .ok (.iload 7, 2) := by decide +kernel
theorem dX2_lesserWordsOfSum_74 : decode cX2_lesserWordsOfSum 74 = .ok (.invokevirtual 31, 3) := by decide +kernel
theorem dX2_lesserWordsOfSum_77 : decode cX2_lesserWordsOfSum 77 = .ok (.isub, 1) := by decide +kernel
theorem dX2_lesserWordsOfSum_78 : decode cX2_lesserWordsOfSum 78 = .ok (.istore 5, 2) := by decide +kernel
theorem dX2_lesserWordsOfSum_80 : decode cX2_lesserWordsOfSum 80 = .ok (.iinc 6 1, 3) := by decide +kernel
theorem dX2_lesserWordsOfSum_83 : decode cX2_lesserWordsOfSum 83 = .ok (.goto (-74), 3) := by decide +kernel
theorem dX2_lesserWordsOfSum_86 : decode cX2_lesserWordsOfSum 86 = .ok (.iload 4, 2) := by decide +kernel
theorem dX2_lesserWordsOfSum_88 : decode cX2_lesserWordsOfSum 88 = .ok (.ireturn, 1) := by decide +kernel
theorem dX2_wordsWith_0 : decode cX2_wordsWith 0 = .ok (.iload_n 1, 1) := by decide +kernel
theorem dX2_wordsWith_1 : decode cX2_wordsWith 1 = .ok (.ifCond .lt 18, 3) := by decide +kernel
theorem dX2_wordsWith_4 : decode cX2_wordsWith 4 = .ok (.iload_n 1, 1) := by decide +kernel
theorem dX2_wordsWith_5 : decode cX2_wordsWith 5 = .ok (.iconst 4, 1) := by decide +kernel
theorem dX2_wordsWith_6 : decode cX2_wordsWith 6 = .ok (.if_icmp .gt 13, 3) := by decide +kernel
theorem dX2_wordsWith_9 : decode cX2_wordsWith 9 = .ok (.iload_n 2, 1) := by decide +kernel
theorem dX2_wordsWith_10 : decode cX2_wordsWith 10 = .ok (.ifCond .lt 9, 3) := by decide +kernel
theorem dX2_wordsWith_13 : decode cX2_wordsWith 13 = .ok (.iload_n 2, 1) := by decide +kernel
theorem dX2_wordsWith_14 : decode cX2_wordsWith 14 = .ok (.bipush 20, 2) := by decide +kernel
theorem dX2_wordsWith_16 : decode cX2_wordsWith 16 = .ok (.if_icmp .le 5, 3) := by decide +kernel
theorem dX2_wordsWith_19 : decode cX2_wordsWith 19 = .ok (.iconst 0, 1) := by decide +kernel
theorem dX2_wordsWith_20 : decode cX2_wordsWith 20 = .ok (.ireturn, 1) := by decide +kernel
theorem dX2_wordsWith_21 : decode cX2_wordsWith 21 = .ok (.aload_n 0, 1) := by decide +kernel
theorem dX2_wordsWith_22 : decode cX2_wordsWith 22 = .ok (.getfield 13, 3) := by decide +kernel
theorem dX2_wordsWith_25 : decode cX2_wordsWith 25 = .ok (.iload_n 1, 1) := by decide +kernel
theorem dX2_wordsWith_26 : decode cX2_wordsWith 26 = .ok (.aaload, 1) := by decide +kernel
theorem dX2_wordsWith_27 : decode cX2_wordsWith 27 = .ok (.iload_n 2, 1) := by decide +kernel
theorem dX2_wordsWith_28 : decode cX2_wordsWith 28 = .ok (.iaload, 1) := by decide +kernel
theorem dX2_wordsWith_29 : decode cX2_wordsWith 29 = .ok (.ireturn, 1) := by decide +kernel
theorem dX3_init_0 : decode cX3_init 0 = .ok (.aload_n 0, 1) := by decide +kernel
theorem dX3_init_1 : decode cX3_init 1 = .ok (.invokespecial 1, 3) := by decide +kernel
theorem dX3_init_4 : decode cX3_init 4 = .ok (.aload_n 0, 1) := by decide +kernel
theorem dX3_init_5 : decode cX3_init 5 = .ok (.new 7, 3) := by decide +kernel
theorem dX3_init_8 : decode cX3_init 8 = .ok (.dup, 1) := by decide +kernel
theorem dX3_init_9 : decode cX3_init 9 = .ok (.invokespecial 9, 3) := by decide +kernel
theorem dX3_init_12 : decode cX3_init 12 = .ok (.putfield 10, 3) := by decide +kernel
theorem dX3_init_15 : decode cX3_init 15 = .ok (.aload_n 0, 1) := by decide +kernel
theorem dX3_init_16 : decode cX3_init 16 = .ok (.iconst 3, 1) := by decide +kernel
theorem dX3_init_17 : decode cX3_init 17 = .ok (.anewarray 16, 3) := by decide +kernel
theorem dX3_init_20 : decode cX3_init 20 = .ok (.putfield 18, 3) := by decide +kernel
theorem dX3_init_23 : decode cX3_init 23 = .ok (.iconst 0, 1) := by decide +kernel
theorem dX3_init_24 : decode cX3_init 24 = .ok (.istore_n 1, 1) := by decide +kernel
theorem dX3_init_25 : decode cX3_init 25 = .ok (.iload_n 1, 1) := by decide +kernel
theorem dX3_init_26 : decode cX3_init 26 = .ok (.aload_n 0, 1) := by decide +kernel
theorem dX3_init_27 : decode cX3_init 27 = .ok (.getfield 18, 3) := by decide +kernel
theorem dX3_init_30 : decode cX3_init 30 = .ok (.arraylength, 1) := by decide +kernel
theorem dX3_init_31 : decode cX3_init 31 = .ok (.if_icmp .ge 22, 3) := by decide +kernel
theorem dX3_init_34 : decode cX3_init 34 = .ok (.aload_n 0, 1) := by decide +kernel
theorem dX3_init_35 : decode cX3_init 35 = .ok (.getfield 18, 3) := by decide +kernel
theorem dX3_init_38 : decode cX3_init 38 = .ok (.iload_n 1, 1) := by decide +kernel
theorem dX3_init_39 : decode cX3_init 39 = .ok (.new 16, 3) := by decide +kernel
theorem dX3_init_42 : decode cX3_init 42 = .ok (.dup, 1) := by decide +kernel
theorem dX3_init_43 : decode cX3_init 43 = .ok (.invokespecial 22, 3) := by decide +kernel
theorem dX3_init_46 : decode cX3_init 46 = .ok (.aastore, 1) := by decide +kernel
theorem dX3_init_47 : decode cX3_init 47 = .ok (.iinc 1 1, 3) := by decide +kernel
theorem dX3_init_50 : decode cX3_init 50 = .ok (.goto (-25), 3) := by decide +kernel
theorem dX3_init_53 : decode cX3_init 53 = .ok (.aload_n 0, 1) := by decide +kernel
theorem dX3_init_54 : decode cX3_init 54 = .ok (.new 23, 3) := by decide +kernel
theorem dX3_init_57 : decode cX3_init 57 = .ok (.dup, 1) := by decide +kernel
theorem dX3_init_58 : decode cX3_init 58 = .ok (.invokespecial 25, 3) := by decide +kernel
theorem dX3_init_61 : decode cX3_init 61 = .ok (.putfield 26, 3) := by decide +kernel
theorem dX3_init_64 : decode cX3_init 64 = .ok (.aload_n 0, 1) := by decide +kernel
theorem dX3_init_65 : decode cX3_init 65 = .ok (.new 30, 3) := by decide +kernel
theorem dX3_init_68 : decode cX3_init 68 = .ok (.dup, 1) := by decide +kernel
theorem dX3_init_69 : decode cX3_init 69 = .ok (.iconst 0, 1) := by decide +kernel
theorem dX3_init_70 : decode cX3_init 70 = .ok (.invokespecial 32, 3) := by decide +kernel
theorem dX3_init_73 : decode cX3_init 73 = .ok (.putfield 35, 3) := by decide +kernel
theorem dX3_init_76 : decode cX3_init 76 = .ok (.aload_n 0, 1) := by decide +kernel
theorem dX3_init_77 : decode cX3_init 77 = .ok (.iconst 0, 1) := by decide +kernel
theorem dX3_init_78 : decode cX3_init 78 = .ok (.putfield 39, 3) := by decide +kernel
theorem dX3_init_81 : decode cX3_init 81 = .ok (.aload_n 0, 1) := by decide +kernel
theorem dX3_init_82 : decode cX3_init 82 = .ok (.iconst 0, 1) := by decide +kernel
theorem dX3_init_83 : decode cX3_init 83 = .ok (.putfield 43, 3) := by decide +kernel
theorem dX3_init_86 : decode cX3_init 86 = .ok (.return_, 1) := by decide +kernel
theorem dX3_lock_0 : decode cX3_lock 0 = .ok (.iload_n 1, 1) := by decide +kernel
theorem dX3_lock_1 : decode cX3_lock 1 = .ok (.invokestatic 46, 3) := by decide +kernel
theorem dX3_lock_4 : decode cX3_lock 4 = .ok (.aload_n 0, 1) := by decide +kernel
theorem dX3_lock_5 : decode cX3_lock 5 = .ok (.getfield 10, 3) := by decide +kernel
theorem dX3_lock_8 : decode cX3_lock 8 = .ok (.invokevirtual 49, 3) := by decide +kernel
theorem dX3_lock_11 : decode cX3_lock 11 = .ok (.bipush 8, 2) := by decide +kernel
theorem dX3_lock_13 : decode cX3_lock 13 = .ok (.if_icmp .lt 13, 3) := by decide +kernel
theorem dX3_lock_16 : decode cX3_lock 16 = .ok (.new 53, 3) := by decide +kernel
theorem dX3_lock_19 : decode cX3_lock 19 = .ok (.dup, 1) := by decide +kernel
theorem dX3_lock_20 : decode cX3_lock 20 = .ok (.ldc 55, 2) := by decide +kernel
theorem dX3_lock_22 : decode cX3_lock 22 = .ok (.invokespecial 57, 3) := by decide +kernel
theorem dX3_lock_25 : decode cX3_lock 25 = .ok (.athrow, 1) := by decide +kernel
theorem dX3_lock_26 : decode cX3_lock 26 = .ok (.aload_n 0, 1) := by decide +kernel
theorem dX3_lock_27 : decode cX3_lock 27 = .ok (.getfield 10, 3) := by decide +kernel
theorem dX3_lock_30 : decode cX3_lock 30 = .ok (.new 30, 3) := by decide +kernel
theorem dX3_lock_33 : decode cX3_lock 33 = .ok (.dup, 1) := by decide +kernel
theorem dX3_lock_34 : decode cX3_lock 34 = .ok (.iload_n 1, 1) := by decide +kernel
theorem dX3_lock_35 : decode cX3_lock 35 = .ok (.invokespecial 32, 3) := by decide +kernel
theorem dX3_lock_38 : decode cX3_lock 38 = .ok (.invokevirtual 60, 3) := by decide +kernel
theorem dX3_lock_41 : decode cX3_lock 41 = .ok (.pop, 1) := by decide +kernel
theorem dX3_lock_42 : decode cX3_lock 42 = .ok (.aload_n 0, 1) := by decide +kernel
theorem dX3_lock_43 : decode cX3_lock 43 = .ok (.getfield 10, 3) := by decide +kernel
theorem dX3_lock_46 : decode cX3_lock 46 = .ok (.invokevirtual 49, 3) := by decide +kernel
theorem dX3_lock_49 : decode cX3_lock 49 = .ok (.iconst 1, 1) := by decide +kernel
theorem dX3_lock_50 : decode cX3_lock 50 = .ok (.isub, 1) := by decide +kernel
theorem dX3_lock_51 : decode cX3_lock 51 = .ok (.ireturn, 1) := by decide +kernel
theorem dX3_turn_0 : decode cX3_turn 0 = .ok (.aload_n 0, 1) := by decide +kernel
theorem dX3_turn_1 : decode cX3_turn 1 = .ok (.iload_n 1, 1) := by decide +kernel
theorem dX3_turn_2 : decode cX3_turn 2 = .ok (.invokevirtual 64, 3) := by decide +kernel
theorem dX3_turn_5 : decode cX3_turn 5 = .ok (.astore 4, 2) := by decide +kernel
theorem dX3_turn_7 : decode cX3_turn 7 = .ok (.iload_n 2, 1) := by decide +kernel
theorem dX3_turn_8 : decode cX3_turn 8 = .ok (.invokestatic 68, 3) := by decide +kernel
theorem dX3_turn_11 : decode cX3_turn 11 = .ok (.iload_n 3, 1) := by decide +kernel
theorem dX3_turn_12 : decode cX3_turn 12 = .ok (.invokestatic 71, 3) := by decide +kernel
theorem dX3_turn_15 : decode cX3_turn 15 = .ok (.ifCond .ne 13, 3) := by decide +kernel
theorem dX3_turn_18 : decode cX3_turn 18 = .ok (.new 75, 3) := by decide +kernel
theorem dX3_turn_21 : decode cX3_turn 21 = .ok (.dup, 1) := by decide +kernel
theorem dX3_turn_22 : decode cX3_turn 22 = .ok (.ldc 77, 2) := by decide +kernel
theorem dX3_turn_24 : decode cX3_turn 24 = .ok (.invokespecial 79, 3) := by decide +kernel
theorem dX3_turn_27 : decode cX3_turn 27 = .ok (.athrow, 1) := by decide +kernel
theorem dX3_turn_28 : decode cX3_turn 28 = .ok (.aload 4, 2) := by decide +kernel
theorem dX3_turn_30 : decode cX3_turn 30 = .ok (.iload_n 2, 1) := by decide +kernel
theorem dX3_turn_31 : decode cX3_turn 31 = .ok (.invokevirtual 80, 3) := by decide +kernel
theorem dX3_turn_34 : decode cX3_turn 34 = .ok (.iload_n 3, 1) := by decide +kernel
theorem dX3_turn_35 : decode cX3_turn 35 = .ok (.invokestatic 84, 3) := by decide +kernel
theorem dX3_turn_38 : decode cX3_turn 38 = .ok (.istore 5, 2) := by decide +kernel
theorem dX3_turn_40 : decode cX3_turn 40 = .ok (.aload 4, 2) := by decide +kernel
theorem dX3_turn_42 : decode cX3_turn 42 = .ok (.iload_n 2, 1) := by decide +kernel
theorem dX3_turn_43 : decode cX3_turn 43 = .ok (.iload_n 3, 1) := by decide +kernel
theorem dX3_turn_44 : decode cX3_turn 44 = .ok (.invokevirtual 88, 3) := by decide +kernel
theorem dX3_turn_47 : decode cX3_turn 47 = .ok (.aload_n 0, 1) := by decide +kernel
theorem dX3_turn_48 : decode cX3_turn 48 = .ok (.dup, 1) := by decide +kernel
theorem dX3_turn_49 : decode cX3_turn 49 = .ok (.getfield 43, 3) := by decide +kernel
theorem dX3_turn_52 : decode cX3_turn 52 = .ok (.iload 5, 2) := by decide +kernel
theorem dX3_turn_54 : decode cX3_turn 54 = .ok (.iadd, 1) := by decide +kernel
theorem dX3_turn_55 : decode cX3_turn 55 = .ok (.putfield 43, 3) := by decide +kernel
theorem dX3_turn_58 : decode cX3_turn 58 = .ok (.iload 5, 2) := by decide +kernel
theorem dX3_turn_60 : decode cX3_turn 60 = .ok (.ireturn, 1) := by decide +kernel
theorem dX3_open_0 : decode cX3_open 0 = .ok (.aload_n 0, 1) := by decide +kernel
theorem dX3_open_1 : decode cX3_open 1 = .ok (.iload_n 1, 1) := by decide +kernel
theorem dX3_open_2 : decode cX3_open 2 = .ok (.invokevirtual 64, 3) := by decide +kernel
theorem dX3_open_5 : decode cX3_open 5 = .ok (.astore_n 2, 1) := by decide +kernel
theorem dX3_open_6 : decode cX3_open 6 = .ok (.aload_n 2, 1) := by decide +kernel
theorem dX3_open_7 : decode cX3_open 7 = .ok (.invokevirtual 92, 3) := by decide +kernel
theorem dX3_open_10 : decode cX3_open 10 = .ok (.aload_n 2, 1) := by decide +kernel
theorem dX3_open_11 : decode cX3_open 11 = .ok (.getfield 95, 3) := by decide +kernel
theorem dX3_open_14 : decode cX3_open 14 = .ok (.if_icmp .ne 8, 3) := by decide +kernel
theorem dX3_open_17 : decode cX3_open 17 = .ok (.aload_n 2, 1) := by decide +kernel
theorem dX3_open_18 : decode cX3_open 18 = .ok (.iconst 1, 1) := by decide +kernel
theorem dX3_open_19 : decode cX3_open 19 = .ok (.putfield 98, 3) := by decide +kernel
theorem dX3_open_22 : decode cX3_open 22 = .ok (.aload_n 2, 1) := by decide +kernel
theorem dX3_open_23 : decode cX3_open 23 = .ok (.getfield 98, 3) := by decide +kernel
theorem dX3_open_26 : decode cX3_open 26 = .ok (.ireturn, 1) := by decide +kernel
theorem dX3_shut_0 : decode cX3_shut 0 = .ok (.aload_n 0, 1) := by decide +kernel
theorem dX3_shut_1 : decode cX3_shut 1 = .ok (.iload_n 1, 1) := by decide +kernel
theorem dX3_shut_2 : decode cX3_shut 2 = .ok (.invokevirtual 64, 3) := by decide +kernel
theorem dX3_shut_5 : decode cX3_shut 5 = .ok (.astore_n 2, 1) := by decide +kernel
theorem dX3_shut_6 : decode cX3_shut 6 = .ok (.aload_n 2, 1) := by decide +kernel
theorem dX3_shut_7 : decode cX3_shut 7 = .ok (.invokestatic 102, 3) := by decide +kernel
theorem dX3_shut_10 : decode cX3_shut 10 = .ok (.aload_n 2, 1) := by decide +kernel
theorem dX3_shut_11 : decode cX3_shut 11 = .ok (.invokevirtual 106, 3) := by decide +kernel
theorem dX3_shut_14 : decode cX3_shut 14 = .ok (.aload_n 2, 1) := by decide +kernel
theorem dX3_shut_15 : decode cX3_shut 15 = .ok (.invokevirtual 92, 3) := by decide +kernel
theorem dX3_shut_18 : decode cX3_shut 18 = .ok (.ireturn, 1) := by decide +kernel
theorem dX3_rename_0 : decode cX3_rename 0 = .ok (.aload_n 0, 1) := by decide +kernel
theorem dX3_rename_1 : decode cX3_rename 1 = .ok (.iload_n 1, 1) := by decide +kernel
theorem dX3_rename_2 : decode cX3_rename 2 = .ok (.invokevirtual 64, 3) := by decide +kernel
theorem dX3_rename_5 : decode cX3_rename 5 = .ok (.astore_n 3, 1) := by decide +kernel
theorem dX3_rename_6 : decode cX3_rename 6 = .ok (.iload_n 2, 1) := by decide +kernel
theorem dX3_rename_7 : decode cX3_rename 7 = .ok (.invokestatic 46, 3) := by decide +kernel
theorem dX3_rename_10 : decode cX3_rename 10 = .ok (.aload_n 3, 1) := by decide +kernel
theorem dX3_rename_11 : decode cX3_rename 11 = .ok (.invokestatic 102, 3) := by decide +kernel
theorem dX3_rename_14 : decode cX3_rename 14 = .ok (.aload_n 3, 1) := by decide +kernel
theorem dX3_rename_15 : decode cX3_rename 15 = .ok (.getfield 95, 3) := by decide +kernel
theorem dX3_rename_18 : decode cX3_rename 18 = .ok (.istore 4, 2) := by decide +kernel
theorem dX3_rename_20 : decode cX3_rename 20 = .ok (.aload_n 3, 1) := by decide +kernel
theorem dX3_rename_21 : decode cX3_rename 21 = .ok (.iload_n 2, 1) := by decide +kernel
theorem dX3_rename_22 : decode cX3_rename 22 = .ok (.putfield 95, 3) := by decide +kernel
theorem dX3_rename_25 : decode cX3_rename 25 = .ok (.aload_n 3, 1) := by decide +kernel
theorem dX3_rename_26 : decode cX3_rename 26 = .ok (.iconst 0, 1) := by decide +kernel
theorem dX3_rename_27 : decode cX3_rename 27 = .ok (.putfield 109, 3) := by decide +kernel
theorem dX3_rename_30 : decode cX3_rename 30 = .ok (.iload 4, 2) := by decide +kernel
theorem dX3_rename_32 : decode cX3_rename 32 = .ok (.ireturn, 1) := by decide +kernel
theorem dX3_lose_0 : decode cX3_lose 0 = .ok (.aload_n 0, 1) := by decide +kernel
theorem dX3_lose_1 : decode cX3_lose 1 = .ok (.iload_n 1, 1) := by decide +kernel
theorem dX3_lose_2 : decode cX3_lose 2 = .ok (.invokevirtual 64, 3) := by decide +kernel
theorem dX3_lose_5 : decode cX3_lose 5 = .ok (.astore_n 3, 1) := by decide +kernel
theorem dX3_lose_6 : decode cX3_lose 6 = .ok (.aload_n 3, 1) := by decide +kernel
theorem dX3_lose_7 : decode cX3_lose 7 = .ok (.getfield 109, 3) := by decide +kernel
theorem dX3_lose_10 : decode cX3_lose 10 = .ok (.istore 4, 2) := by decide +kernel
theorem dX3_lose_12 : decode cX3_lose 12 = .ok (.aload_n 3, 1) := by decide +kernel
theorem dX3_lose_13 : decode cX3_lose 13 = .ok (.iload_n 2, 1) := by decide +kernel
theorem dX3_lose_14 : decode cX3_lose 14 = .ok (.putfield 109, 3) := by decide +kernel
theorem dX3_lose_17 : decode cX3_lose 17 = .ok (.iload 4, 2) := by decide +kernel
theorem dX3_lose_19 : decode cX3_lose 19 = .ok (.ireturn, 1) := by decide +kernel
theorem dX3_setPlaces_0 : decode cX3_setPlaces 0 = .ok (.aload_n 0, 1) := by decide +kernel
theorem dX3_setPlaces_1 : decode cX3_setPlaces 1 = .ok (.iload_n 1, 1) := by decide +kernel
theorem dX3_setPlaces_2 : decode cX3_setPlaces 2 = .ok (.invokevirtual 112, 3) := by decide +kernel
theorem dX3_setPlaces_5 : decode cX3_setPlaces 5 = .ok (.astore_n 3, 1) := by decide +kernel
theorem dX3_setPlaces_6 : decode cX3_setPlaces 6 = .ok (.iload_n 2, 1) := by decide +kernel
theorem dX3_setPlaces_7 : decode cX3_setPlaces 7 = .ok (.iconst 1, 1) := by decide +kernel
theorem dX3_setPlaces_8 : decode cX3_setPlaces 8 = .ok (.if_icmp .lt 9, 3) := by decide +kernel
theorem dX3_setPlaces_11 : decode cX3_setPlaces 11 = .ok (.iload_n 2, 1) := by decide +kernel
theorem dX3_setPlaces_12 : decode cX3_setPlaces 12 = .ok (.bipush 6, 2) := by decide +kernel
theorem dX3_setPlaces_14 : decode cX3_setPlaces 14 = .ok (.if_icmp .le 13, 3) := by decide +kernel
theorem dX3_setPlaces_17 : decode cX3_setPlaces 17 = .ok (.new 75, 3) := by decide +kernel
theorem dX3_setPlaces_20 : decode cX3_setPlaces 20 = .ok (.dup, 1) := by decide +kernel
theorem dX3_setPlaces_21 : decode cX3_setPlaces 21 = .ok (.ldc 116, 2) := by decide +kernel
theorem dX3_setPlaces_23 : decode cX3_setPlaces 23 = .ok (.invokespecial 79, 3) := by decide +kernel
theorem dX3_setPlaces_26 : decode cX3_setPlaces 26 = .ok (.athrow, 1) := by decide +kernel
theorem dX3_setPlaces_27 : decode cX3_setPlaces 27 = .ok (.aload_n 0, 1) := by decide +kernel
theorem dX3_setPlaces_28 : decode cX3_setPlaces 28 = .ok (.iload_n 1, 1) := by decide +kernel
theorem dX3_setPlaces_29 : decode cX3_setPlaces 29 = .ok (.invokevirtual 118, 3) := by decide +kernel
theorem dX3_setPlaces_32 : decode cX3_setPlaces 32 = .ok (.iload_n 2, 1) := by decide +kernel
theorem dX3_setPlaces_33 : decode cX3_setPlaces 33 = .ok (.if_icmp .le 13, 3) := by decide +kernel
theorem dX3_setPlaces_36 : decode cX3_setPlaces 36 = .ok (.new 53, 3) := by decide +kernel
theorem dX3_setPlaces_39 : decode cX3_setPlaces 39 = .ok (.dup, 1) := by decide +kernel
theorem dX3_setPlaces_40 : decode cX3_setPlaces 40 = .ok (.ldc 121, 2) := by decide +kernel
theorem dX3_setPlaces_42 : decode cX3_setPlaces 42 = .ok (.invokespecial 57, 3) := by decide +kernel
theorem dX3_setPlaces_45 : decode cX3_setPlaces 45 = .ok (.athrow, 1) := by decide +kernel
theorem dX3_setPlaces_46 : decode cX3_setPlaces 46 = .ok (.aload_n 3, 1) := by decide +kernel
theorem dX3_setPlaces_47 : decode cX3_setPlaces 47 = .ok (.getfield 123, 3) := by decide +kernel
theorem dX3_setPlaces_50 : decode cX3_setPlaces 50 = .ok (.istore 4, 2) := by decide +kernel
theorem dX3_setPlaces_52 : decode cX3_setPlaces 52 = .ok (.aload_n 3, 1) := by decide +kernel
theorem dX3_setPlaces_53 : decode cX3_setPlaces 53 = .ok (.iload_n 2, 1) := by decide +kernel
theorem dX3_setPlaces_54 : decode cX3_setPlaces 54 = .ok (.putfield 123, 3) := by decide +kernel
theorem dX3_setPlaces_57 : decode cX3_setPlaces 57 = .ok (.iload 4, 2) := by decide +kernel
theorem dX3_setPlaces_59 : decode cX3_setPlaces 59 = .ok (.ireturn, 1) := by decide +kernel
theorem dX3_setHours_0 : decode cX3_setHours 0 = .ok (.aload_n 0, 1) := by decide +kernel
theorem dX3_setHours_1 : decode cX3_setHours 1 = .ok (.iload_n 1, 1) := by decide +kernel
theorem dX3_setHours_2 : decode cX3_setHours 2 = .ok (.invokevirtual 112, 3) := by decide +kernel
theorem dX3_setHours_5 : decode cX3_setHours 5 = .ok (.astore 4, 2) := by decide +kernel
theorem dX3_setHours_7 : decode cX3_setHours 7 = .ok (.iload_n 2, 1) := by decide +kernel
theorem dX3_setHours_8 : decode cX3_setHours 8 = .ok (.ifCond .lt 19, 3) := by decide +kernel
theorem dX3_setHours_11 : decode cX3_setHours 11 = .ok (.iload_n 2, 1) := by decide +kernel
theorem dX3_setHours_12 : decode cX3_setHours 12 = .ok (.bipush 24, 2) := by decide +kernel
theorem dX3_setHours_14 : decode cX3_setHours 14 = .ok (.if_icmp .ge 13, 3) := by decide +kernel
theorem dX3_setHours_17 : decode cX3_setHours 17 = .ok (.iload_n 3, 1) := by decide +kernel
theorem dX3_setHours_18 : decode cX3_setHours 18 = .ok (.ifCond .lt 9, 3) := by decide +kernel
theorem dX3_setHours_21 : decode cX3_setHours 21 = .ok (.iload_n 3, 1) := by decide +kernel
theorem dX3_setHours_22 : decode cX3_setHours 22 = .ok (.bipush 24, 2) := by decide +kernel
theorem dX3_setHours_24 : decode cX3_setHours 24 = .ok (.if_icmp .le 13, 3) := by decide +kernel
theorem dX3_setHours_27 : decode cX3_setHours 27 = .ok (.new 75, 3) := by decide +kernel
theorem dX3_setHours_30 : decode cX3_setHours 30 = .ok (.dup, 1) := by decide +kernel
theorem dX3_setHours_31 : decode cX3_setHours 31 = .ok (.ldc 126, 2) := by decide +kernel
theorem dX3_setHours_33 : decode cX3_setHours 33 = .ok (.invokespecial 79, 3) := by decide +kernel
theorem dX3_setHours_36 : decode cX3_setHours 36 = .ok (.athrow, 1) := by decide +kernel
theorem dX3_setHours_37 : decode cX3_setHours 37 = .ok (.bipush 25, 2) := by decide +kernel
theorem dX3_setHours_39 : decode cX3_setHours 39 = .ok (.aload 4, 2) := by decide +kernel
theorem dX3_setHours_41 : decode cX3_setHours 41 = .ok (.getfield 128, 3) := by decide +kernel
theorem dX3_setHours_44 : decode cX3_setHours 44 = .ok (.imul, 1) := by decide +kernel
theorem dX3_setHours_45 : decode cX3_setHours 45 = .ok (.aload 4, 2) := by decide +kernel
theorem dX3_setHours_47 : decode cX3_setHours 47 = .ok (.getfield 131, 3) := by decide +kernel
theorem dX3_setHours_50 : decode cX3_setHours 50 = .ok (.iadd, 1) := by decide +kernel
theorem dX3_setHours_51 : decode cX3_setHours 51 = .ok (.istore 5, 2) := by decide +kernel
theorem dX3_setHours_53 : decode cX3_setHours 53 = .ok (.aload 4, 2) := by decide +kernel
theorem dX3_setHours_55 : decode cX3_setHours 55 = .ok (.iload_n 2, 1) := by decide +kernel
theorem dX3_setHours_56 : decode cX3_setHours 56 = .ok (.putfield 128, 3) := by decide +kernel
theorem dX3_setHours_59 : decode cX3_setHours 59 = .ok (.aload 4, 2) := by decide +kernel
theorem dX3_setHours_61 : decode cX3_setHours 61 = .ok (.iload_n 3, 1) := by decide +kernel
theorem dX3_setHours_62 : decode cX3_setHours 62 = .ok (.putfield 131, 3) := by decide +kernel
theorem dX3_setHours_65 : decode cX3_setHours 65 = .ok (.iload 5, 2) := by decide +kernel
theorem dX3_setHours_67 : decode cX3_setHours 67 = .ok (.ireturn, 1) := by decide +kernel
theorem dX3_put_0 : decode cX3_put 0 = .ok (.aload_n 0, 1) := by decide +kernel
theorem dX3_put_1 : decode cX3_put 1 = .ok (.iload_n 1, 1) := by decide +kernel
theorem dX3_put_2 : decode cX3_put 2 = .ok (.invokevirtual 64, 3) := by decide +kernel
theorem dX3_put_5 : decode cX3_put 5 = .ok (.astore_n 3, 1) := by decide +kernel
theorem dX3_put_6 : decode cX3_put 6 = .ok (.iload_n 2, 1) := by decide +kernel
theorem dX3_put_7 : decode cX3_put 7 = .ok (.iconst (-1), 1) := by decide +kernel
theorem dX3_put_8 : decode cX3_put 8 = .ok (.if_icmp .eq 21, 3) := by decide +kernel
theorem dX3_put_11 : decode cX3_put 11 = .ok (.aload_n 0, 1) := by decide +kernel
theorem dX3_put_12 : decode cX3_put 12 = .ok (.iload_n 2, 1) := by decide +kernel
theorem dX3_put_13 : decode cX3_put 13 = .ok (.invokevirtual 134, 3) := by decide +kernel
theorem dX3_put_16 : decode cX3_put 16 = .ok (.ifCond .ne 13, 3) := by decide +kernel
theorem dX3_put_19 : decode cX3_put 19 = .ok (.new 137, 3) := by decide +kernel
theorem dX3_put_22 : decode cX3_put 22 = .ok (.dup, 1) := by decide +kernel
theorem dX3_put_23 : decode cX3_put 23 = .ok (.ldc 139, 2) := by decide +kernel
theorem dX3_put_25 : decode cX3_put 25 = .ok (.invokespecial 141, 3) := by decide +kernel
theorem dX3_put_28 : decode cX3_put 28 = .ok (.athrow, 1) := by decide +kernel
theorem dX3_put_29 : decode cX3_put 29 = .ok (.aload_n 3, 1) := by decide +kernel
theorem dX3_put_30 : decode cX3_put 30 = .ok (.getfield 142, 3) := by decide +kernel
theorem dX3_put_33 : decode cX3_put 33 = .ok (.istore 4, 2) := by decide +kernel
theorem dX3_put_35 : decode cX3_put 35 = .ok (.iload_n 2, 1) := by decide +kernel
theorem dX3_put_36 : decode cX3_put 36 = .ok (.iload 4, 2) := by decide +kernel
theorem dX3_put_38 : decode cX3_put 38 = .ok (.if_icmp .ne 6, 3) := by decide +kernel
theorem dX3_put_41 : decode cX3_put 41 = .ok (.iload 4, 2) := by decide +kernel
theorem dX3_put_43 : decode cX3_put 43 = .ok (.ireturn, 1) := by decide +kernel
theorem dX3_put_44 : decode cX3_put 44 = .ok (.aload_n 3, 1) := by decide +kernel
theorem dX3_put_45 : decode cX3_put 45 = .ok (.invokestatic 102, 3) := by decide +kernel
theorem dX3_put_48 : decode cX3_put 48 = .ok (.iload_n 2, 1) := by decide +kernel
theorem dX3_put_49 : decode cX3_put 49 = .ok (.iconst (-1), 1) := by decide +kernel
theorem dX3_put_50 : decode cX3_put 50 = .ok (.if_icmp .eq 21, 3) := by decide +kernel
theorem dX3_put_53 : decode cX3_put 53 = .ok (.aload_n 0, 1) := by decide +kernel
theorem dX3_put_54 : decode cX3_put 54 = .ok (.iload_n 2, 1) := by decide +kernel
theorem dX3_put_55 : decode cX3_put 55 = .ok (.invokevirtual 145, 3) := by decide +kernel
theorem dX3_put_58 : decode cX3_put 58 = .ok (.ifCond .ne 13, 3) := by decide +kernel
theorem dX3_put_61 : decode cX3_put 61 = .ok (.new 53, 3) := by decide +kernel
theorem dX3_put_64 : decode cX3_put 64 = .ok (.dup, 1) := by decide +kernel
theorem dX3_put_65 : decode cX3_put 65 = .ok (.ldc 148, 2) := by decide +kernel
theorem dX3_put_67 : decode cX3_put 67 = .ok (.invokespecial 57, 3) := by decide +kernel
theorem dX3_put_70 : decode cX3_put 70 = .ok (.athrow, 1) := by decide +kernel
theorem dX3_put_71 : decode cX3_put 71 = .ok (.aload_n 3, 1) := by decide +kernel
theorem dX3_put_72 : decode cX3_put 72 = .ok (.iload_n 2, 1) := by decide +kernel
theorem dX3_put_73 : decode cX3_put 73 = .ok (.putfield 142, 3) := by decide +kernel
theorem dX3_put_76 : decode cX3_put 76 = .ok (.iload 4, 2) := by decide +kernel
theorem dX3_put_78 : decode cX3_put 78 = .ok (.ireturn, 1) := by decide +kernel
theorem dX3_told_0 : decode cX3_told 0 = .ok (.aload_n 0, 1) := by decide +kernel
theorem dX3_told_1 : decode cX3_told 1 = .ok (.iload_n 1, 1) := by decide +kernel
theorem dX3_told_2 : decode cX3_told 2 = .ok (.invokevirtual 64, 3) := by decide +kernel
theorem dX3_told_5 : decode cX3_told 5 = .ok (.astore_n 3, 1) := by decide +kernel
theorem dX3_told_6 : decode cX3_told 6 = .ok (.iload_n 2, 1) := by decide +kernel
theorem dX3_told_7 : decode cX3_told 7 = .ok (.tableswitch 94 0 5 #[37, 42, 55, 60, 73, 78], 37) := by decide +kernel
theorem dX3_told_44 : decode cX3_told 44 = .ok (.aload_n 3, 1) := by decide +kernel
theorem dX3_told_45 : decode cX3_told 45 = .ok (.invokevirtual 92, 3) := by decide +kernel
theorem dX3_told_48 : decode cX3_told 48 = .ok (.ireturn, 1) := by decide +kernel
theorem dX3_told_49 : decode cX3_told 49 = .ok (.aload_n 3, 1) := by decide +kernel
theorem dX3_told_50 : decode cX3_told 50 = .ok (.getfield 98, 3) := by decide +kernel
theorem dX3_told_53 : decode cX3_told 53 = .ok (.ifCond .eq 7, 3) := by decide +kernel
theorem dX3_told_56 : decode cX3_told 56 = .ok (.iconst 1, 1) := by decide +kernel
theorem dX3_told_57 : decode cX3_told 57 = .ok (.goto 4, 3) := by decide +kernel
theorem dX3_told_60 : decode cX3_told 60 = .ok (.iconst 0, 1) := by decide +kernel
theorem dX3_told_61 : decode cX3_told 61 = .ok (.ireturn, 1) := by decide +kernel
theorem dX3_told_62 : decode cX3_told 62 = .ok (.aload_n 3, 1) := by decide +kernel
theorem dX3_told_63 : decode cX3_told 63 = .ok (.getfield 142, 3) := by decide +kernel
theorem dX3_told_66 : decode cX3_told 66 = .ok (.ireturn, 1) := by decide +kernel
theorem dX3_told_67 : decode cX3_told 67 = .ok (.aload_n 3, 1) := by decide +kernel
theorem dX3_told_68 : decode cX3_told 68 = .ok (.getfield 109, 3) := by decide +kernel
theorem dX3_told_71 : decode cX3_told 71 = .ok (.ifCond .eq 7, 3) := by decide +kernel
theorem dX3_told_74 : decode cX3_told 74 = .ok (.iconst 1, 1) := by decide +kernel
theorem dX3_told_75 : decode cX3_told 75 = .ok (.goto 4, 3) := by decide +kernel
theorem dX3_told_78 : decode cX3_told 78 = .ok (.iconst 0, 1) := by decide +kernel
theorem dX3_told_79 : decode cX3_told 79 = .ok (.ireturn, 1) := by decide +kernel
theorem dX3_told_80 : decode cX3_told 80 = .ok (.aload_n 3, 1) := by decide +kernel
theorem dX3_told_81 : decode cX3_told 81 = .ok (.invokevirtual 150, 3) := by decide +kernel
theorem dX3_told_84 : decode cX3_told 84 = .ok (.ireturn, 1) := by decide +kernel
theorem dX3_told_85 : decode cX3_told 85 = .ok (.aload_n 3, 1) := by decide +kernel
theorem dX3_told_86 : decode cX3_told 86 = .ok (.getfield 109, 3) := by decide +kernel
theorem dX3_told_89 : decode cX3_told 89 = .ok (.ifCond .eq 7, 3) := by decide +kernel
theorem dX3_told_92 : decode cX3_told 92 = .ok (.iconst (-1), 1) := by decide +kernel
theorem dX3_told_93 : decode cX3_told 93 = .ok (.goto 7, 3) := by decide +kernel
theorem dX3_told_96 : decode cX3_told 96 = .ok (.aload_n 3, 1) := by decide +kernel
theorem dX3_told_97 : decode cX3_told 97 = .ok (.getfield 95, 3) := by decide +kernel
theorem dX3_told_100 : decode cX3_told 100 = .ok (.ireturn, 1) := by decide +kernel
theorem dX3_told_101 : decode cX3_told 101 = .ok (.new 137, 3) := by decide +kernel
theorem dX3_told_104 : decode cX3_told 104 = .ok (.dup, 1) := by decide +kernel
theorem dX3_told_105 : decode cX3_told 105 = .ok (.ldc 153, 2) := by decide +kernel
theorem dX3_told_107 : decode cX3_told 107 = .ok (.invokespecial 141, 3) := by decide +kernel
theorem dX3_told_110 : decode cX3_told 110 = .ok (.athrow, 1) := by decide +kernel
theorem dX3_wear_0 : decode cX3_wear 0 = .ok (.aload_n 0, 1) := by decide +kernel
theorem dX3_wear_1 : decode cX3_wear 1 = .ok (.iload_n 1, 1) := by decide +kernel
theorem dX3_wear_2 : decode cX3_wear 2 = .ok (.invokevirtual 64, 3) := by decide +kernel
theorem dX3_wear_5 : decode cX3_wear 5 = .ok (.astore 4, 2) := by decide +kernel
theorem dX3_wear_7 : decode cX3_wear 7 = .ok (.iload_n 2, 1) := by decide +kernel
theorem dX3_wear_8 : decode cX3_wear 8 = .ok (.invokestatic 68, 3) := by decide +kernel
theorem dX3_wear_11 : decode cX3_wear 11 = .ok (.iload_n 3, 1) := by decide +kernel
theorem dX3_wear_12 : decode cX3_wear 12 = .ok (.invokestatic 71, 3) := by decide +kernel
theorem dX3_wear_15 : decode cX3_wear 15 = .ok (.ifCond .ne 13, 3) := by decide +kernel
theorem dX3_wear_18 : decode cX3_wear 18 = .ok (.new 137, 3) := by decide +kernel
theorem dX3_wear_21 : decode cX3_wear 21 = .ok (.dup, 1) := by decide +kernel
theorem dX3_wear_22 : decode cX3_wear 22 = .ok (.ldc 77, 2) := by decide +kernel
theorem dX3_wear_24 : decode cX3_wear 24 = .ok (.invokespecial 141, 3) := by decide +kernel
theorem dX3_wear_27 : decode cX3_wear 27 = .ok (.athrow, 1) := by decide +kernel
theorem dX3_wear_28 : decode cX3_wear 28 = .ok (.aload 4, 2) := by decide +kernel
theorem dX3_wear_30 : decode cX3_wear 30 = .ok (.iload_n 2, 1) := by decide +kernel
theorem dX3_wear_31 : decode cX3_wear 31 = .ok (.iload_n 3, 1) := by decide +kernel
theorem dX3_wear_32 : decode cX3_wear 32 = .ok (.invokevirtual 155, 3) := by decide +kernel
theorem dX3_wear_35 : decode cX3_wear 35 = .ok (.ireturn, 1) := by decide +kernel
theorem dX3_rack_0 : decode cX3_rack 0 = .ok (.aload_n 0, 1) := by decide +kernel
theorem dX3_rack_1 : decode cX3_rack 1 = .ok (.iload_n 1, 1) := by decide +kernel
theorem dX3_rack_2 : decode cX3_rack 2 = .ok (.invokevirtual 112, 3) := by decide +kernel
theorem dX3_rack_5 : decode cX3_rack 5 = .ok (.astore_n 3, 1) := by decide +kernel
theorem dX3_rack_6 : decode cX3_rack 6 = .ok (.iload_n 2, 1) := by decide +kernel
theorem dX3_rack_7 : decode cX3_rack 7 = .ok (.tableswitch 81 0 5 #[37, 42, 48, 65, 71, 76], 37) := by decide +kernel
theorem dX3_rack_44 : decode cX3_rack 44 = .ok (.aload_n 3, 1) := by decide +kernel
theorem dX3_rack_45 : decode cX3_rack 45 = .ok (.getfield 123, 3) := by decide +kernel
theorem dX3_rack_48 : decode cX3_rack 48 = .ok (.ireturn, 1) := by decide +kernel
theorem dX3_rack_49 : decode cX3_rack 49 = .ok (.aload_n 0, 1) := by decide +kernel
theorem dX3_rack_50 : decode cX3_rack 50 = .ok (.iload_n 1, 1) := by decide +kernel
theorem dX3_rack_51 : decode cX3_rack 51 = .ok (.invokevirtual 118, 3) := by decide +kernel
theorem dX3_rack_54 : decode cX3_rack 54 = .ok (.ireturn, 1) := by decide +kernel
theorem dX3_rack_55 : decode cX3_rack 55 = .ok (.aload_n 3, 1) := by decide +kernel
theorem dX3_rack_56 : decode cX3_rack 56 = .ok (.aload_n 0, 1) := by decide +kernel
theorem dX3_rack_57 : decode cX3_rack 57 = .ok (.getfield 39, 3) := by decide +kernel
theorem dX3_rack_60 : decode cX3_rack 60 = .ok (.invokevirtual 158, 3) := by decide +kernel
theorem dX3_rack_63 : decode cX3_rack 63 = .ok (.ifCond .eq 7, 3) := by decide +kernel
theorem dX3_rack_66 : decode cX3_rack 66 = .ok (.iconst 1, 1) := by decide +kernel
theorem dX3_rack_67 : decode cX3_rack 67 = .ok (.goto 4, 3) := by decide +kernel
theorem dX3_rack_70 : decode cX3_rack 70 = .ok (.iconst 0, 1) := by decide +kernel
theorem dX3_rack_71 : decode cX3_rack 71 = .ok (.ireturn, 1) := by decide +kernel
theorem dX3_rack_72 : decode cX3_rack 72 = .ok (.aload_n 0, 1) := by decide +kernel
theorem dX3_rack_73 : decode cX3_rack 73 = .ok (.iload_n 1, 1) := by decide +kernel
theorem dX3_rack_74 : decode cX3_rack 74 = .ok (.invokevirtual 161, 3) := by decide +kernel
theorem dX3_rack_77 : decode cX3_rack 77 = .ok (.ireturn, 1) := by decide +kernel
theorem dX3_rack_78 : decode cX3_rack 78 = .ok (.aload_n 3, 1) := by decide +kernel
theorem dX3_rack_79 : decode cX3_rack 79 = .ok (.getfield 128, 3) := by decide +kernel
theorem dX3_rack_82 : decode cX3_rack 82 = .ok (.ireturn, 1) := by decide +kernel
theorem dX3_rack_83 : decode cX3_rack 83 = .ok (.aload_n 3, 1) := by decide +kernel
theorem dX3_rack_84 : decode cX3_rack 84 = .ok (.getfield 131, 3) := by decide +kernel
theorem dX3_rack_87 : decode cX3_rack 87 = .ok (.ireturn, 1) := by decide +kernel
theorem dX3_rack_88 : decode cX3_rack 88 = .ok (.new 137, 3) := by decide +kernel
theorem dX3_rack_91 : decode cX3_rack 91 = .ok (.dup, 1) := by decide +kernel
theorem dX3_rack_92 : decode cX3_rack 92 = .ok (.ldc 153, 2) := by decide +kernel
theorem dX3_rack_94 : decode cX3_rack 94 = .ok (.invokespecial 141, 3) := by decide +kernel
theorem dX3_rack_97 : decode cX3_rack 97 = .ok (.athrow, 1) := by decide +kernel
theorem dX3_count_0 : decode cX3_count 0 = .ok (.iload_n 1, 1) := by decide +kernel
theorem dX3_count_1 : decode cX3_count 1 = .ok (.tableswitch 81 0 6 #[43, 48, 56, 61, 66, 71, 76], 43) := by decide +kernel
theorem dX3_count_44 : decode cX3_count 44 = .ok (.aload_n 0, 1) := by decide +kernel
theorem dX3_count_45 : decode cX3_count 45 = .ok (.getfield 39, 3) := by decide +kernel
theorem dX3_count_48 : decode cX3_count 48 = .ok (.ireturn, 1) := by decide +kernel
theorem dX3_count_49 : decode cX3_count 49 = .ok (.aload_n 0, 1) := by decide +kernel
theorem dX3_count_50 : decode cX3_count 50 = .ok (.getfield 10, 3) := by decide +kernel
theorem dX3_count_53 : decode cX3_count 53 = .ok (.invokevirtual 49, 3) := by decide +kernel
theorem dX3_count_56 : decode cX3_count 56 = .ok (.ireturn, 1) := by decide +kernel
theorem dX3_count_57 : decode cX3_count 57 = .ok (.aload_n 0, 1) := by decide +kernel
theorem dX3_count_58 : decode cX3_count 58 = .ok (.invokevirtual 164, 3) := by decide +kernel
theorem dX3_count_61 : decode cX3_count 61 = .ok (.ireturn, 1) := by decide +kernel
theorem dX3_count_62 : decode cX3_count 62 = .ok (.aload_n 0, 1) := by decide +kernel
theorem dX3_count_63 : decode cX3_count 63 = .ok (.invokevirtual 167, 3) := by decide +kernel
theorem dX3_count_66 : decode cX3_count 66 = .ok (.ireturn, 1) := by decide +kernel
theorem dX3_count_67 : decode cX3_count 67 = .ok (.aload_n 0, 1) := by decide +kernel
theorem dX3_count_68 : decode cX3_count 68 = .ok (.invokevirtual 170, 3) := by decide +kernel
theorem dX3_count_71 : decode cX3_count 71 = .ok (.ireturn, 1) := by decide +kernel
theorem dX3_count_72 : decode cX3_count 72 = .ok (.aload_n 0, 1) := by decide +kernel
theorem dX3_count_73 : decode cX3_count 73 = .ok (.getfield 43, 3) := by decide +kernel
theorem dX3_count_76 : decode cX3_count 76 = .ok (.ireturn, 1) := by decide +kernel
theorem dX3_count_77 : decode cX3_count 77 = .ok (.aload_n 0, 1) := by decide +kernel
theorem dX3_count_78 : decode cX3_count 78 = .ok (.invokevirtual 173, 3) := by decide +kernel
theorem dX3_count_81 : decode cX3_count 81 = .ok (.ireturn, 1) := by decide +kernel
theorem dX3_count_82 : decode cX3_count 82 = .ok (.new 137, 3) := by decide +kernel
theorem dX3_count_85 : decode cX3_count 85 = .ok (.dup, 1) := by decide +kernel
theorem dX3_count_86 : decode cX3_count 86 = .ok (.ldc 176, 2) := by decide +kernel
theorem dX3_count_88 : decode cX3_count 88 = .ok (.invokespecial 141, 3) := by decide +kernel
theorem dX3_count_91 : decode cX3_count 91 = .ok (.athrow, 1) := by decide +kernel
theorem dX3_apart_0 : decode cX3_apart 0 = .ok (.iload_n 1, 1) := by decide +kernel
theorem dX3_apart_1 : decode cX3_apart 1 = .ok (.invokestatic 46, 3) := by decide +kernel
theorem dX3_apart_4 : decode cX3_apart 4 = .ok (.iload_n 2, 1) := by decide +kernel
theorem dX3_apart_5 : decode cX3_apart 5 = .ok (.invokestatic 46, 3) := by decide +kernel
theorem dX3_apart_8 : decode cX3_apart 8 = .ok (.iconst 0, 1) := by decide +kernel
theorem dX3_apart_9 : decode cX3_apart 9 = .ok (.istore_n 3, 1) := by decide +kernel
theorem dX3_apart_10 : decode cX3_apart 10 = .ok (.iconst 0, 1) := by decide +kernel
theorem dX3_apart_11 : decode cX3_apart 11 = .ok (.istore 4, 2) := by decide +kernel
theorem dX3_apart_13 : decode cX3_apart 13 = .ok (.iload 4, 2) := by decide +kernel
theorem dX3_apart_15 : decode cX3_apart 15 = .ok (.iconst 4, 1) := by decide +kernel
theorem dX3_apart_16 : decode cX3_apart 16 = .ok (.if_icmp .ge 27, 3) := by decide +kernel
theorem dX3_apart_19 : decode cX3_apart 19 = .ok (.iload_n 3, 1) := by decide +kernel
theorem dX3_apart_20 : decode cX3_apart 20 = .ok (.iload_n 1, 1) := by decide +kernel
theorem dX3_apart_21 : decode cX3_apart 21 = .ok (.iload 4, 2) := by decide +kernel
theorem dX3_apart_23 : decode cX3_apart 23 = .ok (.invokestatic 178, 3) := by decide +kernel
theorem dX3_apart_26 : decode cX3_apart 26 = .ok (.iload_n 2, 1) := by decide +kernel
theorem dX3_apart_27 : decode cX3_apart 27 = .ok (.iload 4, 2) := by decide +kernel
theorem dX3_apart_29 : decode cX3_apart 29 = .ok (.invokestatic 178, 3) := by decide +kernel
theorem dX3_apart_32 : decode cX3_apart 32 = .ok (.invokestatic 84, 3) := by decide +kernel
theorem dX3_apart_35 : decode cX3_apart 35 = .ok (.iadd, 1) := by decide +kernel
theorem dX3_apart_36 : decode cX3_apart 36 = .ok (.istore_n 3, 1) := by decide +kernel
theorem dX3_apart_37 : decode cX3_apart 37 = .ok (.iinc 4 1, 3) := by decide +kernel
theorem dX3_apart_40 : decode cX3_apart 40 = .ok (.goto (-27), 3) := by decide +kernel
theorem dX3_apart_43 : decode cX3_apart 43 = .ok (.iload_n 3, 1) := by decide +kernel
theorem dX3_apart_44 : decode cX3_apart 44 = .ok (.ireturn, 1) := by decide +kernel
theorem dX3_trial_0 : decode cX3_trial 0 = .ok (.aload_n 0, 1) := by decide +kernel
theorem dX3_trial_1 : decode cX3_trial 1 = .ok (.iload_n 1, 1) := by decide +kernel
theorem dX3_trial_2 : decode cX3_trial 2 = .ok (.invokevirtual 64, 3) := by decide +kernel
theorem dX3_trial_5 : decode cX3_trial 5 = .ok (.astore_n 3, 1) := by decide +kernel
theorem dX3_trial_6 : decode cX3_trial 6 = .ok (.iload_n 2, 1) := by decide +kernel
theorem dX3_trial_7 : decode cX3_trial 7 = .ok (.invokestatic 46, 3) := by decide +kernel
theorem dX3_trial_10 : decode cX3_trial 10 = .ok (.aload_n 0, 1) := by decide +kernel
theorem dX3_trial_11 : decode cX3_trial 11 = .ok (.getfield 26, 3) := by decide +kernel
theorem dX3_trial_14 : decode cX3_trial 14 = .ok (.aload_n 3, 1) := by decide +kernel
theorem dX3_trial_15 : decode cX3_trial 15 = .ok (.iload_n 2, 1) := by decide +kernel
theorem dX3_trial_16 : decode cX3_trial 16 = .ok (.invokevirtual 181, 3) := by decide +kernel
theorem dX3_trial_19 : decode cX3_trial 19 = .ok (.ireturn, 1) := by decide +kernel
theorem dX3_safe_0 : decode cX3_safe 0 = .ok (.aload_n 0, 1) := by decide +kernel
theorem dX3_safe_1 : decode cX3_safe 1 = .ok (.iload_n 1, 1) := by decide +kernel
theorem dX3_safe_2 : decode cX3_safe 2 = .ok (.invokevirtual 64, 3) := by decide +kernel
theorem dX3_safe_5 : decode cX3_safe 5 = .ok (.astore_n 2, 1) := by decide +kernel
theorem dX3_safe_6 : decode cX3_safe 6 = .ok (.aload_n 0, 1) := by decide +kernel
theorem dX3_safe_7 : decode cX3_safe 7 = .ok (.getfield 26, 3) := by decide +kernel
theorem dX3_safe_10 : decode cX3_safe 10 = .ok (.aload_n 2, 1) := by decide +kernel
theorem dX3_safe_11 : decode cX3_safe 11 = .ok (.aload_n 2, 1) := by decide +kernel
theorem dX3_safe_12 : decode cX3_safe 12 = .ok (.getfield 95, 3) := by decide +kernel
theorem dX3_safe_15 : decode cX3_safe 15 = .ok (.invokevirtual 181, 3) := by decide +kernel
theorem dX3_safe_18 : decode cX3_safe 18 = .ok (.ireturn, 1) := by decide +kernel
theorem dX3_pass_0 : decode cX3_pass 0 = .ok (.iload_n 1, 1) := by decide +kernel
theorem dX3_pass_1 : decode cX3_pass 1 = .ok (.invokestatic 185, 3) := by decide +kernel
theorem dX3_pass_4 : decode cX3_pass 4 = .ok (.iconst 0, 1) := by decide +kernel
theorem dX3_pass_5 : decode cX3_pass 5 = .ok (.istore_n 2, 1) := by decide +kernel
theorem dX3_pass_6 : decode cX3_pass 6 = .ok (.iconst 0, 1) := by decide +kernel
theorem dX3_pass_7 : decode cX3_pass 7 = .ok (.istore_n 3, 1) := by decide +kernel
theorem dX3_pass_8 : decode cX3_pass 8 = .ok (.iload_n 3, 1) := by decide +kernel
theorem dX3_pass_9 : decode cX3_pass 9 = .ok (.iload_n 1, 1) := by decide +kernel
theorem dX3_pass_10 : decode cX3_pass 10 = .ok (.if_icmp .ge 66, 3) := by decide +kernel
theorem dX3_pass_13 : decode cX3_pass 13 = .ok (.iconst 0, 1) := by decide +kernel
theorem dX3_pass_14 : decode cX3_pass 14 = .ok (.istore 4, 2) := by decide +kernel
theorem dX3_pass_16 : decode cX3_pass 16 = .ok (.iload 4, 2) := by decide +kernel
theorem dX3_pass_18 : decode cX3_pass 18 = .ok (.aload_n 0, 1) := by decide +kernel
theorem dX3_pass_19 : decode cX3_pass 19 = .ok (.getfield 10, 3) := by decide +kernel
theorem dX3_pass_22 : decode cX3_pass 22 = .ok (.invokevirtual 49, 3) := by decide +kernel
theorem dX3_pass_25 : decode cX3_pass 25 = .ok (.if_icmp .ge 35, 3) := by decide +kernel
theorem dX3_pass_28 : decode cX3_pass 28 = .ok (.aload_n 0, 1) := by decide +kernel
theorem dX3_pass_29 : decode cX3_pass 29 = .ok (.aload_n 0, 1) := by decide +kernel
theorem dX3_pass_30 : decode cX3_pass 30 = .ok (.getfield 10, 3) := by decide +kernel
theorem dX3_pass_33 : decode cX3_pass 33 = .ok (.iload 4, 2) := by decide +kernel
theorem dX3_pass_35 : decode cX3_pass 35 = .ok (.invokevirtual 188, 3) := by decide +kernel
theorem dX3_pass_38 : decode cX3_pass 38 = .ok (.checkcast 30, 3) := by decide +kernel
theorem dX3_pass_41 : decode cX3_pass 41 = .ok (.aload_n 0, 1) := by decide +kernel
theorem dX3_pass_42 : decode cX3_pass 42 = .ok (.getfield 39, 3) := by decide +kernel
theorem dX3_pass_45 : decode cX3_pass 45 = .ok (.invokevirtual 192, 3) := by decide +kernel
theorem dX3_pass_48 : decode cX3_pass 48 = .ok (.ifCond .eq 6, 3) := by decide +kernel
theorem dX3_pass_51 : decode cX3_pass 51 = .ok (.iinc 2 1, 3) := by decide +kernel
theorem dX3_pass_54 : decode cX3_pass 54 = .ok (.iinc 4 1, 3) := by decide +kernel
theorem dX3_pass_57 : decode cX3_pass 57 = .ok (.goto (-41), 3) := by decide +kernel
theorem dX3_pass_60 : decode cX3_pass 60 = .ok (.aload_n 0, 1) := by decide +kernel
theorem dX3_pass_61 : decode cX3_pass 61 = .ok (.dup, 1) := by decide +kernel
theorem dX3_pass_62 : decode cX3_pass 62 = .ok (.getfield 39, 3) := by decide +kernel
theorem dX3_pass_65 : decode cX3_pass 65 = .ok (.iconst 1, 1) := by decide +kernel
theorem dX3_pass_66 : decode cX3_pass 66 = .ok (.iadd, 1) := by decide +kernel
theorem dX3_pass_67 : decode cX3_pass 67 = .ok (.putfield 39, 3) := by decide +kernel
theorem dX3_pass_70 : decode cX3_pass 70 = .ok (.iinc 3 1, 3) := by decide +kernel
theorem dX3_pass_73 : decode cX3_pass 73 = .ok (.goto (-65), 3) := by decide +kernel
theorem dX3_pass_76 : decode cX3_pass 76 = .ok (.iload_n 2, 1) := by decide +kernel
theorem dX3_pass_77 : decode cX3_pass 77 = .ok (.ireturn, 1) := by decide +kernel
theorem dX3_foresee_0 : decode cX3_foresee 0 = .ok (.iload_n 1, 1) := by decide +kernel
theorem dX3_foresee_1 : decode cX3_foresee 1 = .ok (.invokestatic 185, 3) := by decide +kernel
theorem dX3_foresee_4 : decode cX3_foresee 4 = .ok (.aload_n 0, 1) := by decide +kernel
theorem dX3_foresee_5 : decode cX3_foresee 5 = .ok (.getfield 35, 3) := by decide +kernel
theorem dX3_foresee_8 : decode cX3_foresee 8 = .ok (.aload_n 0, 1) := by decide +kernel
theorem dX3_foresee_9 : decode cX3_foresee 9 = .ok (.iload_n 2, 1) := by decide +kernel
theorem dX3_foresee_10 : decode cX3_foresee 10 = .ok (.invokevirtual 64, 3) := by decide +kernel
theorem dX3_foresee_13 : decode cX3_foresee 13 = .ok (.invokevirtual 196, 3) := by decide +kernel
theorem dX3_foresee_16 : decode cX3_foresee 16 = .ok (.iconst 0, 1) := by decide +kernel
theorem dX3_foresee_17 : decode cX3_foresee 17 = .ok (.istore_n 3, 1) := by decide +kernel
theorem dX3_foresee_18 : decode cX3_foresee 18 = .ok (.iload_n 3, 1) := by decide +kernel
theorem dX3_foresee_19 : decode cX3_foresee 19 = .ok (.iload_n 1, 1) := by decide +kernel
theorem dX3_foresee_20 : decode cX3_foresee 20 = .ok (.if_icmp .ge 24, 3) := by decide +kernel
theorem dX3_foresee_23 : decode cX3_foresee 23 = .ok (.aload_n 0, 1) := by decide +kernel
theorem dX3_foresee_24 : decode cX3_foresee 24 = .ok (.aload_n 0, 1) := by decide +kernel
theorem dX3_foresee_25 : decode cX3_foresee 25 = .ok (.getfield 35, 3) := by decide +kernel
theorem dX3_foresee_28 : decode cX3_foresee 28 = .ok (.aload_n 0, 1) := by decide +kernel
theorem dX3_foresee_29 : decode cX3_foresee 29 = .ok (.getfield 39, 3) := by decide +kernel
theorem dX3_foresee_32 : decode cX3_foresee 32 = .ok (.iload_n 3, 1) := by decide +kernel
theorem dX3_foresee_33 : decode cX3_foresee 33 = .ok (.iadd, 1) := by decide +kernel
theorem dX3_foresee_34 : decode cX3_foresee 34 = .ok (.invokevirtual 192, 3) := by decide +kernel
theorem dX3_foresee_37 : decode cX3_foresee 37 = .ok (.pop, 1) := by decide +kernel
theorem dX3_foresee_38 : decode cX3_foresee 38 = .ok (.iinc 3 1, 3) := by decide +kernel
theorem dX3_foresee_41 : decode cX3_foresee 41 = .ok (.goto (-23), 3) := by decide +kernel
theorem dX3_foresee_44 : decode cX3_foresee 44 = .ok (.aload_n 0, 1) := by decide +kernel
theorem dX3_foresee_45 : decode cX3_foresee 45 = .ok (.getfield 26, 3) := by decide +kernel
theorem dX3_foresee_48 : decode cX3_foresee 48 = .ok (.aload_n 0, 1) := by decide +kernel
theorem dX3_foresee_49 : decode cX3_foresee 49 = .ok (.getfield 35, 3) := by decide +kernel
theorem dX3_foresee_52 : decode cX3_foresee 52 = .ok (.aload_n 0, 1) := by decide +kernel
theorem dX3_foresee_53 : decode cX3_foresee 53 = .ok (.getfield 35, 3) := by decide +kernel
theorem dX3_foresee_56 : decode cX3_foresee 56 = .ok (.getfield 95, 3) := by decide +kernel
theorem dX3_foresee_59 : decode cX3_foresee 59 = .ok (.invokevirtual 181, 3) := by decide +kernel
theorem dX3_foresee_62 : decode cX3_foresee 62 = .ok (.ireturn, 1) := by decide +kernel
theorem dX3_until_0 : decode cX3_until 0 = .ok (.aload_n 0, 1) := by decide +kernel
theorem dX3_until_1 : decode cX3_until 1 = .ok (.iload_n 1, 1) := by decide +kernel
theorem dX3_until_2 : decode cX3_until 2 = .ok (.invokevirtual 64, 3) := by decide +kernel
theorem dX3_until_5 : decode cX3_until 5 = .ok (.astore_n 2, 1) := by decide +kernel
theorem dX3_until_6 : decode cX3_until 6 = .ok (.aload_n 2, 1) := by decide +kernel
theorem dX3_until_7 : decode cX3_until 7 = .ok (.getfield 98, 3) := by decide +kernel
theorem dX3_until_10 : decode cX3_until 10 = .ok (.ifCond .ne 5, 3) := by decide +kernel
theorem dX3_until_13 : decode cX3_until 13 = .ok (.iconst 0, 1) := by decide +kernel
theorem dX3_until_14 : decode cX3_until 14 = .ok (.ireturn, 1) := by decide +kernel
theorem dX3_until_15 : decode cX3_until 15 = .ok (.iconst 1, 1) := by decide +kernel
theorem dX3_until_16 : decode cX3_until 16 = .ok (.istore_n 3, 1) := by decide +kernel
theorem dX3_until_17 : decode cX3_until 17 = .ok (.iload_n 3, 1) := by decide +kernel
theorem dX3_until_18 : decode cX3_until 18 = .ok (.bipush 48, 2) := by decide +kernel
theorem dX3_until_20 : decode cX3_until 20 = .ok (.if_icmp .gt 27, 3) := by decide +kernel
theorem dX3_until_23 : decode cX3_until 23 = .ok (.aload_n 0, 1) := by decide +kernel
theorem dX3_until_24 : decode cX3_until 24 = .ok (.aload_n 2, 1) := by decide +kernel
theorem dX3_until_25 : decode cX3_until 25 = .ok (.aload_n 0, 1) := by decide +kernel
theorem dX3_until_26 : decode cX3_until 26 = .ok (.getfield 39, 3) := by decide +kernel
theorem dX3_until_29 : decode cX3_until 29 = .ok (.iload_n 3, 1) := by decide +kernel
theorem dX3_until_30 : decode cX3_until 30 = .ok (.iadd, 1) := by decide +kernel
theorem dX3_until_31 : decode cX3_until 31 = .ok (.iconst 1, 1) := by decide +kernel
theorem dX3_until_32 : decode cX3_until 32 = .ok (.isub, 1) := by decide +kernel
theorem dX3_until_33 : decode cX3_until 33 = .ok (.invokevirtual 199, 3) := by decide +kernel
theorem dX3_until_36 : decode cX3_until 36 = .ok (.ifCond .eq 5, 3) := by decide +kernel
theorem dX3_until_39 : decode cX3_until 39 = .ok (.iload_n 3, 1) := by decide +kernel
theorem dX3_until_40 : decode cX3_until 40 = .ok (.ireturn, 1) := by decide +kernel
theorem dX3_until_41 : decode cX3_until 41 = .ok (.iinc 3 1, 3) := by decide +kernel
theorem dX3_until_44 : decode cX3_until 44 = .ok (.goto (-27), 3) := by decide +kernel
theorem dX3_until_47 : decode cX3_until 47 = .ok (.iconst (-1), 1) := by decide +kernel
theorem dX3_until_48 : decode cX3_until 48 = .ok (.ireturn, 1) := by decide +kernel
theorem dX3_weakest_0 : decode cX3_weakest 0 = .ok (.iconst (-1), 1) := by decide +kernel
theorem dX3_weakest_1 : decode cX3_weakest 1 = .ok (.istore_n 1, 1) := by decide +kernel
theorem dX3_weakest_2 : decode cX3_weakest 2 = .ok (.sipush 1297, 3) := by decide +kernel
theorem dX3_weakest_5 : decode cX3_weakest 5 = .ok (.istore_n 2, 1) := by decide +kernel
theorem dX3_weakest_6 : decode cX3_weakest 6 = .ok (.iconst 0, 1) := by decide +kernel
theorem dX3_weakest_7 : decode cX3_weakest 7 = .ok (.istore_n 3, 1) := by decide +kernel
theorem dX3_weakest_8 : decode cX3_weakest 8 = .ok (.iload_n 3, 1) := by decide +kernel
theorem dX3_weakest_9 : decode cX3_weakest 9 = .ok (.aload_n 0, 1) := by decide +kernel
theorem dX3_weakest_10 : decode cX3_weakest 10 = .ok (.getfield 10, 3) := by decide +kernel
theorem dX3_weakest_13 : decode cX3_weakest 13 = .ok (.invokevirtual 49, 3) := by decide +kernel
theorem dX3_weakest_16 : decode cX3_weakest 16 = .ok (.if_icmp .ge 27, 3) := by decide +kernel
theorem dX3_weakest_19 : decode cX3_weakest 19 = .ok (.aload_n 0, 1) := by decide +kernel
theorem dX3_weakest_20 : decode cX3_weakest 20 = .ok (.iload_n 3, 1) := by decide +kernel
theorem dX3_weakest_21 : decode cX3_weakest 21 = .ok (.invokevirtual 202, 3) := by decide +kernel
theorem dX3_weakest_24 : decode cX3_weakest 24 = .ok (.istore 4, 2) := by decide +kernel
theorem dX3_weakest_26 : decode cX3_weakest 26 = .ok (.iload 4, 2) := by decide +kernel
theorem dX3_weakest_28 : decode cX3_weakest 28 = .ok (.iload_n 2, 1) := by decide +kernel
theorem dX3_weakest_29 : decode cX3_weakest 29 = .ok (.if_icmp .ge 8, 3) := by decide +kernel
theorem dX3_weakest_32 : decode cX3_weakest 32 = .ok (.iload 4, 2) := by decide +kernel
theorem dX3_weakest_34 : decode cX3_weakest 34 = .ok (.istore_n 2, 1) := by decide +kernel
theorem dX3_weakest_35 : decode cX3_weakest 35 = .ok (.iload_n 3, 1) := by decide +kernel
theorem dX3_weakest_36 : decode cX3_weakest 36 = .ok (.istore_n 1, 1) := by decide +kernel
theorem dX3_weakest_37 : decode cX3_weakest 37 = .ok (.iinc 3 1, 3) := by decide +kernel
theorem dX3_weakest_40 : decode cX3_weakest 40 = .ok (.goto (-32), 3) := by decide +kernel
theorem dX3_weakest_43 : decode cX3_weakest 43 = .ok (.iload_n 1, 1) := by decide +kernel
theorem dX3_weakest_44 : decode cX3_weakest 44 = .ok (.ireturn, 1) := by decide +kernel
theorem dX3_mean_0 : decode cX3_mean 0 = .ok (.aload_n 0, 1) := by decide +kernel
theorem dX3_mean_1 : decode cX3_mean 1 = .ok (.getfield 10, 3) := by decide +kernel
theorem dX3_mean_4 : decode cX3_mean 4 = .ok (.invokevirtual 49, 3) := by decide +kernel
theorem dX3_mean_7 : decode cX3_mean 7 = .ok (.iconst 4, 1) := by decide +kernel
theorem dX3_mean_8 : decode cX3_mean 8 = .ok (.imul, 1) := by decide +kernel
theorem dX3_mean_9 : decode cX3_mean 9 = .ok (.bipush 6, 2) := by decide +kernel
theorem dX3_mean_11 : decode cX3_mean 11 = .ok (.imul, 1) := by decide +kernel
theorem dX3_mean_12 : decode cX3_mean 12 = .ok (.istore_n 1, 1) := by decide +kernel
theorem dX3_mean_13 : decode cX3_mean 13 = .ok (.iload_n 1, 1) := by decide +kernel
theorem dX3_mean_14 : decode cX3_mean 14 = .ok (.ifCond .ne 5, 3) := by decide +kernel
theorem dX3_mean_17 : decode cX3_mean 17 = .ok (.dconst 0, 1) := by decide +kernel
theorem dX3_mean_18 : decode cX3_mean 18 = .ok (.dreturn, 1) := by decide +kernel
theorem dX3_mean_19 : decode cX3_mean 19 = .ok (.aload_n 0, 1) := by decide +kernel
theorem dX3_mean_20 : decode cX3_mean 20 = .ok (.invokevirtual 170, 3) := by decide +kernel
theorem dX3_mean_23 : decode cX3_mean 23 = .ok (.i2d, 1) := by decide +kernel
theorem dX3_mean_24 : decode cX3_mean 24 = .ok (.iload_n 1, 1) := by decide +kernel
theorem dX3_mean_25 : decode cX3_mean 25 = .ok (.i2d, 1) := by decide +kernel
theorem dX3_mean_26 : decode cX3_mean 26 = .ok (.ddiv, 1) := by decide +kernel
theorem dX3_mean_27 : decode cX3_mean 27 = .ok (.dreturn, 1) := by decide +kernel
theorem dX3_digest_0 : decode cX3_digest 0 = .ok (.ldc2_w 205, 3) := by decide +kernel
theorem dX3_digest_3 : decode cX3_digest 3 = .ok (.lstore_n 1, 1) := by decide +kernel
theorem dX3_digest_4 : decode cX3_digest 4 = .ok (.iconst 0, 1) := by decide +kernel
theorem dX3_digest_5 : decode cX3_digest 5 = .ok (.istore_n 3, 1) := by decide +kernel
theorem dX3_digest_6 : decode cX3_digest 6 = .ok (.iload_n 3, 1) := by decide +kernel
theorem dX3_digest_7 : decode cX3_digest 7 = .ok (.bipush 7, 2) := by decide +kernel
theorem dX3_digest_9 : decode cX3_digest 9 = .ok (.if_icmp .ge 22, 3) := by decide +kernel
theorem dX3_digest_12 : decode cX3_digest 12 = .ok (.lload_n 1, 1) := by decide +kernel
theorem dX3_digest_13 : decode cX3_digest 13 = .ok (.ldc2_w 207, 3) := by decide +kernel
theorem dX3_digest_16 : decode cX3_digest 16 = .ok (.lmul, 1) := by decide +kernel
theorem dX3_digest_17 : decode cX3_digest 17 = .ok (.aload_n 0, 1) := by decide +kernel
theorem dX3_digest_18 : decode cX3_digest 18 = .ok (.iload_n 3, 1) := by decide +kernel
theorem dX3_digest_19 : decode cX3_digest 19 = .ok (.invokevirtual 209, 3) := by decide +kernel
theorem dX3_digest_22 : decode cX3_digest 22 = .ok (.i2l, 1) := by decide +kernel
theorem dX3_digest_23 : decode cX3_digest 23 = .ok (.ladd, 1) := by decide +kernel
theorem dX3_digest_24 : decode cX3_digest 24 = .ok (.lstore_n 1, 1) := by decide +kernel
theorem dX3_digest_25 : decode cX3_digest 25 = .ok (.iinc 3 1, 3) := by decide +kernel
theorem dX3_digest_28 : decode cX3_digest 28 = .ok (.goto (-22), 3) := by decide +kernel
theorem dX3_digest_31 : decode cX3_digest 31 = .ok (.iconst 0, 1) := by decide +kernel
theorem dX3_digest_32 : decode cX3_digest 32 = .ok (.istore_n 3, 1) := by decide +kernel
theorem dX3_digest_33 : decode cX3_digest 33 = .ok (.iload_n 3, 1) := by decide +kernel
theorem dX3_digest_34 : decode cX3_digest 34 = .ok (.iconst 3, 1) := by decide +kernel
theorem dX3_digest_35 : decode cX3_digest 35 = .ok (.if_icmp .ge 40, 3) := by decide +kernel
theorem dX3_digest_38 : decode cX3_digest 38 = .ok (.iconst 0, 1) := by decide +kernel
theorem dX3_digest_39 : decode cX3_digest 39 = .ok (.istore 4, 2) := by decide +kernel
theorem dX3_digest_41 : decode cX3_digest 41 = .ok (.iload 4, 2) := by decide +kernel
theorem dX3_digest_43 : decode cX3_digest 43 = .ok (.bipush 6, 2) := by decide +kernel
theorem dX3_digest_45 : decode cX3_digest 45 = .ok (.if_icmp .ge 24, 3) := by decide +kernel
theorem dX3_digest_48 : decode cX3_digest 48 = .ok (.lload_n 1, 1) := by decide +kernel
theorem dX3_digest_49 : decode cX3_digest 49 = .ok (.ldc2_w 207, 3) := by decide +kernel
theorem dX3_digest_52 : decode cX3_digest 52 = .ok (.lmul, 1) := by decide +kernel
theorem dX3_digest_53 : decode cX3_digest 53 = .ok (.aload_n 0, 1) := by decide +kernel
theorem dX3_digest_54 : decode cX3_digest 54 = .ok (.iload_n 3, 1) := by decide +kernel
theorem dX3_digest_55 : decode cX3_digest 55 = .ok (.iload 4, 2) := by decide +kernel
theorem dX3_digest_57 : decode cX3_digest 57 = .ok (.invokevirtual 212, 3) := by decide +kernel
theorem dX3_digest_60 : decode cX3_digest 60 = .ok (.i2l, 1) := by decide +kernel
theorem dX3_digest_61 : decode cX3_digest 61 = .ok (.ladd, 1) := by decide +kernel
theorem dX3_digest_62 : decode cX3_digest 62 = .ok (.lstore_n 1, 1) := by decide +kernel
theorem dX3_digest_63 : decode cX3_digest 63 = .ok (.iinc 4 1, 3) := by decide +kernel
theorem dX3_digest_66 : decode cX3_digest 66 = .ok (.goto (-25), 3) := by decide +kernel
theorem dX3_digest_69 : decode cX3_digest 69 = .ok (.iinc 3 1, 3) := by decide +kernel
theorem dX3_digest_72 : decode cX3_digest 72 = .ok (.goto (-39), 3) := by decide +kernel
theorem dX3_digest_75 : decode cX3_digest 75 = .ok (.iconst 0, 1) := by decide +kernel
theorem dX3_digest_76 : decode cX3_digest 76 = .ok (.istore_n 3, 1) := by decide +kernel
theorem dX3_digest_77 : decode cX3_digest 77 = .ok (.iload_n 3, 1) := by decide +kernel
theorem dX3_digest_78 : decode cX3_digest 78 = .ok (.aload_n 0, 1) := by decide +kernel
theorem dX3_digest_79 : decode cX3_digest 79 = .ok (.getfield 10, 3) := by decide +kernel
theorem dX3_digest_82 : decode cX3_digest 82 = .ok (.invokevirtual 49, 3) := by decide +kernel
theorem dX3_digest_85 : decode cX3_digest 85 = .ok (.if_icmp .ge 16, 3) := by decide +kernel
theorem dX3_digest_88 : decode cX3_digest 88 = .ok (.aload_n 0, 1) := by decide +kernel
theorem dX3_digest_89 : decode cX3_digest 89 = .ok (.lload_n 1, 1) := by decide +kernel
theorem dX3_digest_90 : decode cX3_digest 90 = .ok (.iload_n 3, 1) := by decide +kernel
theorem dX3_digest_91 : decode cX3_digest 91 = .ok (.invokevirtual 215, 3) := by decide +kernel
theorem dX3_digest_94 : decode cX3_digest 94 = .ok (.lstore_n 1, 1) := by decide +kernel
theorem dX3_digest_95 : decode cX3_digest 95 = .ok (.iinc 3 1, 3) := by decide +kernel
theorem dX3_digest_98 : decode cX3_digest 98 = .ok (.goto (-21), 3) := by decide +kernel
theorem dX3_digest_101 : decode cX3_digest 101 = .ok (.lload_n 1, 1) := by decide +kernel
theorem dX3_digest_102 : decode cX3_digest 102 = .ok (.lreturn, 1) := by decide +kernel
theorem dX3_digestOfLock_0 : decode cX3_digestOfLock 0 = .ok (.lload_n 1, 1) := by decide +kernel
theorem dX3_digestOfLock_1 : decode cX3_digestOfLock 1 = .ok (.lstore 4, 2) := by decide +kernel
theorem dX3_digestOfLock_3 : decode cX3_digestOfLock 3 = .ok (.iconst 0, 1) := by decide +kernel
theorem dX3_digestOfLock_4 : decode cX3_digestOfLock 4 = .ok (.istore 6, 2) := by decide +kernel
theorem dX3_digestOfLock_6 : decode cX3_digestOfLock 6 = .ok (.iload 6, 2) := by decide +kernel
theorem dX3_digestOfLock_8 : decode cX3_digestOfLock 8 = .ok (.bipush 6, 2) := by decide +kernel
theorem dX3_digestOfLock_10 : decode cX3_digestOfLock 10 = .ok (.if_icmp .ge 26, 3) := by decide +kernel
theorem dX3_digestOfLock_13 : decode cX3_digestOfLock 13 = .ok (.lload 4, 2) := by decide +kernel
theorem dX3_digestOfLock_15 : decode cX3_digestOfLock 15 = .ok (.ldc2_w 207, 3) := by decide +kernel
theorem dX3_digestOfLock_18 : decode cX3_digestOfLock 18 = .ok (.lmul, 1) := by decide +kernel
theorem dX3_digestOfLock_19 : decode cX3_digestOfLock 19 = .ok (.aload_n 0, 1) := by decide +kernel
theorem dX3_digestOfLock_20 : decode cX3_digestOfLock 20 = .ok (.iload_n 3, 1) := by decide +kernel
theorem dX3_digestOfLock_21 : decode cX3_digestOfLock 21 = .ok (.iload 6, 2) := by decide +kernel
theorem dX3_digestOfLock_23 : decode cX3_digestOfLock 23 = .ok (.invokevirtual 219, 3) := by decide +kernel
theorem dX3_digestOfLock_26 : decode cX3_digestOfLock 26 = .ok (.i2l, 1) := by decide +kernel
theorem dX3_digestOfLock_27 : decode cX3_digestOfLock 27 = .ok (.ladd, 1) := by decide +kernel
theorem dX3_digestOfLock_28 : decode cX3_digestOfLock 28 = .ok (.lstore 4, 2) := by decide +kernel
theorem dX3_digestOfLock_30 : decode cX3_digestOfLock 30 = .ok (.iinc 6 1, 3) := by decide +kernel
theorem dX3_digestOfLock_33 : decode cX3_digestOfLock 33 = .ok (.goto (-27), 3) := by decide +kernel
theorem dX3_digestOfLock_36 : decode cX3_digestOfLock 36 = .ok (.iconst 0, 1) := by decide +kernel
theorem dX3_digestOfLock_37 : decode cX3_digestOfLock 37 = .ok (.istore 6, 2) := by decide +kernel
theorem dX3_digestOfLock_39 : decode cX3_digestOfLock 39 = .ok (.iload 6, 2) := by decide +kernel
theorem dX3_digestOfLock_41 : decode cX3_digestOfLock 41 = .ok (.iconst 4, 1) := by decide +kernel
theorem dX3_digestOfLock_42 : decode cX3_digestOfLock 42 = .ok (.if_icmp .ge 44, 3) := by decide +kernel
theorem dX3_digestOfLock_45 : decode cX3_digestOfLock 45 = .ok (.iconst 0, 1) := by decide +kernel
theorem dX3_digestOfLock_46 : decode cX3_digestOfLock 46 = .ok (.istore 7, 2) := by decide +kernel
theorem dX3_digestOfLock_48 : decode cX3_digestOfLock 48 = .ok (.iload 7, 2) := by decide +kernel
theorem dX3_digestOfLock_50 : decode cX3_digestOfLock 50 = .ok (.bipush 6, 2) := by decide +kernel
theorem dX3_digestOfLock_52 : decode cX3_digestOfLock 52 = .ok (.if_icmp .ge 28, 3) := by decide +kernel
theorem dX3_digestOfLock_55 : decode cX3_digestOfLock 55 = .ok (.lload 4, 2) := by decide +kernel
theorem dX3_digestOfLock_57 : decode cX3_digestOfLock 57 = .ok (.ldc2_w 207, 3) := by decide +kernel
theorem dX3_digestOfLock_60 : decode cX3_digestOfLock 60 = .ok (.lmul, 1) := by decide +kernel
theorem dX3_digestOfLock_61 : decode cX3_digestOfLock 61 = .ok (.aload_n 0, 1) := by decide +kernel
theorem dX3_digestOfLock_62 : decode cX3_digestOfLock 62 = .ok (.iload_n 3, 1) := by decide +kernel
theorem dX3_digestOfLock_63 : decode cX3_digestOfLock 63 = .ok (.iload 6, 2) := by decide +kernel
theorem dX3_digestOfLock_65 : decode cX3_digestOfLock 65 = .ok (.iload 7, 2) := by decide +kernel
theorem dX3_digestOfLock_67 : decode cX3_digestOfLock 67 = .ok (.invokevirtual 222, 3) := by decide +kernel
theorem dX3_digestOfLock_70 : decode cX3_digestOfLock 70 = .ok (.i2l, 1) := by decide +kernel
theorem dX3_digestOfLock_71 : decode cX3_digestOfLock 71 = .ok (.ladd, 1) := by decide +kernel
theorem dX3_digestOfLock_72 : decode cX3_digestOfLock 72 = .ok (.lstore 4, 2) := by decide +kernel
theorem dX3_digestOfLock_74 : decode cX3_digestOfLock 74 = .ok (.iinc 7 1, 3) := by decide +kernel
theorem dX3_digestOfLock_77 : decode cX3_digestOfLock 77 = .ok (.goto (-29), 3) := by decide +kernel
theorem dX3_digestOfLock_80 : decode cX3_digestOfLock 80 = .ok (.iinc 6 1, 3) := by decide +kernel
theorem dX3_digestOfLock_83 : decode cX3_digestOfLock 83 = .ok (.goto (-44), 3) := by decide +kernel
theorem dX3_digestOfLock_86 : decode cX3_digestOfLock 86 = .ok (.lload 4, 2) := by decide +kernel
theorem dX3_digestOfLock_88 : decode cX3_digestOfLock 88 = .ok (.lreturn, 1) := by decide +kernel
theorem dX3_lockAt_0 : decode cX3_lockAt 0 = .ok (.iload_n 1, 1) := by decide +kernel
theorem dX3_lockAt_1 : decode cX3_lockAt 1 = .ok (.ifCond .lt 14, 3) := by decide +kernel
theorem dX3_lockAt_4 : decode cX3_lockAt 4 = .ok (.iload_n 1, 1) := by decide +kernel
theorem dX3_lockAt_5 : decode cX3_lockAt 5 = .ok (.aload_n 0, 1) := by decide +kernel
theorem dX3_lockAt_6 : decode cX3_lockAt 6 = .ok (.getfield 10, 3) := by decide +kernel
theorem dX3_lockAt_9 : decode cX3_lockAt 9 = .ok (.invokevirtual 49, 3) := by decide +kernel
theorem dX3_lockAt_12 : decode cX3_lockAt 12 = .ok (.if_icmp .lt 13, 3) := by decide +kernel
theorem dX3_lockAt_15 : decode cX3_lockAt 15 = .ok (.new 137, 3) := by decide +kernel
theorem dX3_lockAt_18 : decode cX3_lockAt 18 = .ok (.dup, 1) := by decide +kernel
theorem dX3_lockAt_19 : decode cX3_lockAt 19 = .ok (.ldc 226, 2) := by decide +kernel
theorem dX3_lockAt_21 : decode cX3_lockAt 21 = .ok (.invokespecial 141, 3) := by decide +kernel
theorem dX3_lockAt_24 : decode cX3_lockAt 24 = .ok (.athrow, 1) := by decide +kernel
theorem dX3_lockAt_25 : decode cX3_lockAt 25 = .ok (.aload_n 0, 1) := by decide +kernel
theorem dX3_lockAt_26 : decode cX3_lockAt 26 = .ok (.getfield 10, 3) := by decide +kernel
theorem dX3_lockAt_29 : decode cX3_lockAt 29 = .ok (.iload_n 1, 1) := by decide +kernel
theorem dX3_lockAt_30 : decode cX3_lockAt 30 = .ok (.invokevirtual 188, 3) := by decide +kernel
theorem dX3_lockAt_33 : decode cX3_lockAt 33 = .ok (.checkcast 30, 3) := by decide +kernel
theorem dX3_lockAt_36 : decode cX3_lockAt 36 = .ok (.areturn, 1) := by decide +kernel
theorem dX3_rackAt_0 : decode cX3_rackAt 0 = .ok (.aload_n 0, 1) := by decide +kernel
theorem dX3_rackAt_1 : decode cX3_rackAt 1 = .ok (.iload_n 1, 1) := by decide +kernel
theorem dX3_rackAt_2 : decode cX3_rackAt 2 = .ok (.invokevirtual 134, 3) := by decide +kernel
theorem dX3_rackAt_5 : decode cX3_rackAt 5 = .ok (.ifCond .ne 13, 3) := by decide +kernel
theorem dX3_rackAt_8 : decode cX3_rackAt 8 = .ok (.new 137, 3) := by decide +kernel
theorem dX3_rackAt_11 : decode cX3_rackAt 11 = .ok (.dup, 1) := by decide +kernel
theorem dX3_rackAt_12 : decode cX3_rackAt 12 = .ok (.ldc 139, 2) := by decide +kernel
theorem dX3_rackAt_14 : decode cX3_rackAt 14 = .ok (.invokespecial 141, 3) := by decide +kernel
theorem dX3_rackAt_17 : decode cX3_rackAt 17 = .ok (.athrow, 1) := by decide +kernel
theorem dX3_rackAt_18 : decode cX3_rackAt 18 = .ok (.aload_n 0, 1) := by decide +kernel
theorem dX3_rackAt_19 : decode cX3_rackAt 19 = .ok (.getfield 18, 3) := by decide +kernel
theorem dX3_rackAt_22 : decode cX3_rackAt 22 = .ok (.iload_n 1, 1) := by decide +kernel
theorem dX3_rackAt_23 : decode cX3_rackAt 23 = .ok (.aaload, 1) := by decide +kernel
theorem dX3_rackAt_24 : decode cX3_rackAt 24 = .ok (.areturn, 1) := by decide +kernel
theorem dX3_requireRing_0 : decode cX3_requireRing 0 = .ok (.iload_n 0, 1) := by decide +kernel
theorem dX3_requireRing_1 : decode cX3_requireRing 1 = .ok (.invokestatic 228, 3) := by decide +kernel
theorem dX3_requireRing_4 : decode cX3_requireRing 4 = .ok (.ifCond .ne 13, 3) := by decide +kernel
theorem dX3_requireRing_7 : decode cX3_requireRing 7 = .ok (.new 137, 3) := by decide +kernel
theorem dX3_requireRing_10 : decode cX3_requireRing 10 = .ok (.dup, 1) := by decide +kernel
theorem dX3_requireRing_11 : decode cX3_requireRing 11 = .ok (.ldc 231, 2) := by decide +kernel
theorem dX3_requireRing_13 : decode cX3_requireRing 13 = .ok (.invokespecial 141, 3) := by decide +kernel
theorem dX3_requireRing_16 : decode cX3_requireRing 16 = .ok (.athrow, 1) := by decide +kernel
theorem dX3_requireRing_17 : decode cX3_requireRing 17 = .ok (.return_, 1) := by decide +kernel
theorem dX3_requireWord_0 : decode cX3_requireWord 0 = .ok (.iload_n 0, 1) := by decide +kernel
theorem dX3_requireWord_1 : decode cX3_requireWord 1 = .ok (.ifCond .lt 10, 3) := by decide +kernel
theorem dX3_requireWord_4 : decode cX3_requireWord 4 = .ok (.iload_n 0, 1) := by decide +kernel
theorem dX3_requireWord_5 : decode cX3_requireWord 5 = .ok (.sipush 1296, 3) := by decide +kernel
theorem dX3_requireWord_8 : decode cX3_requireWord 8 = .ok (.if_icmp .lt 13, 3) := by decide +kernel
theorem dX3_requireWord_11 : decode cX3_requireWord 11 = .ok (.new 75, 3) := by decide +kernel
theorem dX3_requireWord_14 : decode cX3_requireWord 14 = .ok (.dup, 1) := by decide +kernel
theorem dX3_requireWord_15 : decode cX3_requireWord 15 = .ok (.ldc 233, 2) := by decide +kernel
theorem dX3_requireWord_17 : decode cX3_requireWord 17 = .ok (.invokespecial 79, 3) := by decide +kernel
theorem dX3_requireWord_20 : decode cX3_requireWord 20 = .ok (.athrow, 1) := by decide +kernel
theorem dX3_requireWord_21 : decode cX3_requireWord 21 = .ok (.return_, 1) := by decide +kernel
theorem dX3_requireHours_0 : decode cX3_requireHours 0 = .ok (.iload_n 0, 1) := by decide +kernel
theorem dX3_requireHours_1 : decode cX3_requireHours 1 = .ok (.iconst 1, 1) := by decide +kernel
theorem dX3_requireHours_2 : decode cX3_requireHours 2 = .ok (.if_icmp .lt 9, 3) := by decide +kernel
theorem dX3_requireHours_5 : decode cX3_requireHours 5 = .ok (.iload_n 0, 1) := by decide +kernel
theorem dX3_requireHours_6 : decode cX3_requireHours 6 = .ok (.bipush 99, 2) := by decide +kernel
theorem dX3_requireHours_8 : decode cX3_requireHours 8 = .ok (.if_icmp .le 13, 3) := by decide +kernel
theorem dX3_requireHours_11 : decode cX3_requireHours 11 = .ok (.new 75, 3) := by decide +kernel
theorem dX3_requireHours_14 : decode cX3_requireHours 14 = .ok (.dup, 1) := by decide +kernel
theorem dX3_requireHours_15 : decode cX3_requireHours 15 = .ok (.ldc 235, 2) := by decide +kernel
theorem dX3_requireHours_17 : decode cX3_requireHours 17 = .ok (.invokespecial 79, 3) := by decide +kernel
theorem dX3_requireHours_20 : decode cX3_requireHours 20 = .ok (.athrow, 1) := by decide +kernel
theorem dX3_requireHours_21 : decode cX3_requireHours 21 = .ok (.return_, 1) := by decide +kernel
theorem dX3_requireOpen_0 : decode cX3_requireOpen 0 = .ok (.aload_n 0, 1) := by decide +kernel
theorem dX3_requireOpen_1 : decode cX3_requireOpen 1 = .ok (.getfield 98, 3) := by decide +kernel
theorem dX3_requireOpen_4 : decode cX3_requireOpen 4 = .ok (.ifCond .ne 13, 3) := by decide +kernel
theorem dX3_requireOpen_7 : decode cX3_requireOpen 7 = .ok (.new 53, 3) := by decide +kernel
theorem dX3_requireOpen_10 : decode cX3_requireOpen 10 = .ok (.dup, 1) := by decide +kernel
theorem dX3_requireOpen_11 : decode cX3_requireOpen 11 = .ok (.ldc 237, 2) := by decide +kernel
theorem dX3_requireOpen_13 : decode cX3_requireOpen 13 = .ok (.invokespecial 57, 3) := by decide +kernel
theorem dX3_requireOpen_16 : decode cX3_requireOpen 16 = .ok (.athrow, 1) := by decide +kernel
theorem dX3_requireOpen_17 : decode cX3_requireOpen 17 = .ok (.return_, 1) := by decide +kernel
theorem dX3_isRack_0 : decode cX3_isRack 0 = .ok (.iload_n 1, 1) := by decide +kernel
theorem dX3_isRack_1 : decode cX3_isRack 1 = .ok (.ifCond .lt 16, 3) := by decide +kernel
theorem dX3_isRack_4 : decode cX3_isRack 4 = .ok (.iload_n 1, 1) := by decide +kernel
theorem dX3_isRack_5 : decode cX3_isRack 5 = .ok (.aload_n 0, 1) := by decide +kernel
theorem dX3_isRack_6 : decode cX3_isRack 6 = .ok (.getfield 18, 3) := by decide +kernel
theorem dX3_isRack_9 : decode cX3_isRack 9 = .ok (.arraylength, 1) := by decide +kernel
theorem dX3_isRack_10 : decode cX3_isRack 10 = .ok (.if_icmp .ge 7, 3) := by decide +kernel
theorem dX3_isRack_13 : decode cX3_isRack 13 = .ok (.iconst 1, 1) := by decide +kernel
theorem dX3_isRack_14 : decode cX3_isRack 14 = .ok (.goto 4, 3) := by decide +kernel
theorem dX3_isRack_17 : decode cX3_isRack 17 = .ok (.iconst 0, 1) := by decide +kernel
theorem dX3_isRack_18 : decode cX3_isRack 18 = .ok (.ireturn, 1) := by decide +kernel
theorem dX3_isRing_0 : decode cX3_isRing 0 = .ok (.iload_n 0, 1) := by decide +kernel
theorem dX3_isRing_1 : decode cX3_isRing 1 = .ok (.ifCond .lt 12, 3) := by decide +kernel
theorem dX3_isRing_4 : decode cX3_isRing 4 = .ok (.iload_n 0, 1) := by decide +kernel
theorem dX3_isRing_5 : decode cX3_isRing 5 = .ok (.iconst 4, 1) := by decide +kernel
theorem dX3_isRing_6 : decode cX3_isRing 6 = .ok (.if_icmp .ge 7, 3) := by decide +kernel
theorem dX3_isRing_9 : decode cX3_isRing 9 = .ok (.iconst 1, 1) := by decide +kernel
theorem dX3_isRing_10 : decode cX3_isRing 10 = .ok (.goto 4, 3) := by decide +kernel
theorem dX3_isRing_13 : decode cX3_isRing 13 = .ok (.iconst 0, 1) := by decide +kernel
theorem dX3_isRing_14 : decode cX3_isRing 14 = .ok (.ireturn, 1) := by decide +kernel
theorem dX3_isLetter_0 : decode cX3_isLetter 0 = .ok (.iload_n 0, 1) := by decide +kernel
theorem dX3_isLetter_1 : decode cX3_isLetter 1 = .ok (.ifCond .lt 13, 3) := by decide +kernel
theorem dX3_isLetter_4 : decode cX3_isLetter 4 = .ok (.iload_n 0, 1) := by decide +kernel
theorem dX3_isLetter_5 : decode cX3_isLetter 5 = .ok (.bipush 6, 2) := by decide +kernel
theorem dX3_isLetter_7 : decode cX3_isLetter 7 = .ok (.if_icmp .ge 7, 3) := by decide +kernel
theorem dX3_isLetter_10 : decode cX3_isLetter 10 = .ok (.iconst 1, 1) := by decide +kernel
theorem dX3_isLetter_11 : decode cX3_isLetter 11 = .ok (.goto 4, 3) := by decide +kernel
theorem dX3_isLetter_14 : decode cX3_isLetter 14 = .ok (.iconst 0, 1) := by decide +kernel
theorem dX3_isLetter_15 : decode cX3_isLetter 15 = .ok (.ireturn, 1) := by decide +kernel
theorem dX3_letterOf_0 : decode cX3_letterOf 0 = .ok (.iload_n 0, 1) := by decide +kernel
theorem dX3_letterOf_1 : decode cX3_letterOf 1 = .ok (.istore_n 2, 1) := by decide +kernel
theorem dX3_letterOf_2 : decode cX3_letterOf 2 = .ok (.iconst 3, 1) := by decide +kernel
theorem dX3_letterOf_3 : decode cX3_letterOf 3 = .ok (.istore_n 3, 1) := by decide +kernel
theorem dX3_letterOf_4 : decode cX3_letterOf 4 = .ok (.iload_n 3, 1) := by decide +kernel
theorem dX3_letterOf_5 : decode cX3_letterOf 5 = .ok (.iload_n 1, 1) := by decide +kernel
theorem dX3_letterOf_6 : decode cX3_letterOf 6 = .ok (.if_icmp .le 14, 3) := by decide +kernel
theorem dX3_letterOf_9 : decode cX3_letterOf 9 = .ok (.iload_n 2, 1) := by decide +kernel
theorem dX3_letterOf_10 : decode cX3_letterOf 10 = .ok (.bipush 6, 2) := by decide +kernel
theorem dX3_letterOf_12 : decode cX3_letterOf 12 = .ok (.idiv, 1) := by decide +kernel
theorem dX3_letterOf_13 : decode cX3_letterOf 13 = .ok (.istore_n 2, 1) := by decide +kernel
theorem dX3_letterOf_14 : decode cX3_letterOf 14 = .ok (.iinc 3 (-1), 3) := by decide +kernel
theorem dX3_letterOf_17 : decode cX3_letterOf 17 = .ok (.goto (-13), 3) := by decide +kernel
theorem dX3_letterOf_20 : decode cX3_letterOf 20 = .ok (.iload_n 2, 1) := by decide +kernel
theorem dX3_letterOf_21 : decode cX3_letterOf 21 = .ok (.bipush 6, 2) := by decide +kernel
theorem dX3_letterOf_23 : decode cX3_letterOf 23 = .ok (.irem, 1) := by decide +kernel
theorem dX3_letterOf_24 : decode cX3_letterOf 24 = .ok (.ireturn, 1) := by decide +kernel
theorem dX3_turnsBetween_0 : decode cX3_turnsBetween 0 = .ok (.iload_n 0, 1) := by decide +kernel
theorem dX3_turnsBetween_1 : decode cX3_turnsBetween 1 = .ok (.iload_n 1, 1) := by decide +kernel
theorem dX3_turnsBetween_2 : decode cX3_turnsBetween 2 = .ok (.isub, 1) := by decide +kernel
theorem dX3_turnsBetween_3 : decode cX3_turnsBetween 3 = .ok (.invokestatic 239, 3) := by decide +kernel
theorem dX3_turnsBetween_6 : decode cX3_turnsBetween 6 = .ok (.istore_n 2, 1) := by decide +kernel
theorem dX3_turnsBetween_7 : decode cX3_turnsBetween 7 = .ok (.iload_n 2, 1) := by decide +kernel
theorem dX3_turnsBetween_8 : decode cX3_turnsBetween 8 = .ok (.bipush 6, 2) := by decide +kernel
theorem dX3_turnsBetween_10 : decode cX3_turnsBetween 10 = .ok (.iload_n 2, 1) := by decide +kernel
theorem dX3_turnsBetween_11 : decode cX3_turnsBetween 11 = .ok (.isub, 1) := by decide +kernel
theorem dX3_turnsBetween_12 : decode cX3_turnsBetween 12 = .ok (.invokestatic 244, 3) := by decide +kernel
theorem dX3_turnsBetween_15 : decode cX3_turnsBetween 15 = .ok (.ireturn, 1) := by decide +kernel
theorem dX3_locksIn_0 : decode cX3_locksIn 0 = .ok (.iconst 0, 1) := by decide +kernel
theorem dX3_locksIn_1 : decode cX3_locksIn 1 = .ok (.istore_n 2, 1) := by decide +kernel
theorem dX3_locksIn_2 : decode cX3_locksIn 2 = .ok (.iconst 0, 1) := by decide +kernel
theorem dX3_locksIn_3 : decode cX3_locksIn 3 = .ok (.istore_n 3, 1) := by decide +kernel
theorem dX3_locksIn_4 : decode cX3_locksIn 4 = .ok (.iload_n 3, 1) := by decide +kernel
theorem dX3_locksIn_5 : decode cX3_locksIn 5 = .ok (.aload_n 0, 1) := by decide +kernel
theorem dX3_locksIn_6 : decode cX3_locksIn 6 = .ok (.getfield 10, 3) := by decide +kernel
theorem dX3_locksIn_9 : decode cX3_locksIn 9 = .ok (.invokevirtual 49, 3) := by decide +kernel
theorem dX3_locksIn_12 : decode cX3_locksIn 12 = .ok (.if_icmp .ge 30, 3) := by decide +kernel
theorem dX3_locksIn_15 : decode cX3_locksIn 15 = .ok (.aload_n 0, 1) := by decide +kernel
theorem dX3_locksIn_16 : decode cX3_locksIn 16 = .ok (.getfield 10, 3) := by decide +kernel
theorem dX3_locksIn_19 : decode cX3_locksIn 19 = .ok (.iload_n 3, 1) := by decide +kernel
theorem dX3_locksIn_20 : decode cX3_locksIn 20 = .ok (.invokevirtual 188, 3) := by decide +kernel
theorem dX3_locksIn_23 : decode cX3_locksIn 23 = .ok (.checkcast 30, 3) := by decide +kernel
theorem dX3_locksIn_26 : decode cX3_locksIn 26 = .ok (.getfield 142, 3) := by decide +kernel
theorem dX3_locksIn_29 : decode cX3_locksIn 29 = .ok (.iload_n 1, 1) := by decide +kernel
theorem dX3_locksIn_30 : decode cX3_locksIn 30 = .ok (.if_icmp .ne 6, 3) := by decide +kernel
theorem dX3_locksIn_33 : decode cX3_locksIn 33 = .ok (.iinc 2 1, 3) := by decide +kernel
theorem dX3_locksIn_36 : decode cX3_locksIn 36 = .ok (.iinc 3 1, 3) := by decide +kernel
theorem dX3_locksIn_39 : decode cX3_locksIn 39 = .ok (.goto (-35), 3) := by decide +kernel
theorem dX3_locksIn_42 : decode cX3_locksIn 42 = .ok (.iload_n 2, 1) := by decide +kernel
theorem dX3_locksIn_43 : decode cX3_locksIn 43 = .ok (.ireturn, 1) := by decide +kernel
theorem dX3_openLocksIn_0 : decode cX3_openLocksIn 0 = .ok (.iconst 0, 1) := by decide +kernel
theorem dX3_openLocksIn_1 : decode cX3_openLocksIn 1 = .ok (.istore_n 2, 1) := by decide +kernel
theorem dX3_openLocksIn_2 : decode cX3_openLocksIn 2 = .ok (.iconst 0, 1) := by decide +kernel
theorem dX3_openLocksIn_3 : decode cX3_openLocksIn 3 = .ok (.istore_n 3, 1) := by decide +kernel
theorem dX3_openLocksIn_4 : decode cX3_openLocksIn 4 = .ok (.iload_n 3, 1) := by decide +kernel
theorem dX3_openLocksIn_5 : decode cX3_openLocksIn 5 = .ok (.aload_n 0, 1) := by decide +kernel
theorem dX3_openLocksIn_6 : decode cX3_openLocksIn 6 = .ok (.getfield 10, 3) := by decide +kernel
theorem dX3_openLocksIn_9 : decode cX3_openLocksIn 9 = .ok (.invokevirtual 49, 3) := by decide +kernel
theorem dX3_openLocksIn_12 : decode cX3_openLocksIn 12 = .ok (.if_icmp .ge 42, 3) := by decide +kernel
theorem dX3_openLocksIn_15 : decode cX3_openLocksIn 15 = .ok (.aload_n 0, 1) := by decide +kernel
theorem dX3_openLocksIn_16 : decode cX3_openLocksIn 16 = .ok (.getfield 10, 3) := by decide +kernel
theorem dX3_openLocksIn_19 : decode cX3_openLocksIn 19 = .ok (.iload_n 3, 1) := by decide +kernel
theorem dX3_openLocksIn_20 : decode cX3_openLocksIn 20 = .ok (.invokevirtual 188, 3) := by decide +kernel
theorem dX3_openLocksIn_23 : decode cX3_openLocksIn 23 = .ok (.checkcast 30, 3) := by decide +kernel
theorem dX3_openLocksIn_26 : decode cX3_openLocksIn 26 = .ok (.astore 4, 2) := by decide +kernel
theorem dX3_openLocksIn_28 : decode cX3_openLocksIn 28 = .ok (.aload 4, 2) := by decide +kernel
theorem dX3_openLocksIn_30 : decode cX3_openLocksIn 30 = .ok (.getfield 98, 3) := by decide +kernel
theorem dX3_openLocksIn_33 : decode cX3_openLocksIn 33 = .ok (.ifCond .eq 15, 3) := by decide +kernel
theorem dX3_openLocksIn_36 : decode cX3_openLocksIn 36 = .ok (.aload 4, 2) := by decide +kernel
theorem dX3_openLocksIn_38 : decode cX3_openLocksIn 38 = .ok (.getfield 142, 3) := by decide +kernel
theorem dX3_openLocksIn_41 : decode cX3_openLocksIn 41 = .ok (.iload_n 1, 1) := by decide +kernel
theorem dX3_openLocksIn_42 : decode cX3_openLocksIn 42 = .ok (.if_icmp .ne 6, 3) := by decide +kernel
theorem dX3_openLocksIn_45 : decode cX3_openLocksIn 45 = .ok (.iinc 2 1, 3) := by decide +kernel
theorem dX3_openLocksIn_48 : decode cX3_openLocksIn 48 = .ok (.iinc 3 1, 3) := by decide +kernel
theorem dX3_openLocksIn_51 : decode cX3_openLocksIn 51 = .ok (.goto (-47), 3) := by decide +kernel
theorem dX3_openLocksIn_54 : decode cX3_openLocksIn 54 = .ok (.iload_n 2, 1) := by decide +kernel
theorem dX3_openLocksIn_55 : decode cX3_openLocksIn 55 = .ok (.ireturn, 1) := by decide +kernel
theorem dX3_takesAnother_0 : decode cX3_takesAnother 0 = .ok (.aload_n 0, 1) := by decide +kernel
theorem dX3_takesAnother_1 : decode cX3_takesAnother 1 = .ok (.iload_n 1, 1) := by decide +kernel
theorem dX3_takesAnother_2 : decode cX3_takesAnother 2 = .ok (.invokevirtual 134, 3) := by decide +kernel
theorem dX3_takesAnother_5 : decode cX3_takesAnother 5 = .ok (.ifCond .eq 40, 3) := by decide +kernel
theorem dX3_takesAnother_8 : decode cX3_takesAnother 8 = .ok (.aload_n 0, 1) := by decide +kernel
theorem dX3_takesAnother_9 : decode cX3_takesAnother 9 = .ok (.getfield 18, 3) := by decide +kernel
theorem dX3_takesAnother_12 : decode cX3_takesAnother 12 = .ok (.iload_n 1, 1) := by decide +kernel
theorem dX3_takesAnother_13 : decode cX3_takesAnother 13 = .ok (.aaload, 1) := by decide +kernel
theorem dX3_takesAnother_14 : decode cX3_takesAnother 14 = .ok (.aload_n 0, 1) := by decide +kernel
theorem dX3_takesAnother_15 : decode cX3_takesAnother 15 = .ok (.getfield 39, 3) := by decide +kernel
theorem dX3_takesAnother_18 : decode cX3_takesAnother 18 = .ok (.invokevirtual 158, 3) := by decide +kernel
theorem dX3_takesAnother_21 : decode cX3_takesAnother 21 = .ok (.ifCond .eq 24, 3) := by decide +kernel
theorem dX3_takesAnother_24 : decode cX3_takesAnother 24 = .ok (.aload_n 0, 1) := by decide +kernel
theorem dX3_takesAnother_25 : decode cX3_takesAnother 25 = .ok (.iload_n 1, 1) := by decide +kernel
theorem dX3_takesAnother_26 : decode cX3_takesAnother 26 = .ok (.invokevirtual 118, 3) := by decide +kernel
theorem dX3_takesAnother_29 : decode cX3_takesAnother 29 = .ok (.aload_n 0, 1) := by decide +kernel
theorem dX3_takesAnother_30 : decode cX3_takesAnother 30 = .ok (.getfield 18, 3) := by decide +kernel
theorem dX3_takesAnother_33 : decode cX3_takesAnother 33 = .ok (.iload_n 1, 1) := by decide +kernel
theorem dX3_takesAnother_34 : decode cX3_takesAnother 34 = .ok (.aaload, 1) := by decide +kernel
theorem dX3_takesAnother_35 : decode cX3_takesAnother 35 = .ok (.getfield 123, 3) := by decide +kernel
theorem dX3_takesAnother_38 : decode cX3_takesAnother 38 = .ok (.if_icmp .ge 7, 3) := by decide +kernel
theorem dX3_takesAnother_41 : decode cX3_takesAnother 41 = .ok (.iconst 1, 1) := by decide +kernel
theorem dX3_takesAnother_42 : decode cX3_takesAnother 42 = .ok (.goto 4, 3) := by decide +kernel
theorem dX3_takesAnother_45 : decode cX3_takesAnother 45 = .ok (.iconst 0, 1) := by decide +kernel
theorem dX3_takesAnother_46 : decode cX3_takesAnother 46 = .ok (.ireturn, 1) := by decide +kernel
theorem dX3_isInClosedRack_0 : decode cX3_isInClosedRack 0 = .ok (.aload_n 0, 1) := by decide +kernel
theorem dX3_isInClosedRack_1 : decode cX3_isInClosedRack 1 = .ok (.aload_n 1, 1) := by decide +kernel
theorem dX3_isInClosedRack_2 : decode cX3_isInClosedRack 2 = .ok (.getfield 142, 3) := by decide +kernel
theorem dX3_isInClosedRack_5 : decode cX3_isInClosedRack 5 = .ok (.invokevirtual 134, 3) := by decide +kernel
theorem dX3_isInClosedRack_8 : decode cX3_isInClosedRack 8 = .ok (.ifCond .eq 23, 3) := by decide +kernel
theorem dX3_isInClosedRack_11 : decode cX3_isInClosedRack 11 = .ok (.aload_n 0, 1) := by decide +kernel
theorem dX3_isInClosedRack_12 : decode cX3_isInClosedRack 12 = .ok (.getfield 18, 3) := by decide +kernel
theorem dX3_isInClosedRack_15 : decode cX3_isInClosedRack 15 = .ok (.aload_n 1, 1) := by decide +kernel
theorem dX3_isInClosedRack_16 : decode cX3_isInClosedRack 16 = .ok (.getfield 142, 3) := by decide +kernel
theorem dX3_isInClosedRack_19 : decode cX3_isInClosedRack 19 = .ok (.aaload, 1) := by decide +kernel
theorem dX3_isInClosedRack_20 : decode cX3_isInClosedRack 20 = .ok (.iload_n 2, 1) := by decide +kernel
theorem dX3_isInClosedRack_21 : decode cX3_isInClosedRack 21 = .ok (.invokevirtual 158, 3) := by decide +kernel
theorem dX3_isInClosedRack_24 : decode cX3_isInClosedRack 24 = .ok (.ifCond .ne 7, 3) := by decide +kernel
theorem dX3_isInClosedRack_27 : decode cX3_isInClosedRack 27 = .ok (.iconst 1, 1) := by decide +kernel
theorem dX3_isInClosedRack_28 : decode cX3_isInClosedRack 28 = .ok (.goto 4, 3) := by decide +kernel
theorem dX3_isInClosedRack_31 : decode cX3_isInClosedRack 31 = .ok (.iconst 0, 1) := by decide +kernel
theorem dX3_isInClosedRack_32 : decode cX3_isInClosedRack 32 = .ok (.ireturn, 1) := by decide +kernel
theorem dX3_letHourGoBy_0 : decode cX3_letHourGoBy 0 = .ok (.aload_n 1, 1) := by decide +kernel
theorem dX3_letHourGoBy_1 : decode cX3_letHourGoBy 1 = .ok (.invokevirtual 247, 3) := by decide +kernel
theorem dX3_letHourGoBy_4 : decode cX3_letHourGoBy 4 = .ok (.aload_n 1, 1) := by decide +kernel
theorem dX3_letHourGoBy_5 : decode cX3_letHourGoBy 5 = .ok (.getfield 98, 3) := by decide +kernel
theorem dX3_letHourGoBy_8 : decode cX3_letHourGoBy 8 = .ok (.ifCond .eq 12, 3) := by decide +kernel
theorem dX3_letHourGoBy_11 : decode cX3_letHourGoBy 11 = .ok (.aload_n 0, 1) := by decide +kernel
theorem dX3_letHourGoBy_12 : decode cX3_letHourGoBy 12 = .ok (.aload_n 1, 1) := by decide +kernel
theorem dX3_letHourGoBy_13 : decode cX3_letHourGoBy 13 = .ok (.iload_n 2, 1) := by decide +kernel
theorem dX3_letHourGoBy_14 : decode cX3_letHourGoBy 14 = .ok (.invokevirtual 199, 3) := by decide +kernel
theorem dX3_letHourGoBy_17 : decode cX3_letHourGoBy 17 = .ok (.ifCond .ne 5, 3) := by decide +kernel
theorem dX3_letHourGoBy_20 : decode cX3_letHourGoBy 20 = .ok (.iconst 0, 1) := by decide +kernel
theorem dX3_letHourGoBy_21 : decode cX3_letHourGoBy 21 = .ok (.ireturn, 1) := by decide +kernel
theorem dX3_letHourGoBy_22 : decode cX3_letHourGoBy 22 = .ok (.aload_n 1, 1) := by decide +kernel
theorem dX3_letHourGoBy_23 : decode cX3_letHourGoBy 23 = .ok (.invokevirtual 106, 3) := by decide +kernel
theorem dX3_letHourGoBy_26 : decode cX3_letHourGoBy 26 = .ok (.iconst 1, 1) := by decide +kernel
theorem dX3_letHourGoBy_27 : decode cX3_letHourGoBy 27 = .ok (.ireturn, 1) := by decide +kernel
theorem dX3_openLocks_0 : decode cX3_openLocks 0 = .ok (.iconst 0, 1) := by decide +kernel
theorem dX3_openLocks_1 : decode cX3_openLocks 1 = .ok (.istore_n 1, 1) := by decide +kernel
theorem dX3_openLocks_2 : decode cX3_openLocks 2 = .ok (.iconst 0, 1) := by decide +kernel
theorem dX3_openLocks_3 : decode cX3_openLocks 3 = .ok (.istore_n 2, 1) := by decide +kernel
theorem dX3_openLocks_4 : decode cX3_openLocks 4 = .ok (.iload_n 2, 1) := by decide +kernel
theorem dX3_openLocks_5 : decode cX3_openLocks 5 = .ok (.aload_n 0, 1) := by decide +kernel
theorem dX3_openLocks_6 : decode cX3_openLocks 6 = .ok (.getfield 10, 3) := by decide +kernel
theorem dX3_openLocks_9 : decode cX3_openLocks 9 = .ok (.invokevirtual 49, 3) := by decide +kernel
theorem dX3_openLocks_12 : decode cX3_openLocks 12 = .ok (.if_icmp .ge 29, 3) := by decide +kernel
theorem dX3_openLocks_15 : decode cX3_openLocks 15 = .ok (.aload_n 0, 1) := by decide +kernel
theorem dX3_openLocks_16 : decode cX3_openLocks 16 = .ok (.getfield 10, 3) := by decide +kernel
theorem dX3_openLocks_19 : decode cX3_openLocks 19 = .ok (.iload_n 2, 1) := by decide +kernel
theorem dX3_openLocks_20 : decode cX3_openLocks 20 = .ok (.invokevirtual 188, 3) := by decide +kernel
theorem dX3_openLocks_23 : decode cX3_openLocks 23 = .ok (.checkcast 30, 3) := by decide +kernel
theorem dX3_openLocks_26 : decode cX3_openLocks 26 = .ok (.getfield 98, 3) := by decide +kernel
theorem dX3_openLocks_29 : decode cX3_openLocks 29 = .ok (.ifCond .eq 6, 3) := by decide +kernel
theorem dX3_openLocks_32 : decode cX3_openLocks 32 = .ok (.iinc 1 1, 3) := by decide +kernel
theorem dX3_openLocks_35 : decode cX3_openLocks 35 = .ok (.iinc 2 1, 3) := by decide +kernel
theorem dX3_openLocks_38 : decode cX3_openLocks 38 = .ok (.goto (-34), 3) := by decide +kernel
theorem dX3_openLocks_41 : decode cX3_openLocks 41 = .ok (.iload_n 1, 1) := by decide +kernel
theorem dX3_openLocks_42 : decode cX3_openLocks 42 = .ok (.ireturn, 1) := by decide +kernel
theorem dX3_lostWords_0 : decode cX3_lostWords 0 = .ok (.iconst 0, 1) := by decide +kernel
theorem dX3_lostWords_1 : decode cX3_lostWords 1 = .ok (.istore_n 1, 1) := by decide +kernel
theorem dX3_lostWords_2 : decode cX3_lostWords 2 = .ok (.iconst 0, 1) := by decide +kernel
theorem dX3_lostWords_3 : decode cX3_lostWords 3 = .ok (.istore_n 2, 1) := by decide +kernel
theorem dX3_lostWords_4 : decode cX3_lostWords 4 = .ok (.iload_n 2, 1) := by decide +kernel
theorem dX3_lostWords_5 : decode cX3_lostWords 5 = .ok (.aload_n 0, 1) := by decide +kernel
theorem dX3_lostWords_6 : decode cX3_lostWords 6 = .ok (.getfield 10, 3) := by decide +kernel
theorem dX3_lostWords_9 : decode cX3_lostWords 9 = .ok (.invokevirtual 49, 3) := by decide +kernel
theorem dX3_lostWords_12 : decode cX3_lostWords 12 = .ok (.if_icmp .ge 29, 3) := by decide +kernel
theorem dX3_lostWords_15 : decode cX3_lostWords 15 = .ok (.aload_n 0, 1) := by decide +kernel
theorem dX3_lostWords_16 : decode cX3_lostWords 16 = .ok (.getfield 10, 3) := by decide +kernel
theorem dX3_lostWords_19 : decode cX3_lostWords 19 = .ok (.iload_n 2, 1) := by decide +kernel
theorem dX3_lostWords_20 : decode cX3_lostWords 20 = .ok (.invokevirtual 188, 3) := by decide +kernel
theorem dX3_lostWords_23 : decode cX3_lostWords 23 = .ok (.checkcast 30, 3) := by decide +kernel
theorem dX3_lostWords_26 : decode cX3_lostWords 26 = .ok (.getfield 109, 3) := by decide +kernel
theorem dX3_lostWords_29 : decode cX3_lostWords 29 = .ok (.ifCond .eq 6, 3) := by decide +kernel
theorem dX3_lostWords_32 : decode cX3_lostWords 32 = .ok (.iinc 1 1, 3) := by decide +kernel
theorem dX3_lostWords_35 : decode cX3_lostWords 35 = .ok (.iinc 2 1, 3) := by decide +kernel
theorem dX3_lostWords_38 : decode cX3_lostWords 38 = .ok (.goto (-34), 3) := by decide +kernel
theorem dX3_lostWords_41 : decode cX3_lostWords 41 = .ok (.iload_n 1, 1) := by decide +kernel
theorem dX3_lostWords_42 : decode cX3_lostWords 42 = .ok (.ireturn, 1) := by decide +kernel
theorem dX3_allWear_0 : decode cX3_allWear 0 = .ok (.iconst 0, 1) := by decide +kernel
theorem dX3_allWear_1 : decode cX3_allWear 1 = .ok (.istore_n 1, 1) := by decide +kernel
theorem dX3_allWear_2 : decode cX3_allWear 2 = .ok (.iconst 0, 1) := by decide +kernel
theorem dX3_allWear_3 : decode cX3_allWear 3 = .ok (.istore_n 2, 1) := by decide +kernel
theorem dX3_allWear_4 : decode cX3_allWear 4 = .ok (.iload_n 2, 1) := by decide +kernel
theorem dX3_allWear_5 : decode cX3_allWear 5 = .ok (.aload_n 0, 1) := by decide +kernel
theorem dX3_allWear_6 : decode cX3_allWear 6 = .ok (.getfield 10, 3) := by decide +kernel
theorem dX3_allWear_9 : decode cX3_allWear 9 = .ok (.invokevirtual 49, 3) := by decide +kernel
theorem dX3_allWear_12 : decode cX3_allWear 12 = .ok (.if_icmp .ge 26, 3) := by decide +kernel
theorem dX3_allWear_15 : decode cX3_allWear 15 = .ok (.iload_n 1, 1) := by decide +kernel
theorem dX3_allWear_16 : decode cX3_allWear 16 = .ok (.aload_n 0, 1) := by decide +kernel
theorem dX3_allWear_17 : decode cX3_allWear 17 = .ok (.getfield 10, 3) := by decide +kernel
theorem dX3_allWear_20 : decode cX3_allWear 20 = .ok (.iload_n 2, 1) := by decide +kernel
theorem dX3_allWear_21 : decode cX3_allWear 21 = .ok (.invokevirtual 188, 3) := by decide +kernel
theorem dX3_allWear_24 : decode cX3_allWear 24 = .ok (.checkcast 30, 3) := by decide +kernel
theorem dX3_allWear_27 : decode cX3_allWear 27 = .ok (.invokevirtual 250, 3) := by decide +kernel
theorem dX3_allWear_30 : decode cX3_allWear 30 = .ok (.iadd, 1) := by decide +kernel
theorem dX3_allWear_31 : decode cX3_allWear 31 = .ok (.istore_n 1, 1) := by decide +kernel
theorem dX3_allWear_32 : decode cX3_allWear 32 = .ok (.iinc 2 1, 3) := by decide +kernel
theorem dX3_allWear_35 : decode cX3_allWear 35 = .ok (.goto (-31), 3) := by decide +kernel
theorem dX3_allWear_38 : decode cX3_allWear 38 = .ok (.iload_n 1, 1) := by decide +kernel
theorem dX3_allWear_39 : decode cX3_allWear 39 = .ok (.ireturn, 1) := by decide +kernel
theorem dX3_locksInRacks_0 : decode cX3_locksInRacks 0 = .ok (.aload_n 0, 1) := by decide +kernel
theorem dX3_locksInRacks_1 : decode cX3_locksInRacks 1 = .ok (.getfield 10, 3) := by decide +kernel
theorem dX3_locksInRacks_4 : decode cX3_locksInRacks 4 = .ok (.invokevirtual 49, 3) := by decide +kernel
theorem dX3_locksInRacks_7 : decode cX3_locksInRacks 7 = .ok (.aload_n 0, 1) := by decide +kernel
theorem dX3_locksInRacks_8 : decode cX3_locksInRacks 8 = .ok (.iconst (-1), 1) := by decide +kernel
theorem dX3_locksInRacks_9 : decode cX3_locksInRacks 9 = .ok (.invokevirtual 118, 3) := by decide +kernel
theorem dX3_locksInRacks_12 : decode cX3_locksInRacks 12 = .ok (.isub, 1) := by decide +kernel
theorem dX3_locksInRacks_13 : decode cX3_locksInRacks 13 = .ok (.ireturn, 1) := by decide +kernel
theorem dX4_init_0 : decode cX4_init 0 = .ok (.aload_n 0, 1) := by decide +kernel
theorem dX4_init_1 : decode cX4_init 1 = .ok (.invokespecial 3, 3) := by decide +kernel
theorem dX4_init_4 : decode cX4_init 4 = .ok (.aload_n 0, 1) := by decide +kernel
theorem dX4_init_5 : decode cX4_init 5 = .ok (.bipush 64, 2) := by decide +kernel
theorem dX4_init_7 : decode cX4_init 7 = .ok (.newarray .int, 2) := by decide +kernel
theorem dX4_init_9 : decode cX4_init 9 = .ok (.putfield 9, 3) := by decide +kernel
theorem dX4_init_12 : decode cX4_init 12 = .ok (.aload_n 0, 1) := by decide +kernel
theorem dX4_init_13 : decode cX4_init 13 = .ok (.sipush 192, 3) := by decide +kernel
theorem dX4_init_16 : decode cX4_init 16 = .ok (.newarray .int, 2) := by decide +kernel
theorem dX4_init_18 : decode cX4_init 18 = .ok (.putfield 13, 3) := by decide +kernel
theorem dX4_init_21 : decode cX4_init 21 = .ok (.aload_n 0, 1) := by decide +kernel
theorem dX4_init_22 : decode cX4_init 22 = .ok (.bipush 9, 2) := by decide +kernel
theorem dX4_init_24 : decode cX4_init 24 = .ok (.newarray .int, 2) := by decide +kernel
theorem dX4_init_26 : decode cX4_init 26 = .ok (.dup, 1) := by decide +kernel
theorem dX4_init_27 : decode cX4_init 27 = .ok (.iconst 0, 1) := by decide +kernel
theorem dX4_init_28 : decode cX4_init 28 = .ok (.iconst 4, 1) := by decide +kernel
theorem dX4_init_29 : decode cX4_init 29 = .ok (.iastore, 1) := by decide +kernel
theorem dX4_init_30 : decode cX4_init 30 = .ok (.dup, 1) := by decide +kernel
theorem dX4_init_31 : decode cX4_init 31 = .ok (.iconst 1, 1) := by decide +kernel
theorem dX4_init_32 : decode cX4_init 32 = .ok (.iconst 0, 1) := by decide +kernel
theorem dX4_init_33 : decode cX4_init 33 = .ok (.iastore, 1) := by decide +kernel
theorem dX4_init_34 : decode cX4_init 34 = .ok (.dup, 1) := by decide +kernel
theorem dX4_init_35 : decode cX4_init 35 = .ok (.iconst 2, 1) := by decide +kernel
theorem dX4_init_36 : decode cX4_init 36 = .ok (.bipush 24, 2) := by decide +kernel
theorem dX4_init_38 : decode cX4_init 38 = .ok (.iastore, 1) := by decide +kernel
theorem dX4_init_39 : decode cX4_init 39 = .ok (.dup, 1) := by decide +kernel
theorem dX4_init_40 : decode cX4_init 40 = .ok (.iconst 3, 1) := by decide +kernel
theorem dX4_init_41 : decode cX4_init 41 = .ok (.iconst 4, 1) := by decide +kernel
theorem dX4_init_42 : decode cX4_init 42 = .ok (.iastore, 1) := by decide +kernel
theorem dX4_init_43 : decode cX4_init 43 = .ok (.dup, 1) := by decide +kernel
theorem dX4_init_44 : decode cX4_init 44 = .ok (.iconst 4, 1) := by decide +kernel
theorem dX4_init_45 : decode cX4_init 45 = .ok (.iconst 0, 1) := by decide +kernel
theorem dX4_init_46 : decode cX4_init 46 = .ok (.iastore, 1) := by decide +kernel
theorem dX4_init_47 : decode cX4_init 47 = .ok (.dup, 1) := by decide +kernel
theorem dX4_init_48 : decode cX4_init 48 = .ok (.iconst 5, 1) := by decide +kernel
theorem dX4_init_49 : decode cX4_init 49 = .ok (.bipush 24, 2) := by decide +kernel
theorem dX4_init_51 : decode cX4_init 51 = .ok (.iastore, 1) := by decide +kernel
theorem dX4_init_52 : decode cX4_init 52 = .ok (.dup, 1) := by decide +kernel
theorem dX4_init_53 : decode cX4_init 53 = .ok (.bipush 6, 2) := by decide +kernel
theorem dX4_init_55 : decode cX4_init 55 = .ok (.iconst 4, 1) := by decide +kernel
theorem dX4_init_56 : decode cX4_init 56 = .ok (.iastore, 1) := by decide +kernel
theorem dX4_init_57 : decode cX4_init 57 = .ok (.dup, 1) := by decide +kernel
theorem dX4_init_58 : decode cX4_init 58 = .ok (.bipush 7, 2) := by decide +kernel
theorem dX4_init_60 : decode cX4_init 60 = .ok (.iconst 0, 1) := by decide +kernel
theorem dX4_init_61 : decode cX4_init 61 = .ok (.iastore, 1) := by decide +kernel
theorem dX4_init_62 : decode cX4_init 62 = .ok (.dup, 1) := by decide +kernel
theorem dX4_init_63 : decode cX4_init 63 = .ok (.bipush 8, 2) := by decide +kernel
theorem dX4_init_65 : decode cX4_init 65 = .ok (.bipush 24, 2) := by decide +kernel
theorem dX4_init_67 : decode cX4_init 67 = .ok (.iastore, 1) := by decide +kernel
theorem dX4_init_68 : decode cX4_init 68 = .ok (.putfield 16, 3) := by decide +kernel
theorem dX4_init_71 : decode cX4_init 71 = .ok (.return_, 1) := by decide +kernel
theorem dX4_thrown_0 : decode cX4_thrown 0 = .ok (.aload_n 0, 1) := by decide +kernel
theorem dX4_thrown_1 : decode cX4_thrown 1 = .ok (.getfield 19, 3) := by decide +kernel
theorem dX4_thrown_4 : decode cX4_thrown 4 = .ok (.ireturn, 1) := by decide +kernel
theorem dX4_fail_0 : decode cX4_fail 0 = .ok (.aload_n 0, 1) := by decide +kernel
theorem dX4_fail_1 : decode cX4_fail 1 = .ok (.iload_n 1, 1) := by decide +kernel
theorem dX4_fail_2 : decode cX4_fail 2 = .ok (.putfield 19, 3) := by decide +kernel
theorem dX4_fail_5 : decode cX4_fail 5 = .ok (.iconst 0, 1) := by decide +kernel
theorem dX4_fail_6 : decode cX4_fail 6 = .ok (.ireturn, 1) := by decide +kernel
theorem dX4_isIn_0 : decode cX4_isIn 0 = .ok (.iload_n 0, 1) := by decide +kernel
theorem dX4_isIn_1 : decode cX4_isIn 1 = .ok (.iload_n 1, 1) := by decide +kernel
theorem dX4_isIn_2 : decode cX4_isIn 2 = .ok (.if_icmp .lt 12, 3) := by decide +kernel
theorem dX4_isIn_5 : decode cX4_isIn 5 = .ok (.iload_n 0, 1) := by decide +kernel
theorem dX4_isIn_6 : decode cX4_isIn 6 = .ok (.iload_n 2, 1) := by decide +kernel
theorem dX4_isIn_7 : decode cX4_isIn 7 = .ok (.if_icmp .gt 7, 3) := by decide +kernel
theorem dX4_isIn_10 : decode cX4_isIn 10 = .ok (.iconst 1, 1) := by decide +kernel
theorem dX4_isIn_11 : decode cX4_isIn 11 = .ok (.goto 4, 3) := by decide +kernel
theorem dX4_isIn_14 : decode cX4_isIn 14 = .ok (.iconst 0, 1) := by decide +kernel
theorem dX4_isIn_15 : decode cX4_isIn 15 = .ok (.ireturn, 1) := by decide +kernel
theorem dX4_isLock_0 : decode cX4_isLock 0 = .ok (.iload_n 1, 1) := by decide +kernel
theorem dX4_isLock_1 : decode cX4_isLock 1 = .ok (.iconst 0, 1) := by decide +kernel
theorem dX4_isLock_2 : decode cX4_isLock 2 = .ok (.aload_n 0, 1) := by decide +kernel
theorem dX4_isLock_3 : decode cX4_isLock 3 = .ok (.getfield 23, 3) := by decide +kernel
theorem dX4_isLock_6 : decode cX4_isLock 6 = .ok (.iconst 1, 1) := by decide +kernel
theorem dX4_isLock_7 : decode cX4_isLock 7 = .ok (.isub, 1) := by decide +kernel
theorem dX4_isLock_8 : decode cX4_isLock 8 = .ok (.invokestatic 26, 3) := by decide +kernel
theorem dX4_isLock_11 : decode cX4_isLock 11 = .ok (.ireturn, 1) := by decide +kernel
theorem dX4_isWord_0 : decode cX4_isWord 0 = .ok (.iload_n 0, 1) := by decide +kernel
theorem dX4_isWord_1 : decode cX4_isWord 1 = .ok (.iconst 0, 1) := by decide +kernel
theorem dX4_isWord_2 : decode cX4_isWord 2 = .ok (.sipush 1295, 3) := by decide +kernel
theorem dX4_isWord_5 : decode cX4_isWord 5 = .ok (.invokestatic 26, 3) := by decide +kernel
theorem dX4_isWord_8 : decode cX4_isWord 8 = .ok (.ireturn, 1) := by decide +kernel
theorem dX4_isRack_0 : decode cX4_isRack 0 = .ok (.iload_n 0, 1) := by decide +kernel
theorem dX4_isRack_1 : decode cX4_isRack 1 = .ok (.iconst 0, 1) := by decide +kernel
theorem dX4_isRack_2 : decode cX4_isRack 2 = .ok (.iconst 2, 1) := by decide +kernel
theorem dX4_isRack_3 : decode cX4_isRack 3 = .ok (.invokestatic 26, 3) := by decide +kernel
theorem dX4_isRack_6 : decode cX4_isRack 6 = .ok (.ireturn, 1) := by decide +kernel
theorem dX4_lo_0 : decode cX4_lo 0 = .ok (.aload_n 0, 1) := by decide +kernel
theorem dX4_lo_1 : decode cX4_lo 1 = .ok (.getfield 9, 3) := by decide +kernel
theorem dX4_lo_4 : decode cX4_lo 4 = .ok (.bipush 8, 2) := by decide +kernel
theorem dX4_lo_6 : decode cX4_lo 6 = .ok (.iload_n 1, 1) := by decide +kernel
theorem dX4_lo_7 : decode cX4_lo 7 = .ok (.imul, 1) := by decide +kernel
theorem dX4_lo_8 : decode cX4_lo 8 = .ok (.iload_n 2, 1) := by decide +kernel
theorem dX4_lo_9 : decode cX4_lo 9 = .ok (.iadd, 1) := by decide +kernel
theorem dX4_lo_10 : decode cX4_lo 10 = .ok (.iaload, 1) := by decide +kernel
theorem dX4_lo_11 : decode cX4_lo 11 = .ok (.ireturn, 1) := by decide +kernel
theorem dX4_let_0 : decode cX4_let 0 = .ok (.aload_n 0, 1) := by decide +kernel
theorem dX4_let_1 : decode cX4_let 1 = .ok (.getfield 9, 3) := by decide +kernel
theorem dX4_let_4 : decode cX4_let 4 = .ok (.bipush 8, 2) := by decide +kernel
theorem dX4_let_6 : decode cX4_let 6 = .ok (.iload_n 1, 1) := by decide +kernel
theorem dX4_let_7 : decode cX4_let 7 = .ok (.imul, 1) := by decide +kernel
theorem dX4_let_8 : decode cX4_let 8 = .ok (.iload_n 2, 1) := by decide +kernel
theorem dX4_let_9 : decode cX4_let 9 = .ok (.iadd, 1) := by decide +kernel
theorem dX4_let_10 : decode cX4_let 10 = .ok (.iload_n 3, 1) := by decide +kernel
theorem dX4_let_11 : decode cX4_let 11 = .ok (.iastore, 1) := by decide +kernel
theorem dX4_let_12 : decode cX4_let 12 = .ok (.return_, 1) := by decide +kernel
theorem dX4_ra_0 : decode cX4_ra 0 = .ok (.aload_n 0, 1) := by decide +kernel
theorem dX4_ra_1 : decode cX4_ra 1 = .ok (.getfield 16, 3) := by decide +kernel
theorem dX4_ra_4 : decode cX4_ra 4 = .ok (.iconst 3, 1) := by decide +kernel
theorem dX4_ra_5 : decode cX4_ra 5 = .ok (.iload_n 1, 1) := by decide +kernel
theorem dX4_ra_6 : decode cX4_ra 6 = .ok (.imul, 1) := by decide +kernel
theorem dX4_ra_7 : decode cX4_ra 7 = .ok (.iload_n 2, 1) := by decide +kernel
theorem dX4_ra_8 : decode cX4_ra 8 = .ok (.iadd, 1) := by decide +kernel
theorem dX4_ra_9 : decode cX4_ra 9 = .ok (.iaload, 1) := by decide +kernel
theorem dX4_ra_10 : decode cX4_ra 10 = .ok (.ireturn, 1) := by decide +kernel
theorem dX4_we_0 : decode cX4_we 0 = .ok (.aload_n 0, 1) := by decide +kernel
theorem dX4_we_1 : decode cX4_we 1 = .ok (.getfield 13, 3) := by decide +kernel
theorem dX4_we_4 : decode cX4_we 4 = .ok (.bipush 6, 2) := by decide +kernel
theorem dX4_we_6 : decode cX4_we 6 = .ok (.iconst 4, 1) := by decide +kernel
theorem dX4_we_7 : decode cX4_we 7 = .ok (.iload_n 1, 1) := by decide +kernel
theorem dX4_we_8 : decode cX4_we 8 = .ok (.imul, 1) := by decide +kernel
theorem dX4_we_9 : decode cX4_we 9 = .ok (.iload_n 2, 1) := by decide +kernel
theorem dX4_we_10 : decode cX4_we 10 = .ok (.iadd, 1) := by decide +kernel
theorem dX4_we_11 : decode cX4_we 11 = .ok (.imul, 1) := by decide +kernel
theorem dX4_we_12 : decode cX4_we 12 = .ok (.iload_n 3, 1) := by decide +kernel
theorem dX4_we_13 : decode cX4_we 13 = .ok (.iadd, 1) := by decide +kernel
theorem dX4_we_14 : decode cX4_we 14 = .ok (.iaload, 1) := by decide +kernel
theorem dX4_we_15 : decode cX4_we 15 = .ok (.ireturn, 1) := by decide +kernel
theorem dX4_letter_0 : decode cX4_letter 0 = .ok (.iload_n 0, 1) := by decide +kernel
theorem dX4_letter_1 : decode cX4_letter 1 = .ok (.istore_n 2, 1) := by decide +kernel
theorem dX4_letter_2 : decode cX4_letter 2 = .ok (.iload_n 1, 1) := by decide +kernel
theorem dX4_letter_3 : decode cX4_letter 3 = .ok (.iconst 1, 1) := by decide +kernel
theorem dX4_letter_4 : decode cX4_letter 4 = .ok (.iadd, 1) := by decide +kernel
theorem dX4_letter_5 : decode cX4_letter 5 = .ok (.istore_n 3, 1) := by decide +kernel
theorem dX4_letter_6 : decode cX4_letter 6 = .ok (.iload_n 3, 1) := by decide +kernel
theorem dX4_letter_7 : decode cX4_letter 7 = .ok (.iconst 4, 1) := by decide +kernel
theorem dX4_letter_8 : decode cX4_letter 8 = .ok (.if_icmp .ge 14, 3) := by decide +kernel
theorem dX4_letter_11 : decode cX4_letter 11 = .ok (.iload_n 2, 1) := by decide +kernel
theorem dX4_letter_12 : decode cX4_letter 12 = .ok (.bipush 6, 2) := by decide +kernel
theorem dX4_letter_14 : decode cX4_letter 14 = .ok (.idiv, 1) := by decide +kernel
theorem dX4_letter_15 : decode cX4_letter 15 = .ok (.istore_n 2, 1) := by decide +kernel
theorem dX4_letter_16 : decode cX4_letter 16 = .ok (.iinc 3 1, 3) := by decide +kernel
theorem dX4_letter_19 : decode cX4_letter 19 = .ok (.goto (-13), 3) := by decide +kernel
theorem dX4_letter_22 : decode cX4_letter 22 = .ok (.iload_n 2, 1) := by decide +kernel
theorem dX4_letter_23 : decode cX4_letter 23 = .ok (.bipush 6, 2) := by decide +kernel
theorem dX4_letter_25 : decode cX4_letter 25 = .ok (.irem, 1) := by decide +kernel
theorem dX4_letter_26 : decode cX4_letter 26 = .ok (.ireturn, 1) := by decide +kernel
theorem dX4_stands_0 : decode cX4_stands 0 = .ok (.iconst 0, 1) := by decide +kernel
theorem dX4_stands_1 : decode cX4_stands 1 = .ok (.istore_n 2, 1) := by decide +kernel
theorem dX4_stands_2 : decode cX4_stands 2 = .ok (.iconst 0, 1) := by decide +kernel
theorem dX4_stands_3 : decode cX4_stands 3 = .ok (.istore_n 3, 1) := by decide +kernel
theorem dX4_stands_4 : decode cX4_stands 4 = .ok (.iload_n 3, 1) := by decide +kernel
theorem dX4_stands_5 : decode cX4_stands 5 = .ok (.iconst 4, 1) := by decide +kernel
theorem dX4_stands_6 : decode cX4_stands 6 = .ok (.if_icmp .ge 23, 3) := by decide +kernel
theorem dX4_stands_9 : decode cX4_stands 9 = .ok (.bipush 6, 2) := by decide +kernel
theorem dX4_stands_11 : decode cX4_stands 11 = .ok (.iload_n 2, 1) := by decide +kernel
theorem dX4_stands_12 : decode cX4_stands 12 = .ok (.imul, 1) := by decide +kernel
theorem dX4_stands_13 : decode cX4_stands 13 = .ok (.aload_n 0, 1) := by decide +kernel
theorem dX4_stands_14 : decode cX4_stands 14 = .ok (.iload_n 1, 1) := by decide +kernel
theorem dX4_stands_15 : decode cX4_stands 15 = .ok (.iconst 4, 1) := by decide +kernel
theorem dX4_stands_16 : decode cX4_stands 16 = .ok (.iload_n 3, 1) := by decide +kernel
theorem dX4_stands_17 : decode cX4_stands 17 = .ok (.iadd, 1) := by decide +kernel
theorem dX4_stands_18 : decode cX4_stands 18 = .ok (.invokevirtual 30, 3) := by decide +kernel
theorem dX4_stands_21 : decode cX4_stands 21 = .ok (.iadd, 1) := by decide +kernel
theorem dX4_stands_22 : decode cX4_stands 22 = .ok (.istore_n 2, 1) := by decide +kernel
theorem dX4_stands_23 : decode cX4_stands 23 = .ok (.iinc 3 1, 3) := by decide +kernel
theorem dX4_stands_26 : decode cX4_stands 26 = .ok (.goto (-22), 3) := by decide +kernel
theorem dX4_stands_29 : decode cX4_stands 29 = .ok (.iload_n 2, 1) := by decide +kernel
theorem dX4_stands_30 : decode cX4_stands 30 = .ok (.ireturn, 1) := by decide +kernel
theorem dX4_far_0 : decode cX4_far 0 = .ok (.iload_n 0, 1) := by decide +kernel
theorem dX4_far_1 : decode cX4_far 1 = .ok (.iload_n 1, 1) := by decide +kernel
theorem dX4_far_2 : decode cX4_far 2 = .ok (.isub, 1) := by decide +kernel
theorem dX4_far_3 : decode cX4_far 3 = .ok (.invokestatic 34, 3) := by decide +kernel
theorem dX4_far_6 : decode cX4_far 6 = .ok (.istore_n 2, 1) := by decide +kernel
theorem dX4_far_7 : decode cX4_far 7 = .ok (.iload_n 2, 1) := by decide +kernel
theorem dX4_far_8 : decode cX4_far 8 = .ok (.bipush 6, 2) := by decide +kernel
theorem dX4_far_10 : decode cX4_far 10 = .ok (.iload_n 2, 1) := by decide +kernel
theorem dX4_far_11 : decode cX4_far 11 = .ok (.isub, 1) := by decide +kernel
theorem dX4_far_12 : decode cX4_far 12 = .ok (.invokestatic 40, 3) := by decide +kernel
theorem dX4_far_15 : decode cX4_far 15 = .ok (.ireturn, 1) := by decide +kernel
theorem dX4_lock_0 : decode cX4_lock 0 = .ok (.aload_n 0, 1) := by decide +kernel
theorem dX4_lock_1 : decode cX4_lock 1 = .ok (.iconst 0, 1) := by decide +kernel
theorem dX4_lock_2 : decode cX4_lock 2 = .ok (.putfield 19, 3) := by decide +kernel
theorem dX4_lock_5 : decode cX4_lock 5 = .ok (.iload_n 1, 1) := by decide +kernel
theorem dX4_lock_6 : decode cX4_lock 6 = .ok (.invokestatic 43, 3) := by decide +kernel
theorem dX4_lock_9 : decode cX4_lock 9 = .ok (.ifCond .ne 9, 3) := by decide +kernel
theorem dX4_lock_12 : decode cX4_lock 12 = .ok (.aload_n 0, 1) := by decide +kernel
theorem dX4_lock_13 : decode cX4_lock 13 = .ok (.iconst 1, 1) := by decide +kernel
theorem dX4_lock_14 : decode cX4_lock 14 = .ok (.invokevirtual 47, 3) := by decide +kernel
theorem dX4_lock_17 : decode cX4_lock 17 = .ok (.ireturn, 1) := by decide +kernel
theorem dX4_lock_18 : decode cX4_lock 18 = .ok (.aload_n 0, 1) := by decide +kernel
theorem dX4_lock_19 : decode cX4_lock 19 = .ok (.getfield 23, 3) := by decide +kernel
theorem dX4_lock_22 : decode cX4_lock 22 = .ok (.bipush 8, 2) := by decide +kernel
theorem dX4_lock_24 : decode cX4_lock 24 = .ok (.if_icmp .ne 9, 3) := by decide +kernel
theorem dX4_lock_27 : decode cX4_lock 27 = .ok (.aload_n 0, 1) := by decide +kernel
theorem dX4_lock_28 : decode cX4_lock 28 = .ok (.iconst 2, 1) := by decide +kernel
theorem dX4_lock_29 : decode cX4_lock 29 = .ok (.invokevirtual 47, 3) := by decide +kernel
theorem dX4_lock_32 : decode cX4_lock 32 = .ok (.ireturn, 1) := by decide +kernel
theorem dX4_lock_33 : decode cX4_lock 33 = .ok (.aload_n 0, 1) := by decide +kernel
theorem dX4_lock_34 : decode cX4_lock 34 = .ok (.aload_n 0, 1) := by decide +kernel
theorem dX4_lock_35 : decode cX4_lock 35 = .ok (.getfield 23, 3) := by decide +kernel
theorem dX4_lock_38 : decode cX4_lock 38 = .ok (.iconst 0, 1) := by decide +kernel
theorem dX4_lock_39 : decode cX4_lock 39 = .ok (.iload_n 1, 1) := by decide +kernel
theorem dX4_lock_40 : decode cX4_lock 40 = .ok (.invokevirtual 50, 3) := by decide +kernel
theorem dX4_lock_43 : decode cX4_lock 43 = .ok (.aload_n 0, 1) := by decide +kernel
theorem dX4_lock_44 : decode cX4_lock 44 = .ok (.aload_n 0, 1) := by decide +kernel
theorem dX4_lock_45 : decode cX4_lock 45 = .ok (.getfield 23, 3) := by decide +kernel
theorem dX4_lock_48 : decode cX4_lock 48 = .ok (.iconst 1, 1) := by decide +kernel
theorem dX4_lock_49 : decode cX4_lock 49 = .ok (.iconst 1, 1) := by decide +kernel
theorem dX4_lock_50 : decode cX4_lock 50 = .ok (.invokevirtual 50, 3) := by decide +kernel
theorem dX4_lock_53 : decode cX4_lock 53 = .ok (.aload_n 0, 1) := by decide +kernel
theorem dX4_lock_54 : decode cX4_lock 54 = .ok (.aload_n 0, 1) := by decide +kernel
theorem dX4_lock_55 : decode cX4_lock 55 = .ok (.getfield 23, 3) := by decide +kernel
theorem dX4_lock_58 : decode cX4_lock 58 = .ok (.iconst 2, 1) := by decide +kernel
theorem dX4_lock_59 : decode cX4_lock 59 = .ok (.iconst (-1), 1) := by decide +kernel
theorem dX4_lock_60 : decode cX4_lock 60 = .ok (.invokevirtual 50, 3) := by decide +kernel
theorem dX4_lock_63 : decode cX4_lock 63 = .ok (.aload_n 0, 1) := by decide +kernel
theorem dX4_lock_64 : decode cX4_lock 64 = .ok (.dup, 1) := by decide +kernel
theorem dX4_lock_65 : decode cX4_lock 65 = .ok (.getfield 23, 3) := by decide +kernel
theorem dX4_lock_68 : decode cX4_lock 68 = .ok (.iconst 1, 1) := by decide +kernel
theorem dX4_lock_69 : decode cX4_lock 69 = .ok (.iadd, 1) := by decide +kernel
theorem dX4_lock_70 : decode cX4_lock 70 = .ok (.putfield 23, 3) := by decide +kernel
theorem dX4_lock_73 : decode cX4_lock 73 = .ok (.aload_n 0, 1) := by decide +kernel
theorem dX4_lock_74 : decode cX4_lock 74 = .ok (.getfield 23, 3) := by decide +kernel
theorem dX4_lock_77 : decode cX4_lock 77 = .ok (.iconst 1, 1) := by decide +kernel
theorem dX4_lock_78 : decode cX4_lock 78 = .ok (.isub, 1) := by decide +kernel
theorem dX4_lock_79 : decode cX4_lock 79 = .ok (.ireturn, 1) := by decide +kernel
theorem dX4_turn_0 : decode cX4_turn 0 = .ok (.aload_n 0, 1) := by decide +kernel
theorem dX4_turn_1 : decode cX4_turn 1 = .ok (.iconst 0, 1) := by decide +kernel
theorem dX4_turn_2 : decode cX4_turn 2 = .ok (.putfield 19, 3) := by decide +kernel
theorem dX4_turn_5 : decode cX4_turn 5 = .ok (.aload_n 0, 1) := by decide +kernel
theorem dX4_turn_6 : decode cX4_turn 6 = .ok (.iload_n 1, 1) := by decide +kernel
theorem dX4_turn_7 : decode cX4_turn 7 = .ok (.invokevirtual 54, 3) := by decide +kernel
theorem dX4_turn_10 : decode cX4_turn 10 = .ok (.ifCond .eq 12, 3) := by decide +kernel
theorem dX4_turn_13 : decode cX4_turn 13 = .ok (.iload_n 2, 1) := by decide +kernel
theorem dX4_turn_14 : decode cX4_turn 14 = .ok (.iconst 0, 1) := by decide +kernel
theorem dX4_turn_15 : decode cX4_turn 15 = .ok (.iconst 3, 1) := by decide +kernel
theorem dX4_turn_16 : decode cX4_turn 16 = .ok (.invokestatic 26, 3) := by decide +kernel
theorem dX4_turn_19 : decode cX4_turn 19 = .ok (.ifCond .ne 9, 3) := by decide +kernel
theorem dX4_turn_22 : decode cX4_turn 22 = .ok (.aload_n 0, 1) := by decide +kernel
theorem dX4_turn_23 : decode cX4_turn 23 = .ok (.iconst 1, 1) := by decide +kernel
theorem dX4_turn_24 : decode cX4_turn 24 = .ok (.invokevirtual 47, 3) := by decide +kernel
theorem dX4_turn_27 : decode cX4_turn 27 = .ok (.ireturn, 1) := by decide +kernel
theorem dX4_turn_28 : decode cX4_turn 28 = .ok (.iload_n 3, 1) := by decide +kernel
theorem dX4_turn_29 : decode cX4_turn 29 = .ok (.iconst 0, 1) := by decide +kernel
theorem dX4_turn_30 : decode cX4_turn 30 = .ok (.iconst 5, 1) := by decide +kernel
theorem dX4_turn_31 : decode cX4_turn 31 = .ok (.invokestatic 26, 3) := by decide +kernel
theorem dX4_turn_34 : decode cX4_turn 34 = .ok (.ifCond .ne 9, 3) := by decide +kernel
theorem dX4_turn_37 : decode cX4_turn 37 = .ok (.aload_n 0, 1) := by decide +kernel
theorem dX4_turn_38 : decode cX4_turn 38 = .ok (.iconst 2, 1) := by decide +kernel
theorem dX4_turn_39 : decode cX4_turn 39 = .ok (.invokevirtual 47, 3) := by decide +kernel
theorem dX4_turn_42 : decode cX4_turn 42 = .ok (.ireturn, 1) := by decide +kernel
theorem dX4_turn_43 : decode cX4_turn 43 = .ok (.aload_n 0, 1) := by decide +kernel
theorem dX4_turn_44 : decode cX4_turn 44 = .ok (.iload_n 1, 1) := by decide +kernel
theorem dX4_turn_45 : decode cX4_turn 45 = .ok (.iconst 4, 1) := by decide +kernel
theorem dX4_turn_46 : decode cX4_turn 46 = .ok (.iload_n 2, 1) := by decide +kernel
theorem dX4_turn_47 : decode cX4_turn 47 = .ok (.iadd, 1) := by decide +kernel
theorem dX4_turn_48 : decode cX4_turn 48 = .ok (.invokevirtual 30, 3) := by decide +kernel
theorem dX4_turn_51 : decode cX4_turn 51 = .ok (.iload_n 3, 1) := by decide +kernel
theorem dX4_turn_52 : decode cX4_turn 52 = .ok (.invokestatic 57, 3) := by decide +kernel
theorem dX4_turn_55 : decode cX4_turn 55 = .ok (.istore 4, 2) := by decide +kernel
theorem dX4_turn_57 : decode cX4_turn 57 = .ok (.aload_n 0, 1) := by decide +kernel
theorem dX4_turn_58 : decode cX4_turn 58 = .ok (.iload_n 1, 1) := by decide +kernel
theorem dX4_turn_59 : decode cX4_turn 59 = .ok (.iconst 4, 1) := by decide +kernel
theorem dX4_turn_60 : decode cX4_turn 60 = .ok (.iload_n 2, 1) := by decide +kernel
theorem dX4_turn_61 : decode cX4_turn 61 = .ok (.iadd, 1) := by decide +kernel
theorem dX4_turn_62 : decode cX4_turn 62 = .ok (.iload_n 3, 1) := by decide +kernel
theorem dX4_turn_63 : decode cX4_turn 63 = .ok (.invokevirtual 50, 3) := by decide +kernel
theorem dX4_turn_66 : decode cX4_turn 66 = .ok (.aload_n 0, 1) := by decide +kernel
theorem dX4_turn_67 : decode cX4_turn 67 = .ok (.dup, 1) := by decide +kernel
theorem dX4_turn_68 : decode cX4_turn 68 = .ok (.getfield 60, 3) := by decide +kernel
theorem dX4_turn_71 : decode cX4_turn 71 = .ok (.iload 4, 2) := by decide +kernel
theorem dX4_turn_73 : decode cX4_turn 73 = .ok (.iadd, 1) := by decide +kernel
theorem dX4_turn_74 : decode cX4_turn 74 = .ok (.putfield 60, 3) := by decide +kernel
theorem dX4_turn_77 : decode cX4_turn 77 = .ok (.iload 4, 2) := by decide +kernel
theorem dX4_turn_79 : decode cX4_turn 79 = .ok (.ireturn, 1) := by decide +kernel
theorem dX4_open_0 : decode cX4_open 0 = .ok (.aload_n 0, 1) := by decide +kernel
theorem dX4_open_1 : decode cX4_open 1 = .ok (.aload_n 0, 1) := by decide +kernel
theorem dX4_open_2 : decode cX4_open 2 = .ok (.iload_n 1, 1) := by decide +kernel
theorem dX4_open_3 : decode cX4_open 3 = .ok (.invokevirtual 54, 3) := by decide +kernel
theorem dX4_open_6 : decode cX4_open 6 = .ok (.ifCond .eq 7, 3) := by decide +kernel
theorem dX4_open_9 : decode cX4_open 9 = .ok (.iconst 0, 1) := by decide +kernel
theorem dX4_open_10 : decode cX4_open 10 = .ok (.goto 4, 3) := by decide +kernel
theorem dX4_open_13 : decode cX4_open 13 = .ok (.iconst 1, 1) := by decide +kernel
theorem dX4_open_14 : decode cX4_open 14 = .ok (.putfield 19, 3) := by decide +kernel
theorem dX4_open_17 : decode cX4_open 17 = .ok (.aload_n 0, 1) := by decide +kernel
theorem dX4_open_18 : decode cX4_open 18 = .ok (.getfield 19, 3) := by decide +kernel
theorem dX4_open_21 : decode cX4_open 21 = .ok (.ifCond .eq 5, 3) := by decide +kernel
theorem dX4_open_24 : decode cX4_open 24 = .ok (.iconst 0, 1) := by decide +kernel
theorem dX4_open_25 : decode cX4_open 25 = .ok (.ireturn, 1) := by decide +kernel
theorem dX4_open_26 : decode cX4_open 26 = .ok (.aload_n 0, 1) := by decide +kernel
theorem dX4_open_27 : decode cX4_open 27 = .ok (.iload_n 1, 1) := by decide +kernel
theorem dX4_open_28 : decode cX4_open 28 = .ok (.invokevirtual 63, 3) := by decide +kernel
theorem dX4_open_31 : decode cX4_open 31 = .ok (.aload_n 0, 1) := by decide +kernel
theorem dX4_open_32 : decode cX4_open 32 = .ok (.iload_n 1, 1) := by decide +kernel
theorem dX4_open_33 : decode cX4_open 33 = .ok (.iconst 0, 1) := by decide +kernel
theorem dX4_open_34 : decode cX4_open 34 = .ok (.invokevirtual 30, 3) := by decide +kernel
theorem dX4_open_37 : decode cX4_open 37 = .ok (.if_icmp .ne 10, 3) := by decide +kernel
theorem dX4_open_40 : decode cX4_open 40 = .ok (.aload_n 0, 1) := by decide +kernel
theorem dX4_open_41 : decode cX4_open 41 = .ok (.iload_n 1, 1) := by decide +kernel
theorem dX4_open_42 : decode cX4_open 42 = .ok (.iconst 1, 1) := by decide +kernel
theorem dX4_open_43 : decode cX4_open 43 = .ok (.iconst 1, 1) := by decide +kernel
theorem dX4_open_44 : decode cX4_open 44 = .ok (.invokevirtual 50, 3) := by decide +kernel
theorem dX4_open_47 : decode cX4_open 47 = .ok (.aload_n 0, 1) := by decide +kernel
theorem dX4_open_48 : decode cX4_open 48 = .ok (.iload_n 1, 1) := by decide +kernel
theorem dX4_open_49 : decode cX4_open 49 = .ok (.iconst 1, 1) := by decide +kernel
theorem dX4_open_50 : decode cX4_open 50 = .ok (.invokevirtual 30, 3) := by decide +kernel
theorem dX4_open_53 : decode cX4_open 53 = .ok (.iconst 1, 1) := by decide +kernel
theorem dX4_open_54 : decode cX4_open 54 = .ok (.if_icmp .ne 7, 3) := by decide +kernel
theorem dX4_open_57 : decode cX4_open 57 = .ok (.iconst 1, 1) := by decide +kernel
theorem dX4_open_58 : decode cX4_open 58 = .ok (.goto 4, 3) := by decide +kernel
theorem dX4_open_61 : decode cX4_open 61 = .ok (.iconst 0, 1) := by decide +kernel
theorem dX4_open_62 : decode cX4_open 62 = .ok (.ireturn, 1) := by decide +kernel
theorem dX4_close_0 : decode cX4_close 0 = .ok (.aload_n 0, 1) := by decide +kernel
theorem dX4_close_1 : decode cX4_close 1 = .ok (.iload_n 1, 1) := by decide +kernel
theorem dX4_close_2 : decode cX4_close 2 = .ok (.iconst 1, 1) := by decide +kernel
theorem dX4_close_3 : decode cX4_close 3 = .ok (.iconst 0, 1) := by decide +kernel
theorem dX4_close_4 : decode cX4_close 4 = .ok (.invokevirtual 50, 3) := by decide +kernel
theorem dX4_close_7 : decode cX4_close 7 = .ok (.iconst 0, 1) := by decide +kernel
theorem dX4_close_8 : decode cX4_close 8 = .ok (.istore_n 2, 1) := by decide +kernel
theorem dX4_close_9 : decode cX4_close 9 = .ok (.iload_n 2, 1) := by decide +kernel
theorem dX4_close_10 : decode cX4_close 10 = .ok (.iconst 4, 1) := by decide +kernel
theorem dX4_close_11 : decode cX4_close 11 = .ok (.if_icmp .ge 32, 3) := by decide +kernel
theorem dX4_close_14 : decode cX4_close 14 = .ok (.aload_n 0, 1) := by decide +kernel
theorem dX4_close_15 : decode cX4_close 15 = .ok (.iload_n 1, 1) := by decide +kernel
theorem dX4_close_16 : decode cX4_close 16 = .ok (.iconst 4, 1) := by decide +kernel
theorem dX4_close_17 : decode cX4_close 17 = .ok (.iload_n 2, 1) := by decide +kernel
theorem dX4_close_18 : decode cX4_close 18 = .ok (.iadd, 1) := by decide +kernel
theorem dX4_close_19 : decode cX4_close 19 = .ok (.aload_n 0, 1) := by decide +kernel
theorem dX4_close_20 : decode cX4_close 20 = .ok (.iload_n 1, 1) := by decide +kernel
theorem dX4_close_21 : decode cX4_close 21 = .ok (.iconst 4, 1) := by decide +kernel
theorem dX4_close_22 : decode cX4_close 22 = .ok (.iload_n 2, 1) := by decide +kernel
theorem dX4_close_23 : decode cX4_close 23 = .ok (.iadd, 1) := by decide +kernel
theorem dX4_close_24 : decode cX4_close 24 = .ok (.invokevirtual 30, 3) := by decide +kernel
theorem dX4_close_27 : decode cX4_close 27 = .ok (.iload_n 2, 1) := by decide +kernel
theorem dX4_close_28 : decode cX4_close 28 = .ok (.iadd, 1) := by decide +kernel
theorem dX4_close_29 : decode cX4_close 29 = .ok (.iconst 1, 1) := by decide +kernel
theorem dX4_close_30 : decode cX4_close 30 = .ok (.iadd, 1) := by decide +kernel
theorem dX4_close_31 : decode cX4_close 31 = .ok (.bipush 6, 2) := by decide +kernel
theorem dX4_close_33 : decode cX4_close 33 = .ok (.irem, 1) := by decide +kernel
theorem dX4_close_34 : decode cX4_close 34 = .ok (.invokevirtual 50, 3) := by decide +kernel
theorem dX4_close_37 : decode cX4_close 37 = .ok (.iinc 2 1, 3) := by decide +kernel
theorem dX4_close_40 : decode cX4_close 40 = .ok (.goto (-31), 3) := by decide +kernel
theorem dX4_close_43 : decode cX4_close 43 = .ok (.return_, 1) := by decide +kernel
theorem dX4_shut_0 : decode cX4_shut 0 = .ok (.aload_n 0, 1) := by decide +kernel
theorem dX4_shut_1 : decode cX4_shut 1 = .ok (.iconst 0, 1) := by decide +kernel
theorem dX4_shut_2 : decode cX4_shut 2 = .ok (.putfield 19, 3) := by decide +kernel
theorem dX4_shut_5 : decode cX4_shut 5 = .ok (.aload_n 0, 1) := by decide +kernel
theorem dX4_shut_6 : decode cX4_shut 6 = .ok (.iload_n 1, 1) := by decide +kernel
theorem dX4_shut_7 : decode cX4_shut 7 = .ok (.invokevirtual 54, 3) := by decide +kernel
theorem dX4_shut_10 : decode cX4_shut 10 = .ok (.ifCond .ne 9, 3) := by decide +kernel
theorem dX4_shut_13 : decode cX4_shut 13 = .ok (.aload_n 0, 1) := by decide +kernel
theorem dX4_shut_14 : decode cX4_shut 14 = .ok (.iconst 1, 1) := by decide +kernel
theorem dX4_shut_15 : decode cX4_shut 15 = .ok (.invokevirtual 47, 3) := by decide +kernel
theorem dX4_shut_18 : decode cX4_shut 18 = .ok (.ireturn, 1) := by decide +kernel
theorem dX4_shut_19 : decode cX4_shut 19 = .ok (.aload_n 0, 1) := by decide +kernel
theorem dX4_shut_20 : decode cX4_shut 20 = .ok (.iload_n 1, 1) := by decide +kernel
theorem dX4_shut_21 : decode cX4_shut 21 = .ok (.iconst 1, 1) := by decide +kernel
theorem dX4_shut_22 : decode cX4_shut 22 = .ok (.invokevirtual 30, 3) := by decide +kernel
theorem dX4_shut_25 : decode cX4_shut 25 = .ok (.ifCond .ne 9, 3) := by decide +kernel
theorem dX4_shut_28 : decode cX4_shut 28 = .ok (.aload_n 0, 1) := by decide +kernel
theorem dX4_shut_29 : decode cX4_shut 29 = .ok (.iconst 2, 1) := by decide +kernel
theorem dX4_shut_30 : decode cX4_shut 30 = .ok (.invokevirtual 47, 3) := by decide +kernel
theorem dX4_shut_33 : decode cX4_shut 33 = .ok (.ireturn, 1) := by decide +kernel
theorem dX4_shut_34 : decode cX4_shut 34 = .ok (.aload_n 0, 1) := by decide +kernel
theorem dX4_shut_35 : decode cX4_shut 35 = .ok (.iload_n 1, 1) := by decide +kernel
theorem dX4_shut_36 : decode cX4_shut 36 = .ok (.invokevirtual 66, 3) := by decide +kernel
theorem dX4_shut_39 : decode cX4_shut 39 = .ok (.aload_n 0, 1) := by decide +kernel
theorem dX4_shut_40 : decode cX4_shut 40 = .ok (.iload_n 1, 1) := by decide +kernel
theorem dX4_shut_41 : decode cX4_shut 41 = .ok (.invokevirtual 63, 3) := by decide +kernel
theorem dX4_shut_44 : decode cX4_shut 44 = .ok (.ireturn, 1) := by decide +kernel
theorem dX4_rename_0 : decode cX4_rename 0 = .ok (.aload_n 0, 1) := by decide +kernel
theorem dX4_rename_1 : decode cX4_rename 1 = .ok (.iconst 0, 1) := by decide +kernel
theorem dX4_rename_2 : decode cX4_rename 2 = .ok (.putfield 19, 3) := by decide +kernel
theorem dX4_rename_5 : decode cX4_rename 5 = .ok (.aload_n 0, 1) := by decide +kernel
theorem dX4_rename_6 : decode cX4_rename 6 = .ok (.iload_n 1, 1) := by decide +kernel
theorem dX4_rename_7 : decode cX4_rename 7 = .ok (.invokevirtual 54, 3) := by decide +kernel
theorem dX4_rename_10 : decode cX4_rename 10 = .ok (.ifCond .ne 9, 3) := by decide +kernel
theorem dX4_rename_13 : decode cX4_rename 13 = .ok (.aload_n 0, 1) := by decide +kernel
theorem dX4_rename_14 : decode cX4_rename 14 = .ok (.iconst 1, 1) := by decide +kernel
theorem dX4_rename_15 : decode cX4_rename 15 = .ok (.invokevirtual 47, 3) := by decide +kernel
theorem dX4_rename_18 : decode cX4_rename 18 = .ok (.ireturn, 1) := by decide +kernel
theorem dX4_rename_19 : decode cX4_rename 19 = .ok (.iload_n 2, 1) := by decide +kernel
theorem dX4_rename_20 : decode cX4_rename 20 = .ok (.invokestatic 43, 3) := by decide +kernel
theorem dX4_rename_23 : decode cX4_rename 23 = .ok (.ifCond .ne 9, 3) := by decide +kernel
theorem dX4_rename_26 : decode cX4_rename 26 = .ok (.aload_n 0, 1) := by decide +kernel
theorem dX4_rename_27 : decode cX4_rename 27 = .ok (.iconst 2, 1) := by decide +kernel
theorem dX4_rename_28 : decode cX4_rename 28 = .ok (.invokevirtual 47, 3) := by decide +kernel
theorem dX4_rename_31 : decode cX4_rename 31 = .ok (.ireturn, 1) := by decide +kernel
theorem dX4_rename_32 : decode cX4_rename 32 = .ok (.aload_n 0, 1) := by decide +kernel
theorem dX4_rename_33 : decode cX4_rename 33 = .ok (.iload_n 1, 1) := by decide +kernel
theorem dX4_rename_34 : decode cX4_rename 34 = .ok (.iconst 1, 1) := by decide +kernel
theorem dX4_rename_35 : decode cX4_rename 35 = .ok (.invokevirtual 30, 3) := by decide +kernel
theorem dX4_rename_38 : decode cX4_rename 38 = .ok (.ifCond .ne 9, 3) := by decide +kernel
theorem dX4_rename_41 : decode cX4_rename 41 = .ok (.aload_n 0, 1) := by decide +kernel
theorem dX4_rename_42 : decode cX4_rename 42 = .ok (.iconst 3, 1) := by decide +kernel
theorem dX4_rename_43 : decode cX4_rename 43 = .ok (.invokevirtual 47, 3) := by decide +kernel
theorem dX4_rename_46 : decode cX4_rename 46 = .ok (.ireturn, 1) := by decide +kernel
theorem dX4_rename_47 : decode cX4_rename 47 = .ok (.aload_n 0, 1) := by decide +kernel
theorem dX4_rename_48 : decode cX4_rename 48 = .ok (.iload_n 1, 1) := by decide +kernel
theorem dX4_rename_49 : decode cX4_rename 49 = .ok (.iconst 0, 1) := by decide +kernel
theorem dX4_rename_50 : decode cX4_rename 50 = .ok (.invokevirtual 30, 3) := by decide +kernel
theorem dX4_rename_53 : decode cX4_rename 53 = .ok (.istore_n 3, 1) := by decide +kernel
theorem dX4_rename_54 : decode cX4_rename 54 = .ok (.aload_n 0, 1) := by decide +kernel
theorem dX4_rename_55 : decode cX4_rename 55 = .ok (.iload_n 1, 1) := by decide +kernel
theorem dX4_rename_56 : decode cX4_rename 56 = .ok (.iconst 0, 1) := by decide +kernel
theorem dX4_rename_57 : decode cX4_rename 57 = .ok (.iload_n 2, 1) := by decide +kernel
theorem dX4_rename_58 : decode cX4_rename 58 = .ok (.invokevirtual 50, 3) := by decide +kernel
theorem dX4_rename_61 : decode cX4_rename 61 = .ok (.aload_n 0, 1) := by decide +kernel
theorem dX4_rename_62 : decode cX4_rename 62 = .ok (.iload_n 1, 1) := by decide +kernel
theorem dX4_rename_63 : decode cX4_rename 63 = .ok (.iconst 3, 1) := by decide +kernel
theorem dX4_rename_64 : decode cX4_rename 64 = .ok (.iconst 0, 1) := by decide +kernel
theorem dX4_rename_65 : decode cX4_rename 65 = .ok (.invokevirtual 50, 3) := by decide +kernel
theorem dX4_rename_68 : decode cX4_rename 68 = .ok (.iload_n 3, 1) := by decide +kernel
theorem dX4_rename_69 : decode cX4_rename 69 = .ok (.ireturn, 1) := by decide +kernel
theorem dX4_lose_0 : decode cX4_lose 0 = .ok (.aload_n 0, 1) := by decide +kernel
theorem dX4_lose_1 : decode cX4_lose 1 = .ok (.aload_n 0, 1) := by decide +kernel
theorem dX4_lose_2 : decode cX4_lose 2 = .ok (.iload_n 1, 1) := by decide +kernel
theorem dX4_lose_3 : decode cX4_lose 3 = .ok (.invokevirtual 54, 3) := by decide +kernel
theorem dX4_lose_6 : decode cX4_lose 6 = .ok (.ifCond .eq 7, 3) := by decide +kernel
theorem dX4_lose_9 : decode cX4_lose 9 = .ok (.iconst 0, 1) := by decide +kernel
theorem dX4_lose_10 : decode cX4_lose 10 = .ok (.goto 4, 3) := by decide +kernel
theorem dX4_lose_13 : decode cX4_lose 13 = .ok (.iconst 1, 1) := by decide +kernel
theorem dX4_lose_14 : decode cX4_lose 14 = .ok (.putfield 19, 3) := by decide +kernel
theorem dX4_lose_17 : decode cX4_lose 17 = .ok (.aload_n 0, 1) := by decide +kernel
theorem dX4_lose_18 : decode cX4_lose 18 = .ok (.getfield 19, 3) := by decide +kernel
theorem dX4_lose_21 : decode cX4_lose 21 = .ok (.ifCond .eq 5, 3) := by decide +kernel
theorem dX4_lose_24 : decode cX4_lose 24 = .ok (.iconst 0, 1) := by decide +kernel
theorem dX4_lose_25 : decode cX4_lose 25 = .ok (.ireturn, 1) := by decide +kernel
theorem dX4_lose_26 : decode cX4_lose 26 = .ok (.aload_n 0, 1) := by decide +kernel
theorem dX4_lose_27 : decode cX4_lose 27 = .ok (.iload_n 1, 1) := by decide +kernel
theorem dX4_lose_28 : decode cX4_lose 28 = .ok (.iconst 3, 1) := by decide +kernel
theorem dX4_lose_29 : decode cX4_lose 29 = .ok (.invokevirtual 30, 3) := by decide +kernel
theorem dX4_lose_32 : decode cX4_lose 32 = .ok (.iconst 1, 1) := by decide +kernel
theorem dX4_lose_33 : decode cX4_lose 33 = .ok (.if_icmp .ne 7, 3) := by decide +kernel
theorem dX4_lose_36 : decode cX4_lose 36 = .ok (.iconst 1, 1) := by decide +kernel
theorem dX4_lose_37 : decode cX4_lose 37 = .ok (.goto 4, 3) := by decide +kernel
theorem dX4_lose_40 : decode cX4_lose 40 = .ok (.iconst 0, 1) := by decide +kernel
theorem dX4_lose_41 : decode cX4_lose 41 = .ok (.istore_n 3, 1) := by decide +kernel
theorem dX4_lose_42 : decode cX4_lose 42 = .ok (.aload_n 0, 1) := by decide +kernel
theorem dX4_lose_43 : decode cX4_lose 43 = .ok (.iload_n 1, 1) := by decide +kernel
theorem dX4_lose_44 : decode cX4_lose 44 = .ok (.iconst 3, 1) := by decide +kernel
theorem dX4_lose_45 : decode cX4_lose 45 = .ok (.iload_n 2, 1) := by decide +kernel
theorem dX4_lose_46 : decode cX4_lose 46 = .ok (.ifCond .eq 7, 3) := by decide +kernel
theorem dX4_lose_49 : decode cX4_lose 49 = .ok (.iconst 1, 1) := by decide +kernel
theorem dX4_lose_50 : decode cX4_lose 50 = .ok (.goto 4, 3) := by decide +kernel
theorem dX4_lose_53 : decode cX4_lose 53 = .ok (.iconst 0, 1) := by decide +kernel
theorem dX4_lose_54 : decode cX4_lose 54 = .ok (.invokevirtual 50, 3) := by decide +kernel
theorem dX4_lose_57 : decode cX4_lose 57 = .ok (.iload_n 3, 1) := by decide +kernel
theorem dX4_lose_58 : decode cX4_lose 58 = .ok (.ireturn, 1) := by decide +kernel
theorem dX4_in_0 : decode cX4_in 0 = .ok (.iconst 0, 1) := by decide +kernel
theorem dX4_in_1 : decode cX4_in 1 = .ok (.istore_n 2, 1) := by decide +kernel
theorem dX4_in_2 : decode cX4_in 2 = .ok (.iconst 0, 1) := by decide +kernel
theorem dX4_in_3 : decode cX4_in 3 = .ok (.istore_n 3, 1) := by decide +kernel
theorem dX4_in_4 : decode cX4_in 4 = .ok (.iload_n 3, 1) := by decide +kernel
theorem dX4_in_5 : decode cX4_in 5 = .ok (.aload_n 0, 1) := by decide +kernel
theorem dX4_in_6 : decode cX4_in 6 = .ok (.getfield 23, 3) := by decide +kernel
theorem dX4_in_9 : decode cX4_in 9 = .ok (.if_icmp .ge 27, 3) := by decide +kernel
theorem dX4_in_12 : decode cX4_in 12 = .ok (.iload_n 2, 1) := by decide +kernel
theorem dX4_in_13 : decode cX4_in 13 = .ok (.aload_n 0, 1) := by decide +kernel
theorem dX4_in_14 : decode cX4_in 14 = .ok (.iload_n 3, 1) := by decide +kernel
theorem dX4_in_15 : decode cX4_in 15 = .ok (.iconst 2, 1) := by decide +kernel
theorem dX4_in_16 : decode cX4_in 16 = .ok (.invokevirtual 30, 3) := by decide +kernel
theorem dX4_in_19 : decode cX4_in 19 = .ok (.iload_n 1, 1) := by decide +kernel
theorem dX4_in_20 : decode cX4_in 20 = .ok (.if_icmp .ne 7, 3) := by decide +kernel
theorem dX4_in_23 : decode cX4_in 23 = .ok (.iconst 1, 1) := by decide +kernel
theorem dX4_in_24 : decode cX4_in 24 = .ok (.goto 4, 3) := by decide +kernel
theorem dX4_in_27 : decode cX4_in 27 = .ok (.iconst 0, 1) := by decide +kernel
theorem dX4_in_28 : decode cX4_in 28 = .ok (.iadd, 1) := by decide +kernel
theorem dX4_in_29 : decode cX4_in 29 = .ok (.istore_n 2, 1) := by decide +kernel
theorem dX4_in_30 : decode cX4_in 30 = .ok (.iinc 3 1, 3) := by decide +kernel
theorem dX4_in_33 : decode cX4_in 33 = .ok (.goto (-29), 3) := by decide +kernel
theorem dX4_in_36 : decode cX4_in 36 = .ok (.iload_n 2, 1) := by decide +kernel
theorem dX4_in_37 : decode cX4_in 37 = .ok (.ireturn, 1) := by decide +kernel
theorem dX4_isOpen_0 : decode cX4_isOpen 0 = .ok (.aload_n 0, 1) := by decide +kernel
theorem dX4_isOpen_1 : decode cX4_isOpen 1 = .ok (.getfield 70, 3) := by decide +kernel
theorem dX4_isOpen_4 : decode cX4_isOpen 4 = .ok (.bipush 24, 2) := by decide +kernel
theorem dX4_isOpen_6 : decode cX4_isOpen 6 = .ok (.irem, 1) := by decide +kernel
theorem dX4_isOpen_7 : decode cX4_isOpen 7 = .ok (.istore_n 2, 1) := by decide +kernel
theorem dX4_isOpen_8 : decode cX4_isOpen 8 = .ok (.aload_n 0, 1) := by decide +kernel
theorem dX4_isOpen_9 : decode cX4_isOpen 9 = .ok (.iload_n 1, 1) := by decide +kernel
theorem dX4_isOpen_10 : decode cX4_isOpen 10 = .ok (.iconst 1, 1) := by decide +kernel
theorem dX4_isOpen_11 : decode cX4_isOpen 11 = .ok (.invokevirtual 73, 3) := by decide +kernel
theorem dX4_isOpen_14 : decode cX4_isOpen 14 = .ok (.istore_n 3, 1) := by decide +kernel
theorem dX4_isOpen_15 : decode cX4_isOpen 15 = .ok (.aload_n 0, 1) := by decide +kernel
theorem dX4_isOpen_16 : decode cX4_isOpen 16 = .ok (.iload_n 1, 1) := by decide +kernel
theorem dX4_isOpen_17 : decode cX4_isOpen 17 = .ok (.iconst 2, 1) := by decide +kernel
theorem dX4_isOpen_18 : decode cX4_isOpen 18 = .ok (.invokevirtual 73, 3) := by decide +kernel
theorem dX4_isOpen_21 : decode cX4_isOpen 21 = .ok (.istore 4, 2) := by decide +kernel
theorem dX4_isOpen_23 : decode cX4_isOpen 23 = .ok (.iload_n 3, 1) := by decide +kernel
theorem dX4_isOpen_24 : decode cX4_isOpen 24 = .ok (.iload 4, 2) := by decide +kernel
theorem dX4_isOpen_26 : decode cX4_isOpen 26 = .ok (.if_icmp .ge 22, 3) := by decide +kernel
theorem dX4_isOpen_29 : decode cX4_isOpen 29 = .ok (.iload_n 2, 1) := by decide +kernel
theorem dX4_isOpen_30 : decode cX4_isOpen 30 = .ok (.iload_n 3, 1) := by decide +kernel
theorem dX4_isOpen_31 : decode cX4_isOpen 31 = .ok (.if_icmp .lt 13, 3) := by decide +kernel
theorem dX4_isOpen_34 : decode cX4_isOpen 34 = .ok (.iload_n 2, 1) := by decide +kernel
theorem dX4_isOpen_35 : decode cX4_isOpen 35 = .ok (.iload 4, 2) := by decide +kernel
theorem dX4_isOpen_37 : decode cX4_isOpen 37 = .ok (.if_icmp .ge 7, 3) := by decide +kernel
theorem dX4_isOpen_40 : decode cX4_isOpen 40 = .ok (.iconst 1, 1) := by decide +kernel
theorem dX4_isOpen_41 : decode cX4_isOpen 41 = .ok (.goto 29, 3) := by decide +kernel
theorem dX4_isOpen_44 : decode cX4_isOpen 44 = .ok (.iconst 0, 1) := by decide +kernel
theorem dX4_isOpen_45 : decode cX4_isOpen 45 = .ok (.goto 25, 3) := by decide +kernel
theorem dX4_isOpen_48 : decode cX4_isOpen 48 = .ok (.iload_n 3, 1) := by decide +kernel
theorem dX4_isOpen_49 : decode cX4_isOpen 49 = .ok (.iload 4, 2) := by decide +kernel
theorem dX4_isOpen_51 : decode cX4_isOpen 51 = .ok (.if_icmp .le 18, 3) := by decide +kernel
theorem dX4_isOpen_54 : decode cX4_isOpen 54 = .ok (.iload_n 2, 1) := by decide +kernel
theorem dX4_isOpen_55 : decode cX4_isOpen 55 = .ok (.iload_n 3, 1) := by decide +kernel
theorem dX4_isOpen_56 : decode cX4_isOpen 56 = .ok (.if_icmp .ge 9, 3) := by decide +kernel
theorem dX4_isOpen_59 : decode cX4_isOpen 59 = .ok (.iload_n 2, 1) := by decide +kernel
theorem dX4_isOpen_60 : decode cX4_isOpen 60 = .ok (.iload 4, 2) := by decide +kernel
theorem dX4_isOpen_62 : decode cX4_isOpen 62 = .ok (.if_icmp .ge 7, 3) := by decide +kernel
theorem dX4_isOpen_65 : decode cX4_isOpen 65 = .ok (.iconst 1, 1) := by decide +kernel
theorem dX4_isOpen_66 : decode cX4_isOpen 66 = .ok (.goto 4, 3) := by decide +kernel
theorem dX4_isOpen_69 : decode cX4_isOpen 69 = .ok (.iconst 0, 1) := by decide +kernel
theorem dX4_isOpen_70 : decode cX4_isOpen 70 = .ok (.ireturn, 1) := by decide +kernel
theorem dX4_setPlaces_0 : decode cX4_setPlaces 0 = .ok (.aload_n 0, 1) := by decide +kernel
theorem dX4_setPlaces_1 : decode cX4_setPlaces 1 = .ok (.iconst 0, 1) := by decide +kernel
theorem dX4_setPlaces_2 : decode cX4_setPlaces 2 = .ok (.putfield 19, 3) := by decide +kernel
theorem dX4_setPlaces_5 : decode cX4_setPlaces 5 = .ok (.iload_n 1, 1) := by decide +kernel
theorem dX4_setPlaces_6 : decode cX4_setPlaces 6 = .ok (.invokestatic 76, 3) := by decide +kernel
theorem dX4_setPlaces_9 : decode cX4_setPlaces 9 = .ok (.ifCond .ne 9, 3) := by decide +kernel
theorem dX4_setPlaces_12 : decode cX4_setPlaces 12 = .ok (.aload_n 0, 1) := by decide +kernel
theorem dX4_setPlaces_13 : decode cX4_setPlaces 13 = .ok (.iconst 1, 1) := by decide +kernel
theorem dX4_setPlaces_14 : decode cX4_setPlaces 14 = .ok (.invokevirtual 47, 3) := by decide +kernel
theorem dX4_setPlaces_17 : decode cX4_setPlaces 17 = .ok (.ireturn, 1) := by decide +kernel
theorem dX4_setPlaces_18 : decode cX4_setPlaces 18 = .ok (.iload_n 2, 1) := by decide +kernel
theorem dX4_setPlaces_19 : decode cX4_setPlaces 19 = .ok (.iconst 1, 1) := by decide +kernel
theorem dX4_setPlaces_20 : decode cX4_setPlaces 20 = .ok (.bipush 6, 2) := by decide +kernel
theorem dX4_setPlaces_22 : decode cX4_setPlaces 22 = .ok (.invokestatic 26, 3) := by decide +kernel
theorem dX4_setPlaces_25 : decode cX4_setPlaces 25 = .ok (.ifCond .ne 9, 3) := by decide +kernel
theorem dX4_setPlaces_28 : decode cX4_setPlaces 28 = .ok (.aload_n 0, 1) := by decide +kernel
theorem dX4_setPlaces_29 : decode cX4_setPlaces 29 = .ok (.iconst 2, 1) := by decide +kernel
theorem dX4_setPlaces_30 : decode cX4_setPlaces 30 = .ok (.invokevirtual 47, 3) := by decide +kernel
theorem dX4_setPlaces_33 : decode cX4_setPlaces 33 = .ok (.ireturn, 1) := by decide +kernel
theorem dX4_setPlaces_34 : decode cX4_setPlaces 34 = .ok (.aload_n 0, 1) := by decide +kernel
theorem dX4_setPlaces_35 : decode cX4_setPlaces 35 = .ok (.iload_n 1, 1) := by decide +kernel
theorem dX4_setPlaces_36 : decode cX4_setPlaces 36 = .ok (.invokevirtual 79, 3) := by decide +kernel
theorem dX4_setPlaces_39 : decode cX4_setPlaces 39 = .ok (.iload_n 2, 1) := by decide +kernel
theorem dX4_setPlaces_40 : decode cX4_setPlaces 40 = .ok (.if_icmp .le 9, 3) := by decide +kernel
theorem dX4_setPlaces_43 : decode cX4_setPlaces 43 = .ok (.aload_n 0, 1) := by decide +kernel
theorem dX4_setPlaces_44 : decode cX4_setPlaces 44 = .ok (.iconst 3, 1) := by decide +kernel
theorem dX4_setPlaces_45 : decode cX4_setPlaces 45 = .ok (.invokevirtual 47, 3) := by decide +kernel
theorem dX4_setPlaces_48 : decode cX4_setPlaces 48 = .ok (.ireturn, 1) := by decide +kernel
theorem dX4_setPlaces_49 : decode cX4_setPlaces 49 = .ok (.aload_n 0, 1) := by decide +kernel
theorem dX4_setPlaces_50 : decode cX4_setPlaces 50 = .ok (.iload_n 1, 1) := by decide +kernel
theorem dX4_setPlaces_51 : decode cX4_setPlaces 51 = .ok (.iconst 0, 1) := by decide +kernel
theorem dX4_setPlaces_52 : decode cX4_setPlaces 52 = .ok (.invokevirtual 73, 3) := by decide +kernel
theorem dX4_setPlaces_55 : decode cX4_setPlaces 55 = .ok (.istore_n 3, 1) := by decide +kernel
theorem dX4_setPlaces_56 : decode cX4_setPlaces 56 = .ok (.aload_n 0, 1) := by decide +kernel
theorem dX4_setPlaces_57 : decode cX4_setPlaces 57 = .ok (.getfield 16, 3) := by decide +kernel
theorem dX4_setPlaces_60 : decode cX4_setPlaces 60 = .ok (.iconst 3, 1) := by decide +kernel
theorem dX4_setPlaces_61 : decode cX4_setPlaces 61 = .ok (.iload_n 1, 1) := by decide +kernel
theorem dX4_setPlaces_62 : decode cX4_setPlaces 62 = .ok (.imul, 1) := by decide +kernel
theorem dX4_setPlaces_63 : decode cX4_setPlaces 63 = .ok (.iconst 0, 1) := by decide +kernel
theorem dX4_setPlaces_64 : decode cX4_setPlaces 64 = .ok (.iadd, 1) := by decide +kernel
theorem dX4_setPlaces_65 : decode cX4_setPlaces 65 = .ok (.iload_n 2, 1) := by decide +kernel
theorem dX4_setPlaces_66 : decode cX4_setPlaces 66 = .ok (.iastore, 1) := by decide +kernel
theorem dX4_setPlaces_67 : decode cX4_setPlaces 67 = .ok (.iload_n 3, 1) := by decide +kernel
theorem dX4_setPlaces_68 : decode cX4_setPlaces 68 = .ok (.ireturn, 1) := by decide +kernel
theorem dX4_setHours_0 : decode cX4_setHours 0 = .ok (.aload_n 0, 1) := by decide +kernel
theorem dX4_setHours_1 : decode cX4_setHours 1 = .ok (.iconst 0, 1) := by decide +kernel
theorem dX4_setHours_2 : decode cX4_setHours 2 = .ok (.putfield 19, 3) := by decide +kernel
theorem dX4_setHours_5 : decode cX4_setHours 5 = .ok (.iload_n 1, 1) := by decide +kernel
theorem dX4_setHours_6 : decode cX4_setHours 6 = .ok (.invokestatic 76, 3) := by decide +kernel
theorem dX4_setHours_9 : decode cX4_setHours 9 = .ok (.ifCond .ne 9, 3) := by decide +kernel
theorem dX4_setHours_12 : decode cX4_setHours 12 = .ok (.aload_n 0, 1) := by decide +kernel
theorem dX4_setHours_13 : decode cX4_setHours 13 = .ok (.iconst 1, 1) := by decide +kernel
theorem dX4_setHours_14 : decode cX4_setHours 14 = .ok (.invokevirtual 47, 3) := by decide +kernel
theorem dX4_setHours_17 : decode cX4_setHours 17 = .ok (.ireturn, 1) := by decide +kernel
theorem dX4_setHours_18 : decode cX4_setHours 18 = .ok (.iload_n 2, 1) := by decide +kernel
theorem dX4_setHours_19 : decode cX4_setHours 19 = .ok (.iconst 0, 1) := by decide +kernel
theorem dX4_setHours_20 : decode cX4_setHours 20 = .ok (.bipush 23, 2) := by decide +kernel
theorem dX4_setHours_22 : decode cX4_setHours 22 = .ok (.invokestatic 26, 3) := by decide +kernel
theorem dX4_setHours_25 : decode cX4_setHours 25 = .ok (.ifCond .eq 13, 3) := by decide +kernel
theorem dX4_setHours_28 : decode cX4_setHours 28 = .ok (.iload_n 3, 1) := by decide +kernel
theorem dX4_setHours_29 : decode cX4_setHours 29 = .ok (.iconst 0, 1) := by decide +kernel
theorem dX4_setHours_30 : decode cX4_setHours 30 = .ok (.bipush 24, 2) := by decide +kernel
theorem dX4_setHours_32 : decode cX4_setHours 32 = .ok (.invokestatic 26, 3) := by decide +kernel
theorem dX4_setHours_35 : decode cX4_setHours 35 = .ok (.ifCond .ne 9, 3) := by decide +kernel
theorem dX4_setHours_38 : decode cX4_setHours 38 = .ok (.aload_n 0, 1) := by decide +kernel
theorem dX4_setHours_39 : decode cX4_setHours 39 = .ok (.iconst 2, 1) := by decide +kernel
theorem dX4_setHours_40 : decode cX4_setHours 40 = .ok (.invokevirtual 47, 3) := by decide +kernel
theorem dX4_setHours_43 : decode cX4_setHours 43 = .ok (.ireturn, 1) := by decide +kernel
theorem dX4_setHours_44 : decode cX4_setHours 44 = .ok (.bipush 25, 2) := by decide +kernel
theorem dX4_setHours_46 : decode cX4_setHours 46 = .ok (.aload_n 0, 1) := by decide +kernel
theorem dX4_setHours_47 : decode cX4_setHours 47 = .ok (.iload_n 1, 1) := by decide +kernel
theorem dX4_setHours_48 : decode cX4_setHours 48 = .ok (.iconst 1, 1) := by decide +kernel
theorem dX4_setHours_49 : decode cX4_setHours 49 = .ok (.invokevirtual 73, 3) := by decide +kernel
theorem dX4_setHours_52 : decode cX4_setHours 52 = .ok (.imul, 1) := by decide +kernel
theorem dX4_setHours_53 : decode cX4_setHours 53 = .ok (.aload_n 0, 1) := by decide +kernel
theorem dX4_setHours_54 : decode cX4_setHours 54 = .ok (.iload_n 1, 1) := by decide +kernel
theorem dX4_setHours_55 : decode cX4_setHours 55 = .ok (.iconst 2, 1) := by decide +kernel
theorem dX4_setHours_56 : decode cX4_setHours 56 = .ok (.invokevirtual 73, 3) := by decide +kernel
theorem dX4_setHours_59 : decode cX4_setHours 59 = .ok (.iadd, 1) := by decide +kernel
theorem dX4_setHours_60 : decode cX4_setHours 60 = .ok (.istore 4, 2) := by decide +kernel
theorem dX4_setHours_62 : decode cX4_setHours 62 = .ok (.aload_n 0, 1) := by decide +kernel
theorem dX4_setHours_63 : decode cX4_setHours 63 = .ok (.getfield 16, 3) := by decide +kernel
theorem dX4_setHours_66 : decode cX4_setHours 66 = .ok (.iconst 3, 1) := by decide +kernel
theorem dX4_setHours_67 : decode cX4_setHours 67 = .ok (.iload_n 1, 1) := by decide +kernel
theorem dX4_setHours_68 : decode cX4_setHours 68 = .ok (.imul, 1) := by decide +kernel
theorem dX4_setHours_69 : decode cX4_setHours 69 = .ok (.iconst 1, 1) := by decide +kernel
theorem dX4_setHours_70 : decode cX4_setHours 70 = .ok (.iadd, 1) := by decide +kernel
theorem dX4_setHours_71 : decode cX4_setHours 71 = .ok (.iload_n 2, 1) := by decide +kernel
theorem dX4_setHours_72 : decode cX4_setHours 72 = .ok (.iastore, 1) := by decide +kernel
theorem dX4_setHours_73 : decode cX4_setHours 73 = .ok (.aload_n 0, 1) := by decide +kernel
theorem dX4_setHours_74 : decode cX4_setHours 74 = .ok (.getfield 16, 3) := by decide +kernel
theorem dX4_setHours_77 : decode cX4_setHours 77 = .ok (.iconst 3, 1) := by decide +kernel
theorem dX4_setHours_78 : decode cX4_setHours 78 = .ok (.iload_n 1, 1) := by decide +kernel
theorem dX4_setHours_79 : decode cX4_setHours 79 = .ok (.imul, 1) := by decide +kernel
theorem dX4_setHours_80 : decode cX4_setHours 80 = .ok (.iconst 2, 1) := by decide +kernel
theorem dX4_setHours_81 : decode cX4_setHours 81 = .ok (.iadd, 1) := by decide +kernel
theorem dX4_setHours_82 : decode cX4_setHours 82 = .ok (.iload_n 3, 1) := by decide +kernel
theorem dX4_setHours_83 : decode cX4_setHours 83 = .ok (.iastore, 1) := by decide +kernel
theorem dX4_setHours_84 : decode cX4_setHours 84 = .ok (.iload 4, 2) := by decide +kernel
theorem dX4_setHours_86 : decode cX4_setHours 86 = .ok (.ireturn, 1) := by decide +kernel
theorem dX4_put_0 : decode cX4_put 0 = .ok (.aload_n 0, 1) := by decide +kernel
theorem dX4_put_1 : decode cX4_put 1 = .ok (.iconst 0, 1) := by decide +kernel
theorem dX4_put_2 : decode cX4_put 2 = .ok (.putfield 19, 3) := by decide +kernel
theorem dX4_put_5 : decode cX4_put 5 = .ok (.aload_n 0, 1) := by decide +kernel
theorem dX4_put_6 : decode cX4_put 6 = .ok (.iload_n 1, 1) := by decide +kernel
theorem dX4_put_7 : decode cX4_put 7 = .ok (.invokevirtual 54, 3) := by decide +kernel
theorem dX4_put_10 : decode cX4_put 10 = .ok (.ifCond .eq 15, 3) := by decide +kernel
theorem dX4_put_13 : decode cX4_put 13 = .ok (.iload_n 2, 1) := by decide +kernel
theorem dX4_put_14 : decode cX4_put 14 = .ok (.iconst (-1), 1) := by decide +kernel
theorem dX4_put_15 : decode cX4_put 15 = .ok (.if_icmp .eq 16, 3) := by decide +kernel
theorem dX4_put_18 : decode cX4_put 18 = .ok (.iload_n 2, 1) := by decide +kernel
theorem dX4_put_19 : decode cX4_put 19 = .ok (.invokestatic 76, 3) := by decide +kernel
theorem dX4_put_22 : decode cX4_put 22 = .ok (.ifCond .ne 9, 3) := by decide +kernel
theorem dX4_put_25 : decode cX4_put 25 = .ok (.aload_n 0, 1) := by decide +kernel
theorem dX4_put_26 : decode cX4_put 26 = .ok (.iconst 1, 1) := by decide +kernel
theorem dX4_put_27 : decode cX4_put 27 = .ok (.invokevirtual 47, 3) := by decide +kernel
theorem dX4_put_30 : decode cX4_put 30 = .ok (.ireturn, 1) := by decide +kernel
theorem dX4_put_31 : decode cX4_put 31 = .ok (.aload_n 0, 1) := by decide +kernel
theorem dX4_put_32 : decode cX4_put 32 = .ok (.iload_n 1, 1) := by decide +kernel
theorem dX4_put_33 : decode cX4_put 33 = .ok (.iconst 2, 1) := by decide +kernel
theorem dX4_put_34 : decode cX4_put 34 = .ok (.invokevirtual 30, 3) := by decide +kernel
theorem dX4_put_37 : decode cX4_put 37 = .ok (.istore_n 3, 1) := by decide +kernel
theorem dX4_put_38 : decode cX4_put 38 = .ok (.iload_n 3, 1) := by decide +kernel
theorem dX4_put_39 : decode cX4_put 39 = .ok (.iload_n 2, 1) := by decide +kernel
theorem dX4_put_40 : decode cX4_put 40 = .ok (.if_icmp .ne 5, 3) := by decide +kernel
theorem dX4_put_43 : decode cX4_put 43 = .ok (.iload_n 3, 1) := by decide +kernel
theorem dX4_put_44 : decode cX4_put 44 = .ok (.ireturn, 1) := by decide +kernel
theorem dX4_put_45 : decode cX4_put 45 = .ok (.aload_n 0, 1) := by decide +kernel
theorem dX4_put_46 : decode cX4_put 46 = .ok (.iload_n 1, 1) := by decide +kernel
theorem dX4_put_47 : decode cX4_put 47 = .ok (.iconst 1, 1) := by decide +kernel
theorem dX4_put_48 : decode cX4_put 48 = .ok (.invokevirtual 30, 3) := by decide +kernel
theorem dX4_put_51 : decode cX4_put 51 = .ok (.ifCond .eq 30, 3) := by decide +kernel
theorem dX4_put_54 : decode cX4_put 54 = .ok (.iload_n 2, 1) := by decide +kernel
theorem dX4_put_55 : decode cX4_put 55 = .ok (.iconst (-1), 1) := by decide +kernel
theorem dX4_put_56 : decode cX4_put 56 = .ok (.if_icmp .eq 31, 3) := by decide +kernel
theorem dX4_put_59 : decode cX4_put 59 = .ok (.aload_n 0, 1) := by decide +kernel
theorem dX4_put_60 : decode cX4_put 60 = .ok (.iload_n 2, 1) := by decide +kernel
theorem dX4_put_61 : decode cX4_put 61 = .ok (.invokevirtual 82, 3) := by decide +kernel
theorem dX4_put_64 : decode cX4_put 64 = .ok (.ifCond .eq 17, 3) := by decide +kernel
theorem dX4_put_67 : decode cX4_put 67 = .ok (.aload_n 0, 1) := by decide +kernel
theorem dX4_put_68 : decode cX4_put 68 = .ok (.iload_n 2, 1) := by decide +kernel
theorem dX4_put_69 : decode cX4_put 69 = .ok (.invokevirtual 79, 3) := by decide +kernel
theorem dX4_put_72 : decode cX4_put 72 = .ok (.aload_n 0, 1) := by decide +kernel
theorem dX4_put_73 : decode cX4_put 73 = .ok (.iload_n 2, 1) := by decide +kernel
theorem dX4_put_74 : decode cX4_put 74 = .ok (.iconst 0, 1) := by decide +kernel
theorem dX4_put_75 : decode cX4_put 75 = .ok (.invokevirtual 73, 3) := by decide +kernel
theorem dX4_put_78 : decode cX4_put 78 = .ok (.if_icmp .lt 9, 3) := by decide +kernel
theorem dX4_put_81 : decode cX4_put 81 = .ok (.aload_n 0, 1) := by decide +kernel
theorem dX4_put_82 : decode cX4_put 82 = .ok (.iconst 2, 1) := by decide +kernel
theorem dX4_put_83 : decode cX4_put 83 = .ok (.invokevirtual 47, 3) := by decide +kernel
theorem dX4_put_86 : decode cX4_put 86 = .ok (.ireturn, 1) := by decide +kernel
theorem dX4_put_87 : decode cX4_put 87 = .ok (.aload_n 0, 1) := by decide +kernel
theorem dX4_put_88 : decode cX4_put 88 = .ok (.iload_n 1, 1) := by decide +kernel
theorem dX4_put_89 : decode cX4_put 89 = .ok (.iconst 2, 1) := by decide +kernel
theorem dX4_put_90 : decode cX4_put 90 = .ok (.iload_n 2, 1) := by decide +kernel
theorem dX4_put_91 : decode cX4_put 91 = .ok (.invokevirtual 50, 3) := by decide +kernel
theorem dX4_put_94 : decode cX4_put 94 = .ok (.iload_n 3, 1) := by decide +kernel
theorem dX4_put_95 : decode cX4_put 95 = .ok (.ireturn, 1) := by decide +kernel
theorem dX4_shows_0 : decode cX4_shows 0 = .ok (.iconst 0, 1) := by decide +kernel
theorem dX4_shows_1 : decode cX4_shows 1 = .ok (.istore_n 2, 1) := by decide +kernel
theorem dX4_shows_2 : decode cX4_shows 2 = .ok (.iconst 0, 1) := by decide +kernel
theorem dX4_shows_3 : decode cX4_shows 3 = .ok (.istore_n 3, 1) := by decide +kernel
theorem dX4_shows_4 : decode cX4_shows 4 = .ok (.iload_n 3, 1) := by decide +kernel
theorem dX4_shows_5 : decode cX4_shows 5 = .ok (.iconst 4, 1) := by decide +kernel
theorem dX4_shows_6 : decode cX4_shows 6 = .ok (.if_icmp .ge 59, 3) := by decide +kernel
theorem dX4_shows_9 : decode cX4_shows 9 = .ok (.iconst 0, 1) := by decide +kernel
theorem dX4_shows_10 : decode cX4_shows 10 = .ok (.istore 4, 2) := by decide +kernel
theorem dX4_shows_12 : decode cX4_shows 12 = .ok (.iconst 1, 1) := by decide +kernel
theorem dX4_shows_13 : decode cX4_shows 13 = .ok (.istore 5, 2) := by decide +kernel
theorem dX4_shows_15 : decode cX4_shows 15 = .ok (.iload 5, 2) := by decide +kernel
theorem dX4_shows_17 : decode cX4_shows 17 = .ok (.bipush 6, 2) := by decide +kernel
theorem dX4_shows_19 : decode cX4_shows 19 = .ok (.if_icmp .ge 32, 3) := by decide +kernel
theorem dX4_shows_22 : decode cX4_shows 22 = .ok (.aload_n 0, 1) := by decide +kernel
theorem dX4_shows_23 : decode cX4_shows 23 = .ok (.iload_n 1, 1) := by decide +kernel
theorem dX4_shows_24 : decode cX4_shows 24 = .ok (.iload_n 3, 1) := by decide +kernel
theorem dX4_shows_25 : decode cX4_shows 25 = .ok (.iload 5, 2) := by decide +kernel
theorem dX4_shows_27 : decode cX4_shows 27 = .ok (.invokevirtual 85, 3) := by decide +kernel
theorem dX4_shows_30 : decode cX4_shows 30 = .ok (.aload_n 0, 1) := by decide +kernel
theorem dX4_shows_31 : decode cX4_shows 31 = .ok (.iload_n 1, 1) := by decide +kernel
theorem dX4_shows_32 : decode cX4_shows 32 = .ok (.iload_n 3, 1) := by decide +kernel
theorem dX4_shows_33 : decode cX4_shows 33 = .ok (.iload 4, 2) := by decide +kernel
theorem dX4_shows_35 : decode cX4_shows 35 = .ok (.invokevirtual 85, 3) := by decide +kernel
theorem dX4_shows_38 : decode cX4_shows 38 = .ok (.if_icmp .le 7, 3) := by decide +kernel
theorem dX4_shows_41 : decode cX4_shows 41 = .ok (.iload 5, 2) := by decide +kernel
theorem dX4_shows_43 : decode cX4_shows 43 = .ok (.istore 4, 2) := by decide +kernel
theorem dX4_shows_45 : decode cX4_shows 45 = .ok (.iinc 5 1, 3) := by decide +kernel
theorem dX4_shows_48 : decode cX4_shows 48 = .ok (.goto (-33), 3) := by decide +kernel
theorem dX4_shows_51 : decode cX4_shows 51 = .ok (.bipush 6, 2) := by decide +kernel
theorem dX4_shows_53 : decode cX4_shows 53 = .ok (.iload_n 2, 1) := by decide +kernel
theorem dX4_shows_54 : decode cX4_shows 54 = .ok (.imul, 1) := by decide +kernel
theorem dX4_shows_55 : decode cX4_shows 55 = .ok (.iload 4, 2) := by decide +kernel
theorem dX4_shows_57 : decode cX4_shows 57 = .ok (.iadd, 1) := by decide +kernel
theorem dX4_shows_58 : decode cX4_shows 58 = .ok (.istore_n 2, 1) := by decide +kernel
theorem dX4_shows_59 : decode cX4_shows 59 = .ok (.iinc 3 1, 3) := by decide +kernel
theorem dX4_shows_62 : decode cX4_shows 62 = .ok (.goto (-58), 3) := by decide +kernel
theorem dX4_shows_65 : decode cX4_shows 65 = .ok (.iload_n 2, 1) := by decide +kernel
theorem dX4_shows_66 : decode cX4_shows 66 = .ok (.ireturn, 1) := by decide +kernel
theorem dX4_lockTold_0 : decode cX4_lockTold 0 = .ok (.iload_n 2, 1) := by decide +kernel
theorem dX4_lockTold_1 : decode cX4_lockTold 1 = .ok (.tableswitch 68 0 4 #[35, 41, 48, 55, 62], 35) := by decide +kernel
theorem dX4_lockTold_36 : decode cX4_lockTold 36 = .ok (.aload_n 0, 1) := by decide +kernel
theorem dX4_lockTold_37 : decode cX4_lockTold 37 = .ok (.iload_n 1, 1) := by decide +kernel
theorem dX4_lockTold_38 : decode cX4_lockTold 38 = .ok (.invokevirtual 63, 3) := by decide +kernel
theorem dX4_lockTold_41 : decode cX4_lockTold 41 = .ok (.ireturn, 1) := by decide +kernel
theorem dX4_lockTold_42 : decode cX4_lockTold 42 = .ok (.aload_n 0, 1) := by decide +kernel
theorem dX4_lockTold_43 : decode cX4_lockTold 43 = .ok (.iload_n 1, 1) := by decide +kernel
theorem dX4_lockTold_44 : decode cX4_lockTold 44 = .ok (.iconst 1, 1) := by decide +kernel
theorem dX4_lockTold_45 : decode cX4_lockTold 45 = .ok (.invokevirtual 30, 3) := by decide +kernel
theorem dX4_lockTold_48 : decode cX4_lockTold 48 = .ok (.ireturn, 1) := by decide +kernel
theorem dX4_lockTold_49 : decode cX4_lockTold 49 = .ok (.aload_n 0, 1) := by decide +kernel
theorem dX4_lockTold_50 : decode cX4_lockTold 50 = .ok (.iload_n 1, 1) := by decide +kernel
theorem dX4_lockTold_51 : decode cX4_lockTold 51 = .ok (.iconst 2, 1) := by decide +kernel
theorem dX4_lockTold_52 : decode cX4_lockTold 52 = .ok (.invokevirtual 30, 3) := by decide +kernel
theorem dX4_lockTold_55 : decode cX4_lockTold 55 = .ok (.ireturn, 1) := by decide +kernel
theorem dX4_lockTold_56 : decode cX4_lockTold 56 = .ok (.aload_n 0, 1) := by decide +kernel
theorem dX4_lockTold_57 : decode cX4_lockTold 57 = .ok (.iload_n 1, 1) := by decide +kernel
theorem dX4_lockTold_58 : decode cX4_lockTold 58 = .ok (.iconst 3, 1) := by decide +kernel
theorem dX4_lockTold_59 : decode cX4_lockTold 59 = .ok (.invokevirtual 30, 3) := by decide +kernel
theorem dX4_lockTold_62 : decode cX4_lockTold 62 = .ok (.ireturn, 1) := by decide +kernel
theorem dX4_lockTold_63 : decode cX4_lockTold 63 = .ok (.aload_n 0, 1) := by decide +kernel
theorem dX4_lockTold_64 : decode cX4_lockTold 64 = .ok (.iload_n 1, 1) := by decide +kernel
theorem dX4_lockTold_65 : decode cX4_lockTold 65 = .ok (.invokevirtual 89, 3) := by decide +kernel
theorem dX4_lockTold_68 : decode cX4_lockTold 68 = .ok (.ireturn, 1) := by decide +kernel
theorem dX4_lockTold_69 : decode cX4_lockTold 69 = .ok (.aload_n 0, 1) := by decide +kernel
theorem dX4_lockTold_70 : decode cX4_lockTold 70 = .ok (.iload_n 1, 1) := by decide +kernel
theorem dX4_lockTold_71 : decode cX4_lockTold 71 = .ok (.iconst 3, 1) := by decide +kernel
theorem dX4_lockTold_72 : decode cX4_lockTold 72 = .ok (.invokevirtual 30, 3) := by decide +kernel
theorem dX4_lockTold_75 : decode cX4_lockTold 75 = .ok (.iconst 1, 1) := by decide +kernel
theorem dX4_lockTold_76 : decode cX4_lockTold 76 = .ok (.if_icmp .ne 7, 3) := by decide +kernel
theorem dX4_lockTold_79 : decode cX4_lockTold 79 = .ok (.iconst (-1), 1) := by decide +kernel
theorem dX4_lockTold_80 : decode cX4_lockTold 80 = .ok (.goto 9, 3) := by decide +kernel
theorem dX4_lockTold_83 : decode cX4_lockTold 83 = .ok (.aload_n 0, 1) := by decide +kernel
theorem dX4_lockTold_84 : decode cX4_lockTold 84 = .ok (.iload_n 1, 1) := by decide +kernel
theorem dX4_lockTold_85 : decode cX4_lockTold 85 = .ok (.iconst 0, 1) := by decide +kernel
theorem dX4_lockTold_86 : decode cX4_lockTold 86 = .ok (.invokevirtual 30, 3) := by decide +kernel
theorem dX4_lockTold_89 : decode cX4_lockTold 89 = .ok (.ireturn, 1) := by decide +kernel
theorem dX4_told_0 : decode cX4_told 0 = .ok (.aload_n 0, 1) := by decide +kernel
theorem dX4_told_1 : decode cX4_told 1 = .ok (.iconst 0, 1) := by decide +kernel
theorem dX4_told_2 : decode cX4_told 2 = .ok (.putfield 19, 3) := by decide +kernel
theorem dX4_told_5 : decode cX4_told 5 = .ok (.aload_n 0, 1) := by decide +kernel
theorem dX4_told_6 : decode cX4_told 6 = .ok (.iload_n 1, 1) := by decide +kernel
theorem dX4_told_7 : decode cX4_told 7 = .ok (.invokevirtual 54, 3) := by decide +kernel
theorem dX4_told_10 : decode cX4_told 10 = .ok (.ifCond .eq 21, 3) := by decide +kernel
theorem dX4_told_13 : decode cX4_told 13 = .ok (.iload_n 2, 1) := by decide +kernel
theorem dX4_told_14 : decode cX4_told 14 = .ok (.iconst 0, 1) := by decide +kernel
theorem dX4_told_15 : decode cX4_told 15 = .ok (.iconst 5, 1) := by decide +kernel
theorem dX4_told_16 : decode cX4_told 16 = .ok (.invokestatic 26, 3) := by decide +kernel
theorem dX4_told_19 : decode cX4_told 19 = .ok (.ifCond .eq 12, 3) := by decide +kernel
theorem dX4_told_22 : decode cX4_told 22 = .ok (.aload_n 0, 1) := by decide +kernel
theorem dX4_told_23 : decode cX4_told 23 = .ok (.iload_n 1, 1) := by decide +kernel
theorem dX4_told_24 : decode cX4_told 24 = .ok (.iload_n 2, 1) := by decide +kernel
theorem dX4_told_25 : decode cX4_told 25 = .ok (.invokevirtual 92, 3) := by decide +kernel
theorem dX4_told_28 : decode cX4_told 28 = .ok (.goto 8, 3) := by decide +kernel
theorem dX4_told_31 : decode cX4_told 31 = .ok (.aload_n 0, 1) := by decide +kernel
theorem dX4_told_32 : decode cX4_told 32 = .ok (.iconst 1, 1) := by decide +kernel
theorem dX4_told_33 : decode cX4_told 33 = .ok (.invokevirtual 47, 3) := by decide +kernel
theorem dX4_told_36 : decode cX4_told 36 = .ok (.ireturn, 1) := by decide +kernel
theorem dX4_wear_0 : decode cX4_wear 0 = .ok (.aload_n 0, 1) := by decide +kernel
theorem dX4_wear_1 : decode cX4_wear 1 = .ok (.iconst 0, 1) := by decide +kernel
theorem dX4_wear_2 : decode cX4_wear 2 = .ok (.putfield 19, 3) := by decide +kernel
theorem dX4_wear_5 : decode cX4_wear 5 = .ok (.aload_n 0, 1) := by decide +kernel
theorem dX4_wear_6 : decode cX4_wear 6 = .ok (.iload_n 1, 1) := by decide +kernel
theorem dX4_wear_7 : decode cX4_wear 7 = .ok (.invokevirtual 54, 3) := by decide +kernel
theorem dX4_wear_10 : decode cX4_wear 10 = .ok (.ifCond .eq 31, 3) := by decide +kernel
theorem dX4_wear_13 : decode cX4_wear 13 = .ok (.iload_n 2, 1) := by decide +kernel
theorem dX4_wear_14 : decode cX4_wear 14 = .ok (.iconst 0, 1) := by decide +kernel
theorem dX4_wear_15 : decode cX4_wear 15 = .ok (.iconst 3, 1) := by decide +kernel
theorem dX4_wear_16 : decode cX4_wear 16 = .ok (.invokestatic 26, 3) := by decide +kernel
theorem dX4_wear_19 : decode cX4_wear 19 = .ok (.ifCond .eq 22, 3) := by decide +kernel
theorem dX4_wear_22 : decode cX4_wear 22 = .ok (.iload_n 3, 1) := by decide +kernel
theorem dX4_wear_23 : decode cX4_wear 23 = .ok (.iconst 0, 1) := by decide +kernel
theorem dX4_wear_24 : decode cX4_wear 24 = .ok (.iconst 5, 1) := by decide +kernel
theorem dX4_wear_25 : decode cX4_wear 25 = .ok (.invokestatic 26, 3) := by decide +kernel
theorem dX4_wear_28 : decode cX4_wear 28 = .ok (.ifCond .eq 13, 3) := by decide +kernel
theorem dX4_wear_31 : decode cX4_wear 31 = .ok (.aload_n 0, 1) := by decide +kernel
end
section
theorem dX4_wear_32 : decode cX4_wear 32 = .ok (.iload_n 1, 1) := by decide +kernel
theorem dX4_wear_33 : decode cX4_wear 33 = .ok (.iload_n 2, 1) := by decide +kernel
theorem dX4_wear_34 : decode cX4_wear 34 = .ok (.iload_n 3, 1) := by decide +kernel
theorem dX4_wear_35 : decode cX4_wear 35 = .ok (.invokevirtual 85, 3) := by decide +kernel
theorem dX4_wear_38 : decode cX4_wear 38 = .ok (.goto 8, 3) := by decide +kernel
theorem dX4_wear_41 : decode cX4_wear 41 = .ok (.aload_n 0, 1) := by decide +kernel
theorem dX4_wear_42 : decode cX4_wear 42 = .ok (.iconst 1, 1) := by decide +kernel
theorem dX4_wear_43 : decode cX4_wear 43 = .ok (.invokevirtual 47, 3) := by decide +kernel
theorem dX4_wear_46 : decode cX4_wear 46 = .ok (.ireturn, 1) := by decide +kernel
theorem dX4_rackTold_0 : decode cX4_rackTold 0 = .ok (.iload_n 2, 1) := by decide +kernel
theorem dX4_rackTold_1 : decode cX4_rackTold 1 = .ok (.tableswitch 116 0 4 #[35, 42, 48, 62, 109], 35) := by decide +kernel
theorem dX4_rackTold_36 : decode cX4_rackTold 36 = .ok (.aload_n 0, 1) := by decide +kernel
theorem dX4_rackTold_37 : decode cX4_rackTold 37 = .ok (.iload_n 1, 1) := by decide +kernel
theorem dX4_rackTold_38 : decode cX4_rackTold 38 = .ok (.iconst 0, 1) := by decide +kernel
theorem dX4_rackTold_39 : decode cX4_rackTold 39 = .ok (.invokevirtual 73, 3) := by decide +kernel
theorem dX4_rackTold_42 : decode cX4_rackTold 42 = .ok (.ireturn, 1) := by decide +kernel
theorem dX4_rackTold_43 : decode cX4_rackTold 43 = .ok (.aload_n 0, 1) := by decide +kernel
theorem dX4_rackTold_44 : decode cX4_rackTold 44 = .ok (.iload_n 1, 1) := by decide +kernel
theorem dX4_rackTold_45 : decode cX4_rackTold 45 = .ok (.invokevirtual 79, 3) := by decide +kernel
theorem dX4_rackTold_48 : decode cX4_rackTold 48 = .ok (.ireturn, 1) := by decide +kernel
theorem dX4_rackTold_49 : decode cX4_rackTold 49 = .ok (.aload_n 0, 1) := by decide +kernel
theorem dX4_rackTold_50 : decode cX4_rackTold 50 = .ok (.iload_n 1, 1) := by decide +kernel
theorem dX4_rackTold_51 : decode cX4_rackTold 51 = .ok (.invokevirtual 82, 3) := by decide +kernel
theorem dX4_rackTold_54 : decode cX4_rackTold 54 = .ok (.ifCond .eq 7, 3) := by decide +kernel
theorem dX4_rackTold_57 : decode cX4_rackTold 57 = .ok (.iconst 1, 1) := by decide +kernel
theorem dX4_rackTold_58 : decode cX4_rackTold 58 = .ok (.goto 4, 3) := by decide +kernel
theorem dX4_rackTold_61 : decode cX4_rackTold 61 = .ok (.iconst 0, 1) := by decide +kernel
theorem dX4_rackTold_62 : decode cX4_rackTold 62 = .ok (.ireturn, 1) := by decide +kernel
theorem dX4_rackTold_63 : decode cX4_rackTold 63 = .ok (.iconst 0, 1) := by decide +kernel
theorem dX4_rackTold_64 : decode cX4_rackTold 64 = .ok (.istore_n 3, 1) := by decide +kernel
theorem dX4_rackTold_65 : decode cX4_rackTold 65 = .ok (.iconst 0, 1) := by decide +kernel
theorem dX4_rackTold_66 : decode cX4_rackTold 66 = .ok (.istore 4, 2) := by decide +kernel
theorem dX4_rackTold_68 : decode cX4_rackTold 68 = .ok (.iload 4, 2) := by decide +kernel
theorem dX4_rackTold_70 : decode cX4_rackTold 70 = .ok (.aload_n 0, 1) := by decide +kernel
theorem dX4_rackTold_71 : decode cX4_rackTold 71 = .ok (.getfield 23, 3) := by decide +kernel
theorem dX4_rackTold_74 : decode cX4_rackTold 74 = .ok (.if_icmp .ge 34, 3) := by decide +kernel
theorem dX4_rackTold_77 : decode cX4_rackTold 77 = .ok (.iload_n 3, 1) := by decide +kernel
theorem dX4_rackTold_78 : decode cX4_rackTold 78 = .ok (.aload_n 0, 1) := by decide +kernel
theorem dX4_rackTold_79 : decode cX4_rackTold 79 = .ok (.iload 4, 2) := by decide +kernel
theorem dX4_rackTold_81 : decode cX4_rackTold 81 = .ok (.iconst 2, 1) := by decide +kernel
theorem dX4_rackTold_82 : decode cX4_rackTold 82 = .ok (.invokevirtual 30, 3) := by decide +kernel
theorem dX4_rackTold_85 : decode cX4_rackTold 85 = .ok (.iload_n 1, 1) := by decide +kernel
theorem dX4_rackTold_86 : decode cX4_rackTold 86 = .ok (.if_icmp .ne 13, 3) := by decide +kernel
theorem dX4_rackTold_89 : decode cX4_rackTold 89 = .ok (.aload_n 0, 1) := by decide +kernel
theorem dX4_rackTold_90 : decode cX4_rackTold 90 = .ok (.iload 4, 2) := by decide +kernel
theorem dX4_rackTold_92 : decode cX4_rackTold 92 = .ok (.iconst 1, 1) := by decide +kernel
theorem dX4_rackTold_93 : decode cX4_rackTold 93 = .ok (.invokevirtual 30, 3) := by decide +kernel
theorem dX4_rackTold_96 : decode cX4_rackTold 96 = .ok (.goto 4, 3) := by decide +kernel
theorem dX4_rackTold_99 : decode cX4_rackTold 99 = .ok (.iconst 0, 1) := by decide +kernel
theorem dX4_rackTold_100 : decode cX4_rackTold 100 = .ok (.iadd, 1) := by decide +kernel
theorem dX4_rackTold_101 : decode cX4_rackTold 101 = .ok (.istore_n 3, 1) := by decide +kernel
theorem dX4_rackTold_102 : decode cX4_rackTold 102 = .ok (.iinc 4 1, 3) := by decide +kernel
theorem dX4_rackTold_105 : decode cX4_rackTold 105 = .ok (.goto (-37), 3) := by decide +kernel
theorem dX4_rackTold_108 : decode cX4_rackTold 108 = .ok (.iload_n 3, 1) := by decide +kernel
theorem dX4_rackTold_109 : decode cX4_rackTold 109 = .ok (.ireturn, 1) := by decide +kernel
theorem dX4_rackTold_110 : decode cX4_rackTold 110 = .ok (.aload_n 0, 1) := by decide +kernel
theorem dX4_rackTold_111 : decode cX4_rackTold 111 = .ok (.iload_n 1, 1) := by decide +kernel
theorem dX4_rackTold_112 : decode cX4_rackTold 112 = .ok (.iconst 1, 1) := by decide +kernel
theorem dX4_rackTold_113 : decode cX4_rackTold 113 = .ok (.invokevirtual 73, 3) := by decide +kernel
theorem dX4_rackTold_116 : decode cX4_rackTold 116 = .ok (.ireturn, 1) := by decide +kernel
theorem dX4_rackTold_117 : decode cX4_rackTold 117 = .ok (.aload_n 0, 1) := by decide +kernel
theorem dX4_rackTold_118 : decode cX4_rackTold 118 = .ok (.iload_n 1, 1) := by decide +kernel
theorem dX4_rackTold_119 : decode cX4_rackTold 119 = .ok (.iconst 2, 1) := by decide +kernel
theorem dX4_rackTold_120 : decode cX4_rackTold 120 = .ok (.invokevirtual 73, 3) := by decide +kernel
theorem dX4_rackTold_123 : decode cX4_rackTold 123 = .ok (.ireturn, 1) := by decide +kernel
theorem dX4_rack_0 : decode cX4_rack 0 = .ok (.aload_n 0, 1) := by decide +kernel
theorem dX4_rack_1 : decode cX4_rack 1 = .ok (.iconst 0, 1) := by decide +kernel
theorem dX4_rack_2 : decode cX4_rack 2 = .ok (.putfield 19, 3) := by decide +kernel
theorem dX4_rack_5 : decode cX4_rack 5 = .ok (.iload_n 1, 1) := by decide +kernel
theorem dX4_rack_6 : decode cX4_rack 6 = .ok (.invokestatic 76, 3) := by decide +kernel
theorem dX4_rack_9 : decode cX4_rack 9 = .ok (.ifCond .eq 21, 3) := by decide +kernel
theorem dX4_rack_12 : decode cX4_rack 12 = .ok (.iload_n 2, 1) := by decide +kernel
theorem dX4_rack_13 : decode cX4_rack 13 = .ok (.iconst 0, 1) := by decide +kernel
theorem dX4_rack_14 : decode cX4_rack 14 = .ok (.iconst 5, 1) := by decide +kernel
theorem dX4_rack_15 : decode cX4_rack 15 = .ok (.invokestatic 26, 3) := by decide +kernel
theorem dX4_rack_18 : decode cX4_rack 18 = .ok (.ifCond .eq 12, 3) := by decide +kernel
theorem dX4_rack_21 : decode cX4_rack 21 = .ok (.aload_n 0, 1) := by decide +kernel
theorem dX4_rack_22 : decode cX4_rack 22 = .ok (.iload_n 1, 1) := by decide +kernel
theorem dX4_rack_23 : decode cX4_rack 23 = .ok (.iload_n 2, 1) := by decide +kernel
theorem dX4_rack_24 : decode cX4_rack 24 = .ok (.invokevirtual 95, 3) := by decide +kernel
theorem dX4_rack_27 : decode cX4_rack 27 = .ok (.goto 8, 3) := by decide +kernel
theorem dX4_rack_30 : decode cX4_rack 30 = .ok (.aload_n 0, 1) := by decide +kernel
theorem dX4_rack_31 : decode cX4_rack 31 = .ok (.iconst 1, 1) := by decide +kernel
theorem dX4_rack_32 : decode cX4_rack 32 = .ok (.invokevirtual 47, 3) := by decide +kernel
theorem dX4_rack_35 : decode cX4_rack 35 = .ok (.ireturn, 1) := by decide +kernel
theorem dX4_counted_0 : decode cX4_counted 0 = .ok (.iconst 0, 1) := by decide +kernel
theorem dX4_counted_1 : decode cX4_counted 1 = .ok (.istore_n 2, 1) := by decide +kernel
theorem dX4_counted_2 : decode cX4_counted 2 = .ok (.iload_n 1, 1) := by decide +kernel
theorem dX4_counted_3 : decode cX4_counted 3 = .ok (.tableswitch 144 0 5 #[37, 42, 47, 74, 101, 139], 37) := by decide +kernel
theorem dX4_counted_40 : decode cX4_counted 40 = .ok (.aload_n 0, 1) := by decide +kernel
theorem dX4_counted_41 : decode cX4_counted 41 = .ok (.getfield 70, 3) := by decide +kernel
theorem dX4_counted_44 : decode cX4_counted 44 = .ok (.ireturn, 1) := by decide +kernel
theorem dX4_counted_45 : decode cX4_counted 45 = .ok (.aload_n 0, 1) := by decide +kernel
theorem dX4_counted_46 : decode cX4_counted 46 = .ok (.getfield 23, 3) := by decide +kernel
theorem dX4_counted_49 : decode cX4_counted 49 = .ok (.ireturn, 1) := by decide +kernel
theorem dX4_counted_50 : decode cX4_counted 50 = .ok (.iconst 0, 1) := by decide +kernel
theorem dX4_counted_51 : decode cX4_counted 51 = .ok (.istore_n 3, 1) := by decide +kernel
theorem dX4_counted_52 : decode cX4_counted 52 = .ok (.iload_n 3, 1) := by decide +kernel
theorem dX4_counted_53 : decode cX4_counted 53 = .ok (.aload_n 0, 1) := by decide +kernel
theorem dX4_counted_54 : decode cX4_counted 54 = .ok (.getfield 23, 3) := by decide +kernel
theorem dX4_counted_57 : decode cX4_counted 57 = .ok (.if_icmp .ge 18, 3) := by decide +kernel
theorem dX4_counted_60 : decode cX4_counted 60 = .ok (.iload_n 2, 1) := by decide +kernel
theorem dX4_counted_61 : decode cX4_counted 61 = .ok (.aload_n 0, 1) := by decide +kernel
theorem dX4_counted_62 : decode cX4_counted 62 = .ok (.iload_n 3, 1) := by decide +kernel
theorem dX4_counted_63 : decode cX4_counted 63 = .ok (.iconst 1, 1) := by decide +kernel
theorem dX4_counted_64 : decode cX4_counted 64 = .ok (.invokevirtual 30, 3) := by decide +kernel
theorem dX4_counted_67 : decode cX4_counted 67 = .ok (.iadd, 1) := by decide +kernel
theorem dX4_counted_68 : decode cX4_counted 68 = .ok (.istore_n 2, 1) := by decide +kernel
theorem dX4_counted_69 : decode cX4_counted 69 = .ok (.iinc 3 1, 3) := by decide +kernel
theorem dX4_counted_72 : decode cX4_counted 72 = .ok (.goto (-20), 3) := by decide +kernel
theorem dX4_counted_75 : decode cX4_counted 75 = .ok (.iload_n 2, 1) := by decide +kernel
theorem dX4_counted_76 : decode cX4_counted 76 = .ok (.ireturn, 1) := by decide +kernel
theorem dX4_counted_77 : decode cX4_counted 77 = .ok (.iconst 0, 1) := by decide +kernel
theorem dX4_counted_78 : decode cX4_counted 78 = .ok (.istore_n 3, 1) := by decide +kernel
theorem dX4_counted_79 : decode cX4_counted 79 = .ok (.iload_n 3, 1) := by decide +kernel
theorem dX4_counted_80 : decode cX4_counted 80 = .ok (.aload_n 0, 1) := by decide +kernel
theorem dX4_counted_81 : decode cX4_counted 81 = .ok (.getfield 23, 3) := by decide +kernel
theorem dX4_counted_84 : decode cX4_counted 84 = .ok (.if_icmp .ge 18, 3) := by decide +kernel
theorem dX4_counted_87 : decode cX4_counted 87 = .ok (.iload_n 2, 1) := by decide +kernel
theorem dX4_counted_88 : decode cX4_counted 88 = .ok (.aload_n 0, 1) := by decide +kernel
theorem dX4_counted_89 : decode cX4_counted 89 = .ok (.iload_n 3, 1) := by decide +kernel
theorem dX4_counted_90 : decode cX4_counted 90 = .ok (.iconst 3, 1) := by decide +kernel
theorem dX4_counted_91 : decode cX4_counted 91 = .ok (.invokevirtual 30, 3) := by decide +kernel
theorem dX4_counted_94 : decode cX4_counted 94 = .ok (.iadd, 1) := by decide +kernel
theorem dX4_counted_95 : decode cX4_counted 95 = .ok (.istore_n 2, 1) := by decide +kernel
theorem dX4_counted_96 : decode cX4_counted 96 = .ok (.iinc 3 1, 3) := by decide +kernel
theorem dX4_counted_99 : decode cX4_counted 99 = .ok (.goto (-20), 3) := by decide +kernel
theorem dX4_counted_102 : decode cX4_counted 102 = .ok (.iload_n 2, 1) := by decide +kernel
theorem dX4_counted_103 : decode cX4_counted 103 = .ok (.ireturn, 1) := by decide +kernel
theorem dX4_counted_104 : decode cX4_counted 104 = .ok (.aload_n 0, 1) := by decide +kernel
theorem dX4_counted_105 : decode cX4_counted 105 = .ok (.getfield 13, 3) := by decide +kernel
theorem dX4_counted_108 : decode cX4_counted 108 = .ok (.astore_n 3, 1) := by decide +kernel
theorem dX4_counted_109 : decode cX4_counted 109 = .ok (.aload_n 3, 1) := by decide +kernel
theorem dX4_counted_110 : decode cX4_counted 110 = .ok (.arraylength, 1) := by decide +kernel
theorem dX4_counted_111 : decode cX4_counted 111 = .ok (.istore 4, 2) := by decide +kernel
theorem dX4_counted_113 : decode cX4_counted 113 = .ok (.iconst 0, 1) := by decide +kernel
theorem dX4_counted_114 : decode cX4_counted 114 = .ok (.istore 5, 2) := by decide +kernel
theorem dX4_counted_116 : decode cX4_counted 116 = .ok (.iload 5, 2) := by decide +kernel
theorem dX4_counted_118 : decode cX4_counted 118 = .ok (.iload 4, 2) := by decide +kernel
theorem dX4_counted_120 : decode cX4_counted 120 = .ok (.if_icmp .ge 20, 3) := by decide +kernel
theorem dX4_counted_123 : decode cX4_counted 123 = .ok (.aload_n 3, 1) := by decide +kernel
theorem dX4_counted_124 : decode cX4_counted 124 = .ok (.iload 5, 2) := by decide +kernel
theorem dX4_counted_126 : decode cX4_counted 126 = .ok (.iaload, 1) := by decide +kernel
theorem dX4_counted_127 : decode cX4_counted 127 = .ok (.istore 6, 2) := by decide +kernel
theorem dX4_counted_129 : decode cX4_counted 129 = .ok (.iload_n 2, 1) := by decide +kernel
theorem dX4_counted_130 : decode cX4_counted 130 = .ok (.iload 6, 2) := by decide +kernel
theorem dX4_counted_132 : decode cX4_counted 132 = .ok (.iadd, 1) := by decide +kernel
theorem dX4_counted_133 : decode cX4_counted 133 = .ok (.istore_n 2, 1) := by decide +kernel
theorem dX4_counted_134 : decode cX4_counted 134 = .ok (.iinc 5 1, 3) := by decide +kernel
theorem dX4_counted_137 : decode cX4_counted 137 = .ok (.goto (-21), 3) := by decide +kernel
theorem dX4_counted_140 : decode cX4_counted 140 = .ok (.iload_n 2, 1) := by decide +kernel
theorem dX4_counted_141 : decode cX4_counted 141 = .ok (.ireturn, 1) := by decide +kernel
theorem dX4_counted_142 : decode cX4_counted 142 = .ok (.aload_n 0, 1) := by decide +kernel
theorem dX4_counted_143 : decode cX4_counted 143 = .ok (.getfield 60, 3) := by decide +kernel
theorem dX4_counted_146 : decode cX4_counted 146 = .ok (.ireturn, 1) := by decide +kernel
theorem dX4_counted_147 : decode cX4_counted 147 = .ok (.aload_n 0, 1) := by decide +kernel
theorem dX4_counted_148 : decode cX4_counted 148 = .ok (.iconst 0, 1) := by decide +kernel
theorem dX4_counted_149 : decode cX4_counted 149 = .ok (.invokevirtual 79, 3) := by decide +kernel
theorem dX4_counted_152 : decode cX4_counted 152 = .ok (.aload_n 0, 1) := by decide +kernel
theorem dX4_counted_153 : decode cX4_counted 153 = .ok (.iconst 1, 1) := by decide +kernel
theorem dX4_counted_154 : decode cX4_counted 154 = .ok (.invokevirtual 79, 3) := by decide +kernel
theorem dX4_counted_157 : decode cX4_counted 157 = .ok (.iadd, 1) := by decide +kernel
theorem dX4_counted_158 : decode cX4_counted 158 = .ok (.aload_n 0, 1) := by decide +kernel
theorem dX4_counted_159 : decode cX4_counted 159 = .ok (.iconst 2, 1) := by decide +kernel
theorem dX4_counted_160 : decode cX4_counted 160 = .ok (.invokevirtual 79, 3) := by decide +kernel
theorem dX4_counted_163 : decode cX4_counted 163 = .ok (.iadd, 1) := by decide +kernel
theorem dX4_counted_164 : decode cX4_counted 164 = .ok (.ireturn, 1) := by decide +kernel
theorem dX4_count_0 : decode cX4_count 0 = .ok (.aload_n 0, 1) := by decide +kernel
theorem dX4_count_1 : decode cX4_count 1 = .ok (.iconst 0, 1) := by decide +kernel
theorem dX4_count_2 : decode cX4_count 2 = .ok (.putfield 19, 3) := by decide +kernel
theorem dX4_count_5 : decode cX4_count 5 = .ok (.iload_n 1, 1) := by decide +kernel
theorem dX4_count_6 : decode cX4_count 6 = .ok (.iconst 0, 1) := by decide +kernel
theorem dX4_count_7 : decode cX4_count 7 = .ok (.bipush 6, 2) := by decide +kernel
theorem dX4_count_9 : decode cX4_count 9 = .ok (.invokestatic 26, 3) := by decide +kernel
theorem dX4_count_12 : decode cX4_count 12 = .ok (.ifCond .eq 11, 3) := by decide +kernel
theorem dX4_count_15 : decode cX4_count 15 = .ok (.aload_n 0, 1) := by decide +kernel
theorem dX4_count_16 : decode cX4_count 16 = .ok (.iload_n 1, 1) := by decide +kernel
theorem dX4_count_17 : decode cX4_count 17 = .ok (.invokevirtual 98, 3) := by decide +kernel
theorem dX4_count_20 : decode cX4_count 20 = .ok (.goto 8, 3) := by decide +kernel
theorem dX4_count_23 : decode cX4_count 23 = .ok (.aload_n 0, 1) := by decide +kernel
theorem dX4_count_24 : decode cX4_count 24 = .ok (.iconst 1, 1) := by decide +kernel
theorem dX4_count_25 : decode cX4_count 25 = .ok (.invokevirtual 47, 3) := by decide +kernel
theorem dX4_count_28 : decode cX4_count 28 = .ok (.ireturn, 1) := by decide +kernel
theorem dX4_between_0 : decode cX4_between 0 = .ok (.iconst 0, 1) := by decide +kernel
theorem dX4_between_1 : decode cX4_between 1 = .ok (.istore_n 2, 1) := by decide +kernel
theorem dX4_between_2 : decode cX4_between 2 = .ok (.iconst 0, 1) := by decide +kernel
theorem dX4_between_3 : decode cX4_between 3 = .ok (.istore_n 3, 1) := by decide +kernel
theorem dX4_between_4 : decode cX4_between 4 = .ok (.iload_n 3, 1) := by decide +kernel
theorem dX4_between_5 : decode cX4_between 5 = .ok (.iconst 4, 1) := by decide +kernel
theorem dX4_between_6 : decode cX4_between 6 = .ok (.if_icmp .ge 25, 3) := by decide +kernel
theorem dX4_between_9 : decode cX4_between 9 = .ok (.iload_n 2, 1) := by decide +kernel
theorem dX4_between_10 : decode cX4_between 10 = .ok (.iload_n 0, 1) := by decide +kernel
theorem dX4_between_11 : decode cX4_between 11 = .ok (.iload_n 3, 1) := by decide +kernel
theorem dX4_between_12 : decode cX4_between 12 = .ok (.invokestatic 101, 3) := by decide +kernel
theorem dX4_between_15 : decode cX4_between 15 = .ok (.iload_n 1, 1) := by decide +kernel
theorem dX4_between_16 : decode cX4_between 16 = .ok (.iload_n 3, 1) := by decide +kernel
theorem dX4_between_17 : decode cX4_between 17 = .ok (.invokestatic 101, 3) := by decide +kernel
theorem dX4_between_20 : decode cX4_between 20 = .ok (.invokestatic 57, 3) := by decide +kernel
theorem dX4_between_23 : decode cX4_between 23 = .ok (.iadd, 1) := by decide +kernel
theorem dX4_between_24 : decode cX4_between 24 = .ok (.istore_n 2, 1) := by decide +kernel
theorem dX4_between_25 : decode cX4_between 25 = .ok (.iinc 3 1, 3) := by decide +kernel
theorem dX4_between_28 : decode cX4_between 28 = .ok (.goto (-24), 3) := by decide +kernel
theorem dX4_between_31 : decode cX4_between 31 = .ok (.iload_n 2, 1) := by decide +kernel
theorem dX4_between_32 : decode cX4_between 32 = .ok (.ireturn, 1) := by decide +kernel
theorem dX4_apart_0 : decode cX4_apart 0 = .ok (.aload_n 0, 1) := by decide +kernel
theorem dX4_apart_1 : decode cX4_apart 1 = .ok (.iconst 0, 1) := by decide +kernel
theorem dX4_apart_2 : decode cX4_apart 2 = .ok (.putfield 19, 3) := by decide +kernel
theorem dX4_apart_5 : decode cX4_apart 5 = .ok (.iload_n 1, 1) := by decide +kernel
theorem dX4_apart_6 : decode cX4_apart 6 = .ok (.invokestatic 43, 3) := by decide +kernel
theorem dX4_apart_9 : decode cX4_apart 9 = .ok (.ifCond .eq 18, 3) := by decide +kernel
theorem dX4_apart_12 : decode cX4_apart 12 = .ok (.iload_n 2, 1) := by decide +kernel
theorem dX4_apart_13 : decode cX4_apart 13 = .ok (.invokestatic 43, 3) := by decide +kernel
theorem dX4_apart_16 : decode cX4_apart 16 = .ok (.ifCond .eq 11, 3) := by decide +kernel
theorem dX4_apart_19 : decode cX4_apart 19 = .ok (.iload_n 1, 1) := by decide +kernel
theorem dX4_apart_20 : decode cX4_apart 20 = .ok (.iload_n 2, 1) := by decide +kernel
theorem dX4_apart_21 : decode cX4_apart 21 = .ok (.invokestatic 104, 3) := by decide +kernel
theorem dX4_apart_24 : decode cX4_apart 24 = .ok (.goto 8, 3) := by decide +kernel
theorem dX4_apart_27 : decode cX4_apart 27 = .ok (.aload_n 0, 1) := by decide +kernel
theorem dX4_apart_28 : decode cX4_apart 28 = .ok (.iconst 1, 1) := by decide +kernel
theorem dX4_apart_29 : decode cX4_apart 29 = .ok (.invokevirtual 47, 3) := by decide +kernel
theorem dX4_apart_32 : decode cX4_apart 32 = .ok (.ireturn, 1) := by decide +kernel
theorem dX4_places_0 : decode cX4_places 0 = .ok (.bipush 24, 2) := by decide +kernel
theorem dX4_places_2 : decode cX4_places 2 = .ok (.newarray .int, 2) := by decide +kernel
theorem dX4_places_4 : decode cX4_places 4 = .ok (.astore_n 2, 1) := by decide +kernel
theorem dX4_places_5 : decode cX4_places 5 = .ok (.iconst 0, 1) := by decide +kernel
theorem dX4_places_6 : decode cX4_places 6 = .ok (.istore_n 3, 1) := by decide +kernel
theorem dX4_places_7 : decode cX4_places 7 = .ok (.iload_n 3, 1) := by decide +kernel
theorem dX4_places_8 : decode cX4_places 8 = .ok (.iconst 4, 1) := by decide +kernel
theorem dX4_places_9 : decode cX4_places 9 = .ok (.if_icmp .ge 94, 3) := by decide +kernel
theorem dX4_places_12 : decode cX4_places 12 = .ok (.iconst 0, 1) := by decide +kernel
theorem dX4_places_13 : decode cX4_places 13 = .ok (.istore 4, 2) := by decide +kernel
theorem dX4_places_15 : decode cX4_places 15 = .ok (.iload 4, 2) := by decide +kernel
theorem dX4_places_17 : decode cX4_places 17 = .ok (.bipush 6, 2) := by decide +kernel
theorem dX4_places_19 : decode cX4_places 19 = .ok (.if_icmp .ge 78, 3) := by decide +kernel
theorem dX4_places_22 : decode cX4_places 22 = .ok (.iconst 0, 1) := by decide +kernel
theorem dX4_places_23 : decode cX4_places 23 = .ok (.istore 5, 2) := by decide +kernel
theorem dX4_places_25 : decode cX4_places 25 = .ok (.iload 5, 2) := by decide +kernel
theorem dX4_places_27 : decode cX4_places 27 = .ok (.bipush 6, 2) := by decide +kernel
theorem dX4_places_29 : decode cX4_places 29 = .ok (.if_icmp .ge 62, 3) := by decide +kernel
theorem dX4_places_32 : decode cX4_places 32 = .ok (.aload_n 0, 1) := by decide +kernel
theorem dX4_places_33 : decode cX4_places 33 = .ok (.iload_n 1, 1) := by decide +kernel
theorem dX4_places_34 : decode cX4_places 34 = .ok (.iload_n 3, 1) := by decide +kernel
theorem dX4_places_35 : decode cX4_places 35 = .ok (.iload 5, 2) := by decide +kernel
theorem dX4_places_37 : decode cX4_places 37 = .ok (.invokevirtual 85, 3) := by decide +kernel
theorem dX4_places_40 : decode cX4_places 40 = .ok (.aload_n 0, 1) := by decide +kernel
theorem dX4_places_41 : decode cX4_places 41 = .ok (.iload_n 1, 1) := by decide +kernel
theorem dX4_places_42 : decode cX4_places 42 = .ok (.iload_n 3, 1) := by decide +kernel
theorem dX4_places_43 : decode cX4_places 43 = .ok (.iload 4, 2) := by decide +kernel
theorem dX4_places_45 : decode cX4_places 45 = .ok (.invokevirtual 85, 3) := by decide +kernel
theorem dX4_places_48 : decode cX4_places 48 = .ok (.isub, 1) := by decide +kernel
theorem dX4_places_49 : decode cX4_places 49 = .ok (.istore 6, 2) := by decide +kernel
theorem dX4_places_51 : decode cX4_places 51 = .ok (.aload_n 2, 1) := by decide +kernel
theorem dX4_places_52 : decode cX4_places 52 = .ok (.bipush 6, 2) := by decide +kernel
theorem dX4_places_54 : decode cX4_places 54 = .ok (.iload_n 3, 1) := by decide +kernel
theorem dX4_places_55 : decode cX4_places 55 = .ok (.imul, 1) := by decide +kernel
theorem dX4_places_56 : decode cX4_places 56 = .ok (.iload 4, 2) := by decide +kernel
theorem dX4_places_58 : decode cX4_places 58 = .ok (.iadd, 1) := by decide +kernel
theorem dX4_places_59 : decode cX4_places 59 = .ok (.dup2, 1) := by decide +kernel
theorem dX4_places_60 : decode cX4_places 60 = .ok (.iaload, 1) := by decide +kernel
theorem dX4_places_61 : decode cX4_places 61 = .ok (.iload 6, 2) := by decide +kernel
theorem dX4_places_63 : decode cX4_places 63 = .ok (.ifCond .gt 15, 3) := by decide +kernel
theorem dX4_places_66 : decode cX4_places 66 = .ok (.iload 6, 2) := by decide +kernel
theorem dX4_places_68 : decode cX4_places 68 = .ok (.ifCond .ne 14, 3) := by decide +kernel
theorem dX4_places_71 : decode cX4_places 71 = .ok (.iload 5, 2) := by decide +kernel
theorem dX4_places_73 : decode cX4_places 73 = .ok (.iload 4, 2) := by decide +kernel
theorem dX4_places_75 : decode cX4_places 75 = .ok (.if_icmp .ge 7, 3) := by decide +kernel
theorem dX4_places_78 : decode cX4_places 78 = .ok (.iconst 1, 1) := by decide +kernel
theorem dX4_places_79 : decode cX4_places 79 = .ok (.goto 4, 3) := by decide +kernel
theorem dX4_places_82 : decode cX4_places 82 = .ok (.iconst 0, 1) := by decide +kernel
theorem dX4_places_83 : decode cX4_places 83 = .ok (.iadd, 1) := by decide +kernel
theorem dX4_places_84 : decode cX4_places 84 = .ok (.iastore, 1) := by decide +kernel
theorem dX4_places_85 : decode cX4_places 85 = .ok (.iinc 5 1, 3) := by decide +kernel
theorem dX4_places_88 : decode cX4_places 88 = .ok (.goto (-63), 3) := by decide +kernel
theorem dX4_places_91 : decode cX4_places 91 = .ok (.iinc 4 1, 3) := by decide +kernel
theorem dX4_places_94 : decode cX4_places 94 = .ok (.goto (-79), 3) := by decide +kernel
theorem dX4_places_97 : decode cX4_places 97 = .ok (.iinc 3 1, 3) := by decide +kernel
theorem dX4_places_100 : decode cX4_places 100 = .ok (.goto (-93), 3) := by decide +kernel
theorem dX4_places_103 : decode cX4_places 103 = .ok (.aload_n 2, 1) := by decide +kernel
theorem dX4_places_104 : decode cX4_places 104 = .ok (.areturn, 1) := by decide +kernel
theorem dX4_sum_0 : decode cX4_sum 0 = .ok (.iconst 0, 1) := by decide +kernel
theorem dX4_sum_1 : decode cX4_sum 1 = .ok (.istore_n 2, 1) := by decide +kernel
theorem dX4_sum_2 : decode cX4_sum 2 = .ok (.iload_n 1, 1) := by decide +kernel
theorem dX4_sum_3 : decode cX4_sum 3 = .ok (.istore_n 3, 1) := by decide +kernel
theorem dX4_sum_4 : decode cX4_sum 4 = .ok (.iconst 3, 1) := by decide +kernel
theorem dX4_sum_5 : decode cX4_sum 5 = .ok (.istore 4, 2) := by decide +kernel
theorem dX4_sum_7 : decode cX4_sum 7 = .ok (.iload 4, 2) := by decide +kernel
theorem dX4_sum_9 : decode cX4_sum 9 = .ok (.ifCond .lt 29, 3) := by decide +kernel
theorem dX4_sum_12 : decode cX4_sum 12 = .ok (.iload_n 2, 1) := by decide +kernel
theorem dX4_sum_13 : decode cX4_sum 13 = .ok (.aload_n 0, 1) := by decide +kernel
theorem dX4_sum_14 : decode cX4_sum 14 = .ok (.bipush 6, 2) := by decide +kernel
theorem dX4_sum_16 : decode cX4_sum 16 = .ok (.iload 4, 2) := by decide +kernel
theorem dX4_sum_18 : decode cX4_sum 18 = .ok (.imul, 1) := by decide +kernel
theorem dX4_sum_19 : decode cX4_sum 19 = .ok (.iload_n 3, 1) := by decide +kernel
theorem dX4_sum_20 : decode cX4_sum 20 = .ok (.bipush 6, 2) := by decide +kernel
theorem dX4_sum_22 : decode cX4_sum 22 = .ok (.irem, 1) := by decide +kernel
theorem dX4_sum_23 : decode cX4_sum 23 = .ok (.iadd, 1) := by decide +kernel
theorem dX4_sum_24 : decode cX4_sum 24 = .ok (.iaload, 1) := by decide +kernel
theorem dX4_sum_25 : decode cX4_sum 25 = .ok (.iadd, 1) := by decide +kernel
theorem dX4_sum_26 : decode cX4_sum 26 = .ok (.istore_n 2, 1) := by decide +kernel
theorem dX4_sum_27 : decode cX4_sum 27 = .ok (.iload_n 3, 1) := by decide +kernel
theorem dX4_sum_28 : decode cX4_sum 28 = .ok (.bipush 6, 2) := by decide +kernel
theorem dX4_sum_30 : decode cX4_sum 30 = .ok (.idiv, 1) := by decide +kernel
theorem dX4_sum_31 : decode cX4_sum 31 = .ok (.istore_n 3, 1) := by decide +kernel
theorem dX4_sum_32 : decode cX4_sum 32 = .ok (.iinc 4 (-1), 3) := by decide +kernel
theorem dX4_sum_35 : decode cX4_sum 35 = .ok (.goto (-28), 3) := by decide +kernel
theorem dX4_sum_38 : decode cX4_sum 38 = .ok (.iload_n 2, 1) := by decide +kernel
theorem dX4_sum_39 : decode cX4_sum 39 = .ok (.ireturn, 1) := by decide +kernel
theorem dX4_tried_0 : decode cX4_tried 0 = .ok (.aload_n 0, 1) := by decide +kernel
theorem dX4_tried_1 : decode cX4_tried 1 = .ok (.iload_n 1, 1) := by decide +kernel
theorem dX4_tried_2 : decode cX4_tried 2 = .ok (.invokevirtual 107, 3) := by decide +kernel
theorem dX4_tried_5 : decode cX4_tried 5 = .ok (.astore_n 3, 1) := by decide +kernel
theorem dX4_tried_6 : decode cX4_tried 6 = .ok (.aload_n 3, 1) := by decide +kernel
theorem dX4_tried_7 : decode cX4_tried 7 = .ok (.iload_n 2, 1) := by decide +kernel
theorem dX4_tried_8 : decode cX4_tried 8 = .ok (.invokestatic 111, 3) := by decide +kernel
theorem dX4_tried_11 : decode cX4_tried 11 = .ok (.istore 4, 2) := by decide +kernel
theorem dX4_tried_13 : decode cX4_tried 13 = .ok (.iconst 1, 1) := by decide +kernel
theorem dX4_tried_14 : decode cX4_tried 14 = .ok (.istore 5, 2) := by decide +kernel
theorem dX4_tried_16 : decode cX4_tried 16 = .ok (.iconst 0, 1) := by decide +kernel
theorem dX4_tried_17 : decode cX4_tried 17 = .ok (.istore 6, 2) := by decide +kernel
theorem dX4_tried_19 : decode cX4_tried 19 = .ok (.iload 6, 2) := by decide +kernel
theorem dX4_tried_21 : decode cX4_tried 21 = .ok (.sipush 1296, 3) := by decide +kernel
theorem dX4_tried_24 : decode cX4_tried 24 = .ok (.if_icmp .ge 47, 3) := by decide +kernel
theorem dX4_tried_27 : decode cX4_tried 27 = .ok (.aload_n 3, 1) := by decide +kernel
theorem dX4_tried_28 : decode cX4_tried 28 = .ok (.iload 6, 2) := by decide +kernel
theorem dX4_tried_30 : decode cX4_tried 30 = .ok (.invokestatic 111, 3) := by decide +kernel
theorem dX4_tried_33 : decode cX4_tried 33 = .ok (.istore 7, 2) := by decide +kernel
theorem dX4_tried_35 : decode cX4_tried 35 = .ok (.iload 5, 2) := by decide +kernel
theorem dX4_tried_37 : decode cX4_tried 37 = .ok (.iload 7, 2) := by decide +kernel
theorem dX4_tried_39 : decode cX4_tried 39 = .ok (.iload 4, 2) := by decide +kernel
theorem dX4_tried_41 : decode cX4_tried 41 = .ok (.if_icmp .lt 16, 3) := by decide +kernel
theorem dX4_tried_44 : decode cX4_tried 44 = .ok (.iload 7, 2) := by decide +kernel
theorem dX4_tried_46 : decode cX4_tried 46 = .ok (.iload 4, 2) := by decide +kernel
theorem dX4_tried_48 : decode cX4_tried 48 = .ok (.if_icmp .ne 13, 3) := by decide +kernel
theorem dX4_tried_51 : decode cX4_tried 51 = .ok (.iload 6, 2) := by decide +kernel
theorem dX4_tried_53 : decode cX4_tried 53 = .ok (.iload_n 2, 1) := by decide +kernel
theorem dX4_tried_54 : decode cX4_tried 54 = .ok (.if_icmp .ge 7, 3) := by decide +kernel
theorem dX4_tried_57 : decode cX4_tried 57 = .ok (.iconst 1, 1) := by decide +kernel
theorem dX4_tried_58 : decode cX4_tried 58 = .ok (.goto 4, 3) := by decide +kernel
theorem dX4_tried_61 : decode cX4_tried 61 = .ok (.iconst 0, 1) := by decide +kernel
theorem dX4_tried_62 : decode cX4_tried 62 = .ok (.iadd, 1) := by decide +kernel
theorem dX4_tried_63 : decode cX4_tried 63 = .ok (.istore 5, 2) := by decide +kernel
theorem dX4_tried_65 : decode cX4_tried 65 = .ok (.iinc 6 1, 3) := by decide +kernel
theorem dX4_tried_68 : decode cX4_tried 68 = .ok (.goto (-49), 3) := by decide +kernel
theorem dX4_tried_71 : decode cX4_tried 71 = .ok (.iload 5, 2) := by decide +kernel
theorem dX4_tried_73 : decode cX4_tried 73 = .ok (.ireturn, 1) := by decide +kernel
theorem dX4_trial_0 : decode cX4_trial 0 = .ok (.aload_n 0, 1) := by decide +kernel
theorem dX4_trial_1 : decode cX4_trial 1 = .ok (.iconst 0, 1) := by decide +kernel
theorem dX4_trial_2 : decode cX4_trial 2 = .ok (.putfield 19, 3) := by decide +kernel
theorem dX4_trial_5 : decode cX4_trial 5 = .ok (.aload_n 0, 1) := by decide +kernel
theorem dX4_trial_6 : decode cX4_trial 6 = .ok (.iload_n 1, 1) := by decide +kernel
theorem dX4_trial_7 : decode cX4_trial 7 = .ok (.invokevirtual 54, 3) := by decide +kernel
theorem dX4_trial_10 : decode cX4_trial 10 = .ok (.ifCond .ne 9, 3) := by decide +kernel
theorem dX4_trial_13 : decode cX4_trial 13 = .ok (.aload_n 0, 1) := by decide +kernel
theorem dX4_trial_14 : decode cX4_trial 14 = .ok (.iconst 1, 1) := by decide +kernel
theorem dX4_trial_15 : decode cX4_trial 15 = .ok (.invokevirtual 47, 3) := by decide +kernel
theorem dX4_trial_18 : decode cX4_trial 18 = .ok (.ireturn, 1) := by decide +kernel
theorem dX4_trial_19 : decode cX4_trial 19 = .ok (.iload_n 2, 1) := by decide +kernel
theorem dX4_trial_20 : decode cX4_trial 20 = .ok (.invokestatic 43, 3) := by decide +kernel
theorem dX4_trial_23 : decode cX4_trial 23 = .ok (.ifCond .eq 12, 3) := by decide +kernel
theorem dX4_trial_26 : decode cX4_trial 26 = .ok (.aload_n 0, 1) := by decide +kernel
theorem dX4_trial_27 : decode cX4_trial 27 = .ok (.iload_n 1, 1) := by decide +kernel
theorem dX4_trial_28 : decode cX4_trial 28 = .ok (.iload_n 2, 1) := by decide +kernel
theorem dX4_trial_29 : decode cX4_trial 29 = .ok (.invokevirtual 115, 3) := by decide +kernel
theorem dX4_trial_32 : decode cX4_trial 32 = .ok (.goto 8, 3) := by decide +kernel
theorem dX4_trial_35 : decode cX4_trial 35 = .ok (.aload_n 0, 1) := by decide +kernel
theorem dX4_trial_36 : decode cX4_trial 36 = .ok (.iconst 2, 1) := by decide +kernel
theorem dX4_trial_37 : decode cX4_trial 37 = .ok (.invokevirtual 47, 3) := by decide +kernel
theorem dX4_trial_40 : decode cX4_trial 40 = .ok (.ireturn, 1) := by decide +kernel
theorem dX4_safe_0 : decode cX4_safe 0 = .ok (.aload_n 0, 1) := by decide +kernel
theorem dX4_safe_1 : decode cX4_safe 1 = .ok (.iconst 0, 1) := by decide +kernel
theorem dX4_safe_2 : decode cX4_safe 2 = .ok (.putfield 19, 3) := by decide +kernel
theorem dX4_safe_5 : decode cX4_safe 5 = .ok (.aload_n 0, 1) := by decide +kernel
theorem dX4_safe_6 : decode cX4_safe 6 = .ok (.iload_n 1, 1) := by decide +kernel
theorem dX4_safe_7 : decode cX4_safe 7 = .ok (.invokevirtual 54, 3) := by decide +kernel
theorem dX4_safe_10 : decode cX4_safe 10 = .ok (.ifCond .eq 17, 3) := by decide +kernel
theorem dX4_safe_13 : decode cX4_safe 13 = .ok (.aload_n 0, 1) := by decide +kernel
theorem dX4_safe_14 : decode cX4_safe 14 = .ok (.iload_n 1, 1) := by decide +kernel
theorem dX4_safe_15 : decode cX4_safe 15 = .ok (.aload_n 0, 1) := by decide +kernel
theorem dX4_safe_16 : decode cX4_safe 16 = .ok (.iload_n 1, 1) := by decide +kernel
theorem dX4_safe_17 : decode cX4_safe 17 = .ok (.iconst 0, 1) := by decide +kernel
theorem dX4_safe_18 : decode cX4_safe 18 = .ok (.invokevirtual 30, 3) := by decide +kernel
theorem dX4_safe_21 : decode cX4_safe 21 = .ok (.invokevirtual 115, 3) := by decide +kernel
theorem dX4_safe_24 : decode cX4_safe 24 = .ok (.goto 8, 3) := by decide +kernel
theorem dX4_safe_27 : decode cX4_safe 27 = .ok (.aload_n 0, 1) := by decide +kernel
theorem dX4_safe_28 : decode cX4_safe 28 = .ok (.iconst 1, 1) := by decide +kernel
theorem dX4_safe_29 : decode cX4_safe 29 = .ok (.invokevirtual 47, 3) := by decide +kernel
theorem dX4_safe_32 : decode cX4_safe 32 = .ok (.ireturn, 1) := by decide +kernel
theorem dX4_wearAt_0 : decode cX4_wearAt 0 = .ok (.bipush 6, 2) := by decide +kernel
theorem dX4_wearAt_2 : decode cX4_wearAt 2 = .ok (.iconst 4, 1) := by decide +kernel
theorem dX4_wearAt_3 : decode cX4_wearAt 3 = .ok (.iload_n 1, 1) := by decide +kernel
theorem dX4_wearAt_4 : decode cX4_wearAt 4 = .ok (.imul, 1) := by decide +kernel
theorem dX4_wearAt_5 : decode cX4_wearAt 5 = .ok (.iload_n 2, 1) := by decide +kernel
theorem dX4_wearAt_6 : decode cX4_wearAt 6 = .ok (.iadd, 1) := by decide +kernel
theorem dX4_wearAt_7 : decode cX4_wearAt 7 = .ok (.imul, 1) := by decide +kernel
theorem dX4_wearAt_8 : decode cX4_wearAt 8 = .ok (.iload_n 3, 1) := by decide +kernel
theorem dX4_wearAt_9 : decode cX4_wearAt 9 = .ok (.iadd, 1) := by decide +kernel
theorem dX4_wearAt_10 : decode cX4_wearAt 10 = .ok (.istore 5, 2) := by decide +kernel
theorem dX4_wearAt_12 : decode cX4_wearAt 12 = .ok (.aload_n 0, 1) := by decide +kernel
theorem dX4_wearAt_13 : decode cX4_wearAt 13 = .ok (.getfield 13, 3) := by decide +kernel
theorem dX4_wearAt_16 : decode cX4_wearAt 16 = .ok (.iload 5, 2) := by decide +kernel
theorem dX4_wearAt_18 : decode cX4_wearAt 18 = .ok (.bipush 99, 2) := by decide +kernel
theorem dX4_wearAt_20 : decode cX4_wearAt 20 = .ok (.aload_n 0, 1) := by decide +kernel
theorem dX4_wearAt_21 : decode cX4_wearAt 21 = .ok (.getfield 13, 3) := by decide +kernel
theorem dX4_wearAt_24 : decode cX4_wearAt 24 = .ok (.iload 5, 2) := by decide +kernel
theorem dX4_wearAt_26 : decode cX4_wearAt 26 = .ok (.iaload, 1) := by decide +kernel
theorem dX4_wearAt_27 : decode cX4_wearAt 27 = .ok (.iload 4, 2) := by decide +kernel
theorem dX4_wearAt_29 : decode cX4_wearAt 29 = .ok (.iadd, 1) := by decide +kernel
theorem dX4_wearAt_30 : decode cX4_wearAt 30 = .ok (.invokestatic 40, 3) := by decide +kernel
theorem dX4_wearAt_33 : decode cX4_wearAt 33 = .ok (.iastore, 1) := by decide +kernel
theorem dX4_wearAt_34 : decode cX4_wearAt 34 = .ok (.return_, 1) := by decide +kernel
theorem dX4_hourOn_0 : decode cX4_hourOn 0 = .ok (.iconst 0, 1) := by decide +kernel
theorem dX4_hourOn_1 : decode cX4_hourOn 1 = .ok (.istore_n 1, 1) := by decide +kernel
theorem dX4_hourOn_2 : decode cX4_hourOn 2 = .ok (.iload_n 1, 1) := by decide +kernel
theorem dX4_hourOn_3 : decode cX4_hourOn 3 = .ok (.aload_n 0, 1) := by decide +kernel
theorem dX4_hourOn_4 : decode cX4_hourOn 4 = .ok (.getfield 23, 3) := by decide +kernel
theorem dX4_hourOn_7 : decode cX4_hourOn 7 = .ok (.if_icmp .ge 76, 3) := by decide +kernel
theorem dX4_hourOn_10 : decode cX4_hourOn 10 = .ok (.iconst 0, 1) := by decide +kernel
theorem dX4_hourOn_11 : decode cX4_hourOn 11 = .ok (.istore_n 2, 1) := by decide +kernel
theorem dX4_hourOn_12 : decode cX4_hourOn 12 = .ok (.iload_n 2, 1) := by decide +kernel
theorem dX4_hourOn_13 : decode cX4_hourOn 13 = .ok (.iconst 4, 1) := by decide +kernel
theorem dX4_hourOn_14 : decode cX4_hourOn 14 = .ok (.if_icmp .ge 63, 3) := by decide +kernel
theorem dX4_hourOn_17 : decode cX4_hourOn 17 = .ok (.aload_n 0, 1) := by decide +kernel
theorem dX4_hourOn_18 : decode cX4_hourOn 18 = .ok (.iload_n 1, 1) := by decide +kernel
theorem dX4_hourOn_19 : decode cX4_hourOn 19 = .ok (.iconst 1, 1) := by decide +kernel
theorem dX4_hourOn_20 : decode cX4_hourOn 20 = .ok (.invokevirtual 30, 3) := by decide +kernel
theorem dX4_hourOn_23 : decode cX4_hourOn 23 = .ok (.ifCond .ne 21, 3) := by decide +kernel
theorem dX4_hourOn_26 : decode cX4_hourOn 26 = .ok (.aload_n 0, 1) := by decide +kernel
theorem dX4_hourOn_27 : decode cX4_hourOn 27 = .ok (.iload_n 1, 1) := by decide +kernel
theorem dX4_hourOn_28 : decode cX4_hourOn 28 = .ok (.iload_n 2, 1) := by decide +kernel
theorem dX4_hourOn_29 : decode cX4_hourOn 29 = .ok (.aload_n 0, 1) := by decide +kernel
theorem dX4_hourOn_30 : decode cX4_hourOn 30 = .ok (.iload_n 1, 1) := by decide +kernel
theorem dX4_hourOn_31 : decode cX4_hourOn 31 = .ok (.iconst 4, 1) := by decide +kernel
theorem dX4_hourOn_32 : decode cX4_hourOn 32 = .ok (.iload_n 2, 1) := by decide +kernel
theorem dX4_hourOn_33 : decode cX4_hourOn 33 = .ok (.iadd, 1) := by decide +kernel
theorem dX4_hourOn_34 : decode cX4_hourOn 34 = .ok (.invokevirtual 30, 3) := by decide +kernel
theorem dX4_hourOn_37 : decode cX4_hourOn 37 = .ok (.iconst 1, 1) := by decide +kernel
theorem dX4_hourOn_38 : decode cX4_hourOn 38 = .ok (.invokevirtual 118, 3) := by decide +kernel
theorem dX4_hourOn_41 : decode cX4_hourOn 41 = .ok (.goto 30, 3) := by decide +kernel
theorem dX4_hourOn_44 : decode cX4_hourOn 44 = .ok (.aload_n 0, 1) := by decide +kernel
theorem dX4_hourOn_45 : decode cX4_hourOn 45 = .ok (.iload_n 1, 1) := by decide +kernel
theorem dX4_hourOn_46 : decode cX4_hourOn 46 = .ok (.iconst 2, 1) := by decide +kernel
theorem dX4_hourOn_47 : decode cX4_hourOn 47 = .ok (.invokevirtual 30, 3) := by decide +kernel
theorem dX4_hourOn_50 : decode cX4_hourOn 50 = .ok (.iconst (-1), 1) := by decide +kernel
theorem dX4_hourOn_51 : decode cX4_hourOn 51 = .ok (.if_icmp .eq 20, 3) := by decide +kernel
theorem dX4_hourOn_54 : decode cX4_hourOn 54 = .ok (.aload_n 0, 1) := by decide +kernel
theorem dX4_hourOn_55 : decode cX4_hourOn 55 = .ok (.iload_n 1, 1) := by decide +kernel
theorem dX4_hourOn_56 : decode cX4_hourOn 56 = .ok (.iload_n 2, 1) := by decide +kernel
theorem dX4_hourOn_57 : decode cX4_hourOn 57 = .ok (.aload_n 0, 1) := by decide +kernel
theorem dX4_hourOn_58 : decode cX4_hourOn 58 = .ok (.iload_n 1, 1) := by decide +kernel
theorem dX4_hourOn_59 : decode cX4_hourOn 59 = .ok (.iconst 0, 1) := by decide +kernel
theorem dX4_hourOn_60 : decode cX4_hourOn 60 = .ok (.invokevirtual 30, 3) := by decide +kernel
theorem dX4_hourOn_63 : decode cX4_hourOn 63 = .ok (.iload_n 2, 1) := by decide +kernel
theorem dX4_hourOn_64 : decode cX4_hourOn 64 = .ok (.invokestatic 101, 3) := by decide +kernel
theorem dX4_hourOn_67 : decode cX4_hourOn 67 = .ok (.iconst 2, 1) := by decide +kernel
theorem dX4_hourOn_68 : decode cX4_hourOn 68 = .ok (.invokevirtual 118, 3) := by decide +kernel
theorem dX4_hourOn_71 : decode cX4_hourOn 71 = .ok (.iinc 2 1, 3) := by decide +kernel
theorem dX4_hourOn_74 : decode cX4_hourOn 74 = .ok (.goto (-62), 3) := by decide +kernel
theorem dX4_hourOn_77 : decode cX4_hourOn 77 = .ok (.iinc 1 1, 3) := by decide +kernel
theorem dX4_hourOn_80 : decode cX4_hourOn 80 = .ok (.goto (-78), 3) := by decide +kernel
theorem dX4_hourOn_83 : decode cX4_hourOn 83 = .ok (.iconst 0, 1) := by decide +kernel
theorem dX4_hourOn_84 : decode cX4_hourOn 84 = .ok (.istore_n 1, 1) := by decide +kernel
theorem dX4_hourOn_85 : decode cX4_hourOn 85 = .ok (.iconst 0, 1) := by decide +kernel
theorem dX4_hourOn_86 : decode cX4_hourOn 86 = .ok (.istore_n 2, 1) := by decide +kernel
theorem dX4_hourOn_87 : decode cX4_hourOn 87 = .ok (.iload_n 2, 1) := by decide +kernel
theorem dX4_hourOn_88 : decode cX4_hourOn 88 = .ok (.aload_n 0, 1) := by decide +kernel
theorem dX4_hourOn_89 : decode cX4_hourOn 89 = .ok (.getfield 23, 3) := by decide +kernel
theorem dX4_hourOn_92 : decode cX4_hourOn 92 = .ok (.if_icmp .ge 52, 3) := by decide +kernel
theorem dX4_hourOn_95 : decode cX4_hourOn 95 = .ok (.aload_n 0, 1) := by decide +kernel
theorem dX4_hourOn_96 : decode cX4_hourOn 96 = .ok (.iload_n 2, 1) := by decide +kernel
theorem dX4_hourOn_97 : decode cX4_hourOn 97 = .ok (.iconst 2, 1) := by decide +kernel
theorem dX4_hourOn_98 : decode cX4_hourOn 98 = .ok (.invokevirtual 30, 3) := by decide +kernel
theorem dX4_hourOn_101 : decode cX4_hourOn 101 = .ok (.iconst (-1), 1) := by decide +kernel
theorem dX4_hourOn_102 : decode cX4_hourOn 102 = .ok (.if_icmp .eq 36, 3) := by decide +kernel
theorem dX4_hourOn_105 : decode cX4_hourOn 105 = .ok (.aload_n 0, 1) := by decide +kernel
theorem dX4_hourOn_106 : decode cX4_hourOn 106 = .ok (.iload_n 2, 1) := by decide +kernel
theorem dX4_hourOn_107 : decode cX4_hourOn 107 = .ok (.iconst 1, 1) := by decide +kernel
theorem dX4_hourOn_108 : decode cX4_hourOn 108 = .ok (.invokevirtual 30, 3) := by decide +kernel
theorem dX4_hourOn_111 : decode cX4_hourOn 111 = .ok (.ifCond .eq 27, 3) := by decide +kernel
theorem dX4_hourOn_114 : decode cX4_hourOn 114 = .ok (.aload_n 0, 1) := by decide +kernel
theorem dX4_hourOn_115 : decode cX4_hourOn 115 = .ok (.aload_n 0, 1) := by decide +kernel
theorem dX4_hourOn_116 : decode cX4_hourOn 116 = .ok (.iload_n 2, 1) := by decide +kernel
theorem dX4_hourOn_117 : decode cX4_hourOn 117 = .ok (.iconst 2, 1) := by decide +kernel
theorem dX4_hourOn_118 : decode cX4_hourOn 118 = .ok (.invokevirtual 30, 3) := by decide +kernel
theorem dX4_hourOn_121 : decode cX4_hourOn 121 = .ok (.invokevirtual 82, 3) := by decide +kernel
theorem dX4_hourOn_124 : decode cX4_hourOn 124 = .ok (.ifCond .eq 6, 3) := by decide +kernel
theorem dX4_hourOn_127 : decode cX4_hourOn 127 = .ok (.goto 11, 3) := by decide +kernel
theorem dX4_hourOn_130 : decode cX4_hourOn 130 = .ok (.aload_n 0, 1) := by decide +kernel
theorem dX4_hourOn_131 : decode cX4_hourOn 131 = .ok (.iload_n 2, 1) := by decide +kernel
theorem dX4_hourOn_132 : decode cX4_hourOn 132 = .ok (.invokevirtual 66, 3) := by decide +kernel
theorem dX4_hourOn_135 : decode cX4_hourOn 135 = .ok (.iinc 1 1, 3) := by decide +kernel
theorem dX4_hourOn_138 : decode cX4_hourOn 138 = .ok (.iinc 2 1, 3) := by decide +kernel
theorem dX4_hourOn_141 : decode cX4_hourOn 141 = .ok (.goto (-54), 3) := by decide +kernel
theorem dX4_hourOn_144 : decode cX4_hourOn 144 = .ok (.aload_n 0, 1) := by decide +kernel
theorem dX4_hourOn_145 : decode cX4_hourOn 145 = .ok (.dup, 1) := by decide +kernel
theorem dX4_hourOn_146 : decode cX4_hourOn 146 = .ok (.getfield 70, 3) := by decide +kernel
theorem dX4_hourOn_149 : decode cX4_hourOn 149 = .ok (.iconst 1, 1) := by decide +kernel
theorem dX4_hourOn_150 : decode cX4_hourOn 150 = .ok (.iadd, 1) := by decide +kernel
theorem dX4_hourOn_151 : decode cX4_hourOn 151 = .ok (.putfield 70, 3) := by decide +kernel
theorem dX4_hourOn_154 : decode cX4_hourOn 154 = .ok (.iload_n 1, 1) := by decide +kernel
theorem dX4_hourOn_155 : decode cX4_hourOn 155 = .ok (.ireturn, 1) := by decide +kernel
theorem dX4_hoursOn_0 : decode cX4_hoursOn 0 = .ok (.iconst 0, 1) := by decide +kernel
theorem dX4_hoursOn_1 : decode cX4_hoursOn 1 = .ok (.istore_n 2, 1) := by decide +kernel
theorem dX4_hoursOn_2 : decode cX4_hoursOn 2 = .ok (.iconst 0, 1) := by decide +kernel
theorem dX4_hoursOn_3 : decode cX4_hoursOn 3 = .ok (.istore_n 3, 1) := by decide +kernel
theorem dX4_hoursOn_4 : decode cX4_hoursOn 4 = .ok (.iload_n 3, 1) := by decide +kernel
theorem dX4_hoursOn_5 : decode cX4_hoursOn 5 = .ok (.iload_n 1, 1) := by decide +kernel
theorem dX4_hoursOn_6 : decode cX4_hoursOn 6 = .ok (.if_icmp .ge 16, 3) := by decide +kernel
theorem dX4_hoursOn_9 : decode cX4_hoursOn 9 = .ok (.iload_n 2, 1) := by decide +kernel
theorem dX4_hoursOn_10 : decode cX4_hoursOn 10 = .ok (.aload_n 0, 1) := by decide +kernel
theorem dX4_hoursOn_11 : decode cX4_hoursOn 11 = .ok (.invokevirtual 122, 3) := by decide +kernel
theorem dX4_hoursOn_14 : decode cX4_hoursOn 14 = .ok (.iadd, 1) := by decide +kernel
theorem dX4_hoursOn_15 : decode cX4_hoursOn 15 = .ok (.istore_n 2, 1) := by decide +kernel
theorem dX4_hoursOn_16 : decode cX4_hoursOn 16 = .ok (.iinc 3 1, 3) := by decide +kernel
theorem dX4_hoursOn_19 : decode cX4_hoursOn 19 = .ok (.goto (-15), 3) := by decide +kernel
theorem dX4_hoursOn_22 : decode cX4_hoursOn 22 = .ok (.iload_n 2, 1) := by decide +kernel
theorem dX4_hoursOn_23 : decode cX4_hoursOn 23 = .ok (.ireturn, 1) := by decide +kernel
theorem dX4_pass_0 : decode cX4_pass 0 = .ok (.aload_n 0, 1) := by decide +kernel
theorem dX4_pass_1 : decode cX4_pass 1 = .ok (.iconst 0, 1) := by decide +kernel
theorem dX4_pass_2 : decode cX4_pass 2 = .ok (.putfield 19, 3) := by decide +kernel
theorem dX4_pass_5 : decode cX4_pass 5 = .ok (.iload_n 1, 1) := by decide +kernel
theorem dX4_pass_6 : decode cX4_pass 6 = .ok (.iconst 1, 1) := by decide +kernel
theorem dX4_pass_7 : decode cX4_pass 7 = .ok (.bipush 99, 2) := by decide +kernel
theorem dX4_pass_9 : decode cX4_pass 9 = .ok (.invokestatic 26, 3) := by decide +kernel
theorem dX4_pass_12 : decode cX4_pass 12 = .ok (.ifCond .eq 11, 3) := by decide +kernel
theorem dX4_pass_15 : decode cX4_pass 15 = .ok (.aload_n 0, 1) := by decide +kernel
theorem dX4_pass_16 : decode cX4_pass 16 = .ok (.iload_n 1, 1) := by decide +kernel
theorem dX4_pass_17 : decode cX4_pass 17 = .ok (.invokevirtual 126, 3) := by decide +kernel
theorem dX4_pass_20 : decode cX4_pass 20 = .ok (.goto 8, 3) := by decide +kernel
theorem dX4_pass_23 : decode cX4_pass 23 = .ok (.aload_n 0, 1) := by decide +kernel
theorem dX4_pass_24 : decode cX4_pass 24 = .ok (.iconst 1, 1) := by decide +kernel
theorem dX4_pass_25 : decode cX4_pass 25 = .ok (.invokevirtual 47, 3) := by decide +kernel
theorem dX4_pass_28 : decode cX4_pass 28 = .ok (.ireturn, 1) := by decide +kernel
theorem dX4_bringBack_0 : decode cX4_bringBack 0 = .ok (.aload_n 1, 1) := by decide +kernel
theorem dX4_bringBack_1 : decode cX4_bringBack 1 = .ok (.iconst 0, 1) := by decide +kernel
theorem dX4_bringBack_2 : decode cX4_bringBack 2 = .ok (.aload_n 0, 1) := by decide +kernel
theorem dX4_bringBack_3 : decode cX4_bringBack 3 = .ok (.getfield 9, 3) := by decide +kernel
theorem dX4_bringBack_6 : decode cX4_bringBack 6 = .ok (.iconst 0, 1) := by decide +kernel
theorem dX4_bringBack_7 : decode cX4_bringBack 7 = .ok (.aload_n 0, 1) := by decide +kernel
theorem dX4_bringBack_8 : decode cX4_bringBack 8 = .ok (.getfield 9, 3) := by decide +kernel
theorem dX4_bringBack_11 : decode cX4_bringBack 11 = .ok (.arraylength, 1) := by decide +kernel
theorem dX4_bringBack_12 : decode cX4_bringBack 12 = .ok (.invokestatic 129, 3) := by decide +kernel
theorem dX4_bringBack_15 : decode cX4_bringBack 15 = .ok (.aload_n 2, 1) := by decide +kernel
theorem dX4_bringBack_16 : decode cX4_bringBack 16 = .ok (.iconst 0, 1) := by decide +kernel
theorem dX4_bringBack_17 : decode cX4_bringBack 17 = .ok (.aload_n 0, 1) := by decide +kernel
theorem dX4_bringBack_18 : decode cX4_bringBack 18 = .ok (.getfield 13, 3) := by decide +kernel
theorem dX4_bringBack_21 : decode cX4_bringBack 21 = .ok (.iconst 0, 1) := by decide +kernel
theorem dX4_bringBack_22 : decode cX4_bringBack 22 = .ok (.aload_n 0, 1) := by decide +kernel
theorem dX4_bringBack_23 : decode cX4_bringBack 23 = .ok (.getfield 13, 3) := by decide +kernel
theorem dX4_bringBack_26 : decode cX4_bringBack 26 = .ok (.arraylength, 1) := by decide +kernel
theorem dX4_bringBack_27 : decode cX4_bringBack 27 = .ok (.invokestatic 129, 3) := by decide +kernel
theorem dX4_bringBack_30 : decode cX4_bringBack 30 = .ok (.aload_n 0, 1) := by decide +kernel
theorem dX4_bringBack_31 : decode cX4_bringBack 31 = .ok (.iload_n 3, 1) := by decide +kernel
theorem dX4_bringBack_32 : decode cX4_bringBack 32 = .ok (.putfield 70, 3) := by decide +kernel
theorem dX4_bringBack_35 : decode cX4_bringBack 35 = .ok (.return_, 1) := by decide +kernel
theorem dX4_foresee_0 : decode cX4_foresee 0 = .ok (.aload_n 0, 1) := by decide +kernel
theorem dX4_foresee_1 : decode cX4_foresee 1 = .ok (.iconst 0, 1) := by decide +kernel
theorem dX4_foresee_2 : decode cX4_foresee 2 = .ok (.putfield 19, 3) := by decide +kernel
theorem dX4_foresee_5 : decode cX4_foresee 5 = .ok (.iload_n 1, 1) := by decide +kernel
theorem dX4_foresee_6 : decode cX4_foresee 6 = .ok (.iconst 1, 1) := by decide +kernel
theorem dX4_foresee_7 : decode cX4_foresee 7 = .ok (.bipush 99, 2) := by decide +kernel
theorem dX4_foresee_9 : decode cX4_foresee 9 = .ok (.invokestatic 26, 3) := by decide +kernel
theorem dX4_foresee_12 : decode cX4_foresee 12 = .ok (.ifCond .ne 9, 3) := by decide +kernel
theorem dX4_foresee_15 : decode cX4_foresee 15 = .ok (.aload_n 0, 1) := by decide +kernel
theorem dX4_foresee_16 : decode cX4_foresee 16 = .ok (.iconst 1, 1) := by decide +kernel
theorem dX4_foresee_17 : decode cX4_foresee 17 = .ok (.invokevirtual 47, 3) := by decide +kernel
theorem dX4_foresee_20 : decode cX4_foresee 20 = .ok (.ireturn, 1) := by decide +kernel
theorem dX4_foresee_21 : decode cX4_foresee 21 = .ok (.aload_n 0, 1) := by decide +kernel
theorem dX4_foresee_22 : decode cX4_foresee 22 = .ok (.iload_n 2, 1) := by decide +kernel
theorem dX4_foresee_23 : decode cX4_foresee 23 = .ok (.invokevirtual 54, 3) := by decide +kernel
theorem dX4_foresee_26 : decode cX4_foresee 26 = .ok (.ifCond .ne 9, 3) := by decide +kernel
theorem dX4_foresee_29 : decode cX4_foresee 29 = .ok (.aload_n 0, 1) := by decide +kernel
theorem dX4_foresee_30 : decode cX4_foresee 30 = .ok (.iconst 2, 1) := by decide +kernel
theorem dX4_foresee_31 : decode cX4_foresee 31 = .ok (.invokevirtual 47, 3) := by decide +kernel
theorem dX4_foresee_34 : decode cX4_foresee 34 = .ok (.ireturn, 1) := by decide +kernel
theorem dX4_foresee_35 : decode cX4_foresee 35 = .ok (.aload_n 0, 1) := by decide +kernel
theorem dX4_foresee_36 : decode cX4_foresee 36 = .ok (.getfield 9, 3) := by decide +kernel
theorem dX4_foresee_39 : decode cX4_foresee 39 = .ok (.invokevirtual 135, 3) := by decide +kernel
theorem dX4_foresee_42 : decode cX4_foresee 42 = .ok (.checkcast 136, 3) := by decide +kernel
theorem dX4_foresee_45 : decode cX4_foresee 45 = .ok (.astore_n 3, 1) := by decide +kernel
theorem dX4_foresee_46 : decode cX4_foresee 46 = .ok (.aload_n 0, 1) := by decide +kernel
theorem dX4_foresee_47 : decode cX4_foresee 47 = .ok (.getfield 13, 3) := by decide +kernel
theorem dX4_foresee_50 : decode cX4_foresee 50 = .ok (.invokevirtual 135, 3) := by decide +kernel
theorem dX4_foresee_53 : decode cX4_foresee 53 = .ok (.checkcast 136, 3) := by decide +kernel
theorem dX4_foresee_56 : decode cX4_foresee 56 = .ok (.astore 4, 2) := by decide +kernel
theorem dX4_foresee_58 : decode cX4_foresee 58 = .ok (.aload_n 0, 1) := by decide +kernel
theorem dX4_foresee_59 : decode cX4_foresee 59 = .ok (.getfield 70, 3) := by decide +kernel
theorem dX4_foresee_62 : decode cX4_foresee 62 = .ok (.istore 5, 2) := by decide +kernel
theorem dX4_foresee_64 : decode cX4_foresee 64 = .ok (.aload_n 0, 1) := by decide +kernel
theorem dX4_foresee_65 : decode cX4_foresee 65 = .ok (.iload_n 1, 1) := by decide +kernel
theorem dX4_foresee_66 : decode cX4_foresee 66 = .ok (.invokevirtual 126, 3) := by decide +kernel
theorem dX4_foresee_69 : decode cX4_foresee 69 = .ok (.pop, 1) := by decide +kernel
theorem dX4_foresee_70 : decode cX4_foresee 70 = .ok (.aload_n 0, 1) := by decide +kernel
theorem dX4_foresee_71 : decode cX4_foresee 71 = .ok (.iload_n 2, 1) := by decide +kernel
theorem dX4_foresee_72 : decode cX4_foresee 72 = .ok (.aload_n 0, 1) := by decide +kernel
theorem dX4_foresee_73 : decode cX4_foresee 73 = .ok (.iload_n 2, 1) := by decide +kernel
theorem dX4_foresee_74 : decode cX4_foresee 74 = .ok (.iconst 0, 1) := by decide +kernel
theorem dX4_foresee_75 : decode cX4_foresee 75 = .ok (.invokevirtual 30, 3) := by decide +kernel
theorem dX4_foresee_78 : decode cX4_foresee 78 = .ok (.invokevirtual 115, 3) := by decide +kernel
theorem dX4_foresee_81 : decode cX4_foresee 81 = .ok (.istore 6, 2) := by decide +kernel
theorem dX4_foresee_83 : decode cX4_foresee 83 = .ok (.aload_n 0, 1) := by decide +kernel
theorem dX4_foresee_84 : decode cX4_foresee 84 = .ok (.aload_n 3, 1) := by decide +kernel
theorem dX4_foresee_85 : decode cX4_foresee 85 = .ok (.aload 4, 2) := by decide +kernel
theorem dX4_foresee_87 : decode cX4_foresee 87 = .ok (.iload 5, 2) := by decide +kernel
theorem dX4_foresee_89 : decode cX4_foresee 89 = .ok (.invokevirtual 140, 3) := by decide +kernel
theorem dX4_foresee_92 : decode cX4_foresee 92 = .ok (.iload 6, 2) := by decide +kernel
theorem dX4_foresee_94 : decode cX4_foresee 94 = .ok (.ireturn, 1) := by decide +kernel
theorem dX4_until_0 : decode cX4_until 0 = .ok (.aload_n 0, 1) := by decide +kernel
theorem dX4_until_1 : decode cX4_until 1 = .ok (.iconst 0, 1) := by decide +kernel
theorem dX4_until_2 : decode cX4_until 2 = .ok (.putfield 19, 3) := by decide +kernel
theorem dX4_until_5 : decode cX4_until 5 = .ok (.aload_n 0, 1) := by decide +kernel
theorem dX4_until_6 : decode cX4_until 6 = .ok (.iload_n 1, 1) := by decide +kernel
theorem dX4_until_7 : decode cX4_until 7 = .ok (.invokevirtual 54, 3) := by decide +kernel
theorem dX4_until_10 : decode cX4_until 10 = .ok (.ifCond .ne 9, 3) := by decide +kernel
theorem dX4_until_13 : decode cX4_until 13 = .ok (.aload_n 0, 1) := by decide +kernel
theorem dX4_until_14 : decode cX4_until 14 = .ok (.iconst 1, 1) := by decide +kernel
theorem dX4_until_15 : decode cX4_until 15 = .ok (.invokevirtual 47, 3) := by decide +kernel
theorem dX4_until_18 : decode cX4_until 18 = .ok (.ireturn, 1) := by decide +kernel
theorem dX4_until_19 : decode cX4_until 19 = .ok (.aload_n 0, 1) := by decide +kernel
theorem dX4_until_20 : decode cX4_until 20 = .ok (.getfield 9, 3) := by decide +kernel
theorem dX4_until_23 : decode cX4_until 23 = .ok (.invokevirtual 135, 3) := by decide +kernel
theorem dX4_until_26 : decode cX4_until 26 = .ok (.checkcast 136, 3) := by decide +kernel
theorem dX4_until_29 : decode cX4_until 29 = .ok (.astore_n 2, 1) := by decide +kernel
theorem dX4_until_30 : decode cX4_until 30 = .ok (.aload_n 0, 1) := by decide +kernel
theorem dX4_until_31 : decode cX4_until 31 = .ok (.getfield 13, 3) := by decide +kernel
theorem dX4_until_34 : decode cX4_until 34 = .ok (.invokevirtual 135, 3) := by decide +kernel
theorem dX4_until_37 : decode cX4_until 37 = .ok (.checkcast 136, 3) := by decide +kernel
theorem dX4_until_40 : decode cX4_until 40 = .ok (.astore_n 3, 1) := by decide +kernel
theorem dX4_until_41 : decode cX4_until 41 = .ok (.aload_n 0, 1) := by decide +kernel
theorem dX4_until_42 : decode cX4_until 42 = .ok (.getfield 70, 3) := by decide +kernel
theorem dX4_until_45 : decode cX4_until 45 = .ok (.istore 4, 2) := by decide +kernel
theorem dX4_until_47 : decode cX4_until 47 = .ok (.iconst 0, 1) := by decide +kernel
theorem dX4_until_48 : decode cX4_until 48 = .ok (.istore 5, 2) := by decide +kernel
theorem dX4_until_50 : decode cX4_until 50 = .ok (.iload 5, 2) := by decide +kernel
theorem dX4_until_52 : decode cX4_until 52 = .ok (.bipush 48, 2) := by decide +kernel
theorem dX4_until_54 : decode cX4_until 54 = .ok (.if_icmp .gt 24, 3) := by decide +kernel
theorem dX4_until_57 : decode cX4_until 57 = .ok (.aload_n 0, 1) := by decide +kernel
theorem dX4_until_58 : decode cX4_until 58 = .ok (.iload_n 1, 1) := by decide +kernel
theorem dX4_until_59 : decode cX4_until 59 = .ok (.iconst 1, 1) := by decide +kernel
theorem dX4_until_60 : decode cX4_until 60 = .ok (.invokevirtual 30, 3) := by decide +kernel
theorem dX4_until_63 : decode cX4_until 63 = .ok (.iconst 1, 1) := by decide +kernel
theorem dX4_until_64 : decode cX4_until 64 = .ok (.if_icmp .ne 14, 3) := by decide +kernel
theorem dX4_until_67 : decode cX4_until 67 = .ok (.aload_n 0, 1) := by decide +kernel
theorem dX4_until_68 : decode cX4_until 68 = .ok (.invokevirtual 122, 3) := by decide +kernel
theorem dX4_until_71 : decode cX4_until 71 = .ok (.pop, 1) := by decide +kernel
theorem dX4_until_72 : decode cX4_until 72 = .ok (.iinc 5 1, 3) := by decide +kernel
theorem dX4_until_75 : decode cX4_until 75 = .ok (.goto (-25), 3) := by decide +kernel
theorem dX4_until_78 : decode cX4_until 78 = .ok (.aload_n 0, 1) := by decide +kernel
theorem dX4_until_79 : decode cX4_until 79 = .ok (.aload_n 2, 1) := by decide +kernel
theorem dX4_until_80 : decode cX4_until 80 = .ok (.aload_n 3, 1) := by decide +kernel
theorem dX4_until_81 : decode cX4_until 81 = .ok (.iload 4, 2) := by decide +kernel
theorem dX4_until_83 : decode cX4_until 83 = .ok (.invokevirtual 140, 3) := by decide +kernel
theorem dX4_until_86 : decode cX4_until 86 = .ok (.iload 5, 2) := by decide +kernel
theorem dX4_until_88 : decode cX4_until 88 = .ok (.bipush 48, 2) := by decide +kernel
theorem dX4_until_90 : decode cX4_until 90 = .ok (.if_icmp .le 7, 3) := by decide +kernel
theorem dX4_until_93 : decode cX4_until 93 = .ok (.iconst (-1), 1) := by decide +kernel
theorem dX4_until_94 : decode cX4_until 94 = .ok (.goto 5, 3) := by decide +kernel
theorem dX4_until_97 : decode cX4_until 97 = .ok (.iload 5, 2) := by decide +kernel
theorem dX4_until_99 : decode cX4_until 99 = .ok (.ireturn, 1) := by decide +kernel
theorem dX4_weakest_0 : decode cX4_weakest 0 = .ok (.aload_n 0, 1) := by decide +kernel
theorem dX4_weakest_1 : decode cX4_weakest 1 = .ok (.iconst 0, 1) := by decide +kernel
theorem dX4_weakest_2 : decode cX4_weakest 2 = .ok (.putfield 19, 3) := by decide +kernel
theorem dX4_weakest_5 : decode cX4_weakest 5 = .ok (.iconst (-1), 1) := by decide +kernel
theorem dX4_weakest_6 : decode cX4_weakest 6 = .ok (.istore_n 1, 1) := by decide +kernel
theorem dX4_weakest_7 : decode cX4_weakest 7 = .ok (.sipush 1297, 3) := by decide +kernel
theorem dX4_weakest_10 : decode cX4_weakest 10 = .ok (.istore_n 2, 1) := by decide +kernel
theorem dX4_weakest_11 : decode cX4_weakest 11 = .ok (.iconst 0, 1) := by decide +kernel
theorem dX4_weakest_12 : decode cX4_weakest 12 = .ok (.istore_n 3, 1) := by decide +kernel
theorem dX4_weakest_13 : decode cX4_weakest 13 = .ok (.iload_n 3, 1) := by decide +kernel
theorem dX4_weakest_14 : decode cX4_weakest 14 = .ok (.aload_n 0, 1) := by decide +kernel
theorem dX4_weakest_15 : decode cX4_weakest 15 = .ok (.getfield 23, 3) := by decide +kernel
theorem dX4_weakest_18 : decode cX4_weakest 18 = .ok (.if_icmp .ge 36, 3) := by decide +kernel
theorem dX4_weakest_21 : decode cX4_weakest 21 = .ok (.aload_n 0, 1) := by decide +kernel
theorem dX4_weakest_22 : decode cX4_weakest 22 = .ok (.iload_n 3, 1) := by decide +kernel
theorem dX4_weakest_23 : decode cX4_weakest 23 = .ok (.aload_n 0, 1) := by decide +kernel
theorem dX4_weakest_24 : decode cX4_weakest 24 = .ok (.iload_n 3, 1) := by decide +kernel
theorem dX4_weakest_25 : decode cX4_weakest 25 = .ok (.iconst 0, 1) := by decide +kernel
theorem dX4_weakest_26 : decode cX4_weakest 26 = .ok (.invokevirtual 30, 3) := by decide +kernel
theorem dX4_weakest_29 : decode cX4_weakest 29 = .ok (.invokevirtual 115, 3) := by decide +kernel
theorem dX4_weakest_32 : decode cX4_weakest 32 = .ok (.istore 4, 2) := by decide +kernel
theorem dX4_weakest_34 : decode cX4_weakest 34 = .ok (.iload 4, 2) := by decide +kernel
theorem dX4_weakest_36 : decode cX4_weakest 36 = .ok (.iload_n 2, 1) := by decide +kernel
theorem dX4_weakest_37 : decode cX4_weakest 37 = .ok (.if_icmp .lt 6, 3) := by decide +kernel
theorem dX4_weakest_40 : decode cX4_weakest 40 = .ok (.goto 8, 3) := by decide +kernel
theorem dX4_weakest_43 : decode cX4_weakest 43 = .ok (.iload_n 3, 1) := by decide +kernel
theorem dX4_weakest_44 : decode cX4_weakest 44 = .ok (.istore_n 1, 1) := by decide +kernel
theorem dX4_weakest_45 : decode cX4_weakest 45 = .ok (.iload 4, 2) := by decide +kernel
theorem dX4_weakest_47 : decode cX4_weakest 47 = .ok (.istore_n 2, 1) := by decide +kernel
theorem dX4_weakest_48 : decode cX4_weakest 48 = .ok (.iinc 3 1, 3) := by decide +kernel
theorem dX4_weakest_51 : decode cX4_weakest 51 = .ok (.goto (-38), 3) := by decide +kernel
theorem dX4_weakest_54 : decode cX4_weakest 54 = .ok (.iload_n 1, 1) := by decide +kernel
theorem dX4_weakest_55 : decode cX4_weakest 55 = .ok (.ireturn, 1) := by decide +kernel
theorem dX4_mean_0 : decode cX4_mean 0 = .ok (.aload_n 0, 1) := by decide +kernel
theorem dX4_mean_1 : decode cX4_mean 1 = .ok (.iconst 0, 1) := by decide +kernel
theorem dX4_mean_2 : decode cX4_mean 2 = .ok (.putfield 19, 3) := by decide +kernel
theorem dX4_mean_5 : decode cX4_mean 5 = .ok (.aload_n 0, 1) := by decide +kernel
theorem dX4_mean_6 : decode cX4_mean 6 = .ok (.getfield 23, 3) := by decide +kernel
theorem dX4_mean_9 : decode cX4_mean 9 = .ok (.ifCond .ne 7, 3) := by decide +kernel
theorem dX4_mean_12 : decode cX4_mean 12 = .ok (.dconst 0, 1) := by decide +kernel
theorem dX4_mean_13 : decode cX4_mean 13 = .ok (.goto 18, 3) := by decide +kernel
theorem dX4_mean_16 : decode cX4_mean 16 = .ok (.aload_n 0, 1) := by decide +kernel
theorem dX4_mean_17 : decode cX4_mean 17 = .ok (.iconst 4, 1) := by decide +kernel
theorem dX4_mean_18 : decode cX4_mean 18 = .ok (.invokevirtual 98, 3) := by decide +kernel
theorem dX4_mean_21 : decode cX4_mean 21 = .ok (.i2d, 1) := by decide +kernel
theorem dX4_mean_22 : decode cX4_mean 22 = .ok (.bipush 24, 2) := by decide +kernel
theorem dX4_mean_24 : decode cX4_mean 24 = .ok (.aload_n 0, 1) := by decide +kernel
theorem dX4_mean_25 : decode cX4_mean 25 = .ok (.getfield 23, 3) := by decide +kernel
theorem dX4_mean_28 : decode cX4_mean 28 = .ok (.imul, 1) := by decide +kernel
theorem dX4_mean_29 : decode cX4_mean 29 = .ok (.i2d, 1) := by decide +kernel
theorem dX4_mean_30 : decode cX4_mean 30 = .ok (.ddiv, 1) := by decide +kernel
theorem dX4_mean_31 : decode cX4_mean 31 = .ok (.dreturn, 1) := by decide +kernel
theorem dX4_digest_0 : decode cX4_digest 0 = .ok (.aload_n 0, 1) := by decide +kernel
theorem dX4_digest_1 : decode cX4_digest 1 = .ok (.iconst 0, 1) := by decide +kernel
theorem dX4_digest_2 : decode cX4_digest 2 = .ok (.putfield 19, 3) := by decide +kernel
theorem dX4_digest_5 : decode cX4_digest 5 = .ok (.ldc2_w 144, 3) := by decide +kernel
theorem dX4_digest_8 : decode cX4_digest 8 = .ok (.lstore_n 1, 1) := by decide +kernel
theorem dX4_digest_9 : decode cX4_digest 9 = .ok (.iconst 0, 1) := by decide +kernel
theorem dX4_digest_10 : decode cX4_digest 10 = .ok (.istore_n 3, 1) := by decide +kernel
theorem dX4_digest_11 : decode cX4_digest 11 = .ok (.iload_n 3, 1) := by decide +kernel
theorem dX4_digest_12 : decode cX4_digest 12 = .ok (.bipush 7, 2) := by decide +kernel
theorem dX4_digest_14 : decode cX4_digest 14 = .ok (.if_icmp .ge 22, 3) := by decide +kernel
theorem dX4_digest_17 : decode cX4_digest 17 = .ok (.lload_n 1, 1) := by decide +kernel
theorem dX4_digest_18 : decode cX4_digest 18 = .ok (.ldc2_w 146, 3) := by decide +kernel
theorem dX4_digest_21 : decode cX4_digest 21 = .ok (.lmul, 1) := by decide +kernel
theorem dX4_digest_22 : decode cX4_digest 22 = .ok (.aload_n 0, 1) := by decide +kernel
theorem dX4_digest_23 : decode cX4_digest 23 = .ok (.iload_n 3, 1) := by decide +kernel
theorem dX4_digest_24 : decode cX4_digest 24 = .ok (.invokevirtual 98, 3) := by decide +kernel
theorem dX4_digest_27 : decode cX4_digest 27 = .ok (.i2l, 1) := by decide +kernel
theorem dX4_digest_28 : decode cX4_digest 28 = .ok (.ladd, 1) := by decide +kernel
theorem dX4_digest_29 : decode cX4_digest 29 = .ok (.lstore_n 1, 1) := by decide +kernel
theorem dX4_digest_30 : decode cX4_digest 30 = .ok (.iinc 3 1, 3) := by decide +kernel
theorem dX4_digest_33 : decode cX4_digest 33 = .ok (.goto (-22), 3) := by decide +kernel
theorem dX4_digest_36 : decode cX4_digest 36 = .ok (.iconst 0, 1) := by decide +kernel
theorem dX4_digest_37 : decode cX4_digest 37 = .ok (.istore_n 3, 1) := by decide +kernel
theorem dX4_digest_38 : decode cX4_digest 38 = .ok (.iload_n 3, 1) := by decide +kernel
theorem dX4_digest_39 : decode cX4_digest 39 = .ok (.iconst 3, 1) := by decide +kernel
theorem dX4_digest_40 : decode cX4_digest 40 = .ok (.if_icmp .ge 40, 3) := by decide +kernel
theorem dX4_digest_43 : decode cX4_digest 43 = .ok (.iconst 0, 1) := by decide +kernel
theorem dX4_digest_44 : decode cX4_digest 44 = .ok (.istore 4, 2) := by decide +kernel
theorem dX4_digest_46 : decode cX4_digest 46 = .ok (.iload 4, 2) := by decide +kernel
theorem dX4_digest_48 : decode cX4_digest 48 = .ok (.bipush 6, 2) := by decide +kernel
theorem dX4_digest_50 : decode cX4_digest 50 = .ok (.if_icmp .ge 24, 3) := by decide +kernel
theorem dX4_digest_53 : decode cX4_digest 53 = .ok (.lload_n 1, 1) := by decide +kernel
theorem dX4_digest_54 : decode cX4_digest 54 = .ok (.ldc2_w 146, 3) := by decide +kernel
theorem dX4_digest_57 : decode cX4_digest 57 = .ok (.lmul, 1) := by decide +kernel
theorem dX4_digest_58 : decode cX4_digest 58 = .ok (.aload_n 0, 1) := by decide +kernel
theorem dX4_digest_59 : decode cX4_digest 59 = .ok (.iload_n 3, 1) := by decide +kernel
theorem dX4_digest_60 : decode cX4_digest 60 = .ok (.iload 4, 2) := by decide +kernel
theorem dX4_digest_62 : decode cX4_digest 62 = .ok (.invokevirtual 95, 3) := by decide +kernel
theorem dX4_digest_65 : decode cX4_digest 65 = .ok (.i2l, 1) := by decide +kernel
theorem dX4_digest_66 : decode cX4_digest 66 = .ok (.ladd, 1) := by decide +kernel
theorem dX4_digest_67 : decode cX4_digest 67 = .ok (.lstore_n 1, 1) := by decide +kernel
theorem dX4_digest_68 : decode cX4_digest 68 = .ok (.iinc 4 1, 3) := by decide +kernel
theorem dX4_digest_71 : decode cX4_digest 71 = .ok (.goto (-25), 3) := by decide +kernel
theorem dX4_digest_74 : decode cX4_digest 74 = .ok (.iinc 3 1, 3) := by decide +kernel
theorem dX4_digest_77 : decode cX4_digest 77 = .ok (.goto (-39), 3) := by decide +kernel
theorem dX4_digest_80 : decode cX4_digest 80 = .ok (.iconst 0, 1) := by decide +kernel
theorem dX4_digest_81 : decode cX4_digest 81 = .ok (.istore_n 3, 1) := by decide +kernel
theorem dX4_digest_82 : decode cX4_digest 82 = .ok (.iload_n 3, 1) := by decide +kernel
theorem dX4_digest_83 : decode cX4_digest 83 = .ok (.aload_n 0, 1) := by decide +kernel
theorem dX4_digest_84 : decode cX4_digest 84 = .ok (.getfield 23, 3) := by decide +kernel
theorem dX4_digest_87 : decode cX4_digest 87 = .ok (.if_icmp .ge 76, 3) := by decide +kernel
theorem dX4_digest_90 : decode cX4_digest 90 = .ok (.iconst 0, 1) := by decide +kernel
theorem dX4_digest_91 : decode cX4_digest 91 = .ok (.istore 4, 2) := by decide +kernel
theorem dX4_digest_93 : decode cX4_digest 93 = .ok (.iload 4, 2) := by decide +kernel
theorem dX4_digest_95 : decode cX4_digest 95 = .ok (.bipush 6, 2) := by decide +kernel
theorem dX4_digest_97 : decode cX4_digest 97 = .ok (.if_icmp .ge 24, 3) := by decide +kernel
theorem dX4_digest_100 : decode cX4_digest 100 = .ok (.lload_n 1, 1) := by decide +kernel
theorem dX4_digest_101 : decode cX4_digest 101 = .ok (.ldc2_w 146, 3) := by decide +kernel
theorem dX4_digest_104 : decode cX4_digest 104 = .ok (.lmul, 1) := by decide +kernel
theorem dX4_digest_105 : decode cX4_digest 105 = .ok (.aload_n 0, 1) := by decide +kernel
theorem dX4_digest_106 : decode cX4_digest 106 = .ok (.iload_n 3, 1) := by decide +kernel
theorem dX4_digest_107 : decode cX4_digest 107 = .ok (.iload 4, 2) := by decide +kernel
theorem dX4_digest_109 : decode cX4_digest 109 = .ok (.invokevirtual 92, 3) := by decide +kernel
theorem dX4_digest_112 : decode cX4_digest 112 = .ok (.i2l, 1) := by decide +kernel
theorem dX4_digest_113 : decode cX4_digest 113 = .ok (.ladd, 1) := by decide +kernel
theorem dX4_digest_114 : decode cX4_digest 114 = .ok (.lstore_n 1, 1) := by decide +kernel
theorem dX4_digest_115 : decode cX4_digest 115 = .ok (.iinc 4 1, 3) := by decide +kernel
theorem dX4_digest_118 : decode cX4_digest 118 = .ok (.goto (-25), 3) := by decide +kernel
theorem dX4_digest_121 : decode cX4_digest 121 = .ok (.iconst 0, 1) := by decide +kernel
theorem dX4_digest_122 : decode cX4_digest 122 = .ok (.istore 4, 2) := by decide +kernel
theorem dX4_digest_124 : decode cX4_digest 124 = .ok (.iload 4, 2) := by decide +kernel
theorem dX4_digest_126 : decode cX4_digest 126 = .ok (.bipush 24, 2) := by decide +kernel
theorem dX4_digest_128 : decode cX4_digest 128 = .ok (.if_icmp .ge 29, 3) := by decide +kernel
theorem dX4_digest_131 : decode cX4_digest 131 = .ok (.lload_n 1, 1) := by decide +kernel
theorem dX4_digest_132 : decode cX4_digest 132 = .ok (.ldc2_w 146, 3) := by decide +kernel
theorem dX4_digest_135 : decode cX4_digest 135 = .ok (.lmul, 1) := by decide +kernel
theorem dX4_digest_136 : decode cX4_digest 136 = .ok (.aload_n 0, 1) := by decide +kernel
theorem dX4_digest_137 : decode cX4_digest 137 = .ok (.getfield 13, 3) := by decide +kernel
theorem dX4_digest_140 : decode cX4_digest 140 = .ok (.bipush 24, 2) := by decide +kernel
theorem dX4_digest_142 : decode cX4_digest 142 = .ok (.iload_n 3, 1) := by decide +kernel
theorem dX4_digest_143 : decode cX4_digest 143 = .ok (.imul, 1) := by decide +kernel
theorem dX4_digest_144 : decode cX4_digest 144 = .ok (.iload 4, 2) := by decide +kernel
theorem dX4_digest_146 : decode cX4_digest 146 = .ok (.iadd, 1) := by decide +kernel
theorem dX4_digest_147 : decode cX4_digest 147 = .ok (.iaload, 1) := by decide +kernel
theorem dX4_digest_148 : decode cX4_digest 148 = .ok (.i2l, 1) := by decide +kernel
theorem dX4_digest_149 : decode cX4_digest 149 = .ok (.ladd, 1) := by decide +kernel
theorem dX4_digest_150 : decode cX4_digest 150 = .ok (.lstore_n 1, 1) := by decide +kernel
theorem dX4_digest_151 : decode cX4_digest 151 = .ok (.iinc 4 1, 3) := by decide +kernel
theorem dX4_digest_154 : decode cX4_digest 154 = .ok (.goto (-30), 3) := by decide +kernel
theorem dX4_digest_157 : decode cX4_digest 157 = .ok (.iinc 3 1, 3) := by decide +kernel
theorem dX4_digest_160 : decode cX4_digest 160 = .ok (.goto (-78), 3) := by decide +kernel
theorem dX4_digest_163 : decode cX4_digest 163 = .ok (.lload_n 1, 1) := by decide +kernel
theorem dX4_digest_164 : decode cX4_digest 164 = .ok (.lreturn, 1) := by decide +kernel
theorem dJ9_abs_0f7a4_0 : decode cJ9_abs_0f7a4 0 = .ok (.iload_n 0, 1) := by decide +kernel
theorem dJ9_abs_0f7a4_1 : decode cJ9_abs_0f7a4 1 = .ok (.ifCond .ge 8, 3) := by decide +kernel
theorem dJ9_abs_0f7a4_4 : decode cJ9_abs_0f7a4 4 = .ok (.iload_n 0, 1) := by decide +kernel
theorem dJ9_abs_0f7a4_5 : decode cJ9_abs_0f7a4 5 = .ok (.ineg, 1) := by decide +kernel
theorem dJ9_abs_0f7a4_6 : decode cJ9_abs_0f7a4 6 = .ok (.goto 4, 3) := by decide +kernel
theorem dJ9_abs_0f7a4_9 : decode cJ9_abs_0f7a4 9 = .ok (.iload_n 0, 1) := by decide +kernel
theorem dJ9_abs_0f7a4_10 : decode cJ9_abs_0f7a4 10 = .ok (.ireturn, 1) := by decide +kernel
theorem dJ9_max_7cf53_0 : decode cJ9_max_7cf53 0 = .ok (.iload_n 0, 1) := by decide +kernel
theorem dJ9_max_7cf53_1 : decode cJ9_max_7cf53 1 = .ok (.iload_n 1, 1) := by decide +kernel
theorem dJ9_max_7cf53_2 : decode cJ9_max_7cf53 2 = .ok (.if_icmp .lt 7, 3) := by decide +kernel
theorem dJ9_max_7cf53_5 : decode cJ9_max_7cf53 5 = .ok (.iload_n 0, 1) := by decide +kernel
theorem dJ9_max_7cf53_6 : decode cJ9_max_7cf53 6 = .ok (.goto 4, 3) := by decide +kernel
theorem dJ9_max_7cf53_9 : decode cJ9_max_7cf53 9 = .ok (.iload_n 1, 1) := by decide +kernel
theorem dJ9_max_7cf53_10 : decode cJ9_max_7cf53 10 = .ok (.ireturn, 1) := by decide +kernel
theorem dJ9_min_7cf53_0 : decode cJ9_min_7cf53 0 = .ok (.iload_n 0, 1) := by decide +kernel
theorem dJ9_min_7cf53_1 : decode cJ9_min_7cf53 1 = .ok (.iload_n 1, 1) := by decide +kernel
theorem dJ9_min_7cf53_2 : decode cJ9_min_7cf53 2 = .ok (.if_icmp .gt 7, 3) := by decide +kernel
theorem dJ9_min_7cf53_5 : decode cJ9_min_7cf53 5 = .ok (.iload_n 0, 1) := by decide +kernel
theorem dJ9_min_7cf53_6 : decode cJ9_min_7cf53 6 = .ok (.goto 4, 3) := by decide +kernel
theorem dJ9_min_7cf53_9 : decode cJ9_min_7cf53 9 = .ok (.iload_n 1, 1) := by decide +kernel
theorem dJ9_min_7cf53_10 : decode cJ9_min_7cf53 10 = .ok (.ireturn, 1) := by decide +kernel
theorem dJxa1e45_init_da8c8_0 : decode cJxa1e45_init_da8c8 0 = .ok (.aload_n 0, 1) := by decide +kernel
theorem dJxa1e45_init_da8c8_1 : decode cJxa1e45_init_da8c8 1 = .ok (.invokespecial 1, 3) := by decide +kernel
theorem dJxa1e45_init_da8c8_4 : decode cJxa1e45_init_da8c8 4 = .ok (.return_, 1) := by decide +kernel
theorem dJxc12de_init_da8c8_0 : decode cJxc12de_init_da8c8 0 = .ok (.aload_n 0, 1) := by decide +kernel
theorem dJxc12de_init_da8c8_1 : decode cJxc12de_init_da8c8 1 = .ok (.invokespecial 1, 3) := by decide +kernel
theorem dJxc12de_init_da8c8_4 : decode cJxc12de_init_da8c8 4 = .ok (.aload_n 0, 1) := by decide +kernel
theorem dJxc12de_init_da8c8_5 : decode cJxc12de_init_da8c8 5 = .ok (.iconst 0, 1) := by decide +kernel
theorem dJxc12de_init_da8c8_6 : decode cJxc12de_init_da8c8 6 = .ok (.putfield 7, 3) := by decide +kernel
theorem dJxc12de_init_da8c8_9 : decode cJxc12de_init_da8c8 9 = .ok (.return_, 1) := by decide +kernel
theorem dJx4a65c_init_da8c8_0 : decode cJx4a65c_init_da8c8 0 = .ok (.aload_n 0, 1) := by decide +kernel
theorem dJx4a65c_init_da8c8_1 : decode cJx4a65c_init_da8c8 1 = .ok (.invokespecial 1, 3) := by decide +kernel
theorem dJx4a65c_init_da8c8_4 : decode cJx4a65c_init_da8c8 4 = .ok (.aload_n 0, 1) := by decide +kernel
theorem dJx4a65c_init_da8c8_5 : decode cJx4a65c_init_da8c8 5 = .ok (.getstatic 39, 3) := by decide +kernel
theorem dJx4a65c_init_da8c8_8 : decode cJx4a65c_init_da8c8 8 = .ok (.putfield 9, 3) := by decide +kernel
theorem dJx4a65c_init_da8c8_11 : decode cJx4a65c_init_da8c8 11 = .ok (.return_, 1) := by decide +kernel
theorem dJx4a65c_grow_92f84_0 : decode cJx4a65c_grow_92f84 0 = .ok (.aload_n 0, 1) := by decide +kernel
theorem dJx4a65c_grow_92f84_1 : decode cJx4a65c_grow_92f84 1 = .ok (.getfield 9, 3) := by decide +kernel
theorem dJx4a65c_grow_92f84_4 : decode cJx4a65c_grow_92f84 4 = .ok (.arraylength, 1) := by decide +kernel
theorem dJx4a65c_grow_92f84_5 : decode cJx4a65c_grow_92f84 5 = .ok (.istore_n 2, 1) := by decide +kernel
theorem dJx4a65c_grow_92f84_6 : decode cJx4a65c_grow_92f84 6 = .ok (.iload_n 2, 1) := by decide +kernel
theorem dJx4a65c_grow_92f84_7 : decode cJx4a65c_grow_92f84 7 = .ok (.ifCond .gt 13, 3) := by decide +kernel
theorem dJx4a65c_grow_92f84_10 : decode cJx4a65c_grow_92f84 10 = .ok (.aload_n 0, 1) := by decide +kernel
theorem dJx4a65c_grow_92f84_11 : decode cJx4a65c_grow_92f84 11 = .ok (.getfield 9, 3) := by decide +kernel
theorem dJx4a65c_grow_92f84_14 : decode cJx4a65c_grow_92f84 14 = .ok (.getstatic 39, 3) := by decide +kernel
theorem dJx4a65c_grow_92f84_17 : decode cJx4a65c_grow_92f84 17 = .ok (.if_acmp .eq 28, 3) := by decide +kernel
theorem dJx4a65c_grow_92f84_20 : decode cJx4a65c_grow_92f84 20 = .ok (.iload_n 2, 1) := by decide +kernel
theorem dJx4a65c_grow_92f84_21 : decode cJx4a65c_grow_92f84 21 = .ok (.iload_n 1, 1) := by decide +kernel
theorem dJx4a65c_grow_92f84_22 : decode cJx4a65c_grow_92f84 22 = .ok (.iload_n 2, 1) := by decide +kernel
theorem dJx4a65c_grow_92f84_23 : decode cJx4a65c_grow_92f84 23 = .ok (.isub, 1) := by decide +kernel
theorem dJx4a65c_grow_92f84_24 : decode cJx4a65c_grow_92f84 24 = .ok (.iload_n 2, 1) := by decide +kernel
theorem dJx4a65c_grow_92f84_25 : decode cJx4a65c_grow_92f84 25 = .ok (.iconst 1, 1) := by decide +kernel
theorem dJx4a65c_grow_92f84_26 : decode cJx4a65c_grow_92f84 26 = .ok (.ishr, 1) := by decide +kernel
theorem dJx4a65c_grow_92f84_27 : decode cJx4a65c_grow_92f84 27 = .ok (.invokestatic 73, 3) := by decide +kernel
theorem dJx4a65c_grow_92f84_30 : decode cJx4a65c_grow_92f84 30 = .ok (.istore_n 3, 1) := by decide +kernel
theorem dJx4a65c_grow_92f84_31 : decode cJx4a65c_grow_92f84 31 = .ok (.aload_n 0, 1) := by decide +kernel
theorem dJx4a65c_grow_92f84_32 : decode cJx4a65c_grow_92f84 32 = .ok (.aload_n 0, 1) := by decide +kernel
theorem dJx4a65c_grow_92f84_33 : decode cJx4a65c_grow_92f84 33 = .ok (.getfield 9, 3) := by decide +kernel
theorem dJx4a65c_grow_92f84_36 : decode cJx4a65c_grow_92f84 36 = .ok (.iload_n 3, 1) := by decide +kernel
theorem dJx4a65c_grow_92f84_37 : decode cJx4a65c_grow_92f84 37 = .ok (.invokestatic 66, 3) := by decide +kernel
theorem dJx4a65c_grow_92f84_40 : decode cJx4a65c_grow_92f84 40 = .ok (.dup_x1, 1) := by decide +kernel
theorem dJx4a65c_grow_92f84_41 : decode cJx4a65c_grow_92f84 41 = .ok (.putfield 9, 3) := by decide +kernel
theorem dJx4a65c_grow_92f84_44 : decode cJx4a65c_grow_92f84 44 = .ok (.areturn, 1) := by decide +kernel
theorem dJx4a65c_grow_92f84_45 : decode cJx4a65c_grow_92f84 45 = .ok (.aload_n 0, 1) := by decide +kernel
theorem dJx4a65c_grow_92f84_46 : decode cJx4a65c_grow_92f84 46 = .ok (.bipush 10, 2) := by decide +kernel
theorem dJx4a65c_grow_92f84_48 : decode cJx4a65c_grow_92f84 48 = .ok (.iload_n 1, 1) := by decide +kernel
theorem dJx4a65c_grow_92f84_49 : decode cJx4a65c_grow_92f84 49 = .ok (.invokestatic 79, 3) := by decide +kernel
theorem dJx4a65c_grow_92f84_52 : decode cJx4a65c_grow_92f84 52 = .ok (.anewarray 7, 3) := by decide +kernel
theorem dJx4a65c_grow_92f84_55 : decode cJx4a65c_grow_92f84 55 = .ok (.dup_x1, 1) := by decide +kernel
theorem dJx4a65c_grow_92f84_56 : decode cJx4a65c_grow_92f84 56 = .ok (.putfield 9, 3) := by decide +kernel
theorem dJx4a65c_grow_92f84_59 : decode cJx4a65c_grow_92f84 59 = .ok (.areturn, 1) := by decide +kernel
theorem dJx4a65c_grow_d5877_0 : decode cJx4a65c_grow_d5877 0 = .ok (.aload_n 0, 1) := by decide +kernel
theorem dJx4a65c_grow_d5877_1 : decode cJx4a65c_grow_d5877 1 = .ok (.aload_n 0, 1) := by decide +kernel
theorem dJx4a65c_grow_d5877_2 : decode cJx4a65c_grow_d5877 2 = .ok (.getfield 48, 3) := by decide +kernel
theorem dJx4a65c_grow_d5877_5 : decode cJx4a65c_grow_d5877 5 = .ok (.iconst 1, 1) := by decide +kernel
theorem dJx4a65c_grow_d5877_6 : decode cJx4a65c_grow_d5877 6 = .ok (.iadd, 1) := by decide +kernel
theorem dJx4a65c_grow_d5877_7 : decode cJx4a65c_grow_d5877 7 = .ok (.invokevirtual 69, 3) := by decide +kernel
theorem dJx4a65c_grow_d5877_10 : decode cJx4a65c_grow_d5877 10 = .ok (.areturn, 1) := by decide +kernel
theorem dJx4a65c_size_8abf5_0 : decode cJx4a65c_size_8abf5 0 = .ok (.aload_n 0, 1) := by decide +kernel
theorem dJx4a65c_size_8abf5_1 : decode cJx4a65c_size_8abf5 1 = .ok (.getfield 48, 3) := by decide +kernel
theorem dJx4a65c_size_8abf5_4 : decode cJx4a65c_size_8abf5 4 = .ok (.ireturn, 1) := by decide +kernel
theorem dJx4a65c_elementData_915e3_0 : decode cJx4a65c_elementData_915e3 0 = .ok (.aload_n 0, 1) := by decide +kernel
theorem dJx4a65c_elementData_915e3_1 : decode cJx4a65c_elementData_915e3 1 = .ok (.getfield 9, 3) := by decide +kernel
theorem dJx4a65c_elementData_915e3_4 : decode cJx4a65c_elementData_915e3 4 = .ok (.iload_n 1, 1) := by decide +kernel
theorem dJx4a65c_elementData_915e3_5 : decode cJx4a65c_elementData_915e3 5 = .ok (.aaload, 1) := by decide +kernel
theorem dJx4a65c_elementData_915e3_6 : decode cJx4a65c_elementData_915e3 6 = .ok (.areturn, 1) := by decide +kernel
theorem dJx4a65c_get_915e3_0 : decode cJx4a65c_get_915e3 0 = .ok (.iload_n 1, 1) := by decide +kernel
theorem dJx4a65c_get_915e3_1 : decode cJx4a65c_get_915e3 1 = .ok (.aload_n 0, 1) := by decide +kernel
theorem dJx4a65c_get_915e3_2 : decode cJx4a65c_get_915e3 2 = .ok (.getfield 48, 3) := by decide +kernel
theorem dJx4a65c_get_915e3_5 : decode cJx4a65c_get_915e3 5 = .ok (.invokestatic 118, 3) := by decide +kernel
theorem dJx4a65c_get_915e3_8 : decode cJx4a65c_get_915e3 8 = .ok (.pop, 1) := by decide +kernel
theorem dJx4a65c_get_915e3_9 : decode cJx4a65c_get_915e3 9 = .ok (.aload_n 0, 1) := by decide +kernel
theorem dJx4a65c_get_915e3_10 : decode cJx4a65c_get_915e3 10 = .ok (.iload_n 1, 1) := by decide +kernel
theorem dJx4a65c_get_915e3_11 : decode cJx4a65c_get_915e3 11 = .ok (.invokevirtual 123, 3) := by decide +kernel
theorem dJx4a65c_get_915e3_14 : decode cJx4a65c_get_915e3 14 = .ok (.areturn, 1) := by decide +kernel
theorem dJx4a65c_add_72be8_0 : decode cJx4a65c_add_72be8 0 = .ok (.iload_n 3, 1) := by decide +kernel
theorem dJx4a65c_add_72be8_1 : decode cJx4a65c_add_72be8 1 = .ok (.aload_n 2, 1) := by decide +kernel
theorem dJx4a65c_add_72be8_2 : decode cJx4a65c_add_72be8 2 = .ok (.arraylength, 1) := by decide +kernel
theorem dJx4a65c_add_72be8_3 : decode cJx4a65c_add_72be8 3 = .ok (.if_icmp .ne 8, 3) := by decide +kernel
theorem dJx4a65c_add_72be8_6 : decode cJx4a65c_add_72be8 6 = .ok (.aload_n 0, 1) := by decide +kernel
theorem dJx4a65c_add_72be8_7 : decode cJx4a65c_add_72be8 7 = .ok (.invokevirtual 129, 3) := by decide +kernel
theorem dJx4a65c_add_72be8_10 : decode cJx4a65c_add_72be8 10 = .ok (.astore_n 2, 1) := by decide +kernel
theorem dJx4a65c_add_72be8_11 : decode cJx4a65c_add_72be8 11 = .ok (.aload_n 2, 1) := by decide +kernel
theorem dJx4a65c_add_72be8_12 : decode cJx4a65c_add_72be8 12 = .ok (.iload_n 3, 1) := by decide +kernel
theorem dJx4a65c_add_72be8_13 : decode cJx4a65c_add_72be8 13 = .ok (.aload_n 1, 1) := by decide +kernel
theorem dJx4a65c_add_72be8_14 : decode cJx4a65c_add_72be8 14 = .ok (.aastore, 1) := by decide +kernel
theorem dJx4a65c_add_72be8_15 : decode cJx4a65c_add_72be8 15 = .ok (.aload_n 0, 1) := by decide +kernel
theorem dJx4a65c_add_72be8_16 : decode cJx4a65c_add_72be8 16 = .ok (.iload_n 3, 1) := by decide +kernel
theorem dJx4a65c_add_72be8_17 : decode cJx4a65c_add_72be8 17 = .ok (.iconst 1, 1) := by decide +kernel
theorem dJx4a65c_add_72be8_18 : decode cJx4a65c_add_72be8 18 = .ok (.iadd, 1) := by decide +kernel
theorem dJx4a65c_add_72be8_19 : decode cJx4a65c_add_72be8 19 = .ok (.putfield 48, 3) := by decide +kernel
theorem dJx4a65c_add_72be8_22 : decode cJx4a65c_add_72be8 22 = .ok (.return_, 1) := by decide +kernel
theorem dJx4a65c_add_9ea2d_0 : decode cJx4a65c_add_9ea2d 0 = .ok (.aload_n 0, 1) := by decide +kernel
theorem dJx4a65c_add_9ea2d_1 : decode cJx4a65c_add_9ea2d 1 = .ok (.dup, 1) := by decide +kernel
theorem dJx4a65c_add_9ea2d_2 : decode cJx4a65c_add_9ea2d 2 = .ok (.getfield 63, 3) := by decide +kernel
theorem dJx4a65c_add_9ea2d_5 : decode cJx4a65c_add_9ea2d 5 = .ok (.iconst 1, 1) := by decide +kernel
theorem dJx4a65c_add_9ea2d_6 : decode cJx4a65c_add_9ea2d 6 = .ok (.iadd, 1) := by decide +kernel
theorem dJx4a65c_add_9ea2d_7 : decode cJx4a65c_add_9ea2d 7 = .ok (.putfield 63, 3) := by decide +kernel
theorem dJx4a65c_add_9ea2d_10 : decode cJx4a65c_add_9ea2d 10 = .ok (.aload_n 0, 1) := by decide +kernel
theorem dJx4a65c_add_9ea2d_11 : decode cJx4a65c_add_9ea2d 11 = .ok (.aload_n 1, 1) := by decide +kernel
theorem dJx4a65c_add_9ea2d_12 : decode cJx4a65c_add_9ea2d 12 = .ok (.aload_n 0, 1) := by decide +kernel
theorem dJx4a65c_add_9ea2d_13 : decode cJx4a65c_add_9ea2d 13 = .ok (.getfield 9, 3) := by decide +kernel
theorem dJx4a65c_add_9ea2d_16 : decode cJx4a65c_add_9ea2d 16 = .ok (.aload_n 0, 1) := by decide +kernel
theorem dJx4a65c_add_9ea2d_17 : decode cJx4a65c_add_9ea2d 17 = .ok (.getfield 48, 3) := by decide +kernel
theorem dJx4a65c_add_9ea2d_20 : decode cJx4a65c_add_9ea2d 20 = .ok (.invokevirtual 131, 3) := by decide +kernel
theorem dJx4a65c_add_9ea2d_23 : decode cJx4a65c_add_9ea2d 23 = .ok (.iconst 1, 1) := by decide +kernel
theorem dJx4a65c_add_9ea2d_24 : decode cJx4a65c_add_9ea2d 24 = .ok (.ireturn, 1) := by decide +kernel
theorem dJ7_copyOf_1904c_0 : decode cJ7_copyOf_1904c 0 = .ok (.aload_n 0, 1) := by decide +kernel
theorem dJ7_copyOf_1904c_1 : decode cJ7_copyOf_1904c 1 = .ok (.iload_n 1, 1) := by decide +kernel
theorem dJ7_copyOf_1904c_2 : decode cJ7_copyOf_1904c 2 = .ok (.aload_n 0, 1) := by decide +kernel
theorem dJ7_copyOf_1904c_3 : decode cJ7_copyOf_1904c 3 = .ok (.invokevirtual 86, 3) := by decide +kernel
theorem dJ7_copyOf_1904c_6 : decode cJ7_copyOf_1904c 6 = .ok (.invokestatic 300, 3) := by decide +kernel
theorem dJ7_copyOf_1904c_9 : decode cJ7_copyOf_1904c 9 = .ok (.areturn, 1) := by decide +kernel
theorem dJ7_copyOf_6403c_0 : decode cJ7_copyOf_6403c 0 = .ok (.aload_n 2, 1) := by decide +kernel
theorem dJ7_copyOf_6403c_1 : decode cJ7_copyOf_6403c 1 = .ok (.ldc 110, 2) := by decide +kernel
theorem dJ7_copyOf_6403c_3 : decode cJ7_copyOf_6403c 3 = .ok (.if_acmp .ne 10, 3) := by decide +kernel
theorem dJ7_copyOf_6403c_6 : decode cJ7_copyOf_6403c 6 = .ok (.iload_n 1, 1) := by decide +kernel
theorem dJ7_copyOf_6403c_7 : decode cJ7_copyOf_6403c 7 = .ok (.anewarray 2, 3) := by decide +kernel
theorem dJ7_copyOf_6403c_10 : decode cJ7_copyOf_6403c 10 = .ok (.goto 14, 3) := by decide +kernel
theorem dJ7_copyOf_6403c_13 : decode cJ7_copyOf_6403c 13 = .ok (.aload_n 2, 1) := by decide +kernel
theorem dJ7_copyOf_6403c_14 : decode cJ7_copyOf_6403c 14 = .ok (.invokevirtual 90, 3) := by decide +kernel
theorem dJ7_copyOf_6403c_17 : decode cJ7_copyOf_6403c 17 = .ok (.iload_n 1, 1) := by decide +kernel
theorem dJ7_copyOf_6403c_18 : decode cJ7_copyOf_6403c 18 = .ok (.invokestatic 95, 3) := by decide +kernel
theorem dJ7_copyOf_6403c_21 : decode cJ7_copyOf_6403c 21 = .ok (.checkcast 110, 3) := by decide +kernel
theorem dJ7_copyOf_6403c_24 : decode cJ7_copyOf_6403c 24 = .ok (.astore_n 3, 1) := by decide +kernel
theorem dJ7_copyOf_6403c_25 : decode cJ7_copyOf_6403c 25 = .ok (.aload_n 0, 1) := by decide +kernel
theorem dJ7_copyOf_6403c_26 : decode cJ7_copyOf_6403c 26 = .ok (.iconst 0, 1) := by decide +kernel
theorem dJ7_copyOf_6403c_27 : decode cJ7_copyOf_6403c 27 = .ok (.aload_n 3, 1) := by decide +kernel
theorem dJ7_copyOf_6403c_28 : decode cJ7_copyOf_6403c 28 = .ok (.iconst 0, 1) := by decide +kernel
theorem dJ7_copyOf_6403c_29 : decode cJ7_copyOf_6403c 29 = .ok (.aload_n 0, 1) := by decide +kernel
theorem dJ7_copyOf_6403c_30 : decode cJ7_copyOf_6403c 30 = .ok (.arraylength, 1) := by decide +kernel
theorem dJ7_copyOf_6403c_31 : decode cJ7_copyOf_6403c 31 = .ok (.iload_n 1, 1) := by decide +kernel
theorem dJ7_copyOf_6403c_32 : decode cJ7_copyOf_6403c 32 = .ok (.invokestatic 304, 3) := by decide +kernel
theorem dJ7_copyOf_6403c_35 : decode cJ7_copyOf_6403c 35 = .ok (.invokestatic 150, 3) := by decide +kernel
theorem dJ7_copyOf_6403c_38 : decode cJ7_copyOf_6403c 38 = .ok (.aload_n 3, 1) := by decide +kernel
theorem dJ7_copyOf_6403c_39 : decode cJ7_copyOf_6403c 39 = .ok (.areturn, 1) := by decide +kernel
theorem dJ15_checkIndex_7cf53_0 : decode cJ15_checkIndex_7cf53 0 = .ok (.iload_n 0, 1) := by decide +kernel
theorem dJ15_checkIndex_7cf53_1 : decode cJ15_checkIndex_7cf53 1 = .ok (.iload_n 1, 1) := by decide +kernel
theorem dJ15_checkIndex_7cf53_2 : decode cJ15_checkIndex_7cf53 2 = .ok (.aconst_null, 1) := by decide +kernel
theorem dJ15_checkIndex_7cf53_3 : decode cJ15_checkIndex_7cf53 3 = .ok (.invokestatic 105, 3) := by decide +kernel
theorem dJ15_checkIndex_7cf53_6 : decode cJ15_checkIndex_7cf53 6 = .ok (.ireturn, 1) := by decide +kernel
theorem dJ8_newLength_cabcc_0 : decode cJ8_newLength_cabcc 0 = .ok (.iload_n 0, 1) := by decide +kernel
theorem dJ8_newLength_cabcc_1 : decode cJ8_newLength_cabcc 1 = .ok (.iload_n 1, 1) := by decide +kernel
theorem dJ8_newLength_cabcc_2 : decode cJ8_newLength_cabcc 2 = .ok (.iload_n 2, 1) := by decide +kernel
theorem dJ8_newLength_cabcc_3 : decode cJ8_newLength_cabcc 3 = .ok (.invokestatic 194, 3) := by decide +kernel
theorem dJ8_newLength_cabcc_6 : decode cJ8_newLength_cabcc 6 = .ok (.iadd, 1) := by decide +kernel
theorem dJ8_newLength_cabcc_7 : decode cJ8_newLength_cabcc 7 = .ok (.istore_n 3, 1) := by decide +kernel
theorem dJ8_newLength_cabcc_8 : decode cJ8_newLength_cabcc 8 = .ok (.iconst 0, 1) := by decide +kernel
theorem dJ8_newLength_cabcc_9 : decode cJ8_newLength_cabcc 9 = .ok (.iload_n 3, 1) := by decide +kernel
theorem dJ8_newLength_cabcc_10 : decode cJ8_newLength_cabcc 10 = .ok (.if_icmp .ge 11, 3) := by decide +kernel
theorem dJ8_newLength_cabcc_13 : decode cJ8_newLength_cabcc 13 = .ok (.iload_n 3, 1) := by decide +kernel
theorem dJ8_newLength_cabcc_14 : decode cJ8_newLength_cabcc 14 = .ok (.ldc 200, 2) := by decide +kernel
theorem dJ8_newLength_cabcc_16 : decode cJ8_newLength_cabcc 16 = .ok (.if_icmp .gt 5, 3) := by decide +kernel
theorem dJ8_newLength_cabcc_19 : decode cJ8_newLength_cabcc 19 = .ok (.iload_n 3, 1) := by decide +kernel
theorem dJ8_newLength_cabcc_20 : decode cJ8_newLength_cabcc 20 = .ok (.ireturn, 1) := by decide +kernel
theorem dJ8_newLength_cabcc_21 : decode cJ8_newLength_cabcc 21 = .ok (.iload_n 0, 1) := by decide +kernel
theorem dJ8_newLength_cabcc_22 : decode cJ8_newLength_cabcc 22 = .ok (.iload_n 1, 1) := by decide +kernel
theorem dJ8_newLength_cabcc_23 : decode cJ8_newLength_cabcc 23 = .ok (.invokestatic 201, 3) := by decide +kernel
theorem dJ8_newLength_cabcc_26 : decode cJ8_newLength_cabcc 26 = .ok (.ireturn, 1) := by decide +kernel
theorem dJ8_hugeLength_7cf53_0 : decode cJ8_hugeLength_7cf53 0 = .ok (.iload_n 0, 1) := by decide +kernel
theorem dJ8_hugeLength_7cf53_1 : decode cJ8_hugeLength_7cf53 1 = .ok (.iload_n 1, 1) := by decide +kernel
theorem dJ8_hugeLength_7cf53_2 : decode cJ8_hugeLength_7cf53 2 = .ok (.iadd, 1) := by decide +kernel
theorem dJ8_hugeLength_7cf53_3 : decode cJ8_hugeLength_7cf53 3 = .ok (.istore_n 2, 1) := by decide +kernel
theorem dJ8_hugeLength_7cf53_4 : decode cJ8_hugeLength_7cf53 4 = .ok (.iload_n 2, 1) := by decide +kernel
theorem dJ8_hugeLength_7cf53_5 : decode cJ8_hugeLength_7cf53 5 = .ok (.ifCond .ge 44, 3) := by decide +kernel
theorem dJ8_hugeLength_7cf53_8 : decode cJ8_hugeLength_7cf53 8 = .ok (.new 204, 3) := by decide +kernel
theorem dJ8_hugeLength_7cf53_11 : decode cJ8_hugeLength_7cf53 11 = .ok (.dup, 1) := by decide +kernel
theorem dJ8_hugeLength_7cf53_12 : decode cJ8_hugeLength_7cf53 12 = .ok (.new 89, 3) := by decide +kernel
theorem dJ8_hugeLength_7cf53_15 : decode cJ8_hugeLength_7cf53 15 = .ok (.dup, 1) := by decide +kernel
theorem dJ8_hugeLength_7cf53_16 : decode cJ8_hugeLength_7cf53 16 = .ok (.invokespecial 91, 3) := by decide +kernel
theorem dJ8_hugeLength_7cf53_19 : decode cJ8_hugeLength_7cf53 19 = .ok (.ldc 206, 2) := by decide +kernel
theorem dJ8_hugeLength_7cf53_21 : decode cJ8_hugeLength_7cf53 21 = .ok (.invokevirtual 94, 3) := by decide +kernel
theorem dJ8_hugeLength_7cf53_24 : decode cJ8_hugeLength_7cf53 24 = .ok (.iload_n 0, 1) := by decide +kernel
theorem dJ8_hugeLength_7cf53_25 : decode cJ8_hugeLength_7cf53 25 = .ok (.invokevirtual 98, 3) := by decide +kernel
theorem dJ8_hugeLength_7cf53_28 : decode cJ8_hugeLength_7cf53 28 = .ok (.ldc 208, 2) := by decide +kernel
theorem dJ8_hugeLength_7cf53_30 : decode cJ8_hugeLength_7cf53 30 = .ok (.invokevirtual 94, 3) := by decide +kernel
theorem dJ8_hugeLength_7cf53_33 : decode cJ8_hugeLength_7cf53 33 = .ok (.iload_n 1, 1) := by decide +kernel
theorem dJ8_hugeLength_7cf53_34 : decode cJ8_hugeLength_7cf53 34 = .ok (.invokevirtual 98, 3) := by decide +kernel
theorem dJ8_hugeLength_7cf53_37 : decode cJ8_hugeLength_7cf53 37 = .ok (.ldc 210, 2) := by decide +kernel
theorem dJ8_hugeLength_7cf53_39 : decode cJ8_hugeLength_7cf53 39 = .ok (.invokevirtual 94, 3) := by decide +kernel
theorem dJ8_hugeLength_7cf53_42 : decode cJ8_hugeLength_7cf53 42 = .ok (.invokevirtual 101, 3) := by decide +kernel
theorem dJ8_hugeLength_7cf53_45 : decode cJ8_hugeLength_7cf53 45 = .ok (.invokespecial 212, 3) := by decide +kernel
theorem dJ8_hugeLength_7cf53_48 : decode cJ8_hugeLength_7cf53 48 = .ok (.athrow, 1) := by decide +kernel
theorem dJ8_hugeLength_7cf53_49 : decode cJ8_hugeLength_7cf53 49 = .ok (.iload_n 2, 1) := by decide +kernel
theorem dJ8_hugeLength_7cf53_50 : decode cJ8_hugeLength_7cf53 50 = .ok (.ldc 200, 2) := by decide +kernel
theorem dJ8_hugeLength_7cf53_52 : decode cJ8_hugeLength_7cf53 52 = .ok (.if_icmp .gt 6, 3) := by decide +kernel
theorem dJ8_hugeLength_7cf53_55 : decode cJ8_hugeLength_7cf53 55 = .ok (.ldc 200, 2) := by decide +kernel
theorem dJ8_hugeLength_7cf53_57 : decode cJ8_hugeLength_7cf53 57 = .ok (.ireturn, 1) := by decide +kernel
theorem dJ8_hugeLength_7cf53_58 : decode cJ8_hugeLength_7cf53 58 = .ok (.iload_n 2, 1) := by decide +kernel
theorem dJ8_hugeLength_7cf53_59 : decode cJ8_hugeLength_7cf53 59 = .ok (.ireturn, 1) := by decide +kernel
theorem dJ3_checkIndex_8e157_0 : decode cJ3_checkIndex_8e157 0 = .ok (.iload_n 0, 1) := by decide +kernel
theorem dJ3_checkIndex_8e157_1 : decode cJ3_checkIndex_8e157 1 = .ok (.ifCond .lt 8, 3) := by decide +kernel
theorem dJ3_checkIndex_8e157_4 : decode cJ3_checkIndex_8e157 4 = .ok (.iload_n 0, 1) := by decide +kernel
theorem dJ3_checkIndex_8e157_5 : decode cJ3_checkIndex_8e157 5 = .ok (.iload_n 1, 1) := by decide +kernel
theorem dJ3_checkIndex_8e157_6 : decode cJ3_checkIndex_8e157 6 = .ok (.if_icmp .lt 10, 3) := by decide +kernel
theorem dJ3_checkIndex_8e157_9 : decode cJ3_checkIndex_8e157 9 = .ok (.aload_n 2, 1) := by decide +kernel
theorem dJ3_checkIndex_8e157_10 : decode cJ3_checkIndex_8e157 10 = .ok (.iload_n 0, 1) := by decide +kernel
theorem dJ3_checkIndex_8e157_11 : decode cJ3_checkIndex_8e157 11 = .ok (.iload_n 1, 1) := by decide +kernel
theorem dJ3_checkIndex_8e157_12 : decode cJ3_checkIndex_8e157 12 = .ok (.invokestatic 95, 3) := by decide +kernel
theorem dJ3_checkIndex_8e157_15 : decode cJ3_checkIndex_8e157 15 = .ok (.athrow, 1) := by decide +kernel
theorem dJ3_checkIndex_8e157_16 : decode cJ3_checkIndex_8e157 16 = .ok (.iload_n 0, 1) := by decide +kernel
theorem dJ3_checkIndex_8e157_17 : decode cJ3_checkIndex_8e157 17 = .ok (.ireturn, 1) := by decide +kernel
theorem dL_lock_0 : decode cL_lock 0 = .ok (.aload_n 2, 1) := by decide +kernel
theorem dL_lock_1 : decode cL_lock 1 = .ok (.iconst 0, 1) := by decide +kernel
theorem dL_lock_2 : decode cL_lock 2 = .ok (.aload_n 0, 1) := by decide +kernel
theorem dL_lock_3 : decode cL_lock 3 = .ok (.iload_n 1, 1) := by decide +kernel
theorem dL_lock_4 : decode cL_lock 4 = .ok (.invokevirtual 7, 3) := by decide +kernel
theorem dL_lock_7 : decode cL_lock 7 = .ok (.i2l, 1) := by decide +kernel
theorem dL_lock_8 : decode cL_lock 8 = .ok (.lastore, 1) := by decide +kernel
theorem dL_lock_9 : decode cL_lock 9 = .ok (.goto 9, 3) := by decide +kernel
theorem dL_lock_12 : decode cL_lock 12 = .ok (.astore_n 3, 1) := by decide +kernel
theorem dL_lock_13 : decode cL_lock 13 = .ok (.iconst 1, 1) := by decide +kernel
theorem dL_lock_14 : decode cL_lock 14 = .ok (.ireturn, 1) := by decide +kernel
theorem dL_lock_15 : decode cL_lock 15 = .ok (.astore_n 3, 1) := by decide +kernel
theorem dL_lock_16 : decode cL_lock 16 = .ok (.iconst 2, 1) := by decide +kernel
theorem dL_lock_17 : decode cL_lock 17 = .ok (.ireturn, 1) := by decide +kernel
theorem dL_lock_18 : decode cL_lock 18 = .ok (.iconst 0, 1) := by decide +kernel
theorem dL_lock_19 : decode cL_lock 19 = .ok (.ireturn, 1) := by decide +kernel
theorem dL_turn_0 : decode cL_turn 0 = .ok (.aload 4, 2) := by decide +kernel
theorem dL_turn_2 : decode cL_turn 2 = .ok (.iconst 0, 1) := by decide +kernel
theorem dL_turn_3 : decode cL_turn 3 = .ok (.aload_n 0, 1) := by decide +kernel
theorem dL_turn_4 : decode cL_turn 4 = .ok (.iload_n 1, 1) := by decide +kernel
theorem dL_turn_5 : decode cL_turn 5 = .ok (.iload_n 2, 1) := by decide +kernel
theorem dL_turn_6 : decode cL_turn 6 = .ok (.iload_n 3, 1) := by decide +kernel
theorem dL_turn_7 : decode cL_turn 7 = .ok (.invokevirtual 17, 3) := by decide +kernel
theorem dL_turn_10 : decode cL_turn 10 = .ok (.i2l, 1) := by decide +kernel
theorem dL_turn_11 : decode cL_turn 11 = .ok (.lastore, 1) := by decide +kernel
theorem dL_turn_12 : decode cL_turn 12 = .ok (.goto 11, 3) := by decide +kernel
theorem dL_turn_15 : decode cL_turn 15 = .ok (.astore 5, 2) := by decide +kernel
theorem dL_turn_17 : decode cL_turn 17 = .ok (.iconst 1, 1) := by decide +kernel
theorem dL_turn_18 : decode cL_turn 18 = .ok (.ireturn, 1) := by decide +kernel
theorem dL_turn_19 : decode cL_turn 19 = .ok (.astore 5, 2) := by decide +kernel
theorem dL_turn_21 : decode cL_turn 21 = .ok (.iconst 2, 1) := by decide +kernel
theorem dL_turn_22 : decode cL_turn 22 = .ok (.ireturn, 1) := by decide +kernel
theorem dL_turn_23 : decode cL_turn 23 = .ok (.iconst 0, 1) := by decide +kernel
theorem dL_turn_24 : decode cL_turn 24 = .ok (.ireturn, 1) := by decide +kernel
theorem dL_open_0 : decode cL_open 0 = .ok (.aload_n 2, 1) := by decide +kernel
theorem dL_open_1 : decode cL_open 1 = .ok (.iconst 0, 1) := by decide +kernel
theorem dL_open_2 : decode cL_open 2 = .ok (.aload_n 0, 1) := by decide +kernel
theorem dL_open_3 : decode cL_open 3 = .ok (.iload_n 1, 1) := by decide +kernel
theorem dL_open_4 : decode cL_open 4 = .ok (.invokevirtual 23, 3) := by decide +kernel
theorem dL_open_7 : decode cL_open 7 = .ok (.ifCond .eq 7, 3) := by decide +kernel
theorem dL_open_10 : decode cL_open 10 = .ok (.lconst 1, 1) := by decide +kernel
theorem dL_open_11 : decode cL_open 11 = .ok (.goto 4, 3) := by decide +kernel
theorem dL_open_14 : decode cL_open 14 = .ok (.lconst 0, 1) := by decide +kernel
theorem dL_open_15 : decode cL_open 15 = .ok (.lastore, 1) := by decide +kernel
theorem dL_open_16 : decode cL_open 16 = .ok (.goto 6, 3) := by decide +kernel
theorem dL_open_19 : decode cL_open 19 = .ok (.astore_n 3, 1) := by decide +kernel
theorem dL_open_20 : decode cL_open 20 = .ok (.iconst 1, 1) := by decide +kernel
theorem dL_open_21 : decode cL_open 21 = .ok (.ireturn, 1) := by decide +kernel
theorem dL_open_22 : decode cL_open 22 = .ok (.iconst 0, 1) := by decide +kernel
theorem dL_open_23 : decode cL_open 23 = .ok (.ireturn, 1) := by decide +kernel
theorem dL_shut_0 : decode cL_shut 0 = .ok (.aload_n 2, 1) := by decide +kernel
theorem dL_shut_1 : decode cL_shut 1 = .ok (.iconst 0, 1) := by decide +kernel
theorem dL_shut_2 : decode cL_shut 2 = .ok (.aload_n 0, 1) := by decide +kernel
theorem dL_shut_3 : decode cL_shut 3 = .ok (.iload_n 1, 1) := by decide +kernel
theorem dL_shut_4 : decode cL_shut 4 = .ok (.invokevirtual 27, 3) := by decide +kernel
theorem dL_shut_7 : decode cL_shut 7 = .ok (.i2l, 1) := by decide +kernel
theorem dL_shut_8 : decode cL_shut 8 = .ok (.lastore, 1) := by decide +kernel
theorem dL_shut_9 : decode cL_shut 9 = .ok (.goto 9, 3) := by decide +kernel
theorem dL_shut_12 : decode cL_shut 12 = .ok (.astore_n 3, 1) := by decide +kernel
theorem dL_shut_13 : decode cL_shut 13 = .ok (.iconst 1, 1) := by decide +kernel
theorem dL_shut_14 : decode cL_shut 14 = .ok (.ireturn, 1) := by decide +kernel
theorem dL_shut_15 : decode cL_shut 15 = .ok (.astore_n 3, 1) := by decide +kernel
theorem dL_shut_16 : decode cL_shut 16 = .ok (.iconst 2, 1) := by decide +kernel
theorem dL_shut_17 : decode cL_shut 17 = .ok (.ireturn, 1) := by decide +kernel
theorem dL_shut_18 : decode cL_shut 18 = .ok (.iconst 0, 1) := by decide +kernel
theorem dL_shut_19 : decode cL_shut 19 = .ok (.ireturn, 1) := by decide +kernel
theorem dL_rename_0 : decode cL_rename 0 = .ok (.aload_n 3, 1) := by decide +kernel
theorem dL_rename_1 : decode cL_rename 1 = .ok (.iconst 0, 1) := by decide +kernel
theorem dL_rename_2 : decode cL_rename 2 = .ok (.aload_n 0, 1) := by decide +kernel
theorem dL_rename_3 : decode cL_rename 3 = .ok (.iload_n 1, 1) := by decide +kernel
theorem dL_rename_4 : decode cL_rename 4 = .ok (.iload_n 2, 1) := by decide +kernel
theorem dL_rename_5 : decode cL_rename 5 = .ok (.invokevirtual 30, 3) := by decide +kernel
theorem dL_rename_8 : decode cL_rename 8 = .ok (.i2l, 1) := by decide +kernel
theorem dL_rename_9 : decode cL_rename 9 = .ok (.lastore, 1) := by decide +kernel
theorem dL_rename_10 : decode cL_rename 10 = .ok (.goto 15, 3) := by decide +kernel
theorem dL_rename_13 : decode cL_rename 13 = .ok (.astore 4, 2) := by decide +kernel
theorem dL_rename_15 : decode cL_rename 15 = .ok (.iconst 1, 1) := by decide +kernel
theorem dL_rename_16 : decode cL_rename 16 = .ok (.ireturn, 1) := by decide +kernel
theorem dL_rename_17 : decode cL_rename 17 = .ok (.astore 4, 2) := by decide +kernel
theorem dL_rename_19 : decode cL_rename 19 = .ok (.iconst 2, 1) := by decide +kernel
theorem dL_rename_20 : decode cL_rename 20 = .ok (.ireturn, 1) := by decide +kernel
theorem dL_rename_21 : decode cL_rename 21 = .ok (.astore 4, 2) := by decide +kernel
theorem dL_rename_23 : decode cL_rename 23 = .ok (.iconst 3, 1) := by decide +kernel
theorem dL_rename_24 : decode cL_rename 24 = .ok (.ireturn, 1) := by decide +kernel
theorem dL_rename_25 : decode cL_rename 25 = .ok (.iconst 0, 1) := by decide +kernel
theorem dL_rename_26 : decode cL_rename 26 = .ok (.ireturn, 1) := by decide +kernel
theorem dL_lose_0 : decode cL_lose 0 = .ok (.aload_n 3, 1) := by decide +kernel
theorem dL_lose_1 : decode cL_lose 1 = .ok (.iconst 0, 1) := by decide +kernel
theorem dL_lose_2 : decode cL_lose 2 = .ok (.aload_n 0, 1) := by decide +kernel
theorem dL_lose_3 : decode cL_lose 3 = .ok (.iload_n 1, 1) := by decide +kernel
theorem dL_lose_4 : decode cL_lose 4 = .ok (.iload_n 2, 1) := by decide +kernel
theorem dL_lose_5 : decode cL_lose 5 = .ok (.invokevirtual 34, 3) := by decide +kernel
theorem dL_lose_8 : decode cL_lose 8 = .ok (.ifCond .eq 7, 3) := by decide +kernel
theorem dL_lose_11 : decode cL_lose 11 = .ok (.lconst 1, 1) := by decide +kernel
theorem dL_lose_12 : decode cL_lose 12 = .ok (.goto 4, 3) := by decide +kernel
theorem dL_lose_15 : decode cL_lose 15 = .ok (.lconst 0, 1) := by decide +kernel
theorem dL_lose_16 : decode cL_lose 16 = .ok (.lastore, 1) := by decide +kernel
theorem dL_lose_17 : decode cL_lose 17 = .ok (.goto 7, 3) := by decide +kernel
theorem dL_lose_20 : decode cL_lose 20 = .ok (.astore 4, 2) := by decide +kernel
theorem dL_lose_22 : decode cL_lose 22 = .ok (.iconst 1, 1) := by decide +kernel
theorem dL_lose_23 : decode cL_lose 23 = .ok (.ireturn, 1) := by decide +kernel
theorem dL_lose_24 : decode cL_lose 24 = .ok (.iconst 0, 1) := by decide +kernel
theorem dL_lose_25 : decode cL_lose 25 = .ok (.ireturn, 1) := by decide +kernel
theorem dL_setPlaces_0 : decode cL_setPlaces 0 = .ok (.aload_n 3, 1) := by decide +kernel
theorem dL_setPlaces_1 : decode cL_setPlaces 1 = .ok (.iconst 0, 1) := by decide +kernel
theorem dL_setPlaces_2 : decode cL_setPlaces 2 = .ok (.aload_n 0, 1) := by decide +kernel
theorem dL_setPlaces_3 : decode cL_setPlaces 3 = .ok (.iload_n 1, 1) := by decide +kernel
theorem dL_setPlaces_4 : decode cL_setPlaces 4 = .ok (.iload_n 2, 1) := by decide +kernel
theorem dL_setPlaces_5 : decode cL_setPlaces 5 = .ok (.invokevirtual 38, 3) := by decide +kernel
theorem dL_setPlaces_8 : decode cL_setPlaces 8 = .ok (.i2l, 1) := by decide +kernel
theorem dL_setPlaces_9 : decode cL_setPlaces 9 = .ok (.lastore, 1) := by decide +kernel
theorem dL_setPlaces_10 : decode cL_setPlaces 10 = .ok (.goto 15, 3) := by decide +kernel
theorem dL_setPlaces_13 : decode cL_setPlaces 13 = .ok (.astore 4, 2) := by decide +kernel
theorem dL_setPlaces_15 : decode cL_setPlaces 15 = .ok (.iconst 1, 1) := by decide +kernel
theorem dL_setPlaces_16 : decode cL_setPlaces 16 = .ok (.ireturn, 1) := by decide +kernel
theorem dL_setPlaces_17 : decode cL_setPlaces 17 = .ok (.astore 4, 2) := by decide +kernel
theorem dL_setPlaces_19 : decode cL_setPlaces 19 = .ok (.iconst 2, 1) := by decide +kernel
theorem dL_setPlaces_20 : decode cL_setPlaces 20 = .ok (.ireturn, 1) := by decide +kernel
theorem dL_setPlaces_21 : decode cL_setPlaces 21 = .ok (.astore 4, 2) := by decide +kernel
theorem dL_setPlaces_23 : decode cL_setPlaces 23 = .ok (.iconst 3, 1) := by decide +kernel
theorem dL_setPlaces_24 : decode cL_setPlaces 24 = .ok (.ireturn, 1) := by decide +kernel
theorem dL_setPlaces_25 : decode cL_setPlaces 25 = .ok (.iconst 0, 1) := by decide +kernel
theorem dL_setPlaces_26 : decode cL_setPlaces 26 = .ok (.ireturn, 1) := by decide +kernel
theorem dL_setHours_0 : decode cL_setHours 0 = .ok (.aload 4, 2) := by decide +kernel
theorem dL_setHours_2 : decode cL_setHours 2 = .ok (.iconst 0, 1) := by decide +kernel
theorem dL_setHours_3 : decode cL_setHours 3 = .ok (.aload_n 0, 1) := by decide +kernel
theorem dL_setHours_4 : decode cL_setHours 4 = .ok (.iload_n 1, 1) := by decide +kernel
theorem dL_setHours_5 : decode cL_setHours 5 = .ok (.iload_n 2, 1) := by decide +kernel
theorem dL_setHours_6 : decode cL_setHours 6 = .ok (.iload_n 3, 1) := by decide +kernel
theorem dL_setHours_7 : decode cL_setHours 7 = .ok (.invokevirtual 41, 3) := by decide +kernel
theorem dL_setHours_10 : decode cL_setHours 10 = .ok (.i2l, 1) := by decide +kernel
theorem dL_setHours_11 : decode cL_setHours 11 = .ok (.lastore, 1) := by decide +kernel
theorem dL_setHours_12 : decode cL_setHours 12 = .ok (.goto 11, 3) := by decide +kernel
theorem dL_setHours_15 : decode cL_setHours 15 = .ok (.astore 5, 2) := by decide +kernel
theorem dL_setHours_17 : decode cL_setHours 17 = .ok (.iconst 1, 1) := by decide +kernel
theorem dL_setHours_18 : decode cL_setHours 18 = .ok (.ireturn, 1) := by decide +kernel
theorem dL_setHours_19 : decode cL_setHours 19 = .ok (.astore 5, 2) := by decide +kernel
theorem dL_setHours_21 : decode cL_setHours 21 = .ok (.iconst 2, 1) := by decide +kernel
theorem dL_setHours_22 : decode cL_setHours 22 = .ok (.ireturn, 1) := by decide +kernel
theorem dL_setHours_23 : decode cL_setHours 23 = .ok (.iconst 0, 1) := by decide +kernel
theorem dL_setHours_24 : decode cL_setHours 24 = .ok (.ireturn, 1) := by decide +kernel
theorem dL_put_0 : decode cL_put 0 = .ok (.aload_n 3, 1) := by decide +kernel
theorem dL_put_1 : decode cL_put 1 = .ok (.iconst 0, 1) := by decide +kernel
theorem dL_put_2 : decode cL_put 2 = .ok (.aload_n 0, 1) := by decide +kernel
theorem dL_put_3 : decode cL_put 3 = .ok (.iload_n 1, 1) := by decide +kernel
theorem dL_put_4 : decode cL_put 4 = .ok (.iload_n 2, 1) := by decide +kernel
theorem dL_put_5 : decode cL_put 5 = .ok (.invokevirtual 44, 3) := by decide +kernel
theorem dL_put_8 : decode cL_put 8 = .ok (.i2l, 1) := by decide +kernel
theorem dL_put_9 : decode cL_put 9 = .ok (.lastore, 1) := by decide +kernel
theorem dL_put_10 : decode cL_put 10 = .ok (.goto 11, 3) := by decide +kernel
theorem dL_put_13 : decode cL_put 13 = .ok (.astore 4, 2) := by decide +kernel
theorem dL_put_15 : decode cL_put 15 = .ok (.iconst 1, 1) := by decide +kernel
theorem dL_put_16 : decode cL_put 16 = .ok (.ireturn, 1) := by decide +kernel
theorem dL_put_17 : decode cL_put 17 = .ok (.astore 4, 2) := by decide +kernel
theorem dL_put_19 : decode cL_put 19 = .ok (.iconst 2, 1) := by decide +kernel
theorem dL_put_20 : decode cL_put 20 = .ok (.ireturn, 1) := by decide +kernel
theorem dL_put_21 : decode cL_put 21 = .ok (.iconst 0, 1) := by decide +kernel
theorem dL_put_22 : decode cL_put 22 = .ok (.ireturn, 1) := by decide +kernel
theorem dL_told_0 : decode cL_told 0 = .ok (.aload_n 3, 1) := by decide +kernel
theorem dL_told_1 : decode cL_told 1 = .ok (.iconst 0, 1) := by decide +kernel
theorem dL_told_2 : decode cL_told 2 = .ok (.aload_n 0, 1) := by decide +kernel
theorem dL_told_3 : decode cL_told 3 = .ok (.iload_n 1, 1) := by decide +kernel
theorem dL_told_4 : decode cL_told 4 = .ok (.iload_n 2, 1) := by decide +kernel
theorem dL_told_5 : decode cL_told 5 = .ok (.invokevirtual 47, 3) := by decide +kernel
theorem dL_told_8 : decode cL_told 8 = .ok (.i2l, 1) := by decide +kernel
theorem dL_told_9 : decode cL_told 9 = .ok (.lastore, 1) := by decide +kernel
theorem dL_told_10 : decode cL_told 10 = .ok (.goto 7, 3) := by decide +kernel
theorem dL_told_13 : decode cL_told 13 = .ok (.astore 4, 2) := by decide +kernel
theorem dL_told_15 : decode cL_told 15 = .ok (.iconst 1, 1) := by decide +kernel
theorem dL_told_16 : decode cL_told 16 = .ok (.ireturn, 1) := by decide +kernel
theorem dL_told_17 : decode cL_told 17 = .ok (.iconst 0, 1) := by decide +kernel
theorem dL_told_18 : decode cL_told 18 = .ok (.ireturn, 1) := by decide +kernel
theorem dL_wear_0 : decode cL_wear 0 = .ok (.aload 4, 2) := by decide +kernel
theorem dL_wear_2 : decode cL_wear 2 = .ok (.iconst 0, 1) := by decide +kernel
theorem dL_wear_3 : decode cL_wear 3 = .ok (.aload_n 0, 1) := by decide +kernel
theorem dL_wear_4 : decode cL_wear 4 = .ok (.iload_n 1, 1) := by decide +kernel
theorem dL_wear_5 : decode cL_wear 5 = .ok (.iload_n 2, 1) := by decide +kernel
theorem dL_wear_6 : decode cL_wear 6 = .ok (.iload_n 3, 1) := by decide +kernel
theorem dL_wear_7 : decode cL_wear 7 = .ok (.invokevirtual 50, 3) := by decide +kernel
theorem dL_wear_10 : decode cL_wear 10 = .ok (.i2l, 1) := by decide +kernel
theorem dL_wear_11 : decode cL_wear 11 = .ok (.lastore, 1) := by decide +kernel
theorem dL_wear_12 : decode cL_wear 12 = .ok (.goto 7, 3) := by decide +kernel
theorem dL_wear_15 : decode cL_wear 15 = .ok (.astore 5, 2) := by decide +kernel
theorem dL_wear_17 : decode cL_wear 17 = .ok (.iconst 1, 1) := by decide +kernel
theorem dL_wear_18 : decode cL_wear 18 = .ok (.ireturn, 1) := by decide +kernel
theorem dL_wear_19 : decode cL_wear 19 = .ok (.iconst 0, 1) := by decide +kernel
theorem dL_wear_20 : decode cL_wear 20 = .ok (.ireturn, 1) := by decide +kernel
theorem dL_rack_0 : decode cL_rack 0 = .ok (.aload_n 3, 1) := by decide +kernel
theorem dL_rack_1 : decode cL_rack 1 = .ok (.iconst 0, 1) := by decide +kernel
theorem dL_rack_2 : decode cL_rack 2 = .ok (.aload_n 0, 1) := by decide +kernel
theorem dL_rack_3 : decode cL_rack 3 = .ok (.iload_n 1, 1) := by decide +kernel
theorem dL_rack_4 : decode cL_rack 4 = .ok (.iload_n 2, 1) := by decide +kernel
theorem dL_rack_5 : decode cL_rack 5 = .ok (.invokevirtual 53, 3) := by decide +kernel
theorem dL_rack_8 : decode cL_rack 8 = .ok (.i2l, 1) := by decide +kernel
theorem dL_rack_9 : decode cL_rack 9 = .ok (.lastore, 1) := by decide +kernel
theorem dL_rack_10 : decode cL_rack 10 = .ok (.goto 7, 3) := by decide +kernel
theorem dL_rack_13 : decode cL_rack 13 = .ok (.astore 4, 2) := by decide +kernel
theorem dL_rack_15 : decode cL_rack 15 = .ok (.iconst 1, 1) := by decide +kernel
theorem dL_rack_16 : decode cL_rack 16 = .ok (.ireturn, 1) := by decide +kernel
theorem dL_rack_17 : decode cL_rack 17 = .ok (.iconst 0, 1) := by decide +kernel
theorem dL_rack_18 : decode cL_rack 18 = .ok (.ireturn, 1) := by decide +kernel
theorem dL_count_0 : decode cL_count 0 = .ok (.aload_n 2, 1) := by decide +kernel
theorem dL_count_1 : decode cL_count 1 = .ok (.iconst 0, 1) := by decide +kernel
theorem dL_count_2 : decode cL_count 2 = .ok (.aload_n 0, 1) := by decide +kernel
theorem dL_count_3 : decode cL_count 3 = .ok (.iload_n 1, 1) := by decide +kernel
theorem dL_count_4 : decode cL_count 4 = .ok (.invokevirtual 56, 3) := by decide +kernel
theorem dL_count_7 : decode cL_count 7 = .ok (.i2l, 1) := by decide +kernel
theorem dL_count_8 : decode cL_count 8 = .ok (.lastore, 1) := by decide +kernel
theorem dL_count_9 : decode cL_count 9 = .ok (.goto 6, 3) := by decide +kernel
theorem dL_count_12 : decode cL_count 12 = .ok (.astore_n 3, 1) := by decide +kernel
theorem dL_count_13 : decode cL_count 13 = .ok (.iconst 1, 1) := by decide +kernel
theorem dL_count_14 : decode cL_count 14 = .ok (.ireturn, 1) := by decide +kernel
theorem dL_count_15 : decode cL_count 15 = .ok (.iconst 0, 1) := by decide +kernel
theorem dL_count_16 : decode cL_count 16 = .ok (.ireturn, 1) := by decide +kernel
theorem dL_apart_0 : decode cL_apart 0 = .ok (.aload_n 3, 1) := by decide +kernel
theorem dL_apart_1 : decode cL_apart 1 = .ok (.iconst 0, 1) := by decide +kernel
theorem dL_apart_2 : decode cL_apart 2 = .ok (.aload_n 0, 1) := by decide +kernel
theorem dL_apart_3 : decode cL_apart 3 = .ok (.iload_n 1, 1) := by decide +kernel
theorem dL_apart_4 : decode cL_apart 4 = .ok (.iload_n 2, 1) := by decide +kernel
theorem dL_apart_5 : decode cL_apart 5 = .ok (.invokevirtual 59, 3) := by decide +kernel
theorem dL_apart_8 : decode cL_apart 8 = .ok (.i2l, 1) := by decide +kernel
theorem dL_apart_9 : decode cL_apart 9 = .ok (.lastore, 1) := by decide +kernel
theorem dL_apart_10 : decode cL_apart 10 = .ok (.goto 7, 3) := by decide +kernel
theorem dL_apart_13 : decode cL_apart 13 = .ok (.astore 4, 2) := by decide +kernel
theorem dL_apart_15 : decode cL_apart 15 = .ok (.iconst 1, 1) := by decide +kernel
theorem dL_apart_16 : decode cL_apart 16 = .ok (.ireturn, 1) := by decide +kernel
theorem dL_apart_17 : decode cL_apart 17 = .ok (.iconst 0, 1) := by decide +kernel
theorem dL_apart_18 : decode cL_apart 18 = .ok (.ireturn, 1) := by decide +kernel
theorem dL_trial_0 : decode cL_trial 0 = .ok (.aload_n 3, 1) := by decide +kernel
theorem dL_trial_1 : decode cL_trial 1 = .ok (.iconst 0, 1) := by decide +kernel
theorem dL_trial_2 : decode cL_trial 2 = .ok (.aload_n 0, 1) := by decide +kernel
theorem dL_trial_3 : decode cL_trial 3 = .ok (.iload_n 1, 1) := by decide +kernel
theorem dL_trial_4 : decode cL_trial 4 = .ok (.iload_n 2, 1) := by decide +kernel
theorem dL_trial_5 : decode cL_trial 5 = .ok (.invokevirtual 62, 3) := by decide +kernel
theorem dL_trial_8 : decode cL_trial 8 = .ok (.i2l, 1) := by decide +kernel
theorem dL_trial_9 : decode cL_trial 9 = .ok (.lastore, 1) := by decide +kernel
theorem dL_trial_10 : decode cL_trial 10 = .ok (.goto 11, 3) := by decide +kernel
theorem dL_trial_13 : decode cL_trial 13 = .ok (.astore 4, 2) := by decide +kernel
theorem dL_trial_15 : decode cL_trial 15 = .ok (.iconst 1, 1) := by decide +kernel
theorem dL_trial_16 : decode cL_trial 16 = .ok (.ireturn, 1) := by decide +kernel
theorem dL_trial_17 : decode cL_trial 17 = .ok (.astore 4, 2) := by decide +kernel
theorem dL_trial_19 : decode cL_trial 19 = .ok (.iconst 2, 1) := by decide +kernel
theorem dL_trial_20 : decode cL_trial 20 = .ok (.ireturn, 1) := by decide +kernel
theorem dL_trial_21 : decode cL_trial 21 = .ok (.iconst 0, 1) := by decide +kernel
theorem dL_trial_22 : decode cL_trial 22 = .ok (.ireturn, 1) := by decide +kernel
theorem dL_safe_0 : decode cL_safe 0 = .ok (.aload_n 2, 1) := by decide +kernel
theorem dL_safe_1 : decode cL_safe 1 = .ok (.iconst 0, 1) := by decide +kernel
theorem dL_safe_2 : decode cL_safe 2 = .ok (.aload_n 0, 1) := by decide +kernel
theorem dL_safe_3 : decode cL_safe 3 = .ok (.iload_n 1, 1) := by decide +kernel
theorem dL_safe_4 : decode cL_safe 4 = .ok (.invokevirtual 65, 3) := by decide +kernel
theorem dL_safe_7 : decode cL_safe 7 = .ok (.i2l, 1) := by decide +kernel
theorem dL_safe_8 : decode cL_safe 8 = .ok (.lastore, 1) := by decide +kernel
theorem dL_safe_9 : decode cL_safe 9 = .ok (.goto 6, 3) := by decide +kernel
theorem dL_safe_12 : decode cL_safe 12 = .ok (.astore_n 3, 1) := by decide +kernel
theorem dL_safe_13 : decode cL_safe 13 = .ok (.iconst 1, 1) := by decide +kernel
theorem dL_safe_14 : decode cL_safe 14 = .ok (.ireturn, 1) := by decide +kernel
theorem dL_safe_15 : decode cL_safe 15 = .ok (.iconst 0, 1) := by decide +kernel
theorem dL_safe_16 : decode cL_safe 16 = .ok (.ireturn, 1) := by decide +kernel
theorem dL_pass_0 : decode cL_pass 0 = .ok (.aload_n 2, 1) := by decide +kernel
theorem dL_pass_1 : decode cL_pass 1 = .ok (.iconst 0, 1) := by decide +kernel
theorem dL_pass_2 : decode cL_pass 2 = .ok (.aload_n 0, 1) := by decide +kernel
theorem dL_pass_3 : decode cL_pass 3 = .ok (.iload_n 1, 1) := by decide +kernel
theorem dL_pass_4 : decode cL_pass 4 = .ok (.invokevirtual 68, 3) := by decide +kernel
theorem dL_pass_7 : decode cL_pass 7 = .ok (.i2l, 1) := by decide +kernel
theorem dL_pass_8 : decode cL_pass 8 = .ok (.lastore, 1) := by decide +kernel
theorem dL_pass_9 : decode cL_pass 9 = .ok (.goto 6, 3) := by decide +kernel
theorem dL_pass_12 : decode cL_pass 12 = .ok (.astore_n 3, 1) := by decide +kernel
theorem dL_pass_13 : decode cL_pass 13 = .ok (.iconst 1, 1) := by decide +kernel
theorem dL_pass_14 : decode cL_pass 14 = .ok (.ireturn, 1) := by decide +kernel
theorem dL_pass_15 : decode cL_pass 15 = .ok (.iconst 0, 1) := by decide +kernel
theorem dL_pass_16 : decode cL_pass 16 = .ok (.ireturn, 1) := by decide +kernel
theorem dL_foresee_0 : decode cL_foresee 0 = .ok (.aload_n 3, 1) := by decide +kernel
theorem dL_foresee_1 : decode cL_foresee 1 = .ok (.iconst 0, 1) := by decide +kernel
theorem dL_foresee_2 : decode cL_foresee 2 = .ok (.aload_n 0, 1) := by decide +kernel
theorem dL_foresee_3 : decode cL_foresee 3 = .ok (.iload_n 1, 1) := by decide +kernel
theorem dL_foresee_4 : decode cL_foresee 4 = .ok (.iload_n 2, 1) := by decide +kernel
theorem dL_foresee_5 : decode cL_foresee 5 = .ok (.invokevirtual 71, 3) := by decide +kernel
theorem dL_foresee_8 : decode cL_foresee 8 = .ok (.i2l, 1) := by decide +kernel
theorem dL_foresee_9 : decode cL_foresee 9 = .ok (.lastore, 1) := by decide +kernel
theorem dL_foresee_10 : decode cL_foresee 10 = .ok (.goto 11, 3) := by decide +kernel
theorem dL_foresee_13 : decode cL_foresee 13 = .ok (.astore 4, 2) := by decide +kernel
theorem dL_foresee_15 : decode cL_foresee 15 = .ok (.iconst 1, 1) := by decide +kernel
theorem dL_foresee_16 : decode cL_foresee 16 = .ok (.ireturn, 1) := by decide +kernel
theorem dL_foresee_17 : decode cL_foresee 17 = .ok (.astore 4, 2) := by decide +kernel
theorem dL_foresee_19 : decode cL_foresee 19 = .ok (.iconst 2, 1) := by decide +kernel
theorem dL_foresee_20 : decode cL_foresee 20 = .ok (.ireturn, 1) := by decide +kernel
theorem dL_foresee_21 : decode cL_foresee 21 = .ok (.iconst 0, 1) := by decide +kernel
theorem dL_foresee_22 : decode cL_foresee 22 = .ok (.ireturn, 1) := by decide +kernel
theorem dL_until_0 : decode cL_until 0 = .ok (.aload_n 2, 1) := by decide +kernel
theorem dL_until_1 : decode cL_until 1 = .ok (.iconst 0, 1) := by decide +kernel
theorem dL_until_2 : decode cL_until 2 = .ok (.aload_n 0, 1) := by decide +kernel
theorem dL_until_3 : decode cL_until 3 = .ok (.iload_n 1, 1) := by decide +kernel
theorem dL_until_4 : decode cL_until 4 = .ok (.invokevirtual 74, 3) := by decide +kernel
theorem dL_until_7 : decode cL_until 7 = .ok (.i2l, 1) := by decide +kernel
theorem dL_until_8 : decode cL_until 8 = .ok (.lastore, 1) := by decide +kernel
theorem dL_until_9 : decode cL_until 9 = .ok (.goto 6, 3) := by decide +kernel
theorem dL_until_12 : decode cL_until 12 = .ok (.astore_n 3, 1) := by decide +kernel
theorem dL_until_13 : decode cL_until 13 = .ok (.iconst 1, 1) := by decide +kernel
theorem dL_until_14 : decode cL_until 14 = .ok (.ireturn, 1) := by decide +kernel
theorem dL_until_15 : decode cL_until 15 = .ok (.iconst 0, 1) := by decide +kernel
theorem dL_until_16 : decode cL_until 16 = .ok (.ireturn, 1) := by decide +kernel
theorem dL_law_0 : decode cL_law 0 = .ok (.new 8, 3) := by decide +kernel
theorem dL_law_3 : decode cL_law 3 = .ok (.dup, 1) := by decide +kernel
theorem dL_law_4 : decode cL_law 4 = .ok (.invokespecial 77, 3) := by decide +kernel
theorem dL_law_7 : decode cL_law 7 = .ok (.astore_n 1, 1) := by decide +kernel
theorem dL_law_8 : decode cL_law 8 = .ok (.new 78, 3) := by decide +kernel
theorem dL_law_11 : decode cL_law 11 = .ok (.dup, 1) := by decide +kernel
theorem dL_law_12 : decode cL_law 12 = .ok (.invokespecial 80, 3) := by decide +kernel
theorem dL_law_15 : decode cL_law 15 = .ok (.astore_n 2, 1) := by decide +kernel
theorem dL_law_16 : decode cL_law 16 = .ok (.iconst 1, 1) := by decide +kernel
theorem dL_law_17 : decode cL_law 17 = .ok (.newarray .long, 2) := by decide +kernel
theorem dL_law_19 : decode cL_law 19 = .ok (.astore_n 3, 1) := by decide +kernel
theorem dL_law_20 : decode cL_law 20 = .ok (.iconst 0, 1) := by decide +kernel
theorem dL_law_21 : decode cL_law 21 = .ok (.istore 4, 2) := by decide +kernel
theorem dL_law_23 : decode cL_law 23 = .ok (.iload 4, 2) := by decide +kernel
theorem dL_law_25 : decode cL_law 25 = .ok (.aload_n 0, 1) := by decide +kernel
theorem dL_law_26 : decode cL_law 26 = .ok (.arraylength, 1) := by decide +kernel
theorem dL_law_27 : decode cL_law 27 = .ok (.iconst 4, 1) := by decide +kernel
theorem dL_law_28 : decode cL_law 28 = .ok (.isub, 1) := by decide +kernel
theorem dL_law_29 : decode cL_law 29 = .ok (.if_icmp .gt 1459, 3) := by decide +kernel
theorem dL_law_32 : decode cL_law 32 = .ok (.aload_n 0, 1) := by decide +kernel
theorem dL_law_33 : decode cL_law 33 = .ok (.iload 4, 2) := by decide +kernel
theorem dL_law_35 : decode cL_law 35 = .ok (.iaload, 1) := by decide +kernel
theorem dL_law_36 : decode cL_law 36 = .ok (.bipush 31, 2) := by decide +kernel
theorem dL_law_38 : decode cL_law 38 = .ok (.iand, 1) := by decide +kernel
theorem dL_law_39 : decode cL_law 39 = .ok (.tableswitch 1443 0 21 #[101, 157, 237, 300, 356, 424, 515, 583, 663, 731, 799, 879, 947, 1003, 1071, 1139, 1195, 1251, 1319, 1375, 1388, 1429], 101) := by decide +kernel
theorem dL_law_140 : decode cL_law 140 = .ok (.aload_n 1, 1) := by decide +kernel
theorem dL_law_141 : decode cL_law 141 = .ok (.aload_n 0, 1) := by decide +kernel
theorem dL_law_142 : decode cL_law 142 = .ok (.iload 4, 2) := by decide +kernel
theorem dL_law_144 : decode cL_law 144 = .ok (.iconst 1, 1) := by decide +kernel
theorem dL_law_145 : decode cL_law 145 = .ok (.iadd, 1) := by decide +kernel
theorem dL_law_146 : decode cL_law 146 = .ok (.iaload, 1) := by decide +kernel
theorem dL_law_147 : decode cL_law 147 = .ok (.aload_n 3, 1) := by decide +kernel
theorem dL_law_148 : decode cL_law 148 = .ok (.invokestatic 81, 3) := by decide +kernel
theorem dL_law_151 : decode cL_law 151 = .ok (.istore 5, 2) := by decide +kernel
theorem dL_law_153 : decode cL_law 153 = .ok (.aload_n 2, 1) := by decide +kernel
theorem dL_law_154 : decode cL_law 154 = .ok (.aload_n 0, 1) := by decide +kernel
theorem dL_law_155 : decode cL_law 155 = .ok (.iload 4, 2) := by decide +kernel
theorem dL_law_157 : decode cL_law 157 = .ok (.iconst 1, 1) := by decide +kernel
theorem dL_law_158 : decode cL_law 158 = .ok (.iadd, 1) := by decide +kernel
theorem dL_law_159 : decode cL_law 159 = .ok (.iaload, 1) := by decide +kernel
theorem dL_law_160 : decode cL_law 160 = .ok (.invokevirtual 86, 3) := by decide +kernel
theorem dL_law_163 : decode cL_law 163 = .ok (.istore 6, 2) := by decide +kernel
theorem dL_law_165 : decode cL_law 165 = .ok (.aload_n 2, 1) := by decide +kernel
theorem dL_law_166 : decode cL_law 166 = .ok (.invokevirtual 87, 3) := by decide +kernel
theorem dL_law_169 : decode cL_law 169 = .ok (.iload 5, 2) := by decide +kernel
theorem dL_law_171 : decode cL_law 171 = .ok (.if_icmp .eq 5, 3) := by decide +kernel
theorem dL_law_174 : decode cL_law 174 = .ok (.iconst 0, 1) := by decide +kernel
theorem dL_law_175 : decode cL_law 175 = .ok (.ireturn, 1) := by decide +kernel
theorem dL_law_176 : decode cL_law 176 = .ok (.iload 5, 2) := by decide +kernel
theorem dL_law_178 : decode cL_law 178 = .ok (.ifCond .ne 15, 3) := by decide +kernel
theorem dL_law_181 : decode cL_law 181 = .ok (.aload_n 3, 1) := by decide +kernel
theorem dL_law_182 : decode cL_law 182 = .ok (.iconst 0, 1) := by decide +kernel
theorem dL_law_183 : decode cL_law 183 = .ok (.laload, 1) := by decide +kernel
theorem dL_law_184 : decode cL_law 184 = .ok (.iload 6, 2) := by decide +kernel
theorem dL_law_186 : decode cL_law 186 = .ok (.i2l, 1) := by decide +kernel
theorem dL_law_187 : decode cL_law 187 = .ok (.lcmp, 1) := by decide +kernel
theorem dL_law_188 : decode cL_law 188 = .ok (.ifCond .eq 5, 3) := by decide +kernel
theorem dL_law_191 : decode cL_law 191 = .ok (.iconst 0, 1) := by decide +kernel
theorem dL_law_192 : decode cL_law 192 = .ok (.ireturn, 1) := by decide +kernel
theorem dL_law_193 : decode cL_law 193 = .ok (.goto 1289, 3) := by decide +kernel
theorem dL_law_196 : decode cL_law 196 = .ok (.aload_n 1, 1) := by decide +kernel
theorem dL_law_197 : decode cL_law 197 = .ok (.aload_n 0, 1) := by decide +kernel
theorem dL_law_198 : decode cL_law 198 = .ok (.iload 4, 2) := by decide +kernel
theorem dL_law_200 : decode cL_law 200 = .ok (.iconst 1, 1) := by decide +kernel
theorem dL_law_201 : decode cL_law 201 = .ok (.iadd, 1) := by decide +kernel
theorem dL_law_202 : decode cL_law 202 = .ok (.iaload, 1) := by decide +kernel
theorem dL_law_203 : decode cL_law 203 = .ok (.aload_n 0, 1) := by decide +kernel
theorem dL_law_204 : decode cL_law 204 = .ok (.iload 4, 2) := by decide +kernel
theorem dL_law_206 : decode cL_law 206 = .ok (.iconst 2, 1) := by decide +kernel
theorem dL_law_207 : decode cL_law 207 = .ok (.iadd, 1) := by decide +kernel
theorem dL_law_208 : decode cL_law 208 = .ok (.iaload, 1) := by decide +kernel
theorem dL_law_209 : decode cL_law 209 = .ok (.aload_n 0, 1) := by decide +kernel
theorem dL_law_210 : decode cL_law 210 = .ok (.iload 4, 2) := by decide +kernel
theorem dL_law_212 : decode cL_law 212 = .ok (.iconst 3, 1) := by decide +kernel
theorem dL_law_213 : decode cL_law 213 = .ok (.iadd, 1) := by decide +kernel
theorem dL_law_214 : decode cL_law 214 = .ok (.iaload, 1) := by decide +kernel
theorem dL_law_215 : decode cL_law 215 = .ok (.aload_n 3, 1) := by decide +kernel
theorem dL_law_216 : decode cL_law 216 = .ok (.invokestatic 91, 3) := by decide +kernel
theorem dL_law_219 : decode cL_law 219 = .ok (.istore 5, 2) := by decide +kernel
theorem dL_law_221 : decode cL_law 221 = .ok (.aload_n 2, 1) := by decide +kernel
theorem dL_law_222 : decode cL_law 222 = .ok (.aload_n 0, 1) := by decide +kernel
theorem dL_law_223 : decode cL_law 223 = .ok (.iload 4, 2) := by decide +kernel
theorem dL_law_225 : decode cL_law 225 = .ok (.iconst 1, 1) := by decide +kernel
theorem dL_law_226 : decode cL_law 226 = .ok (.iadd, 1) := by decide +kernel
theorem dL_law_227 : decode cL_law 227 = .ok (.iaload, 1) := by decide +kernel
theorem dL_law_228 : decode cL_law 228 = .ok (.aload_n 0, 1) := by decide +kernel
theorem dL_law_229 : decode cL_law 229 = .ok (.iload 4, 2) := by decide +kernel
theorem dL_law_231 : decode cL_law 231 = .ok (.iconst 2, 1) := by decide +kernel
theorem dL_law_232 : decode cL_law 232 = .ok (.iadd, 1) := by decide +kernel
theorem dL_law_233 : decode cL_law 233 = .ok (.iaload, 1) := by decide +kernel
theorem dL_law_234 : decode cL_law 234 = .ok (.aload_n 0, 1) := by decide +kernel
theorem dL_law_235 : decode cL_law 235 = .ok (.iload 4, 2) := by decide +kernel
theorem dL_law_237 : decode cL_law 237 = .ok (.iconst 3, 1) := by decide +kernel
theorem dL_law_238 : decode cL_law 238 = .ok (.iadd, 1) := by decide +kernel
theorem dL_law_239 : decode cL_law 239 = .ok (.iaload, 1) := by decide +kernel
theorem dL_law_240 : decode cL_law 240 = .ok (.invokevirtual 94, 3) := by decide +kernel
theorem dL_law_243 : decode cL_law 243 = .ok (.istore 6, 2) := by decide +kernel
theorem dL_law_245 : decode cL_law 245 = .ok (.aload_n 2, 1) := by decide +kernel
theorem dL_law_246 : decode cL_law 246 = .ok (.invokevirtual 87, 3) := by decide +kernel
theorem dL_law_249 : decode cL_law 249 = .ok (.iload 5, 2) := by decide +kernel
theorem dL_law_251 : decode cL_law 251 = .ok (.if_icmp .eq 5, 3) := by decide +kernel
theorem dL_law_254 : decode cL_law 254 = .ok (.iconst 0, 1) := by decide +kernel
theorem dL_law_255 : decode cL_law 255 = .ok (.ireturn, 1) := by decide +kernel
theorem dL_law_256 : decode cL_law 256 = .ok (.iload 5, 2) := by decide +kernel
theorem dL_law_258 : decode cL_law 258 = .ok (.ifCond .ne 15, 3) := by decide +kernel
theorem dL_law_261 : decode cL_law 261 = .ok (.aload_n 3, 1) := by decide +kernel
theorem dL_law_262 : decode cL_law 262 = .ok (.iconst 0, 1) := by decide +kernel
theorem dL_law_263 : decode cL_law 263 = .ok (.laload, 1) := by decide +kernel
theorem dL_law_264 : decode cL_law 264 = .ok (.iload 6, 2) := by decide +kernel
theorem dL_law_266 : decode cL_law 266 = .ok (.i2l, 1) := by decide +kernel
theorem dL_law_267 : decode cL_law 267 = .ok (.lcmp, 1) := by decide +kernel
theorem dL_law_268 : decode cL_law 268 = .ok (.ifCond .eq 5, 3) := by decide +kernel
theorem dL_law_271 : decode cL_law 271 = .ok (.iconst 0, 1) := by decide +kernel
theorem dL_law_272 : decode cL_law 272 = .ok (.ireturn, 1) := by decide +kernel
theorem dL_law_273 : decode cL_law 273 = .ok (.goto 1209, 3) := by decide +kernel
theorem dL_law_276 : decode cL_law 276 = .ok (.aload_n 1, 1) := by decide +kernel
theorem dL_law_277 : decode cL_law 277 = .ok (.aload_n 0, 1) := by decide +kernel
theorem dL_law_278 : decode cL_law 278 = .ok (.iload 4, 2) := by decide +kernel
theorem dL_law_280 : decode cL_law 280 = .ok (.iconst 1, 1) := by decide +kernel
theorem dL_law_281 : decode cL_law 281 = .ok (.iadd, 1) := by decide +kernel
theorem dL_law_282 : decode cL_law 282 = .ok (.iaload, 1) := by decide +kernel
theorem dL_law_283 : decode cL_law 283 = .ok (.aload_n 3, 1) := by decide +kernel
theorem dL_law_284 : decode cL_law 284 = .ok (.invokestatic 95, 3) := by decide +kernel
theorem dL_law_287 : decode cL_law 287 = .ok (.istore 5, 2) := by decide +kernel
theorem dL_law_289 : decode cL_law 289 = .ok (.aload_n 2, 1) := by decide +kernel
theorem dL_law_290 : decode cL_law 290 = .ok (.aload_n 0, 1) := by decide +kernel
theorem dL_law_291 : decode cL_law 291 = .ok (.iload 4, 2) := by decide +kernel
theorem dL_law_293 : decode cL_law 293 = .ok (.iconst 1, 1) := by decide +kernel
theorem dL_law_294 : decode cL_law 294 = .ok (.iadd, 1) := by decide +kernel
theorem dL_law_295 : decode cL_law 295 = .ok (.iaload, 1) := by decide +kernel
theorem dL_law_296 : decode cL_law 296 = .ok (.invokevirtual 97, 3) := by decide +kernel
theorem dL_law_299 : decode cL_law 299 = .ok (.istore 6, 2) := by decide +kernel
theorem dL_law_301 : decode cL_law 301 = .ok (.aload_n 2, 1) := by decide +kernel
theorem dL_law_302 : decode cL_law 302 = .ok (.invokevirtual 87, 3) := by decide +kernel
theorem dL_law_305 : decode cL_law 305 = .ok (.iload 5, 2) := by decide +kernel
theorem dL_law_307 : decode cL_law 307 = .ok (.if_icmp .eq 5, 3) := by decide +kernel
theorem dL_law_310 : decode cL_law 310 = .ok (.iconst 0, 1) := by decide +kernel
theorem dL_law_311 : decode cL_law 311 = .ok (.ireturn, 1) := by decide +kernel
theorem dL_law_312 : decode cL_law 312 = .ok (.iload 5, 2) := by decide +kernel
theorem dL_law_314 : decode cL_law 314 = .ok (.ifCond .ne 22, 3) := by decide +kernel
theorem dL_law_317 : decode cL_law 317 = .ok (.aload_n 3, 1) := by decide +kernel
theorem dL_law_318 : decode cL_law 318 = .ok (.iconst 0, 1) := by decide +kernel
theorem dL_law_319 : decode cL_law 319 = .ok (.laload, 1) := by decide +kernel
theorem dL_law_320 : decode cL_law 320 = .ok (.iload 6, 2) := by decide +kernel
theorem dL_law_322 : decode cL_law 322 = .ok (.ifCond .eq 7, 3) := by decide +kernel
theorem dL_law_325 : decode cL_law 325 = .ok (.lconst 1, 1) := by decide +kernel
theorem dL_law_326 : decode cL_law 326 = .ok (.goto 4, 3) := by decide +kernel
theorem dL_law_329 : decode cL_law 329 = .ok (.lconst 0, 1) := by decide +kernel
theorem dL_law_330 : decode cL_law 330 = .ok (.lcmp, 1) := by decide +kernel
theorem dL_law_331 : decode cL_law 331 = .ok (.ifCond .eq 5, 3) := by decide +kernel
theorem dL_law_334 : decode cL_law 334 = .ok (.iconst 0, 1) := by decide +kernel
theorem dL_law_335 : decode cL_law 335 = .ok (.ireturn, 1) := by decide +kernel
theorem dL_law_336 : decode cL_law 336 = .ok (.goto 1146, 3) := by decide +kernel
theorem dL_law_339 : decode cL_law 339 = .ok (.aload_n 1, 1) := by decide +kernel
theorem dL_law_340 : decode cL_law 340 = .ok (.aload_n 0, 1) := by decide +kernel
theorem dL_law_341 : decode cL_law 341 = .ok (.iload 4, 2) := by decide +kernel
theorem dL_law_343 : decode cL_law 343 = .ok (.iconst 1, 1) := by decide +kernel
theorem dL_law_344 : decode cL_law 344 = .ok (.iadd, 1) := by decide +kernel
theorem dL_law_345 : decode cL_law 345 = .ok (.iaload, 1) := by decide +kernel
theorem dL_law_346 : decode cL_law 346 = .ok (.aload_n 3, 1) := by decide +kernel
theorem dL_law_347 : decode cL_law 347 = .ok (.invokestatic 98, 3) := by decide +kernel
theorem dL_law_350 : decode cL_law 350 = .ok (.istore 5, 2) := by decide +kernel
theorem dL_law_352 : decode cL_law 352 = .ok (.aload_n 2, 1) := by decide +kernel
theorem dL_law_353 : decode cL_law 353 = .ok (.aload_n 0, 1) := by decide +kernel
theorem dL_law_354 : decode cL_law 354 = .ok (.iload 4, 2) := by decide +kernel
theorem dL_law_356 : decode cL_law 356 = .ok (.iconst 1, 1) := by decide +kernel
theorem dL_law_357 : decode cL_law 357 = .ok (.iadd, 1) := by decide +kernel
theorem dL_law_358 : decode cL_law 358 = .ok (.iaload, 1) := by decide +kernel
theorem dL_law_359 : decode cL_law 359 = .ok (.invokevirtual 100, 3) := by decide +kernel
theorem dL_law_362 : decode cL_law 362 = .ok (.istore 6, 2) := by decide +kernel
theorem dL_law_364 : decode cL_law 364 = .ok (.aload_n 2, 1) := by decide +kernel
theorem dL_law_365 : decode cL_law 365 = .ok (.invokevirtual 87, 3) := by decide +kernel
theorem dL_law_368 : decode cL_law 368 = .ok (.iload 5, 2) := by decide +kernel
theorem dL_law_370 : decode cL_law 370 = .ok (.if_icmp .eq 5, 3) := by decide +kernel
theorem dL_law_373 : decode cL_law 373 = .ok (.iconst 0, 1) := by decide +kernel
theorem dL_law_374 : decode cL_law 374 = .ok (.ireturn, 1) := by decide +kernel
theorem dL_law_375 : decode cL_law 375 = .ok (.iload 5, 2) := by decide +kernel
theorem dL_law_377 : decode cL_law 377 = .ok (.ifCond .ne 15, 3) := by decide +kernel
theorem dL_law_380 : decode cL_law 380 = .ok (.aload_n 3, 1) := by decide +kernel
theorem dL_law_381 : decode cL_law 381 = .ok (.iconst 0, 1) := by decide +kernel
theorem dL_law_382 : decode cL_law 382 = .ok (.laload, 1) := by decide +kernel
theorem dL_law_383 : decode cL_law 383 = .ok (.iload 6, 2) := by decide +kernel
theorem dL_law_385 : decode cL_law 385 = .ok (.i2l, 1) := by decide +kernel
theorem dL_law_386 : decode cL_law 386 = .ok (.lcmp, 1) := by decide +kernel
theorem dL_law_387 : decode cL_law 387 = .ok (.ifCond .eq 5, 3) := by decide +kernel
theorem dL_law_390 : decode cL_law 390 = .ok (.iconst 0, 1) := by decide +kernel
theorem dL_law_391 : decode cL_law 391 = .ok (.ireturn, 1) := by decide +kernel
theorem dL_law_392 : decode cL_law 392 = .ok (.goto 1090, 3) := by decide +kernel
theorem dL_law_395 : decode cL_law 395 = .ok (.aload_n 1, 1) := by decide +kernel
theorem dL_law_396 : decode cL_law 396 = .ok (.aload_n 0, 1) := by decide +kernel
theorem dL_law_397 : decode cL_law 397 = .ok (.iload 4, 2) := by decide +kernel
theorem dL_law_399 : decode cL_law 399 = .ok (.iconst 1, 1) := by decide +kernel
theorem dL_law_400 : decode cL_law 400 = .ok (.iadd, 1) := by decide +kernel
theorem dL_law_401 : decode cL_law 401 = .ok (.iaload, 1) := by decide +kernel
theorem dL_law_402 : decode cL_law 402 = .ok (.aload_n 0, 1) := by decide +kernel
theorem dL_law_403 : decode cL_law 403 = .ok (.iload 4, 2) := by decide +kernel
theorem dL_law_405 : decode cL_law 405 = .ok (.iconst 2, 1) := by decide +kernel
theorem dL_law_406 : decode cL_law 406 = .ok (.iadd, 1) := by decide +kernel
theorem dL_law_407 : decode cL_law 407 = .ok (.iaload, 1) := by decide +kernel
theorem dL_law_408 : decode cL_law 408 = .ok (.aload_n 3, 1) := by decide +kernel
theorem dL_law_409 : decode cL_law 409 = .ok (.invokestatic 101, 3) := by decide +kernel
theorem dL_law_412 : decode cL_law 412 = .ok (.istore 5, 2) := by decide +kernel
theorem dL_law_414 : decode cL_law 414 = .ok (.aload_n 2, 1) := by decide +kernel
theorem dL_law_415 : decode cL_law 415 = .ok (.aload_n 0, 1) := by decide +kernel
theorem dL_law_416 : decode cL_law 416 = .ok (.iload 4, 2) := by decide +kernel
theorem dL_law_418 : decode cL_law 418 = .ok (.iconst 1, 1) := by decide +kernel
theorem dL_law_419 : decode cL_law 419 = .ok (.iadd, 1) := by decide +kernel
theorem dL_law_420 : decode cL_law 420 = .ok (.iaload, 1) := by decide +kernel
theorem dL_law_421 : decode cL_law 421 = .ok (.aload_n 0, 1) := by decide +kernel
theorem dL_law_422 : decode cL_law 422 = .ok (.iload 4, 2) := by decide +kernel
theorem dL_law_424 : decode cL_law 424 = .ok (.iconst 2, 1) := by decide +kernel
theorem dL_law_425 : decode cL_law 425 = .ok (.iadd, 1) := by decide +kernel
theorem dL_law_426 : decode cL_law 426 = .ok (.iaload, 1) := by decide +kernel
theorem dL_law_427 : decode cL_law 427 = .ok (.invokevirtual 104, 3) := by decide +kernel
theorem dL_law_430 : decode cL_law 430 = .ok (.istore 6, 2) := by decide +kernel
theorem dL_law_432 : decode cL_law 432 = .ok (.aload_n 2, 1) := by decide +kernel
theorem dL_law_433 : decode cL_law 433 = .ok (.invokevirtual 87, 3) := by decide +kernel
theorem dL_law_436 : decode cL_law 436 = .ok (.iload 5, 2) := by decide +kernel
theorem dL_law_438 : decode cL_law 438 = .ok (.if_icmp .eq 5, 3) := by decide +kernel
theorem dL_law_441 : decode cL_law 441 = .ok (.iconst 0, 1) := by decide +kernel
theorem dL_law_442 : decode cL_law 442 = .ok (.ireturn, 1) := by decide +kernel
theorem dL_law_443 : decode cL_law 443 = .ok (.iload 5, 2) := by decide +kernel
theorem dL_law_445 : decode cL_law 445 = .ok (.ifCond .ne 15, 3) := by decide +kernel
theorem dL_law_448 : decode cL_law 448 = .ok (.aload_n 3, 1) := by decide +kernel
theorem dL_law_449 : decode cL_law 449 = .ok (.iconst 0, 1) := by decide +kernel
theorem dL_law_450 : decode cL_law 450 = .ok (.laload, 1) := by decide +kernel
theorem dL_law_451 : decode cL_law 451 = .ok (.iload 6, 2) := by decide +kernel
theorem dL_law_453 : decode cL_law 453 = .ok (.i2l, 1) := by decide +kernel
theorem dL_law_454 : decode cL_law 454 = .ok (.lcmp, 1) := by decide +kernel
theorem dL_law_455 : decode cL_law 455 = .ok (.ifCond .eq 5, 3) := by decide +kernel
theorem dL_law_458 : decode cL_law 458 = .ok (.iconst 0, 1) := by decide +kernel
theorem dL_law_459 : decode cL_law 459 = .ok (.ireturn, 1) := by decide +kernel
theorem dL_law_460 : decode cL_law 460 = .ok (.goto 1022, 3) := by decide +kernel
theorem dL_law_463 : decode cL_law 463 = .ok (.aload_n 1, 1) := by decide +kernel
theorem dL_law_464 : decode cL_law 464 = .ok (.aload_n 0, 1) := by decide +kernel
theorem dL_law_465 : decode cL_law 465 = .ok (.iload 4, 2) := by decide +kernel
theorem dL_law_467 : decode cL_law 467 = .ok (.iconst 1, 1) := by decide +kernel
theorem dL_law_468 : decode cL_law 468 = .ok (.iadd, 1) := by decide +kernel
theorem dL_law_469 : decode cL_law 469 = .ok (.iaload, 1) := by decide +kernel
theorem dL_law_470 : decode cL_law 470 = .ok (.aload_n 0, 1) := by decide +kernel
theorem dL_law_471 : decode cL_law 471 = .ok (.iload 4, 2) := by decide +kernel
theorem dL_law_473 : decode cL_law 473 = .ok (.iconst 2, 1) := by decide +kernel
theorem dL_law_474 : decode cL_law 474 = .ok (.iadd, 1) := by decide +kernel
theorem dL_law_475 : decode cL_law 475 = .ok (.iaload, 1) := by decide +kernel
theorem dL_law_476 : decode cL_law 476 = .ok (.ifCond .eq 7, 3) := by decide +kernel
theorem dL_law_479 : decode cL_law 479 = .ok (.iconst 1, 1) := by decide +kernel
theorem dL_law_480 : decode cL_law 480 = .ok (.goto 4, 3) := by decide +kernel
theorem dL_law_483 : decode cL_law 483 = .ok (.iconst 0, 1) := by decide +kernel
theorem dL_law_484 : decode cL_law 484 = .ok (.aload_n 3, 1) := by decide +kernel
theorem dL_law_485 : decode cL_law 485 = .ok (.invokestatic 105, 3) := by decide +kernel
theorem dL_law_488 : decode cL_law 488 = .ok (.istore 5, 2) := by decide +kernel
theorem dL_law_490 : decode cL_law 490 = .ok (.aload_n 2, 1) := by decide +kernel
theorem dL_law_491 : decode cL_law 491 = .ok (.aload_n 0, 1) := by decide +kernel
theorem dL_law_492 : decode cL_law 492 = .ok (.iload 4, 2) := by decide +kernel
theorem dL_law_494 : decode cL_law 494 = .ok (.iconst 1, 1) := by decide +kernel
theorem dL_law_495 : decode cL_law 495 = .ok (.iadd, 1) := by decide +kernel
theorem dL_law_496 : decode cL_law 496 = .ok (.iaload, 1) := by decide +kernel
theorem dL_law_497 : decode cL_law 497 = .ok (.aload_n 0, 1) := by decide +kernel
theorem dL_law_498 : decode cL_law 498 = .ok (.iload 4, 2) := by decide +kernel
theorem dL_law_500 : decode cL_law 500 = .ok (.iconst 2, 1) := by decide +kernel
theorem dL_law_501 : decode cL_law 501 = .ok (.iadd, 1) := by decide +kernel
theorem dL_law_502 : decode cL_law 502 = .ok (.iaload, 1) := by decide +kernel
theorem dL_law_503 : decode cL_law 503 = .ok (.ifCond .eq 7, 3) := by decide +kernel
theorem dL_law_506 : decode cL_law 506 = .ok (.iconst 1, 1) := by decide +kernel
theorem dL_law_507 : decode cL_law 507 = .ok (.goto 4, 3) := by decide +kernel
theorem dL_law_510 : decode cL_law 510 = .ok (.iconst 0, 1) := by decide +kernel
theorem dL_law_511 : decode cL_law 511 = .ok (.invokevirtual 108, 3) := by decide +kernel
theorem dL_law_514 : decode cL_law 514 = .ok (.istore 6, 2) := by decide +kernel
theorem dL_law_516 : decode cL_law 516 = .ok (.aload_n 2, 1) := by decide +kernel
theorem dL_law_517 : decode cL_law 517 = .ok (.invokevirtual 87, 3) := by decide +kernel
theorem dL_law_520 : decode cL_law 520 = .ok (.iload 5, 2) := by decide +kernel
theorem dL_law_522 : decode cL_law 522 = .ok (.if_icmp .eq 5, 3) := by decide +kernel
theorem dL_law_525 : decode cL_law 525 = .ok (.iconst 0, 1) := by decide +kernel
theorem dL_law_526 : decode cL_law 526 = .ok (.ireturn, 1) := by decide +kernel
theorem dL_law_527 : decode cL_law 527 = .ok (.iload 5, 2) := by decide +kernel
theorem dL_law_529 : decode cL_law 529 = .ok (.ifCond .ne 22, 3) := by decide +kernel
theorem dL_law_532 : decode cL_law 532 = .ok (.aload_n 3, 1) := by decide +kernel
theorem dL_law_533 : decode cL_law 533 = .ok (.iconst 0, 1) := by decide +kernel
theorem dL_law_534 : decode cL_law 534 = .ok (.laload, 1) := by decide +kernel
theorem dL_law_535 : decode cL_law 535 = .ok (.iload 6, 2) := by decide +kernel
theorem dL_law_537 : decode cL_law 537 = .ok (.ifCond .eq 7, 3) := by decide +kernel
theorem dL_law_540 : decode cL_law 540 = .ok (.lconst 1, 1) := by decide +kernel
theorem dL_law_541 : decode cL_law 541 = .ok (.goto 4, 3) := by decide +kernel
theorem dL_law_544 : decode cL_law 544 = .ok (.lconst 0, 1) := by decide +kernel
theorem dL_law_545 : decode cL_law 545 = .ok (.lcmp, 1) := by decide +kernel
theorem dL_law_546 : decode cL_law 546 = .ok (.ifCond .eq 5, 3) := by decide +kernel
theorem dL_law_549 : decode cL_law 549 = .ok (.iconst 0, 1) := by decide +kernel
theorem dL_law_550 : decode cL_law 550 = .ok (.ireturn, 1) := by decide +kernel
theorem dL_law_551 : decode cL_law 551 = .ok (.goto 931, 3) := by decide +kernel
theorem dL_law_554 : decode cL_law 554 = .ok (.aload_n 1, 1) := by decide +kernel
theorem dL_law_555 : decode cL_law 555 = .ok (.aload_n 0, 1) := by decide +kernel
theorem dL_law_556 : decode cL_law 556 = .ok (.iload 4, 2) := by decide +kernel
theorem dL_law_558 : decode cL_law 558 = .ok (.iconst 1, 1) := by decide +kernel
theorem dL_law_559 : decode cL_law 559 = .ok (.iadd, 1) := by decide +kernel
theorem dL_law_560 : decode cL_law 560 = .ok (.iaload, 1) := by decide +kernel
theorem dL_law_561 : decode cL_law 561 = .ok (.aload_n 0, 1) := by decide +kernel
theorem dL_law_562 : decode cL_law 562 = .ok (.iload 4, 2) := by decide +kernel
theorem dL_law_564 : decode cL_law 564 = .ok (.iconst 2, 1) := by decide +kernel
theorem dL_law_565 : decode cL_law 565 = .ok (.iadd, 1) := by decide +kernel
theorem dL_law_566 : decode cL_law 566 = .ok (.iaload, 1) := by decide +kernel
theorem dL_law_567 : decode cL_law 567 = .ok (.aload_n 3, 1) := by decide +kernel
theorem dL_law_568 : decode cL_law 568 = .ok (.invokestatic 109, 3) := by decide +kernel
theorem dL_law_571 : decode cL_law 571 = .ok (.istore 5, 2) := by decide +kernel
theorem dL_law_573 : decode cL_law 573 = .ok (.aload_n 2, 1) := by decide +kernel
theorem dL_law_574 : decode cL_law 574 = .ok (.aload_n 0, 1) := by decide +kernel
theorem dL_law_575 : decode cL_law 575 = .ok (.iload 4, 2) := by decide +kernel
theorem dL_law_577 : decode cL_law 577 = .ok (.iconst 1, 1) := by decide +kernel
theorem dL_law_578 : decode cL_law 578 = .ok (.iadd, 1) := by decide +kernel
theorem dL_law_579 : decode cL_law 579 = .ok (.iaload, 1) := by decide +kernel
theorem dL_law_580 : decode cL_law 580 = .ok (.aload_n 0, 1) := by decide +kernel
theorem dL_law_581 : decode cL_law 581 = .ok (.iload 4, 2) := by decide +kernel
theorem dL_law_583 : decode cL_law 583 = .ok (.iconst 2, 1) := by decide +kernel
theorem dL_law_584 : decode cL_law 584 = .ok (.iadd, 1) := by decide +kernel
theorem dL_law_585 : decode cL_law 585 = .ok (.iaload, 1) := by decide +kernel
theorem dL_law_586 : decode cL_law 586 = .ok (.invokevirtual 111, 3) := by decide +kernel
theorem dL_law_589 : decode cL_law 589 = .ok (.istore 6, 2) := by decide +kernel
theorem dL_law_591 : decode cL_law 591 = .ok (.aload_n 2, 1) := by decide +kernel
theorem dL_law_592 : decode cL_law 592 = .ok (.invokevirtual 87, 3) := by decide +kernel
theorem dL_law_595 : decode cL_law 595 = .ok (.iload 5, 2) := by decide +kernel
theorem dL_law_597 : decode cL_law 597 = .ok (.if_icmp .eq 5, 3) := by decide +kernel
theorem dL_law_600 : decode cL_law 600 = .ok (.iconst 0, 1) := by decide +kernel
theorem dL_law_601 : decode cL_law 601 = .ok (.ireturn, 1) := by decide +kernel
theorem dL_law_602 : decode cL_law 602 = .ok (.iload 5, 2) := by decide +kernel
theorem dL_law_604 : decode cL_law 604 = .ok (.ifCond .ne 15, 3) := by decide +kernel
theorem dL_law_607 : decode cL_law 607 = .ok (.aload_n 3, 1) := by decide +kernel
theorem dL_law_608 : decode cL_law 608 = .ok (.iconst 0, 1) := by decide +kernel
theorem dL_law_609 : decode cL_law 609 = .ok (.laload, 1) := by decide +kernel
theorem dL_law_610 : decode cL_law 610 = .ok (.iload 6, 2) := by decide +kernel
theorem dL_law_612 : decode cL_law 612 = .ok (.i2l, 1) := by decide +kernel
theorem dL_law_613 : decode cL_law 613 = .ok (.lcmp, 1) := by decide +kernel
theorem dL_law_614 : decode cL_law 614 = .ok (.ifCond .eq 5, 3) := by decide +kernel
theorem dL_law_617 : decode cL_law 617 = .ok (.iconst 0, 1) := by decide +kernel
theorem dL_law_618 : decode cL_law 618 = .ok (.ireturn, 1) := by decide +kernel
theorem dL_law_619 : decode cL_law 619 = .ok (.goto 863, 3) := by decide +kernel
theorem dL_law_622 : decode cL_law 622 = .ok (.aload_n 1, 1) := by decide +kernel
theorem dL_law_623 : decode cL_law 623 = .ok (.aload_n 0, 1) := by decide +kernel
theorem dL_law_624 : decode cL_law 624 = .ok (.iload 4, 2) := by decide +kernel
theorem dL_law_626 : decode cL_law 626 = .ok (.iconst 1, 1) := by decide +kernel
theorem dL_law_627 : decode cL_law 627 = .ok (.iadd, 1) := by decide +kernel
theorem dL_law_628 : decode cL_law 628 = .ok (.iaload, 1) := by decide +kernel
theorem dL_law_629 : decode cL_law 629 = .ok (.aload_n 0, 1) := by decide +kernel
theorem dL_law_630 : decode cL_law 630 = .ok (.iload 4, 2) := by decide +kernel
theorem dL_law_632 : decode cL_law 632 = .ok (.iconst 2, 1) := by decide +kernel
theorem dL_law_633 : decode cL_law 633 = .ok (.iadd, 1) := by decide +kernel
theorem dL_law_634 : decode cL_law 634 = .ok (.iaload, 1) := by decide +kernel
theorem dL_law_635 : decode cL_law 635 = .ok (.aload_n 0, 1) := by decide +kernel
theorem dL_law_636 : decode cL_law 636 = .ok (.iload 4, 2) := by decide +kernel
theorem dL_law_638 : decode cL_law 638 = .ok (.iconst 3, 1) := by decide +kernel
theorem dL_law_639 : decode cL_law 639 = .ok (.iadd, 1) := by decide +kernel
theorem dL_law_640 : decode cL_law 640 = .ok (.iaload, 1) := by decide +kernel
theorem dL_law_641 : decode cL_law 641 = .ok (.aload_n 3, 1) := by decide +kernel
theorem dL_law_642 : decode cL_law 642 = .ok (.invokestatic 112, 3) := by decide +kernel
theorem dL_law_645 : decode cL_law 645 = .ok (.istore 5, 2) := by decide +kernel
theorem dL_law_647 : decode cL_law 647 = .ok (.aload_n 2, 1) := by decide +kernel
theorem dL_law_648 : decode cL_law 648 = .ok (.aload_n 0, 1) := by decide +kernel
theorem dL_law_649 : decode cL_law 649 = .ok (.iload 4, 2) := by decide +kernel
theorem dL_law_651 : decode cL_law 651 = .ok (.iconst 1, 1) := by decide +kernel
theorem dL_law_652 : decode cL_law 652 = .ok (.iadd, 1) := by decide +kernel
theorem dL_law_653 : decode cL_law 653 = .ok (.iaload, 1) := by decide +kernel
theorem dL_law_654 : decode cL_law 654 = .ok (.aload_n 0, 1) := by decide +kernel
theorem dL_law_655 : decode cL_law 655 = .ok (.iload 4, 2) := by decide +kernel
theorem dL_law_657 : decode cL_law 657 = .ok (.iconst 2, 1) := by decide +kernel
theorem dL_law_658 : decode cL_law 658 = .ok (.iadd, 1) := by decide +kernel
theorem dL_law_659 : decode cL_law 659 = .ok (.iaload, 1) := by decide +kernel
theorem dL_law_660 : decode cL_law 660 = .ok (.aload_n 0, 1) := by decide +kernel
theorem dL_law_661 : decode cL_law 661 = .ok (.iload 4, 2) := by decide +kernel
theorem dL_law_663 : decode cL_law 663 = .ok (.iconst 3, 1) := by decide +kernel
theorem dL_law_664 : decode cL_law 664 = .ok (.iadd, 1) := by decide +kernel
theorem dL_law_665 : decode cL_law 665 = .ok (.iaload, 1) := by decide +kernel
theorem dL_law_666 : decode cL_law 666 = .ok (.invokevirtual 114, 3) := by decide +kernel
theorem dL_law_669 : decode cL_law 669 = .ok (.istore 6, 2) := by decide +kernel
theorem dL_law_671 : decode cL_law 671 = .ok (.aload_n 2, 1) := by decide +kernel
theorem dL_law_672 : decode cL_law 672 = .ok (.invokevirtual 87, 3) := by decide +kernel
theorem dL_law_675 : decode cL_law 675 = .ok (.iload 5, 2) := by decide +kernel
theorem dL_law_677 : decode cL_law 677 = .ok (.if_icmp .eq 5, 3) := by decide +kernel
theorem dL_law_680 : decode cL_law 680 = .ok (.iconst 0, 1) := by decide +kernel
theorem dL_law_681 : decode cL_law 681 = .ok (.ireturn, 1) := by decide +kernel
theorem dL_law_682 : decode cL_law 682 = .ok (.iload 5, 2) := by decide +kernel
theorem dL_law_684 : decode cL_law 684 = .ok (.ifCond .ne 15, 3) := by decide +kernel
theorem dL_law_687 : decode cL_law 687 = .ok (.aload_n 3, 1) := by decide +kernel
theorem dL_law_688 : decode cL_law 688 = .ok (.iconst 0, 1) := by decide +kernel
theorem dL_law_689 : decode cL_law 689 = .ok (.laload, 1) := by decide +kernel
theorem dL_law_690 : decode cL_law 690 = .ok (.iload 6, 2) := by decide +kernel
theorem dL_law_692 : decode cL_law 692 = .ok (.i2l, 1) := by decide +kernel
theorem dL_law_693 : decode cL_law 693 = .ok (.lcmp, 1) := by decide +kernel
theorem dL_law_694 : decode cL_law 694 = .ok (.ifCond .eq 5, 3) := by decide +kernel
theorem dL_law_697 : decode cL_law 697 = .ok (.iconst 0, 1) := by decide +kernel
theorem dL_law_698 : decode cL_law 698 = .ok (.ireturn, 1) := by decide +kernel
theorem dL_law_699 : decode cL_law 699 = .ok (.goto 783, 3) := by decide +kernel
theorem dL_law_702 : decode cL_law 702 = .ok (.aload_n 1, 1) := by decide +kernel
theorem dL_law_703 : decode cL_law 703 = .ok (.aload_n 0, 1) := by decide +kernel
theorem dL_law_704 : decode cL_law 704 = .ok (.iload 4, 2) := by decide +kernel
theorem dL_law_706 : decode cL_law 706 = .ok (.iconst 1, 1) := by decide +kernel
theorem dL_law_707 : decode cL_law 707 = .ok (.iadd, 1) := by decide +kernel
theorem dL_law_708 : decode cL_law 708 = .ok (.iaload, 1) := by decide +kernel
theorem dL_law_709 : decode cL_law 709 = .ok (.aload_n 0, 1) := by decide +kernel
theorem dL_law_710 : decode cL_law 710 = .ok (.iload 4, 2) := by decide +kernel
theorem dL_law_712 : decode cL_law 712 = .ok (.iconst 2, 1) := by decide +kernel
theorem dL_law_713 : decode cL_law 713 = .ok (.iadd, 1) := by decide +kernel
theorem dL_law_714 : decode cL_law 714 = .ok (.iaload, 1) := by decide +kernel
theorem dL_law_715 : decode cL_law 715 = .ok (.aload_n 3, 1) := by decide +kernel
theorem dL_law_716 : decode cL_law 716 = .ok (.invokestatic 115, 3) := by decide +kernel
theorem dL_law_719 : decode cL_law 719 = .ok (.istore 5, 2) := by decide +kernel
theorem dL_law_721 : decode cL_law 721 = .ok (.aload_n 2, 1) := by decide +kernel
theorem dL_law_722 : decode cL_law 722 = .ok (.aload_n 0, 1) := by decide +kernel
theorem dL_law_723 : decode cL_law 723 = .ok (.iload 4, 2) := by decide +kernel
theorem dL_law_725 : decode cL_law 725 = .ok (.iconst 1, 1) := by decide +kernel
theorem dL_law_726 : decode cL_law 726 = .ok (.iadd, 1) := by decide +kernel
theorem dL_law_727 : decode cL_law 727 = .ok (.iaload, 1) := by decide +kernel
theorem dL_law_728 : decode cL_law 728 = .ok (.aload_n 0, 1) := by decide +kernel
theorem dL_law_729 : decode cL_law 729 = .ok (.iload 4, 2) := by decide +kernel
theorem dL_law_731 : decode cL_law 731 = .ok (.iconst 2, 1) := by decide +kernel
theorem dL_law_732 : decode cL_law 732 = .ok (.iadd, 1) := by decide +kernel
theorem dL_law_733 : decode cL_law 733 = .ok (.iaload, 1) := by decide +kernel
theorem dL_law_734 : decode cL_law 734 = .ok (.invokevirtual 117, 3) := by decide +kernel
theorem dL_law_737 : decode cL_law 737 = .ok (.istore 6, 2) := by decide +kernel
theorem dL_law_739 : decode cL_law 739 = .ok (.aload_n 2, 1) := by decide +kernel
theorem dL_law_740 : decode cL_law 740 = .ok (.invokevirtual 87, 3) := by decide +kernel
theorem dL_law_743 : decode cL_law 743 = .ok (.iload 5, 2) := by decide +kernel
theorem dL_law_745 : decode cL_law 745 = .ok (.if_icmp .eq 5, 3) := by decide +kernel
theorem dL_law_748 : decode cL_law 748 = .ok (.iconst 0, 1) := by decide +kernel
theorem dL_law_749 : decode cL_law 749 = .ok (.ireturn, 1) := by decide +kernel
theorem dL_law_750 : decode cL_law 750 = .ok (.iload 5, 2) := by decide +kernel
theorem dL_law_752 : decode cL_law 752 = .ok (.ifCond .ne 15, 3) := by decide +kernel
theorem dL_law_755 : decode cL_law 755 = .ok (.aload_n 3, 1) := by decide +kernel
theorem dL_law_756 : decode cL_law 756 = .ok (.iconst 0, 1) := by decide +kernel
theorem dL_law_757 : decode cL_law 757 = .ok (.laload, 1) := by decide +kernel
theorem dL_law_758 : decode cL_law 758 = .ok (.iload 6, 2) := by decide +kernel
theorem dL_law_760 : decode cL_law 760 = .ok (.i2l, 1) := by decide +kernel
theorem dL_law_761 : decode cL_law 761 = .ok (.lcmp, 1) := by decide +kernel
theorem dL_law_762 : decode cL_law 762 = .ok (.ifCond .eq 5, 3) := by decide +kernel
theorem dL_law_765 : decode cL_law 765 = .ok (.iconst 0, 1) := by decide +kernel
theorem dL_law_766 : decode cL_law 766 = .ok (.ireturn, 1) := by decide +kernel
theorem dL_law_767 : decode cL_law 767 = .ok (.goto 715, 3) := by decide +kernel
theorem dL_law_770 : decode cL_law 770 = .ok (.aload_n 1, 1) := by decide +kernel
theorem dL_law_771 : decode cL_law 771 = .ok (.aload_n 0, 1) := by decide +kernel
theorem dL_law_772 : decode cL_law 772 = .ok (.iload 4, 2) := by decide +kernel
theorem dL_law_774 : decode cL_law 774 = .ok (.iconst 1, 1) := by decide +kernel
theorem dL_law_775 : decode cL_law 775 = .ok (.iadd, 1) := by decide +kernel
theorem dL_law_776 : decode cL_law 776 = .ok (.iaload, 1) := by decide +kernel
theorem dL_law_777 : decode cL_law 777 = .ok (.aload_n 0, 1) := by decide +kernel
theorem dL_law_778 : decode cL_law 778 = .ok (.iload 4, 2) := by decide +kernel
theorem dL_law_780 : decode cL_law 780 = .ok (.iconst 2, 1) := by decide +kernel
theorem dL_law_781 : decode cL_law 781 = .ok (.iadd, 1) := by decide +kernel
theorem dL_law_782 : decode cL_law 782 = .ok (.iaload, 1) := by decide +kernel
theorem dL_law_783 : decode cL_law 783 = .ok (.aload_n 3, 1) := by decide +kernel
theorem dL_law_784 : decode cL_law 784 = .ok (.invokestatic 118, 3) := by decide +kernel
theorem dL_law_787 : decode cL_law 787 = .ok (.istore 5, 2) := by decide +kernel
theorem dL_law_789 : decode cL_law 789 = .ok (.aload_n 2, 1) := by decide +kernel
theorem dL_law_790 : decode cL_law 790 = .ok (.aload_n 0, 1) := by decide +kernel
theorem dL_law_791 : decode cL_law 791 = .ok (.iload 4, 2) := by decide +kernel
theorem dL_law_793 : decode cL_law 793 = .ok (.iconst 1, 1) := by decide +kernel
theorem dL_law_794 : decode cL_law 794 = .ok (.iadd, 1) := by decide +kernel
theorem dL_law_795 : decode cL_law 795 = .ok (.iaload, 1) := by decide +kernel
theorem dL_law_796 : decode cL_law 796 = .ok (.aload_n 0, 1) := by decide +kernel
theorem dL_law_797 : decode cL_law 797 = .ok (.iload 4, 2) := by decide +kernel
theorem dL_law_799 : decode cL_law 799 = .ok (.iconst 2, 1) := by decide +kernel
theorem dL_law_800 : decode cL_law 800 = .ok (.iadd, 1) := by decide +kernel
theorem dL_law_801 : decode cL_law 801 = .ok (.iaload, 1) := by decide +kernel
theorem dL_law_802 : decode cL_law 802 = .ok (.invokevirtual 120, 3) := by decide +kernel
theorem dL_law_805 : decode cL_law 805 = .ok (.istore 6, 2) := by decide +kernel
theorem dL_law_807 : decode cL_law 807 = .ok (.aload_n 2, 1) := by decide +kernel
theorem dL_law_808 : decode cL_law 808 = .ok (.invokevirtual 87, 3) := by decide +kernel
theorem dL_law_811 : decode cL_law 811 = .ok (.iload 5, 2) := by decide +kernel
theorem dL_law_813 : decode cL_law 813 = .ok (.if_icmp .eq 5, 3) := by decide +kernel
theorem dL_law_816 : decode cL_law 816 = .ok (.iconst 0, 1) := by decide +kernel
theorem dL_law_817 : decode cL_law 817 = .ok (.ireturn, 1) := by decide +kernel
theorem dL_law_818 : decode cL_law 818 = .ok (.iload 5, 2) := by decide +kernel
theorem dL_law_820 : decode cL_law 820 = .ok (.ifCond .ne 15, 3) := by decide +kernel
theorem dL_law_823 : decode cL_law 823 = .ok (.aload_n 3, 1) := by decide +kernel
theorem dL_law_824 : decode cL_law 824 = .ok (.iconst 0, 1) := by decide +kernel
theorem dL_law_825 : decode cL_law 825 = .ok (.laload, 1) := by decide +kernel
theorem dL_law_826 : decode cL_law 826 = .ok (.iload 6, 2) := by decide +kernel
theorem dL_law_828 : decode cL_law 828 = .ok (.i2l, 1) := by decide +kernel
theorem dL_law_829 : decode cL_law 829 = .ok (.lcmp, 1) := by decide +kernel
theorem dL_law_830 : decode cL_law 830 = .ok (.ifCond .eq 5, 3) := by decide +kernel
theorem dL_law_833 : decode cL_law 833 = .ok (.iconst 0, 1) := by decide +kernel
theorem dL_law_834 : decode cL_law 834 = .ok (.ireturn, 1) := by decide +kernel
theorem dL_law_835 : decode cL_law 835 = .ok (.goto 647, 3) := by decide +kernel
theorem dL_law_838 : decode cL_law 838 = .ok (.aload_n 1, 1) := by decide +kernel
theorem dL_law_839 : decode cL_law 839 = .ok (.aload_n 0, 1) := by decide +kernel
theorem dL_law_840 : decode cL_law 840 = .ok (.iload 4, 2) := by decide +kernel
theorem dL_law_842 : decode cL_law 842 = .ok (.iconst 1, 1) := by decide +kernel
theorem dL_law_843 : decode cL_law 843 = .ok (.iadd, 1) := by decide +kernel
theorem dL_law_844 : decode cL_law 844 = .ok (.iaload, 1) := by decide +kernel
theorem dL_law_845 : decode cL_law 845 = .ok (.aload_n 0, 1) := by decide +kernel
theorem dL_law_846 : decode cL_law 846 = .ok (.iload 4, 2) := by decide +kernel
theorem dL_law_848 : decode cL_law 848 = .ok (.iconst 2, 1) := by decide +kernel
theorem dL_law_849 : decode cL_law 849 = .ok (.iadd, 1) := by decide +kernel
theorem dL_law_850 : decode cL_law 850 = .ok (.iaload, 1) := by decide +kernel
theorem dL_law_851 : decode cL_law 851 = .ok (.aload_n 0, 1) := by decide +kernel
theorem dL_law_852 : decode cL_law 852 = .ok (.iload 4, 2) := by decide +kernel
theorem dL_law_854 : decode cL_law 854 = .ok (.iconst 3, 1) := by decide +kernel
theorem dL_law_855 : decode cL_law 855 = .ok (.iadd, 1) := by decide +kernel
theorem dL_law_856 : decode cL_law 856 = .ok (.iaload, 1) := by decide +kernel
theorem dL_law_857 : decode cL_law 857 = .ok (.aload_n 3, 1) := by decide +kernel
theorem dL_law_858 : decode cL_law 858 = .ok (.invokestatic 121, 3) := by decide +kernel
theorem dL_law_861 : decode cL_law 861 = .ok (.istore 5, 2) := by decide +kernel
theorem dL_law_863 : decode cL_law 863 = .ok (.aload_n 2, 1) := by decide +kernel
theorem dL_law_864 : decode cL_law 864 = .ok (.aload_n 0, 1) := by decide +kernel
theorem dL_law_865 : decode cL_law 865 = .ok (.iload 4, 2) := by decide +kernel
theorem dL_law_867 : decode cL_law 867 = .ok (.iconst 1, 1) := by decide +kernel
theorem dL_law_868 : decode cL_law 868 = .ok (.iadd, 1) := by decide +kernel
theorem dL_law_869 : decode cL_law 869 = .ok (.iaload, 1) := by decide +kernel
theorem dL_law_870 : decode cL_law 870 = .ok (.aload_n 0, 1) := by decide +kernel
theorem dL_law_871 : decode cL_law 871 = .ok (.iload 4, 2) := by decide +kernel
theorem dL_law_873 : decode cL_law 873 = .ok (.iconst 2, 1) := by decide +kernel
theorem dL_law_874 : decode cL_law 874 = .ok (.iadd, 1) := by decide +kernel
theorem dL_law_875 : decode cL_law 875 = .ok (.iaload, 1) := by decide +kernel
theorem dL_law_876 : decode cL_law 876 = .ok (.aload_n 0, 1) := by decide +kernel
theorem dL_law_877 : decode cL_law 877 = .ok (.iload 4, 2) := by decide +kernel
theorem dL_law_879 : decode cL_law 879 = .ok (.iconst 3, 1) := by decide +kernel
theorem dL_law_880 : decode cL_law 880 = .ok (.iadd, 1) := by decide +kernel
theorem dL_law_881 : decode cL_law 881 = .ok (.iaload, 1) := by decide +kernel
theorem dL_law_882 : decode cL_law 882 = .ok (.invokevirtual 123, 3) := by decide +kernel
theorem dL_law_885 : decode cL_law 885 = .ok (.istore 6, 2) := by decide +kernel
theorem dL_law_887 : decode cL_law 887 = .ok (.aload_n 2, 1) := by decide +kernel
theorem dL_law_888 : decode cL_law 888 = .ok (.invokevirtual 87, 3) := by decide +kernel
theorem dL_law_891 : decode cL_law 891 = .ok (.iload 5, 2) := by decide +kernel
theorem dL_law_893 : decode cL_law 893 = .ok (.if_icmp .eq 5, 3) := by decide +kernel
theorem dL_law_896 : decode cL_law 896 = .ok (.iconst 0, 1) := by decide +kernel
theorem dL_law_897 : decode cL_law 897 = .ok (.ireturn, 1) := by decide +kernel
theorem dL_law_898 : decode cL_law 898 = .ok (.iload 5, 2) := by decide +kernel
theorem dL_law_900 : decode cL_law 900 = .ok (.ifCond .ne 15, 3) := by decide +kernel
theorem dL_law_903 : decode cL_law 903 = .ok (.aload_n 3, 1) := by decide +kernel
theorem dL_law_904 : decode cL_law 904 = .ok (.iconst 0, 1) := by decide +kernel
theorem dL_law_905 : decode cL_law 905 = .ok (.laload, 1) := by decide +kernel
theorem dL_law_906 : decode cL_law 906 = .ok (.iload 6, 2) := by decide +kernel
theorem dL_law_908 : decode cL_law 908 = .ok (.i2l, 1) := by decide +kernel
theorem dL_law_909 : decode cL_law 909 = .ok (.lcmp, 1) := by decide +kernel
theorem dL_law_910 : decode cL_law 910 = .ok (.ifCond .eq 5, 3) := by decide +kernel
theorem dL_law_913 : decode cL_law 913 = .ok (.iconst 0, 1) := by decide +kernel
theorem dL_law_914 : decode cL_law 914 = .ok (.ireturn, 1) := by decide +kernel
theorem dL_law_915 : decode cL_law 915 = .ok (.goto 567, 3) := by decide +kernel
theorem dL_law_918 : decode cL_law 918 = .ok (.aload_n 1, 1) := by decide +kernel
theorem dL_law_919 : decode cL_law 919 = .ok (.aload_n 0, 1) := by decide +kernel
theorem dL_law_920 : decode cL_law 920 = .ok (.iload 4, 2) := by decide +kernel
theorem dL_law_922 : decode cL_law 922 = .ok (.iconst 1, 1) := by decide +kernel
theorem dL_law_923 : decode cL_law 923 = .ok (.iadd, 1) := by decide +kernel
theorem dL_law_924 : decode cL_law 924 = .ok (.iaload, 1) := by decide +kernel
theorem dL_law_925 : decode cL_law 925 = .ok (.aload_n 0, 1) := by decide +kernel
theorem dL_law_926 : decode cL_law 926 = .ok (.iload 4, 2) := by decide +kernel
theorem dL_law_928 : decode cL_law 928 = .ok (.iconst 2, 1) := by decide +kernel
theorem dL_law_929 : decode cL_law 929 = .ok (.iadd, 1) := by decide +kernel
theorem dL_law_930 : decode cL_law 930 = .ok (.iaload, 1) := by decide +kernel
theorem dL_law_931 : decode cL_law 931 = .ok (.aload_n 3, 1) := by decide +kernel
theorem dL_law_932 : decode cL_law 932 = .ok (.invokestatic 124, 3) := by decide +kernel
theorem dL_law_935 : decode cL_law 935 = .ok (.istore 5, 2) := by decide +kernel
theorem dL_law_937 : decode cL_law 937 = .ok (.aload_n 2, 1) := by decide +kernel
theorem dL_law_938 : decode cL_law 938 = .ok (.aload_n 0, 1) := by decide +kernel
theorem dL_law_939 : decode cL_law 939 = .ok (.iload 4, 2) := by decide +kernel
theorem dL_law_941 : decode cL_law 941 = .ok (.iconst 1, 1) := by decide +kernel
theorem dL_law_942 : decode cL_law 942 = .ok (.iadd, 1) := by decide +kernel
theorem dL_law_943 : decode cL_law 943 = .ok (.iaload, 1) := by decide +kernel
theorem dL_law_944 : decode cL_law 944 = .ok (.aload_n 0, 1) := by decide +kernel
theorem dL_law_945 : decode cL_law 945 = .ok (.iload 4, 2) := by decide +kernel
theorem dL_law_947 : decode cL_law 947 = .ok (.iconst 2, 1) := by decide +kernel
theorem dL_law_948 : decode cL_law 948 = .ok (.iadd, 1) := by decide +kernel
theorem dL_law_949 : decode cL_law 949 = .ok (.iaload, 1) := by decide +kernel
theorem dL_law_950 : decode cL_law 950 = .ok (.invokevirtual 126, 3) := by decide +kernel
theorem dL_law_953 : decode cL_law 953 = .ok (.istore 6, 2) := by decide +kernel
theorem dL_law_955 : decode cL_law 955 = .ok (.aload_n 2, 1) := by decide +kernel
theorem dL_law_956 : decode cL_law 956 = .ok (.invokevirtual 87, 3) := by decide +kernel
theorem dL_law_959 : decode cL_law 959 = .ok (.iload 5, 2) := by decide +kernel
theorem dL_law_961 : decode cL_law 961 = .ok (.if_icmp .eq 5, 3) := by decide +kernel
theorem dL_law_964 : decode cL_law 964 = .ok (.iconst 0, 1) := by decide +kernel
theorem dL_law_965 : decode cL_law 965 = .ok (.ireturn, 1) := by decide +kernel
theorem dL_law_966 : decode cL_law 966 = .ok (.iload 5, 2) := by decide +kernel
theorem dL_law_968 : decode cL_law 968 = .ok (.ifCond .ne 15, 3) := by decide +kernel
theorem dL_law_971 : decode cL_law 971 = .ok (.aload_n 3, 1) := by decide +kernel
theorem dL_law_972 : decode cL_law 972 = .ok (.iconst 0, 1) := by decide +kernel
theorem dL_law_973 : decode cL_law 973 = .ok (.laload, 1) := by decide +kernel
theorem dL_law_974 : decode cL_law 974 = .ok (.iload 6, 2) := by decide +kernel
theorem dL_law_976 : decode cL_law 976 = .ok (.i2l, 1) := by decide +kernel
theorem dL_law_977 : decode cL_law 977 = .ok (.lcmp, 1) := by decide +kernel
theorem dL_law_978 : decode cL_law 978 = .ok (.ifCond .eq 5, 3) := by decide +kernel
theorem dL_law_981 : decode cL_law 981 = .ok (.iconst 0, 1) := by decide +kernel
theorem dL_law_982 : decode cL_law 982 = .ok (.ireturn, 1) := by decide +kernel
theorem dL_law_983 : decode cL_law 983 = .ok (.goto 499, 3) := by decide +kernel
theorem dL_law_986 : decode cL_law 986 = .ok (.aload_n 1, 1) := by decide +kernel
theorem dL_law_987 : decode cL_law 987 = .ok (.aload_n 0, 1) := by decide +kernel
theorem dL_law_988 : decode cL_law 988 = .ok (.iload 4, 2) := by decide +kernel
theorem dL_law_990 : decode cL_law 990 = .ok (.iconst 1, 1) := by decide +kernel
theorem dL_law_991 : decode cL_law 991 = .ok (.iadd, 1) := by decide +kernel
theorem dL_law_992 : decode cL_law 992 = .ok (.iaload, 1) := by decide +kernel
theorem dL_law_993 : decode cL_law 993 = .ok (.aload_n 3, 1) := by decide +kernel
theorem dL_law_994 : decode cL_law 994 = .ok (.invokestatic 127, 3) := by decide +kernel
theorem dL_law_997 : decode cL_law 997 = .ok (.istore 5, 2) := by decide +kernel
theorem dL_law_999 : decode cL_law 999 = .ok (.aload_n 2, 1) := by decide +kernel
theorem dL_law_1000 : decode cL_law 1000 = .ok (.aload_n 0, 1) := by decide +kernel
theorem dL_law_1001 : decode cL_law 1001 = .ok (.iload 4, 2) := by decide +kernel
theorem dL_law_1003 : decode cL_law 1003 = .ok (.iconst 1, 1) := by decide +kernel
theorem dL_law_1004 : decode cL_law 1004 = .ok (.iadd, 1) := by decide +kernel
theorem dL_law_1005 : decode cL_law 1005 = .ok (.iaload, 1) := by decide +kernel
theorem dL_law_1006 : decode cL_law 1006 = .ok (.invokevirtual 129, 3) := by decide +kernel
theorem dL_law_1009 : decode cL_law 1009 = .ok (.istore 6, 2) := by decide +kernel
theorem dL_law_1011 : decode cL_law 1011 = .ok (.aload_n 2, 1) := by decide +kernel
theorem dL_law_1012 : decode cL_law 1012 = .ok (.invokevirtual 87, 3) := by decide +kernel
theorem dL_law_1015 : decode cL_law 1015 = .ok (.iload 5, 2) := by decide +kernel
theorem dL_law_1017 : decode cL_law 1017 = .ok (.if_icmp .eq 5, 3) := by decide +kernel
theorem dL_law_1020 : decode cL_law 1020 = .ok (.iconst 0, 1) := by decide +kernel
theorem dL_law_1021 : decode cL_law 1021 = .ok (.ireturn, 1) := by decide +kernel
theorem dL_law_1022 : decode cL_law 1022 = .ok (.iload 5, 2) := by decide +kernel
theorem dL_law_1024 : decode cL_law 1024 = .ok (.ifCond .ne 15, 3) := by decide +kernel
theorem dL_law_1027 : decode cL_law 1027 = .ok (.aload_n 3, 1) := by decide +kernel
theorem dL_law_1028 : decode cL_law 1028 = .ok (.iconst 0, 1) := by decide +kernel
theorem dL_law_1029 : decode cL_law 1029 = .ok (.laload, 1) := by decide +kernel
theorem dL_law_1030 : decode cL_law 1030 = .ok (.iload 6, 2) := by decide +kernel
theorem dL_law_1032 : decode cL_law 1032 = .ok (.i2l, 1) := by decide +kernel
theorem dL_law_1033 : decode cL_law 1033 = .ok (.lcmp, 1) := by decide +kernel
theorem dL_law_1034 : decode cL_law 1034 = .ok (.ifCond .eq 5, 3) := by decide +kernel
theorem dL_law_1037 : decode cL_law 1037 = .ok (.iconst 0, 1) := by decide +kernel
theorem dL_law_1038 : decode cL_law 1038 = .ok (.ireturn, 1) := by decide +kernel
theorem dL_law_1039 : decode cL_law 1039 = .ok (.goto 443, 3) := by decide +kernel
theorem dL_law_1042 : decode cL_law 1042 = .ok (.aload_n 1, 1) := by decide +kernel
theorem dL_law_1043 : decode cL_law 1043 = .ok (.aload_n 0, 1) := by decide +kernel
theorem dL_law_1044 : decode cL_law 1044 = .ok (.iload 4, 2) := by decide +kernel
theorem dL_law_1046 : decode cL_law 1046 = .ok (.iconst 1, 1) := by decide +kernel
theorem dL_law_1047 : decode cL_law 1047 = .ok (.iadd, 1) := by decide +kernel
theorem dL_law_1048 : decode cL_law 1048 = .ok (.iaload, 1) := by decide +kernel
theorem dL_law_1049 : decode cL_law 1049 = .ok (.aload_n 0, 1) := by decide +kernel
theorem dL_law_1050 : decode cL_law 1050 = .ok (.iload 4, 2) := by decide +kernel
theorem dL_law_1052 : decode cL_law 1052 = .ok (.iconst 2, 1) := by decide +kernel
theorem dL_law_1053 : decode cL_law 1053 = .ok (.iadd, 1) := by decide +kernel
theorem dL_law_1054 : decode cL_law 1054 = .ok (.iaload, 1) := by decide +kernel
theorem dL_law_1055 : decode cL_law 1055 = .ok (.aload_n 3, 1) := by decide +kernel
theorem dL_law_1056 : decode cL_law 1056 = .ok (.invokestatic 130, 3) := by decide +kernel
theorem dL_law_1059 : decode cL_law 1059 = .ok (.istore 5, 2) := by decide +kernel
theorem dL_law_1061 : decode cL_law 1061 = .ok (.aload_n 2, 1) := by decide +kernel
theorem dL_law_1062 : decode cL_law 1062 = .ok (.aload_n 0, 1) := by decide +kernel
theorem dL_law_1063 : decode cL_law 1063 = .ok (.iload 4, 2) := by decide +kernel
theorem dL_law_1065 : decode cL_law 1065 = .ok (.iconst 1, 1) := by decide +kernel
theorem dL_law_1066 : decode cL_law 1066 = .ok (.iadd, 1) := by decide +kernel
theorem dL_law_1067 : decode cL_law 1067 = .ok (.iaload, 1) := by decide +kernel
theorem dL_law_1068 : decode cL_law 1068 = .ok (.aload_n 0, 1) := by decide +kernel
theorem dL_law_1069 : decode cL_law 1069 = .ok (.iload 4, 2) := by decide +kernel
theorem dL_law_1071 : decode cL_law 1071 = .ok (.iconst 2, 1) := by decide +kernel
theorem dL_law_1072 : decode cL_law 1072 = .ok (.iadd, 1) := by decide +kernel
theorem dL_law_1073 : decode cL_law 1073 = .ok (.iaload, 1) := by decide +kernel
theorem dL_law_1074 : decode cL_law 1074 = .ok (.invokevirtual 132, 3) := by decide +kernel
theorem dL_law_1077 : decode cL_law 1077 = .ok (.istore 6, 2) := by decide +kernel
theorem dL_law_1079 : decode cL_law 1079 = .ok (.aload_n 2, 1) := by decide +kernel
theorem dL_law_1080 : decode cL_law 1080 = .ok (.invokevirtual 87, 3) := by decide +kernel
theorem dL_law_1083 : decode cL_law 1083 = .ok (.iload 5, 2) := by decide +kernel
theorem dL_law_1085 : decode cL_law 1085 = .ok (.if_icmp .eq 5, 3) := by decide +kernel
theorem dL_law_1088 : decode cL_law 1088 = .ok (.iconst 0, 1) := by decide +kernel
theorem dL_law_1089 : decode cL_law 1089 = .ok (.ireturn, 1) := by decide +kernel
theorem dL_law_1090 : decode cL_law 1090 = .ok (.iload 5, 2) := by decide +kernel
theorem dL_law_1092 : decode cL_law 1092 = .ok (.ifCond .ne 15, 3) := by decide +kernel
theorem dL_law_1095 : decode cL_law 1095 = .ok (.aload_n 3, 1) := by decide +kernel
theorem dL_law_1096 : decode cL_law 1096 = .ok (.iconst 0, 1) := by decide +kernel
theorem dL_law_1097 : decode cL_law 1097 = .ok (.laload, 1) := by decide +kernel
theorem dL_law_1098 : decode cL_law 1098 = .ok (.iload 6, 2) := by decide +kernel
theorem dL_law_1100 : decode cL_law 1100 = .ok (.i2l, 1) := by decide +kernel
theorem dL_law_1101 : decode cL_law 1101 = .ok (.lcmp, 1) := by decide +kernel
theorem dL_law_1102 : decode cL_law 1102 = .ok (.ifCond .eq 5, 3) := by decide +kernel
theorem dL_law_1105 : decode cL_law 1105 = .ok (.iconst 0, 1) := by decide +kernel
theorem dL_law_1106 : decode cL_law 1106 = .ok (.ireturn, 1) := by decide +kernel
theorem dL_law_1107 : decode cL_law 1107 = .ok (.goto 375, 3) := by decide +kernel
theorem dL_law_1110 : decode cL_law 1110 = .ok (.aload_n 1, 1) := by decide +kernel
theorem dL_law_1111 : decode cL_law 1111 = .ok (.aload_n 0, 1) := by decide +kernel
theorem dL_law_1112 : decode cL_law 1112 = .ok (.iload 4, 2) := by decide +kernel
theorem dL_law_1114 : decode cL_law 1114 = .ok (.iconst 1, 1) := by decide +kernel
theorem dL_law_1115 : decode cL_law 1115 = .ok (.iadd, 1) := by decide +kernel
theorem dL_law_1116 : decode cL_law 1116 = .ok (.iaload, 1) := by decide +kernel
theorem dL_law_1117 : decode cL_law 1117 = .ok (.aload_n 0, 1) := by decide +kernel
theorem dL_law_1118 : decode cL_law 1118 = .ok (.iload 4, 2) := by decide +kernel
theorem dL_law_1120 : decode cL_law 1120 = .ok (.iconst 2, 1) := by decide +kernel
theorem dL_law_1121 : decode cL_law 1121 = .ok (.iadd, 1) := by decide +kernel
theorem dL_law_1122 : decode cL_law 1122 = .ok (.iaload, 1) := by decide +kernel
theorem dL_law_1123 : decode cL_law 1123 = .ok (.aload_n 3, 1) := by decide +kernel
theorem dL_law_1124 : decode cL_law 1124 = .ok (.invokestatic 133, 3) := by decide +kernel
theorem dL_law_1127 : decode cL_law 1127 = .ok (.istore 5, 2) := by decide +kernel
theorem dL_law_1129 : decode cL_law 1129 = .ok (.aload_n 2, 1) := by decide +kernel
theorem dL_law_1130 : decode cL_law 1130 = .ok (.aload_n 0, 1) := by decide +kernel
theorem dL_law_1131 : decode cL_law 1131 = .ok (.iload 4, 2) := by decide +kernel
theorem dL_law_1133 : decode cL_law 1133 = .ok (.iconst 1, 1) := by decide +kernel
theorem dL_law_1134 : decode cL_law 1134 = .ok (.iadd, 1) := by decide +kernel
theorem dL_law_1135 : decode cL_law 1135 = .ok (.iaload, 1) := by decide +kernel
theorem dL_law_1136 : decode cL_law 1136 = .ok (.aload_n 0, 1) := by decide +kernel
theorem dL_law_1137 : decode cL_law 1137 = .ok (.iload 4, 2) := by decide +kernel
theorem dL_law_1139 : decode cL_law 1139 = .ok (.iconst 2, 1) := by decide +kernel
theorem dL_law_1140 : decode cL_law 1140 = .ok (.iadd, 1) := by decide +kernel
theorem dL_law_1141 : decode cL_law 1141 = .ok (.iaload, 1) := by decide +kernel
theorem dL_law_1142 : decode cL_law 1142 = .ok (.invokevirtual 135, 3) := by decide +kernel
theorem dL_law_1145 : decode cL_law 1145 = .ok (.istore 6, 2) := by decide +kernel
theorem dL_law_1147 : decode cL_law 1147 = .ok (.aload_n 2, 1) := by decide +kernel
theorem dL_law_1148 : decode cL_law 1148 = .ok (.invokevirtual 87, 3) := by decide +kernel
theorem dL_law_1151 : decode cL_law 1151 = .ok (.iload 5, 2) := by decide +kernel
theorem dL_law_1153 : decode cL_law 1153 = .ok (.if_icmp .eq 5, 3) := by decide +kernel
theorem dL_law_1156 : decode cL_law 1156 = .ok (.iconst 0, 1) := by decide +kernel
theorem dL_law_1157 : decode cL_law 1157 = .ok (.ireturn, 1) := by decide +kernel
theorem dL_law_1158 : decode cL_law 1158 = .ok (.iload 5, 2) := by decide +kernel
theorem dL_law_1160 : decode cL_law 1160 = .ok (.ifCond .ne 15, 3) := by decide +kernel
theorem dL_law_1163 : decode cL_law 1163 = .ok (.aload_n 3, 1) := by decide +kernel
theorem dL_law_1164 : decode cL_law 1164 = .ok (.iconst 0, 1) := by decide +kernel
theorem dL_law_1165 : decode cL_law 1165 = .ok (.laload, 1) := by decide +kernel
theorem dL_law_1166 : decode cL_law 1166 = .ok (.iload 6, 2) := by decide +kernel
theorem dL_law_1168 : decode cL_law 1168 = .ok (.i2l, 1) := by decide +kernel
theorem dL_law_1169 : decode cL_law 1169 = .ok (.lcmp, 1) := by decide +kernel
theorem dL_law_1170 : decode cL_law 1170 = .ok (.ifCond .eq 5, 3) := by decide +kernel
theorem dL_law_1173 : decode cL_law 1173 = .ok (.iconst 0, 1) := by decide +kernel
theorem dL_law_1174 : decode cL_law 1174 = .ok (.ireturn, 1) := by decide +kernel
theorem dL_law_1175 : decode cL_law 1175 = .ok (.goto 307, 3) := by decide +kernel
theorem dL_law_1178 : decode cL_law 1178 = .ok (.aload_n 1, 1) := by decide +kernel
theorem dL_law_1179 : decode cL_law 1179 = .ok (.aload_n 0, 1) := by decide +kernel
theorem dL_law_1180 : decode cL_law 1180 = .ok (.iload 4, 2) := by decide +kernel
theorem dL_law_1182 : decode cL_law 1182 = .ok (.iconst 1, 1) := by decide +kernel
theorem dL_law_1183 : decode cL_law 1183 = .ok (.iadd, 1) := by decide +kernel
theorem dL_law_1184 : decode cL_law 1184 = .ok (.iaload, 1) := by decide +kernel
theorem dL_law_1185 : decode cL_law 1185 = .ok (.aload_n 3, 1) := by decide +kernel
theorem dL_law_1186 : decode cL_law 1186 = .ok (.invokestatic 136, 3) := by decide +kernel
theorem dL_law_1189 : decode cL_law 1189 = .ok (.istore 5, 2) := by decide +kernel
theorem dL_law_1191 : decode cL_law 1191 = .ok (.aload_n 2, 1) := by decide +kernel
theorem dL_law_1192 : decode cL_law 1192 = .ok (.aload_n 0, 1) := by decide +kernel
theorem dL_law_1193 : decode cL_law 1193 = .ok (.iload 4, 2) := by decide +kernel
theorem dL_law_1195 : decode cL_law 1195 = .ok (.iconst 1, 1) := by decide +kernel
theorem dL_law_1196 : decode cL_law 1196 = .ok (.iadd, 1) := by decide +kernel
theorem dL_law_1197 : decode cL_law 1197 = .ok (.iaload, 1) := by decide +kernel
theorem dL_law_1198 : decode cL_law 1198 = .ok (.invokevirtual 138, 3) := by decide +kernel
theorem dL_law_1201 : decode cL_law 1201 = .ok (.istore 6, 2) := by decide +kernel
theorem dL_law_1203 : decode cL_law 1203 = .ok (.aload_n 2, 1) := by decide +kernel
theorem dL_law_1204 : decode cL_law 1204 = .ok (.invokevirtual 87, 3) := by decide +kernel
theorem dL_law_1207 : decode cL_law 1207 = .ok (.iload 5, 2) := by decide +kernel
theorem dL_law_1209 : decode cL_law 1209 = .ok (.if_icmp .eq 5, 3) := by decide +kernel
theorem dL_law_1212 : decode cL_law 1212 = .ok (.iconst 0, 1) := by decide +kernel
theorem dL_law_1213 : decode cL_law 1213 = .ok (.ireturn, 1) := by decide +kernel
theorem dL_law_1214 : decode cL_law 1214 = .ok (.iload 5, 2) := by decide +kernel
theorem dL_law_1216 : decode cL_law 1216 = .ok (.ifCond .ne 15, 3) := by decide +kernel
theorem dL_law_1219 : decode cL_law 1219 = .ok (.aload_n 3, 1) := by decide +kernel
theorem dL_law_1220 : decode cL_law 1220 = .ok (.iconst 0, 1) := by decide +kernel
theorem dL_law_1221 : decode cL_law 1221 = .ok (.laload, 1) := by decide +kernel
theorem dL_law_1222 : decode cL_law 1222 = .ok (.iload 6, 2) := by decide +kernel
theorem dL_law_1224 : decode cL_law 1224 = .ok (.i2l, 1) := by decide +kernel
theorem dL_law_1225 : decode cL_law 1225 = .ok (.lcmp, 1) := by decide +kernel
theorem dL_law_1226 : decode cL_law 1226 = .ok (.ifCond .eq 5, 3) := by decide +kernel
theorem dL_law_1229 : decode cL_law 1229 = .ok (.iconst 0, 1) := by decide +kernel
theorem dL_law_1230 : decode cL_law 1230 = .ok (.ireturn, 1) := by decide +kernel
theorem dL_law_1231 : decode cL_law 1231 = .ok (.goto 251, 3) := by decide +kernel
theorem dL_law_1234 : decode cL_law 1234 = .ok (.aload_n 1, 1) := by decide +kernel
theorem dL_law_1235 : decode cL_law 1235 = .ok (.aload_n 0, 1) := by decide +kernel
theorem dL_law_1236 : decode cL_law 1236 = .ok (.iload 4, 2) := by decide +kernel
theorem dL_law_1238 : decode cL_law 1238 = .ok (.iconst 1, 1) := by decide +kernel
theorem dL_law_1239 : decode cL_law 1239 = .ok (.iadd, 1) := by decide +kernel
theorem dL_law_1240 : decode cL_law 1240 = .ok (.iaload, 1) := by decide +kernel
theorem dL_law_1241 : decode cL_law 1241 = .ok (.aload_n 3, 1) := by decide +kernel
theorem dL_law_1242 : decode cL_law 1242 = .ok (.invokestatic 139, 3) := by decide +kernel
theorem dL_law_1245 : decode cL_law 1245 = .ok (.istore 5, 2) := by decide +kernel
theorem dL_law_1247 : decode cL_law 1247 = .ok (.aload_n 2, 1) := by decide +kernel
theorem dL_law_1248 : decode cL_law 1248 = .ok (.aload_n 0, 1) := by decide +kernel
theorem dL_law_1249 : decode cL_law 1249 = .ok (.iload 4, 2) := by decide +kernel
theorem dL_law_1251 : decode cL_law 1251 = .ok (.iconst 1, 1) := by decide +kernel
theorem dL_law_1252 : decode cL_law 1252 = .ok (.iadd, 1) := by decide +kernel
theorem dL_law_1253 : decode cL_law 1253 = .ok (.iaload, 1) := by decide +kernel
theorem dL_law_1254 : decode cL_law 1254 = .ok (.invokevirtual 141, 3) := by decide +kernel
theorem dL_law_1257 : decode cL_law 1257 = .ok (.istore 6, 2) := by decide +kernel
theorem dL_law_1259 : decode cL_law 1259 = .ok (.aload_n 2, 1) := by decide +kernel
theorem dL_law_1260 : decode cL_law 1260 = .ok (.invokevirtual 87, 3) := by decide +kernel
theorem dL_law_1263 : decode cL_law 1263 = .ok (.iload 5, 2) := by decide +kernel
theorem dL_law_1265 : decode cL_law 1265 = .ok (.if_icmp .eq 5, 3) := by decide +kernel
theorem dL_law_1268 : decode cL_law 1268 = .ok (.iconst 0, 1) := by decide +kernel
theorem dL_law_1269 : decode cL_law 1269 = .ok (.ireturn, 1) := by decide +kernel
theorem dL_law_1270 : decode cL_law 1270 = .ok (.iload 5, 2) := by decide +kernel
theorem dL_law_1272 : decode cL_law 1272 = .ok (.ifCond .ne 15, 3) := by decide +kernel
theorem dL_law_1275 : decode cL_law 1275 = .ok (.aload_n 3, 1) := by decide +kernel
theorem dL_law_1276 : decode cL_law 1276 = .ok (.iconst 0, 1) := by decide +kernel
theorem dL_law_1277 : decode cL_law 1277 = .ok (.laload, 1) := by decide +kernel
theorem dL_law_1278 : decode cL_law 1278 = .ok (.iload 6, 2) := by decide +kernel
theorem dL_law_1280 : decode cL_law 1280 = .ok (.i2l, 1) := by decide +kernel
theorem dL_law_1281 : decode cL_law 1281 = .ok (.lcmp, 1) := by decide +kernel
theorem dL_law_1282 : decode cL_law 1282 = .ok (.ifCond .eq 5, 3) := by decide +kernel
theorem dL_law_1285 : decode cL_law 1285 = .ok (.iconst 0, 1) := by decide +kernel
theorem dL_law_1286 : decode cL_law 1286 = .ok (.ireturn, 1) := by decide +kernel
theorem dL_law_1287 : decode cL_law 1287 = .ok (.goto 195, 3) := by decide +kernel
theorem dL_law_1290 : decode cL_law 1290 = .ok (.aload_n 1, 1) := by decide +kernel
theorem dL_law_1291 : decode cL_law 1291 = .ok (.aload_n 0, 1) := by decide +kernel
theorem dL_law_1292 : decode cL_law 1292 = .ok (.iload 4, 2) := by decide +kernel
theorem dL_law_1294 : decode cL_law 1294 = .ok (.iconst 1, 1) := by decide +kernel
theorem dL_law_1295 : decode cL_law 1295 = .ok (.iadd, 1) := by decide +kernel
theorem dL_law_1296 : decode cL_law 1296 = .ok (.iaload, 1) := by decide +kernel
theorem dL_law_1297 : decode cL_law 1297 = .ok (.aload_n 0, 1) := by decide +kernel
theorem dL_law_1298 : decode cL_law 1298 = .ok (.iload 4, 2) := by decide +kernel
theorem dL_law_1300 : decode cL_law 1300 = .ok (.iconst 2, 1) := by decide +kernel
theorem dL_law_1301 : decode cL_law 1301 = .ok (.iadd, 1) := by decide +kernel
theorem dL_law_1302 : decode cL_law 1302 = .ok (.iaload, 1) := by decide +kernel
theorem dL_law_1303 : decode cL_law 1303 = .ok (.aload_n 3, 1) := by decide +kernel
theorem dL_law_1304 : decode cL_law 1304 = .ok (.invokestatic 142, 3) := by decide +kernel
theorem dL_law_1307 : decode cL_law 1307 = .ok (.istore 5, 2) := by decide +kernel
theorem dL_law_1309 : decode cL_law 1309 = .ok (.aload_n 2, 1) := by decide +kernel
theorem dL_law_1310 : decode cL_law 1310 = .ok (.aload_n 0, 1) := by decide +kernel
theorem dL_law_1311 : decode cL_law 1311 = .ok (.iload 4, 2) := by decide +kernel
theorem dL_law_1313 : decode cL_law 1313 = .ok (.iconst 1, 1) := by decide +kernel
theorem dL_law_1314 : decode cL_law 1314 = .ok (.iadd, 1) := by decide +kernel
theorem dL_law_1315 : decode cL_law 1315 = .ok (.iaload, 1) := by decide +kernel
theorem dL_law_1316 : decode cL_law 1316 = .ok (.aload_n 0, 1) := by decide +kernel
theorem dL_law_1317 : decode cL_law 1317 = .ok (.iload 4, 2) := by decide +kernel
theorem dL_law_1319 : decode cL_law 1319 = .ok (.iconst 2, 1) := by decide +kernel
theorem dL_law_1320 : decode cL_law 1320 = .ok (.iadd, 1) := by decide +kernel
theorem dL_law_1321 : decode cL_law 1321 = .ok (.iaload, 1) := by decide +kernel
theorem dL_law_1322 : decode cL_law 1322 = .ok (.invokevirtual 144, 3) := by decide +kernel
theorem dL_law_1325 : decode cL_law 1325 = .ok (.istore 6, 2) := by decide +kernel
theorem dL_law_1327 : decode cL_law 1327 = .ok (.aload_n 2, 1) := by decide +kernel
theorem dL_law_1328 : decode cL_law 1328 = .ok (.invokevirtual 87, 3) := by decide +kernel
theorem dL_law_1331 : decode cL_law 1331 = .ok (.iload 5, 2) := by decide +kernel
theorem dL_law_1333 : decode cL_law 1333 = .ok (.if_icmp .eq 5, 3) := by decide +kernel
theorem dL_law_1336 : decode cL_law 1336 = .ok (.iconst 0, 1) := by decide +kernel
theorem dL_law_1337 : decode cL_law 1337 = .ok (.ireturn, 1) := by decide +kernel
theorem dL_law_1338 : decode cL_law 1338 = .ok (.iload 5, 2) := by decide +kernel
theorem dL_law_1340 : decode cL_law 1340 = .ok (.ifCond .ne 15, 3) := by decide +kernel
theorem dL_law_1343 : decode cL_law 1343 = .ok (.aload_n 3, 1) := by decide +kernel
theorem dL_law_1344 : decode cL_law 1344 = .ok (.iconst 0, 1) := by decide +kernel
theorem dL_law_1345 : decode cL_law 1345 = .ok (.laload, 1) := by decide +kernel
theorem dL_law_1346 : decode cL_law 1346 = .ok (.iload 6, 2) := by decide +kernel
theorem dL_law_1348 : decode cL_law 1348 = .ok (.i2l, 1) := by decide +kernel
theorem dL_law_1349 : decode cL_law 1349 = .ok (.lcmp, 1) := by decide +kernel
theorem dL_law_1350 : decode cL_law 1350 = .ok (.ifCond .eq 5, 3) := by decide +kernel
theorem dL_law_1353 : decode cL_law 1353 = .ok (.iconst 0, 1) := by decide +kernel
theorem dL_law_1354 : decode cL_law 1354 = .ok (.ireturn, 1) := by decide +kernel
theorem dL_law_1355 : decode cL_law 1355 = .ok (.goto 127, 3) := by decide +kernel
theorem dL_law_1358 : decode cL_law 1358 = .ok (.aload_n 1, 1) := by decide +kernel
theorem dL_law_1359 : decode cL_law 1359 = .ok (.aload_n 0, 1) := by decide +kernel
theorem dL_law_1360 : decode cL_law 1360 = .ok (.iload 4, 2) := by decide +kernel
theorem dL_law_1362 : decode cL_law 1362 = .ok (.iconst 1, 1) := by decide +kernel
theorem dL_law_1363 : decode cL_law 1363 = .ok (.iadd, 1) := by decide +kernel
theorem dL_law_1364 : decode cL_law 1364 = .ok (.iaload, 1) := by decide +kernel
theorem dL_law_1365 : decode cL_law 1365 = .ok (.aload_n 3, 1) := by decide +kernel
theorem dL_law_1366 : decode cL_law 1366 = .ok (.invokestatic 145, 3) := by decide +kernel
theorem dL_law_1369 : decode cL_law 1369 = .ok (.istore 5, 2) := by decide +kernel
theorem dL_law_1371 : decode cL_law 1371 = .ok (.aload_n 2, 1) := by decide +kernel
theorem dL_law_1372 : decode cL_law 1372 = .ok (.aload_n 0, 1) := by decide +kernel
theorem dL_law_1373 : decode cL_law 1373 = .ok (.iload 4, 2) := by decide +kernel
theorem dL_law_1375 : decode cL_law 1375 = .ok (.iconst 1, 1) := by decide +kernel
theorem dL_law_1376 : decode cL_law 1376 = .ok (.iadd, 1) := by decide +kernel
theorem dL_law_1377 : decode cL_law 1377 = .ok (.iaload, 1) := by decide +kernel
theorem dL_law_1378 : decode cL_law 1378 = .ok (.invokevirtual 147, 3) := by decide +kernel
theorem dL_law_1381 : decode cL_law 1381 = .ok (.istore 6, 2) := by decide +kernel
theorem dL_law_1383 : decode cL_law 1383 = .ok (.aload_n 2, 1) := by decide +kernel
theorem dL_law_1384 : decode cL_law 1384 = .ok (.invokevirtual 87, 3) := by decide +kernel
theorem dL_law_1387 : decode cL_law 1387 = .ok (.iload 5, 2) := by decide +kernel
theorem dL_law_1389 : decode cL_law 1389 = .ok (.if_icmp .eq 5, 3) := by decide +kernel
theorem dL_law_1392 : decode cL_law 1392 = .ok (.iconst 0, 1) := by decide +kernel
theorem dL_law_1393 : decode cL_law 1393 = .ok (.ireturn, 1) := by decide +kernel
theorem dL_law_1394 : decode cL_law 1394 = .ok (.iload 5, 2) := by decide +kernel
theorem dL_law_1396 : decode cL_law 1396 = .ok (.ifCond .ne 15, 3) := by decide +kernel
theorem dL_law_1399 : decode cL_law 1399 = .ok (.aload_n 3, 1) := by decide +kernel
theorem dL_law_1400 : decode cL_law 1400 = .ok (.iconst 0, 1) := by decide +kernel
theorem dL_law_1401 : decode cL_law 1401 = .ok (.laload, 1) := by decide +kernel
theorem dL_law_1402 : decode cL_law 1402 = .ok (.iload 6, 2) := by decide +kernel
theorem dL_law_1404 : decode cL_law 1404 = .ok (.i2l, 1) := by decide +kernel
theorem dL_law_1405 : decode cL_law 1405 = .ok (.lcmp, 1) := by decide +kernel
theorem dL_law_1406 : decode cL_law 1406 = .ok (.ifCond .eq 5, 3) := by decide +kernel
theorem dL_law_1409 : decode cL_law 1409 = .ok (.iconst 0, 1) := by decide +kernel
theorem dL_law_1410 : decode cL_law 1410 = .ok (.ireturn, 1) := by decide +kernel
theorem dL_law_1411 : decode cL_law 1411 = .ok (.goto 71, 3) := by decide +kernel
theorem dL_law_1414 : decode cL_law 1414 = .ok (.aload_n 1, 1) := by decide +kernel
theorem dL_law_1415 : decode cL_law 1415 = .ok (.invokevirtual 148, 3) := by decide +kernel
theorem dL_law_1418 : decode cL_law 1418 = .ok (.aload_n 2, 1) := by decide +kernel
theorem dL_law_1419 : decode cL_law 1419 = .ok (.invokevirtual 151, 3) := by decide +kernel
theorem dL_law_1422 : decode cL_law 1422 = .ok (.if_icmp .eq 60, 3) := by decide +kernel
theorem dL_law_1425 : decode cL_law 1425 = .ok (.iconst 0, 1) := by decide +kernel
theorem dL_law_1426 : decode cL_law 1426 = .ok (.ireturn, 1) := by decide +kernel
theorem dL_law_1427 : decode cL_law 1427 = .ok (.aload_n 1, 1) := by decide +kernel
theorem dL_law_1428 : decode cL_law 1428 = .ok (.invokevirtual 152, 3) := by decide +kernel
theorem dL_law_1431 : decode cL_law 1431 = .ok (.dstore 5, 2) := by decide +kernel
theorem dL_law_1433 : decode cL_law 1433 = .ok (.aload_n 2, 1) := by decide +kernel
theorem dL_law_1434 : decode cL_law 1434 = .ok (.invokevirtual 156, 3) := by decide +kernel
theorem dL_law_1437 : decode cL_law 1437 = .ok (.dstore 7, 2) := by decide +kernel
theorem dL_law_1439 : decode cL_law 1439 = .ok (.dload 5, 2) := by decide +kernel
theorem dL_law_1441 : decode cL_law 1441 = .ok (.dload 7, 2) := by decide +kernel
theorem dL_law_1443 : decode cL_law 1443 = .ok (.dcmp .l, 1) := by decide +kernel
theorem dL_law_1444 : decode cL_law 1444 = .ok (.ifCond .eq 21, 3) := by decide +kernel
theorem dL_law_1447 : decode cL_law 1447 = .ok (.dload 5, 2) := by decide +kernel
theorem dL_law_1449 : decode cL_law 1449 = .ok (.dload 5, 2) := by decide +kernel
theorem dL_law_1451 : decode cL_law 1451 = .ok (.dcmp .l, 1) := by decide +kernel
theorem dL_law_1452 : decode cL_law 1452 = .ok (.ifCond .eq 11, 3) := by decide +kernel
theorem dL_law_1455 : decode cL_law 1455 = .ok (.dload 7, 2) := by decide +kernel
theorem dL_law_1457 : decode cL_law 1457 = .ok (.dload 7, 2) := by decide +kernel
theorem dL_law_1459 : decode cL_law 1459 = .ok (.dcmp .l, 1) := by decide +kernel
theorem dL_law_1460 : decode cL_law 1460 = .ok (.ifCond .ne 5, 3) := by decide +kernel
theorem dL_law_1463 : decode cL_law 1463 = .ok (.iconst 0, 1) := by decide +kernel
theorem dL_law_1464 : decode cL_law 1464 = .ok (.ireturn, 1) := by decide +kernel
theorem dL_law_1465 : decode cL_law 1465 = .ok (.goto 17, 3) := by decide +kernel
theorem dL_law_1468 : decode cL_law 1468 = .ok (.aload_n 1, 1) := by decide +kernel
theorem dL_law_1469 : decode cL_law 1469 = .ok (.invokevirtual 157, 3) := by decide +kernel
theorem dL_law_1472 : decode cL_law 1472 = .ok (.aload_n 2, 1) := by decide +kernel
theorem dL_law_1473 : decode cL_law 1473 = .ok (.invokevirtual 161, 3) := by decide +kernel
theorem dL_law_1476 : decode cL_law 1476 = .ok (.lcmp, 1) := by decide +kernel
theorem dL_law_1477 : decode cL_law 1477 = .ok (.ifCond .eq 5, 3) := by decide +kernel
theorem dL_law_1480 : decode cL_law 1480 = .ok (.iconst 0, 1) := by decide +kernel
theorem dL_law_1481 : decode cL_law 1481 = .ok (.ireturn, 1) := by decide +kernel
theorem dL_law_1482 : decode cL_law 1482 = .ok (.iinc 4 4, 3) := by decide +kernel
theorem dL_law_1485 : decode cL_law 1485 = .ok (.goto (-1462), 3) := by decide +kernel
theorem dL_law_1488 : decode cL_law 1488 = .ok (.iconst 1, 1) := by decide +kernel
theorem dL_law_1489 : decode cL_law 1489 = .ok (.ireturn, 1) := by decide +kernel
end
section
/-- the tables' good words: every method's own word list is its code and these -/
def GW : List Cond := lw_tbl.filter goodWord
theorem gwm {w : Cond} (i : Nat) (h : lw_tbl[i]? = some w) (hg : goodWord w = true) : w ∈ GW := List.mem_filter.mpr ⟨List.mem_of_getElem? h, hg⟩
theorem gw_good : ∀ w ∈ GW, goodWord w = true := fun _ h => (List.mem_filter.mp h).2
/-- the tables' words that a call doesn't hand on by itself: members of nest mates, declared, castable -/
def nwk : Cond → Bool
  | .fieldLinkNest .. => true
  | .methodLinkNest .. => true
  | .declares _ => true
  | .castable .. => true
  | _ => false
def NW : List Cond := lw_tbl.filter nwk
theorem nwm {w : Cond} (i : Nat) (h : lw_tbl[i]? = some w) (hg : nwk w = true) : w ∈ NW := List.mem_filter.mpr ⟨List.mem_of_getElem? h, hg⟩
theorem nw_warm {s U : State} {w : Cond} (hk : nwk w = true) (hW : s.WarmedH U.vm) (h : va_Nw w s) : va_Nw w U := by
  cases w <;> first | exact va_Nw.warmF hW h | exact va_Nw.warmM hW h | exact va_Nw.warmD hW h | exact va_Nw.warmC hW h | cases hk
theorem nw_tab {w : Cond} (hk : nwk w = true) : w.onTables = true := by cases w <;> first | rfl | cases hk
theorem good_in {ws : List Cond} (h : ∀ w ∈ ws, w ∈ GW) : GoodIn GW ws := fun w hw => ⟨h w hw, good_of_word (gw_good w (h w hw))⟩

theorem gw0 : Cond.selects RX3 yX3_lockAt yX3_lockAt ∈ GW := gwm 0 (by decide +kernel) (by decide +kernel)
theorem gw1 : Cond.selects "java/lang/Throwable" ⟨"java/lang/Throwable", "fillInStackTrace", "(I)Ljava/lang/Throwable;"⟩ ⟨"java/lang/Throwable", "fillInStackTrace", "(I)Ljava/lang/Throwable;"⟩ ∈ GW := gwm 1 (by decide +kernel) (by decide +kernel)
theorem gw2 : Cond.selects RX2 yX2_wordsWith yX2_wordsWith ∈ GW := gwm 2 (by decide +kernel) (by decide +kernel)
theorem gw3 : Cond.selects RX2 yX2_lesserWordsOfSum yX2_lesserWordsOfSum ∈ GW := gwm 3 (by decide +kernel) (by decide +kernel)
theorem gw4 : Cond.selects RX3 yX3_allWear yX3_allWear ∈ GW := gwm 4 (by decide +kernel) (by decide +kernel)
theorem gw5 : Cond.selects RX3 yX3_openLocks yX3_openLocks ∈ GW := gwm 5 (by decide +kernel) (by decide +kernel)
theorem gw6 : Cond.selects RX3 yX3_lostWords yX3_lostWords ∈ GW := gwm 6 (by decide +kernel) (by decide +kernel)
theorem gw7 : Cond.selects RX3 yX3_locksInRacks yX3_locksInRacks ∈ GW := gwm 7 (by decide +kernel) (by decide +kernel)
theorem gw8 : Cond.selects RX3 yX3_locksIn yX3_locksIn ∈ GW := gwm 8 (by decide +kernel) (by decide +kernel)
theorem gw9 : Cond.selects RX3 yX3_rackAt yX3_rackAt ∈ GW := gwm 9 (by decide +kernel) (by decide +kernel)
theorem gw10 : Cond.selects RX3 yX3_isRack yX3_isRack ∈ GW := gwm 10 (by decide +kernel) (by decide +kernel)
theorem gw11 : Cond.selects RX3 yX3_openLocksIn yX3_openLocksIn ∈ GW := gwm 11 (by decide +kernel) (by decide +kernel)
theorem gw12 : Cond.selects RX3 yX3_digestOfLock yX3_digestOfLock ∈ GW := gwm 12 (by decide +kernel) (by decide +kernel)
theorem gw13 : Cond.selects RX0 yX0_mostWorn yX0_mostWorn ∈ GW := gwm 13 (by decide +kernel) (by decide +kernel)
theorem gw14 : Cond.selects RJx4a65c yJx4a65c_add_72be8 yJx4a65c_add_72be8 ∈ GW := gwm 14 (by decide +kernel) (by decide +kernel)
theorem gw15 : Cond.selects RJx4a65c yJx4a65c_grow_d5877 yJx4a65c_grow_d5877 ∈ GW := gwm 15 (by decide +kernel) (by decide +kernel)
theorem gw16 : Cond.selects RJx4a65c yJx4a65c_grow_92f84 yJx4a65c_grow_92f84 ∈ GW := gwm 16 (by decide +kernel) (by decide +kernel)
theorem gw17 : Cond.selects RX3 yX3_takesAnother yX3_takesAnother ∈ GW := gwm 17 (by decide +kernel) (by decide +kernel)
theorem gw18 : Cond.selects RX3 yX3_letHourGoBy yX3_letHourGoBy ∈ GW := gwm 18 (by decide +kernel) (by decide +kernel)
theorem gw19 : Cond.selects RX0 yX0_wearMore yX0_wearMore ∈ GW := gwm 19 (by decide +kernel) (by decide +kernel)
theorem gw20 : Cond.selects RX3 yX3_isInClosedRack yX3_isInClosedRack ∈ GW := gwm 20 (by decide +kernel) (by decide +kernel)
theorem gw21 : Cond.selects RX4 yX4_fail yX4_fail ∈ GW := gwm 21 (by decide +kernel) (by decide +kernel)
theorem gw22 : Cond.selects RX4 yX4_let yX4_let ∈ GW := gwm 22 (by decide +kernel) (by decide +kernel)
theorem gw23 : Cond.selects RX4 yX4_isLock yX4_isLock ∈ GW := gwm 23 (by decide +kernel) (by decide +kernel)
theorem gw24 : Cond.selects RX4 yX4_lo yX4_lo ∈ GW := gwm 24 (by decide +kernel) (by decide +kernel)
theorem gw25 : Cond.selects RX4 yX4_stands yX4_stands ∈ GW := gwm 25 (by decide +kernel) (by decide +kernel)
theorem gw26 : Cond.selects RX4 yX4_close yX4_close ∈ GW := gwm 26 (by decide +kernel) (by decide +kernel)
theorem gw27 : Cond.selects RX4 yX4_in yX4_in ∈ GW := gwm 27 (by decide +kernel) (by decide +kernel)
theorem gw28 : Cond.selects RX4 yX4_ra yX4_ra ∈ GW := gwm 28 (by decide +kernel) (by decide +kernel)
theorem gw29 : Cond.selects RX4 yX4_isOpen yX4_isOpen ∈ GW := gwm 29 (by decide +kernel) (by decide +kernel)
theorem gw30 : Cond.selects RX4 yX4_lockTold yX4_lockTold ∈ GW := gwm 30 (by decide +kernel) (by decide +kernel)
theorem gw31 : Cond.selects RX4 yX4_shows yX4_shows ∈ GW := gwm 31 (by decide +kernel) (by decide +kernel)
theorem gw32 : Cond.selects RX4 yX4_we yX4_we ∈ GW := gwm 32 (by decide +kernel) (by decide +kernel)
theorem gw33 : Cond.selects RX4 yX4_rackTold yX4_rackTold ∈ GW := gwm 33 (by decide +kernel) (by decide +kernel)
theorem gw34 : Cond.selects RX4 yX4_counted yX4_counted ∈ GW := gwm 34 (by decide +kernel) (by decide +kernel)
theorem gw35 : Cond.selects RX4 yX4_tried yX4_tried ∈ GW := gwm 35 (by decide +kernel) (by decide +kernel)
theorem gw36 : Cond.selects RX4 yX4_places yX4_places ∈ GW := gwm 36 (by decide +kernel) (by decide +kernel)
theorem gw37 : Cond.selects RX4 yX4_hoursOn yX4_hoursOn ∈ GW := gwm 37 (by decide +kernel) (by decide +kernel)
theorem gw38 : Cond.selects RX4 yX4_hourOn yX4_hourOn ∈ GW := gwm 38 (by decide +kernel) (by decide +kernel)
theorem gw39 : Cond.selects RX4 yX4_wearAt yX4_wearAt ∈ GW := gwm 39 (by decide +kernel) (by decide +kernel)
theorem gw40 : Cond.selects RX4 yX4_bringBack yX4_bringBack ∈ GW := gwm 40 (by decide +kernel) (by decide +kernel)
theorem gw41 : Cond.initialized RL ∈ GW := gwm 41 (by decide +kernel) (by decide +kernel)
theorem gw42 : Cond.initialized RX3 ∈ GW := gwm 42 (by decide +kernel) (by decide +kernel)
theorem gw43 : Cond.initialized RJxa1e45 ∈ GW := gwm 43 (by decide +kernel) (by decide +kernel)
theorem gw44 : Cond.initialized RJxc12de ∈ GW := gwm 44 (by decide +kernel) (by decide +kernel)
theorem gw45 : Cond.initialized RJx4a65c ∈ GW := gwm 45 (by decide +kernel) (by decide +kernel)
theorem gw46 : Cond.initialized RX1 ∈ GW := gwm 46 (by decide +kernel) (by decide +kernel)
theorem gw47 : Cond.initialized RX2 ∈ GW := gwm 47 (by decide +kernel) (by decide +kernel)
theorem gw48 : Cond.initialized RX0 ∈ GW := gwm 48 (by decide +kernel) (by decide +kernel)
theorem gw49 : Cond.initialized RX4 ∈ GW := gwm 49 (by decide +kernel) (by decide +kernel)
theorem gw50 : Cond.initialized "java/lang/Throwable" ∈ GW := gwm 50 (by decide +kernel) (by decide +kernel)
theorem gw51 : Cond.initialized "java/lang/Exception" ∈ GW := gwm 51 (by decide +kernel) (by decide +kernel)
theorem gw52 : Cond.initialized "java/lang/RuntimeException" ∈ GW := gwm 52 (by decide +kernel) (by decide +kernel)
theorem gw53 : Cond.initialized "java/lang/IllegalArgumentException" ∈ GW := gwm 53 (by decide +kernel) (by decide +kernel)
theorem gw54 : Cond.initialized "java/lang/IllegalStateException" ∈ GW := gwm 54 (by decide +kernel) (by decide +kernel)
theorem gw55 : Cond.initialized RJ8 ∈ GW := gwm 55 (by decide +kernel) (by decide +kernel)
theorem gw56 : Cond.initialized RJ9 ∈ GW := gwm 56 (by decide +kernel) (by decide +kernel)
theorem gw57 : Cond.initialized RJ7 ∈ GW := gwm 57 (by decide +kernel) (by decide +kernel)
theorem gw58 : Cond.initialized RJ10 ∈ GW := gwm 58 (by decide +kernel) (by decide +kernel)
theorem gw59 : Cond.initialized "java/lang/IndexOutOfBoundsException" ∈ GW := gwm 59 (by decide +kernel) (by decide +kernel)
theorem gw60 : Cond.initialized RJ15 ∈ GW := gwm 60 (by decide +kernel) (by decide +kernel)
theorem gw61 : Cond.initialized RJ3 ∈ GW := gwm 61 (by decide +kernel) (by decide +kernel)
theorem gw62 : Cond.classLink RL 8 RX3 ∈ GW := gwm 62 (by decide +kernel) (by decide +kernel)
theorem gw63 : Cond.instantiable RX3 6 ∈ GW := gwm 63 (by decide +kernel) (by decide +kernel)
theorem gw64 : Cond.methodLink RL 77 yX3_init ∈ GW := gwm 64 (by decide +kernel) (by decide +kernel)
theorem gw65 : Cond.instanceMethod yX3_init ∈ GW := gwm 65 (by decide +kernel) (by decide +kernel)
theorem gw66 : Cond.code yX3_init cX3_init 2 (Option.none : Option Jvm.ClassFile.FieldType) ∈ GW := gwm 66 (by decide +kernel) (by decide +kernel)
theorem gw67 : Cond.methodLink RX3 1 objectInit ∈ GW := gwm 67 (by decide +kernel) (by decide +kernel)
theorem gw68 : Cond.instanceMethod objectInit ∈ GW := gwm 68 (by decide +kernel) (by decide +kernel)
theorem gw69 : Cond.code objectInit ⟨#[0xb1]⟩ 1 none ∈ GW := gwm 69 (by decide +kernel) (by decide +kernel)
theorem gw70 : Cond.classLink RX3 7 RJx4a65c ∈ GW := gwm 70 (by decide +kernel) (by decide +kernel)
theorem gw71 : Cond.instantiable RJx4a65c 3 ∈ GW := gwm 71 (by decide +kernel) (by decide +kernel)
theorem gw72 : Cond.methodLink RX3 9 yJx4a65c_init_da8c8 ∈ GW := gwm 72 (by decide +kernel) (by decide +kernel)
theorem gw73 : Cond.instanceMethod yJx4a65c_init_da8c8 ∈ GW := gwm 73 (by decide +kernel) (by decide +kernel)
theorem gw74 : Cond.code yJx4a65c_init_da8c8 cJx4a65c_init_da8c8 1 (Option.none : Option Jvm.ClassFile.FieldType) ∈ GW := gwm 74 (by decide +kernel) (by decide +kernel)
theorem gw75 : Cond.methodLink RJx4a65c 1 yJxc12de_init_da8c8 ∈ GW := gwm 75 (by decide +kernel) (by decide +kernel)
theorem gw76 : Cond.instanceMethod yJxc12de_init_da8c8 ∈ GW := gwm 76 (by decide +kernel) (by decide +kernel)
theorem gw77 : Cond.code yJxc12de_init_da8c8 cJxc12de_init_da8c8 1 (Option.none : Option Jvm.ClassFile.FieldType) ∈ GW := gwm 77 (by decide +kernel) (by decide +kernel)
theorem gw78 : Cond.methodLink RJxc12de 1 yJxa1e45_init_da8c8 ∈ GW := gwm 78 (by decide +kernel) (by decide +kernel)
theorem gw79 : Cond.instanceMethod yJxa1e45_init_da8c8 ∈ GW := gwm 79 (by decide +kernel) (by decide +kernel)
theorem gw80 : Cond.code yJxa1e45_init_da8c8 cJxa1e45_init_da8c8 1 (Option.none : Option Jvm.ClassFile.FieldType) ∈ GW := gwm 80 (by decide +kernel) (by decide +kernel)
theorem gw81 : Cond.methodLink RJxa1e45 1 objectInit ∈ GW := gwm 81 (by decide +kernel) (by decide +kernel)
theorem gw82 : Cond.fieldLink RJx4a65c 39 "java/util/ArrayList" "DEFAULTCAPACITY_EMPTY_ELEMENTDATA" "[Ljava/lang/Object;" ∈ GW := gwm 82 (by decide +kernel) (by decide +kernel)
theorem gw84 : Cond.fieldLink RJx4a65c 9 "java/util/ArrayList" "elementData" "[Ljava/lang/Object;" ∈ GW := gwm 84 (by decide +kernel) (by decide +kernel)
theorem gw85 : Cond.fieldLink RJx4a65c 48 "java/util/ArrayList" "size" "I" ∈ GW := gwm 85 (by decide +kernel) (by decide +kernel)
theorem gw86 : Cond.fieldLink RJxc12de 7 "java/util/AbstractList" "modCount" "I" ∈ GW := gwm 86 (by decide +kernel) (by decide +kernel)
theorem gw87 : Cond.fieldLink RJx4a65c 63 "java/util/ArrayList" "modCount" "I" ∈ GW := gwm 87 (by decide +kernel) (by decide +kernel)
theorem gw96 : Cond.classLink RX3 16 RX1 ∈ GW := gwm 96 (by decide +kernel) (by decide +kernel)
theorem gw98 : Cond.instantiable RX1 3 ∈ GW := gwm 98 (by decide +kernel) (by decide +kernel)
theorem nw99 : Cond.methodLinkNest RX3 22 yX1_init "LetterLocks" ∈ NW := nwm 99 (by decide +kernel) (by decide +kernel)
theorem gw100 : Cond.instanceMethod yX1_init ∈ GW := gwm 100 (by decide +kernel) (by decide +kernel)
theorem gw101 : Cond.code yX1_init cX1_init 1 (Option.none : Option Jvm.ClassFile.FieldType) ∈ GW := gwm 101 (by decide +kernel) (by decide +kernel)
theorem gw102 : Cond.methodLink RX1 3 objectInit ∈ GW := gwm 102 (by decide +kernel) (by decide +kernel)
theorem gw103 : Cond.fieldLink RX1 9 "LetterLocks$Rack" "places" "I" ∈ GW := gwm 103 (by decide +kernel) (by decide +kernel)
theorem nw104 : Cond.fieldLinkNest RX3 123 "LetterLocks$Rack" "places" "I" "LetterLocks" ∈ NW := nwm 104 (by decide +kernel) (by decide +kernel)
theorem gw105 : Cond.fieldLink RX1 15 "LetterLocks$Rack" "from" "I" ∈ GW := gwm 105 (by decide +kernel) (by decide +kernel)
theorem nw106 : Cond.fieldLinkNest RX3 128 "LetterLocks$Rack" "from" "I" "LetterLocks" ∈ NW := nwm 106 (by decide +kernel) (by decide +kernel)
theorem gw107 : Cond.fieldLink RX1 18 "LetterLocks$Rack" "to" "I" ∈ GW := gwm 107 (by decide +kernel) (by decide +kernel)
theorem nw108 : Cond.fieldLinkNest RX3 131 "LetterLocks$Rack" "to" "I" "LetterLocks" ∈ NW := nwm 108 (by decide +kernel) (by decide +kernel)
theorem gw116 : Cond.classLink RX3 23 RX2 ∈ GW := gwm 116 (by decide +kernel) (by decide +kernel)
theorem gw117 : Cond.instantiable RX2 1 ∈ GW := gwm 117 (by decide +kernel) (by decide +kernel)
theorem gw118 : Cond.methodLink RX3 25 yX2_init ∈ GW := gwm 118 (by decide +kernel) (by decide +kernel)
theorem gw119 : Cond.instanceMethod yX2_init ∈ GW := gwm 119 (by decide +kernel) (by decide +kernel)
theorem gw120 : Cond.code yX2_init cX2_init 4 (Option.none : Option Jvm.ClassFile.FieldType) ∈ GW := gwm 120 (by decide +kernel) (by decide +kernel)
theorem gw121 : Cond.methodLink RX2 3 objectInit ∈ GW := gwm 121 (by decide +kernel) (by decide +kernel)
theorem gw122 : Cond.classLink RX2 11 "[[I" ∈ GW := gwm 122 (by decide +kernel) (by decide +kernel)
theorem gw124 : Cond.fieldLink RX2 13 "LetterLocks$Thief" "wordsOfRingsAndSum" "[[I" ∈ GW := gwm 124 (by decide +kernel) (by decide +kernel)
theorem gw129 : Cond.classLink RX3 30 RX0 ∈ GW := gwm 129 (by decide +kernel) (by decide +kernel)
theorem gw130 : Cond.instantiable RX0 6 ∈ GW := gwm 130 (by decide +kernel) (by decide +kernel)
theorem gw131 : Cond.methodLink RX3 32 yX0_init ∈ GW := gwm 131 (by decide +kernel) (by decide +kernel)
theorem gw132 : Cond.instanceMethod yX0_init ∈ GW := gwm 132 (by decide +kernel) (by decide +kernel)
theorem gw133 : Cond.code yX0_init cX0_init 2 (Option.none : Option Jvm.ClassFile.FieldType) ∈ GW := gwm 133 (by decide +kernel) (by decide +kernel)
theorem gw134 : Cond.methodLink RX0 3 objectInit ∈ GW := gwm 134 (by decide +kernel) (by decide +kernel)
theorem gw135 : Cond.fieldLink RX0 9 "LetterLocks$Lock" "letters" "[I" ∈ GW := gwm 135 (by decide +kernel) (by decide +kernel)
theorem gw136 : Cond.fieldLink RX0 15 "LetterLocks$Lock" "wears" "[I" ∈ GW := gwm 136 (by decide +kernel) (by decide +kernel)
theorem gw137 : Cond.fieldLink RX0 29 "LetterLocks$Lock" "word" "I" ∈ GW := gwm 137 (by decide +kernel) (by decide +kernel)
theorem nw138 : Cond.fieldLinkNest RX3 95 "LetterLocks$Lock" "word" "I" "LetterLocks" ∈ NW := nwm 138 (by decide +kernel) (by decide +kernel)
theorem gw139 : Cond.fieldLink RX0 18 "LetterLocks$Lock" "inRack" "I" ∈ GW := gwm 139 (by decide +kernel) (by decide +kernel)
theorem nw140 : Cond.fieldLinkNest RX3 142 "LetterLocks$Lock" "inRack" "I" "LetterLocks" ∈ NW := nwm 140 (by decide +kernel) (by decide +kernel)
theorem gw141 : Cond.fieldLink RX0 22 "LetterLocks$Lock" "isOpen" "Z" ∈ GW := gwm 141 (by decide +kernel) (by decide +kernel)
theorem nw142 : Cond.fieldLinkNest RX3 98 "LetterLocks$Lock" "isOpen" "Z" "LetterLocks" ∈ NW := nwm 142 (by decide +kernel) (by decide +kernel)
theorem gw143 : Cond.fieldLink RX0 26 "LetterLocks$Lock" "isLost" "Z" ∈ GW := gwm 143 (by decide +kernel) (by decide +kernel)
theorem nw144 : Cond.fieldLinkNest RX3 109 "LetterLocks$Lock" "isLost" "Z" "LetterLocks" ∈ NW := nwm 144 (by decide +kernel) (by decide +kernel)
theorem gw158 : Cond.fieldLink RX3 10 "LetterLocks" "locks" "Ljava/util/ArrayList;" ∈ GW := gwm 158 (by decide +kernel) (by decide +kernel)
theorem gw159 : Cond.fieldLink RX3 18 "LetterLocks" "racks" "[LLetterLocks$Rack;" ∈ GW := gwm 159 (by decide +kernel) (by decide +kernel)
theorem gw160 : Cond.fieldLink RX3 26 "LetterLocks" "thief" "LLetterLocks$Thief;" ∈ GW := gwm 160 (by decide +kernel) (by decide +kernel)
theorem gw161 : Cond.fieldLink RX3 35 "LetterLocks" "foreseen" "LLetterLocks$Lock;" ∈ GW := gwm 161 (by decide +kernel) (by decide +kernel)
theorem gw162 : Cond.fieldLink RX3 39 "LetterLocks" "hour" "I" ∈ GW := gwm 162 (by decide +kernel) (by decide +kernel)
theorem gw163 : Cond.fieldLink RX3 43 "LetterLocks" "turns" "I" ∈ GW := gwm 163 (by decide +kernel) (by decide +kernel)
theorem gw177 : Cond.methodLink RL 148 yX3_weakest ∈ GW := gwm 177 (by decide +kernel) (by decide +kernel)
theorem gw178 : Cond.instanceMethod yX3_weakest ∈ GW := gwm 178 (by decide +kernel) (by decide +kernel)
theorem gw179 : Cond.selects RX3 yX3_weakest yX3_weakest ∈ GW := gwm 179 (by decide +kernel) (by decide +kernel)
theorem gw180 : Cond.code yX3_weakest cX3_weakest 5 (Option.some Jvm.ClassFile.FieldType.int) ∈ GW := gwm 180 (by decide +kernel) (by decide +kernel)
theorem gw181 : Cond.methodLink RX3 49 yJx4a65c_size_8abf5 ∈ GW := gwm 181 (by decide +kernel) (by decide +kernel)
theorem gw182 : Cond.instanceMethod yJx4a65c_size_8abf5 ∈ GW := gwm 182 (by decide +kernel) (by decide +kernel)
theorem gw183 : Cond.selects RJx4a65c yJx4a65c_size_8abf5 yJx4a65c_size_8abf5 ∈ GW := gwm 183 (by decide +kernel) (by decide +kernel)
theorem gw184 : Cond.code yJx4a65c_size_8abf5 cJx4a65c_size_8abf5 1 (Option.some Jvm.ClassFile.FieldType.int) ∈ GW := gwm 184 (by decide +kernel) (by decide +kernel)
theorem gw185 : Cond.methodLink RX3 202 yX3_safe ∈ GW := gwm 185 (by decide +kernel) (by decide +kernel)
theorem gw186 : Cond.instanceMethod yX3_safe ∈ GW := gwm 186 (by decide +kernel) (by decide +kernel)
theorem gw187 : Cond.selects RX3 yX3_safe yX3_safe ∈ GW := gwm 187 (by decide +kernel) (by decide +kernel)
theorem gw188 : Cond.code yX3_safe cX3_safe 3 (Option.some Jvm.ClassFile.FieldType.int) ∈ GW := gwm 188 (by decide +kernel) (by decide +kernel)
theorem gw189 : Cond.methodLink RX3 64 yX3_lockAt ∈ GW := gwm 189 (by decide +kernel) (by decide +kernel)
theorem gw191 : Cond.instanceMethod yX3_lockAt ∈ GW := gwm 191 (by decide +kernel) (by decide +kernel)
theorem gw192 : Cond.code yX3_lockAt cX3_lockAt 2 (Option.some (Jvm.ClassFile.FieldType.object "LetterLocks$Lock")) ∈ GW := gwm 192 (by decide +kernel) (by decide +kernel)
theorem gw193 : Cond.classLink RX3 137 "java/lang/IndexOutOfBoundsException" ∈ GW := gwm 193 (by decide +kernel) (by decide +kernel)
theorem gw194 : Cond.instantiable "java/lang/IndexOutOfBoundsException" 6 ∈ GW := gwm 194 (by decide +kernel) (by decide +kernel)
theorem nw195 : Cond.castable "java/lang/IndexOutOfBoundsException" "java/lang/IndexOutOfBoundsException" ∈ NW := nwm 195 (by decide +kernel) (by decide +kernel)
theorem nw196 : Cond.declares ⟨"java/lang/RuntimeException", "<init>", "()V"⟩ ∈ NW := nwm 196 (by decide +kernel) (by decide +kernel)
theorem nw197 : Cond.declares ⟨"java/lang/RuntimeException", "<init>", "(Ljava/lang/String;)V"⟩ ∈ NW := nwm 197 (by decide +kernel) (by decide +kernel)
theorem nw198 : Cond.declares ⟨"java/lang/Exception", "<init>", "()V"⟩ ∈ NW := nwm 198 (by decide +kernel) (by decide +kernel)
theorem nw199 : Cond.declares ⟨"java/lang/Exception", "<init>", "(Ljava/lang/String;)V"⟩ ∈ NW := nwm 199 (by decide +kernel) (by decide +kernel)
theorem nw200 : Cond.declares ⟨"java/lang/Throwable", "<init>", "()V"⟩ ∈ NW := nwm 200 (by decide +kernel) (by decide +kernel)
theorem nw201 : Cond.declares ⟨"java/lang/Throwable", "<init>", "(Ljava/lang/String;)V"⟩ ∈ NW := nwm 201 (by decide +kernel) (by decide +kernel)
theorem gw202 : Cond.selects "java/lang/IndexOutOfBoundsException" ⟨"java/lang/Throwable", "fillInStackTrace", "(I)Ljava/lang/Throwable;"⟩ ⟨"java/lang/Throwable", "fillInStackTrace", "(I)Ljava/lang/Throwable;"⟩ ∈ GW := gwm 202 (by decide +kernel) (by decide +kernel)
theorem gw203 : Cond.selects "java/lang/IndexOutOfBoundsException" ⟨"java/lang/Throwable", "fillInStackTrace", "()Ljava/lang/Throwable;"⟩ ⟨"java/lang/Throwable", "fillInStackTrace", "()Ljava/lang/Throwable;"⟩ ∈ GW := gwm 203 (by decide +kernel) (by decide +kernel)
theorem gw214 : Cond.fieldLink "java/lang/Throwable" 198 "java/lang/Throwable" "backtrace" "Ljava/lang/Object;" ∈ GW := gwm 214 (by decide +kernel) (by decide +kernel)
theorem gw216 : Cond.instanceMethod ⟨"java/lang/Throwable", "<init>", "()V"⟩ ∈ GW := gwm 216 (by decide +kernel) (by decide +kernel)
theorem gw218 : Cond.methodLink "java/lang/Throwable" 1 objectInit ∈ GW := gwm 218 (by decide +kernel) (by decide +kernel)
theorem gw219 : Cond.fieldLink "java/lang/Throwable" 13 "java/lang/Throwable" "UNASSIGNED_STACK" "[Ljava/lang/StackTraceElement;" ∈ GW := gwm 219 (by decide +kernel) (by decide +kernel)
theorem gw221 : Cond.fieldLink "java/lang/Throwable" 20 "java/lang/Throwable" "SUPPRESSED_SENTINEL" "Ljava/util/List;" ∈ GW := gwm 221 (by decide +kernel) (by decide +kernel)
theorem gw223 : Cond.methodLink "java/lang/Throwable" 27 ⟨"java/lang/Throwable", "fillInStackTrace", "()Ljava/lang/Throwable;"⟩ ∈ GW := gwm 223 (by decide +kernel) (by decide +kernel)
theorem gw224 : Cond.instanceMethod ⟨"java/lang/Throwable", "fillInStackTrace", "()Ljava/lang/Throwable;"⟩ ∈ GW := gwm 224 (by decide +kernel) (by decide +kernel)
theorem gw226 : Cond.selects "java/lang/IllegalArgumentException" ⟨"java/lang/Throwable", "fillInStackTrace", "()Ljava/lang/Throwable;"⟩ ⟨"java/lang/Throwable", "fillInStackTrace", "()Ljava/lang/Throwable;"⟩ ∈ GW := gwm 226 (by decide +kernel) (by decide +kernel)
theorem gw227 : Cond.selects "java/lang/IllegalStateException" ⟨"java/lang/Throwable", "fillInStackTrace", "()Ljava/lang/Throwable;"⟩ ⟨"java/lang/Throwable", "fillInStackTrace", "()Ljava/lang/Throwable;"⟩ ∈ GW := gwm 227 (by decide +kernel) (by decide +kernel)
theorem gw229 : Cond.methodLink "java/lang/Throwable" 202 ⟨"java/lang/Throwable", "fillInStackTrace", "(I)Ljava/lang/Throwable;"⟩ ∈ GW := gwm 229 (by decide +kernel) (by decide +kernel)
theorem gw231 : Cond.instanceMethod ⟨"java/lang/Throwable", "fillInStackTrace", "(I)Ljava/lang/Throwable;"⟩ ∈ GW := gwm 231 (by decide +kernel) (by decide +kernel)
theorem gw232 : Cond.instantiable "java/lang/Throwable" 6 ∈ GW := gwm 232 (by decide +kernel) (by decide +kernel)
theorem gw233 : Cond.native ⟨"java/lang/Throwable", "fillInStackTrace", "(I)Ljava/lang/Throwable;"⟩ ∈ GW := gwm 233 (by decide +kernel) (by decide +kernel)
theorem gw235 : Cond.methodLink RX3 141 ⟨"java/lang/IndexOutOfBoundsException", "<init>", "(Ljava/lang/String;)V"⟩ ∈ GW := gwm 235 (by decide +kernel) (by decide +kernel)
theorem gw236 : Cond.instanceMethod ⟨"java/lang/IndexOutOfBoundsException", "<init>", "(Ljava/lang/String;)V"⟩ ∈ GW := gwm 236 (by decide +kernel) (by decide +kernel)
theorem gw238 : Cond.methodLink "java/lang/IndexOutOfBoundsException" 7 ⟨"java/lang/RuntimeException", "<init>", "(Ljava/lang/String;)V"⟩ ∈ GW := gwm 238 (by decide +kernel) (by decide +kernel)
theorem gw239 : Cond.instanceMethod ⟨"java/lang/RuntimeException", "<init>", "(Ljava/lang/String;)V"⟩ ∈ GW := gwm 239 (by decide +kernel) (by decide +kernel)
theorem gw241 : Cond.methodLink "java/lang/RuntimeException" 7 ⟨"java/lang/Exception", "<init>", "(Ljava/lang/String;)V"⟩ ∈ GW := gwm 241 (by decide +kernel) (by decide +kernel)
theorem gw242 : Cond.instanceMethod ⟨"java/lang/Exception", "<init>", "(Ljava/lang/String;)V"⟩ ∈ GW := gwm 242 (by decide +kernel) (by decide +kernel)
theorem gw244 : Cond.methodLink "java/lang/Exception" 7 ⟨"java/lang/Throwable", "<init>", "(Ljava/lang/String;)V"⟩ ∈ GW := gwm 244 (by decide +kernel) (by decide +kernel)
theorem gw245 : Cond.instanceMethod ⟨"java/lang/Throwable", "<init>", "(Ljava/lang/String;)V"⟩ ∈ GW := gwm 245 (by decide +kernel) (by decide +kernel)
theorem gw248 : Cond.fieldLink "java/lang/Throwable" 31 "java/lang/Throwable" "detailMessage" "Ljava/lang/String;" ∈ GW := gwm 248 (by decide +kernel) (by decide +kernel)
theorem gw249 : Cond.fieldLink "java/lang/Throwable" 7 "java/lang/Throwable" "cause" "Ljava/lang/Throwable;" ∈ GW := gwm 249 (by decide +kernel) (by decide +kernel)
theorem gw250 : Cond.fieldLink "java/lang/Throwable" 17 "java/lang/Throwable" "stackTrace" "[Ljava/lang/StackTraceElement;" ∈ GW := gwm 250 (by decide +kernel) (by decide +kernel)
theorem gw251 : Cond.fieldLink "java/lang/Throwable" 24 "java/lang/Throwable" "suppressedExceptions" "Ljava/util/List;" ∈ GW := gwm 251 (by decide +kernel) (by decide +kernel)
theorem gw261 : Cond.methodLink RX3 188 yJx4a65c_get_915e3 ∈ GW := gwm 261 (by decide +kernel) (by decide +kernel)
theorem gw262 : Cond.instanceMethod yJx4a65c_get_915e3 ∈ GW := gwm 262 (by decide +kernel) (by decide +kernel)
theorem gw263 : Cond.selects RJx4a65c yJx4a65c_get_915e3 yJx4a65c_get_915e3 ∈ GW := gwm 263 (by decide +kernel) (by decide +kernel)
theorem gw264 : Cond.code yJx4a65c_get_915e3 cJx4a65c_get_915e3 2 (Option.some (Jvm.ClassFile.FieldType.object "java/lang/Object")) ∈ GW := gwm 264 (by decide +kernel) (by decide +kernel)
theorem gw265 : Cond.methodLink RJx4a65c 118 yJ15_checkIndex_7cf53 ∈ GW := gwm 265 (by decide +kernel) (by decide +kernel)
theorem gw266 : Cond.static yJ15_checkIndex_7cf53 ∈ GW := gwm 266 (by decide +kernel) (by decide +kernel)
theorem gw267 : Cond.code yJ15_checkIndex_7cf53 cJ15_checkIndex_7cf53 2 (Option.some Jvm.ClassFile.FieldType.int) ∈ GW := gwm 267 (by decide +kernel) (by decide +kernel)
theorem gw268 : Cond.methodLink RJ15 105 yJ3_checkIndex_8e157 ∈ GW := gwm 268 (by decide +kernel) (by decide +kernel)
theorem gw269 : Cond.static yJ3_checkIndex_8e157 ∈ GW := gwm 269 (by decide +kernel) (by decide +kernel)
theorem gw270 : Cond.code yJ3_checkIndex_8e157 cJ3_checkIndex_8e157 3 (Option.some Jvm.ClassFile.FieldType.int) ∈ GW := gwm 270 (by decide +kernel) (by decide +kernel)
theorem gw271 : Cond.methodLink RJx4a65c 123 yJx4a65c_elementData_915e3 ∈ GW := gwm 271 (by decide +kernel) (by decide +kernel)
theorem gw272 : Cond.instanceMethod yJx4a65c_elementData_915e3 ∈ GW := gwm 272 (by decide +kernel) (by decide +kernel)
theorem gw273 : Cond.selects RJx4a65c yJx4a65c_elementData_915e3 yJx4a65c_elementData_915e3 ∈ GW := gwm 273 (by decide +kernel) (by decide +kernel)
theorem gw274 : Cond.code yJx4a65c_elementData_915e3 cJx4a65c_elementData_915e3 2 (Option.some (Jvm.ClassFile.FieldType.object "java/lang/Object")) ∈ GW := gwm 274 (by decide +kernel) (by decide +kernel)
theorem gw275 : Cond.methodLink RX3 181 yX2_trialOf ∈ GW := gwm 275 (by decide +kernel) (by decide +kernel)
theorem gw276 : Cond.instanceMethod yX2_trialOf ∈ GW := gwm 276 (by decide +kernel) (by decide +kernel)
theorem gw277 : Cond.selects RX2 yX2_trialOf yX2_trialOf ∈ GW := gwm 277 (by decide +kernel) (by decide +kernel)
theorem gw278 : Cond.code yX2_trialOf cX2_trialOf 6 (Option.some Jvm.ClassFile.FieldType.int) ∈ GW := gwm 278 (by decide +kernel) (by decide +kernel)
theorem gw279 : Cond.methodLink RX2 16 yX2_sumOfPlaces ∈ GW := gwm 279 (by decide +kernel) (by decide +kernel)
theorem gw280 : Cond.static yX2_sumOfPlaces ∈ GW := gwm 280 (by decide +kernel) (by decide +kernel)
theorem gw281 : Cond.code yX2_sumOfPlaces cX2_sumOfPlaces 4 (Option.some Jvm.ClassFile.FieldType.int) ∈ GW := gwm 281 (by decide +kernel) (by decide +kernel)
theorem nw282 : Cond.methodLinkNest RX2 28 yX3_letterOf "LetterLocks" ∈ NW := nwm 282 (by decide +kernel) (by decide +kernel)
theorem gw283 : Cond.static yX3_letterOf ∈ GW := gwm 283 (by decide +kernel) (by decide +kernel)
theorem gw284 : Cond.code yX3_letterOf cX3_letterOf 4 (Option.some Jvm.ClassFile.FieldType.int) ∈ GW := gwm 284 (by decide +kernel) (by decide +kernel)
theorem gw285 : Cond.methodLink RX2 31 yX0_placeInOrder ∈ GW := gwm 285 (by decide +kernel) (by decide +kernel)
theorem gw286 : Cond.instanceMethod yX0_placeInOrder ∈ GW := gwm 286 (by decide +kernel) (by decide +kernel)
theorem gw287 : Cond.selects RX0 yX0_placeInOrder yX0_placeInOrder ∈ GW := gwm 287 (by decide +kernel) (by decide +kernel)
theorem gw288 : Cond.code yX0_placeInOrder cX0_placeInOrder 7 (Option.some Jvm.ClassFile.FieldType.int) ∈ GW := gwm 288 (by decide +kernel) (by decide +kernel)
theorem gw289 : Cond.methodLink RX0 62 yX0_wearAt ∈ GW := gwm 289 (by decide +kernel) (by decide +kernel)
theorem gw290 : Cond.instanceMethod yX0_wearAt ∈ GW := gwm 290 (by decide +kernel) (by decide +kernel)
theorem gw291 : Cond.selects RX0 yX0_wearAt yX0_wearAt ∈ GW := gwm 291 (by decide +kernel) (by decide +kernel)
theorem gw292 : Cond.code yX0_wearAt cX0_wearAt 3 (Option.some Jvm.ClassFile.FieldType.int) ∈ GW := gwm 292 (by decide +kernel) (by decide +kernel)
theorem nw293 : Cond.methodLinkNest RX0 38 yX3_isRing "LetterLocks" ∈ NW := nwm 293 (by decide +kernel) (by decide +kernel)
theorem gw294 : Cond.static yX3_isRing ∈ GW := gwm 294 (by decide +kernel) (by decide +kernel)
theorem gw295 : Cond.code yX3_isRing cX3_isRing 1 (Option.some Jvm.ClassFile.FieldType.boolean) ∈ GW := gwm 295 (by decide +kernel) (by decide +kernel)
theorem nw296 : Cond.methodLinkNest RX0 42 yX3_isLetter "LetterLocks" ∈ NW := nwm 296 (by decide +kernel) (by decide +kernel)
theorem gw297 : Cond.static yX3_isLetter ∈ GW := gwm 297 (by decide +kernel) (by decide +kernel)
theorem gw298 : Cond.code yX3_isLetter cX3_isLetter 1 (Option.some Jvm.ClassFile.FieldType.boolean) ∈ GW := gwm 298 (by decide +kernel) (by decide +kernel)
theorem gw299 : Cond.methodLink RX2 20 yX2_wordsWith ∈ GW := gwm 299 (by decide +kernel) (by decide +kernel)
theorem gw301 : Cond.instanceMethod yX2_wordsWith ∈ GW := gwm 301 (by decide +kernel) (by decide +kernel)
theorem gw302 : Cond.code yX2_wordsWith cX2_wordsWith 3 (Option.some Jvm.ClassFile.FieldType.int) ∈ GW := gwm 302 (by decide +kernel) (by decide +kernel)
theorem gw303 : Cond.methodLink RX2 24 yX2_lesserWordsOfSum ∈ GW := gwm 303 (by decide +kernel) (by decide +kernel)
theorem gw305 : Cond.instanceMethod yX2_lesserWordsOfSum ∈ GW := gwm 305 (by decide +kernel) (by decide +kernel)
theorem gw306 : Cond.code yX2_lesserWordsOfSum cX2_lesserWordsOfSum 10 (Option.some Jvm.ClassFile.FieldType.int) ∈ GW := gwm 306 (by decide +kernel) (by decide +kernel)
theorem gw307 : Cond.methodLink RL 152 yX3_mean ∈ GW := gwm 307 (by decide +kernel) (by decide +kernel)
theorem gw308 : Cond.instanceMethod yX3_mean ∈ GW := gwm 308 (by decide +kernel) (by decide +kernel)
theorem gw309 : Cond.selects RX3 yX3_mean yX3_mean ∈ GW := gwm 309 (by decide +kernel) (by decide +kernel)
theorem gw310 : Cond.code yX3_mean cX3_mean 2 (Option.some Jvm.ClassFile.FieldType.double) ∈ GW := gwm 310 (by decide +kernel) (by decide +kernel)
theorem gw311 : Cond.methodLink RX3 170 yX3_allWear ∈ GW := gwm 311 (by decide +kernel) (by decide +kernel)
theorem gw313 : Cond.instanceMethod yX3_allWear ∈ GW := gwm 313 (by decide +kernel) (by decide +kernel)
theorem gw314 : Cond.code yX3_allWear cX3_allWear 3 (Option.some Jvm.ClassFile.FieldType.int) ∈ GW := gwm 314 (by decide +kernel) (by decide +kernel)
theorem gw315 : Cond.methodLink RX3 250 yX0_allWears ∈ GW := gwm 315 (by decide +kernel) (by decide +kernel)
theorem gw316 : Cond.instanceMethod yX0_allWears ∈ GW := gwm 316 (by decide +kernel) (by decide +kernel)
theorem gw317 : Cond.selects RX0 yX0_allWears yX0_allWears ∈ GW := gwm 317 (by decide +kernel) (by decide +kernel)
theorem gw318 : Cond.code yX0_allWears cX0_allWears 3 (Option.some Jvm.ClassFile.FieldType.int) ∈ GW := gwm 318 (by decide +kernel) (by decide +kernel)
theorem gw319 : Cond.methodLink RL 157 yX3_digest ∈ GW := gwm 319 (by decide +kernel) (by decide +kernel)
theorem gw320 : Cond.instanceMethod yX3_digest ∈ GW := gwm 320 (by decide +kernel) (by decide +kernel)
theorem gw321 : Cond.selects RX3 yX3_digest yX3_digest ∈ GW := gwm 321 (by decide +kernel) (by decide +kernel)
theorem gw322 : Cond.code yX3_digest cX3_digest 5 (Option.some Jvm.ClassFile.FieldType.long) ∈ GW := gwm 322 (by decide +kernel) (by decide +kernel)
theorem gw325 : Cond.methodLink RX3 209 yX3_count ∈ GW := gwm 325 (by decide +kernel) (by decide +kernel)
theorem gw326 : Cond.instanceMethod yX3_count ∈ GW := gwm 326 (by decide +kernel) (by decide +kernel)
theorem gw327 : Cond.selects RX3 yX3_count yX3_count ∈ GW := gwm 327 (by decide +kernel) (by decide +kernel)
theorem gw328 : Cond.code yX3_count cX3_count 2 (Option.some Jvm.ClassFile.FieldType.int) ∈ GW := gwm 328 (by decide +kernel) (by decide +kernel)
theorem gw329 : Cond.methodLink RX3 164 yX3_openLocks ∈ GW := gwm 329 (by decide +kernel) (by decide +kernel)
theorem gw331 : Cond.instanceMethod yX3_openLocks ∈ GW := gwm 331 (by decide +kernel) (by decide +kernel)
theorem gw332 : Cond.code yX3_openLocks cX3_openLocks 3 (Option.some Jvm.ClassFile.FieldType.int) ∈ GW := gwm 332 (by decide +kernel) (by decide +kernel)
theorem gw333 : Cond.methodLink RX3 167 yX3_lostWords ∈ GW := gwm 333 (by decide +kernel) (by decide +kernel)
theorem gw335 : Cond.instanceMethod yX3_lostWords ∈ GW := gwm 335 (by decide +kernel) (by decide +kernel)
theorem gw336 : Cond.code yX3_lostWords cX3_lostWords 3 (Option.some Jvm.ClassFile.FieldType.int) ∈ GW := gwm 336 (by decide +kernel) (by decide +kernel)
theorem gw337 : Cond.methodLink RX3 173 yX3_locksInRacks ∈ GW := gwm 337 (by decide +kernel) (by decide +kernel)
theorem gw339 : Cond.instanceMethod yX3_locksInRacks ∈ GW := gwm 339 (by decide +kernel) (by decide +kernel)
theorem gw340 : Cond.code yX3_locksInRacks cX3_locksInRacks 1 (Option.some Jvm.ClassFile.FieldType.int) ∈ GW := gwm 340 (by decide +kernel) (by decide +kernel)
theorem gw341 : Cond.methodLink RX3 118 yX3_locksIn ∈ GW := gwm 341 (by decide +kernel) (by decide +kernel)
theorem gw343 : Cond.instanceMethod yX3_locksIn ∈ GW := gwm 343 (by decide +kernel) (by decide +kernel)
theorem gw344 : Cond.code yX3_locksIn cX3_locksIn 4 (Option.some Jvm.ClassFile.FieldType.int) ∈ GW := gwm 344 (by decide +kernel) (by decide +kernel)
theorem gw346 : Cond.methodLink RX3 212 yX3_rack ∈ GW := gwm 346 (by decide +kernel) (by decide +kernel)
theorem gw347 : Cond.instanceMethod yX3_rack ∈ GW := gwm 347 (by decide +kernel) (by decide +kernel)
theorem gw348 : Cond.selects RX3 yX3_rack yX3_rack ∈ GW := gwm 348 (by decide +kernel) (by decide +kernel)
theorem gw349 : Cond.code yX3_rack cX3_rack 4 (Option.some Jvm.ClassFile.FieldType.int) ∈ GW := gwm 349 (by decide +kernel) (by decide +kernel)
theorem gw350 : Cond.methodLink RX3 112 yX3_rackAt ∈ GW := gwm 350 (by decide +kernel) (by decide +kernel)
theorem gw352 : Cond.instanceMethod yX3_rackAt ∈ GW := gwm 352 (by decide +kernel) (by decide +kernel)
theorem gw353 : Cond.code yX3_rackAt cX3_rackAt 2 (Option.some (Jvm.ClassFile.FieldType.object "LetterLocks$Rack")) ∈ GW := gwm 353 (by decide +kernel) (by decide +kernel)
theorem gw354 : Cond.methodLink RX3 134 yX3_isRack ∈ GW := gwm 354 (by decide +kernel) (by decide +kernel)
theorem gw356 : Cond.instanceMethod yX3_isRack ∈ GW := gwm 356 (by decide +kernel) (by decide +kernel)
theorem gw357 : Cond.code yX3_isRack cX3_isRack 2 (Option.some Jvm.ClassFile.FieldType.boolean) ∈ GW := gwm 357 (by decide +kernel) (by decide +kernel)
theorem gw359 : Cond.methodLink RX3 158 yX1_isOpenIn ∈ GW := gwm 359 (by decide +kernel) (by decide +kernel)
theorem gw360 : Cond.instanceMethod yX1_isOpenIn ∈ GW := gwm 360 (by decide +kernel) (by decide +kernel)
theorem gw361 : Cond.selects RX1 yX1_isOpenIn yX1_isOpenIn ∈ GW := gwm 361 (by decide +kernel) (by decide +kernel)
theorem gw362 : Cond.code yX1_isOpenIn cX1_isOpenIn 3 (Option.some Jvm.ClassFile.FieldType.boolean) ∈ GW := gwm 362 (by decide +kernel) (by decide +kernel)
theorem gw363 : Cond.methodLink RX3 161 yX3_openLocksIn ∈ GW := gwm 363 (by decide +kernel) (by decide +kernel)
theorem gw365 : Cond.instanceMethod yX3_openLocksIn ∈ GW := gwm 365 (by decide +kernel) (by decide +kernel)
theorem gw366 : Cond.code yX3_openLocksIn cX3_openLocksIn 5 (Option.some Jvm.ClassFile.FieldType.int) ∈ GW := gwm 366 (by decide +kernel) (by decide +kernel)
theorem gw368 : Cond.methodLink RX3 215 yX3_digestOfLock ∈ GW := gwm 368 (by decide +kernel) (by decide +kernel)
theorem gw370 : Cond.instanceMethod yX3_digestOfLock ∈ GW := gwm 370 (by decide +kernel) (by decide +kernel)
theorem gw371 : Cond.code yX3_digestOfLock cX3_digestOfLock 8 (Option.some Jvm.ClassFile.FieldType.long) ∈ GW := gwm 371 (by decide +kernel) (by decide +kernel)
theorem gw372 : Cond.methodLink RX3 219 yX3_told ∈ GW := gwm 372 (by decide +kernel) (by decide +kernel)
theorem gw373 : Cond.instanceMethod yX3_told ∈ GW := gwm 373 (by decide +kernel) (by decide +kernel)
theorem gw374 : Cond.selects RX3 yX3_told yX3_told ∈ GW := gwm 374 (by decide +kernel) (by decide +kernel)
theorem gw375 : Cond.code yX3_told cX3_told 4 (Option.some Jvm.ClassFile.FieldType.int) ∈ GW := gwm 375 (by decide +kernel) (by decide +kernel)
theorem gw376 : Cond.methodLink RX3 92 yX0_standing ∈ GW := gwm 376 (by decide +kernel) (by decide +kernel)
theorem gw377 : Cond.instanceMethod yX0_standing ∈ GW := gwm 377 (by decide +kernel) (by decide +kernel)
theorem gw378 : Cond.selects RX0 yX0_standing yX0_standing ∈ GW := gwm 378 (by decide +kernel) (by decide +kernel)
theorem gw379 : Cond.code yX0_standing cX0_standing 3 (Option.some Jvm.ClassFile.FieldType.int) ∈ GW := gwm 379 (by decide +kernel) (by decide +kernel)
theorem gw380 : Cond.methodLink RX3 150 yX0_showing ∈ GW := gwm 380 (by decide +kernel) (by decide +kernel)
theorem gw381 : Cond.instanceMethod yX0_showing ∈ GW := gwm 381 (by decide +kernel) (by decide +kernel)
theorem gw382 : Cond.selects RX0 yX0_showing yX0_showing ∈ GW := gwm 382 (by decide +kernel) (by decide +kernel)
theorem gw383 : Cond.code yX0_showing cX0_showing 3 (Option.some Jvm.ClassFile.FieldType.int) ∈ GW := gwm 383 (by decide +kernel) (by decide +kernel)
theorem gw384 : Cond.methodLink RX0 58 yX0_mostWorn ∈ GW := gwm 384 (by decide +kernel) (by decide +kernel)
theorem gw386 : Cond.instanceMethod yX0_mostWorn ∈ GW := gwm 386 (by decide +kernel) (by decide +kernel)
theorem gw387 : Cond.code yX0_mostWorn cX0_mostWorn 4 (Option.some Jvm.ClassFile.FieldType.int) ∈ GW := gwm 387 (by decide +kernel) (by decide +kernel)
theorem gw388 : Cond.methodLink RX3 222 yX3_wear ∈ GW := gwm 388 (by decide +kernel) (by decide +kernel)
theorem gw389 : Cond.instanceMethod yX3_wear ∈ GW := gwm 389 (by decide +kernel) (by decide +kernel)
theorem gw390 : Cond.selects RX3 yX3_wear yX3_wear ∈ GW := gwm 390 (by decide +kernel) (by decide +kernel)
theorem gw391 : Cond.code yX3_wear cX3_wear 5 (Option.some Jvm.ClassFile.FieldType.int) ∈ GW := gwm 391 (by decide +kernel) (by decide +kernel)
theorem gw392 : Cond.methodLink RX3 68 yX3_requireRing ∈ GW := gwm 392 (by decide +kernel) (by decide +kernel)
theorem gw393 : Cond.static yX3_requireRing ∈ GW := gwm 393 (by decide +kernel) (by decide +kernel)
theorem gw394 : Cond.code yX3_requireRing cX3_requireRing 1 (Option.none : Option Jvm.ClassFile.FieldType) ∈ GW := gwm 394 (by decide +kernel) (by decide +kernel)
theorem gw395 : Cond.methodLink RX3 228 yX3_isRing ∈ GW := gwm 395 (by decide +kernel) (by decide +kernel)
theorem gw397 : Cond.methodLink RX3 71 yX3_isLetter ∈ GW := gwm 397 (by decide +kernel) (by decide +kernel)
theorem gw399 : Cond.methodLink RX3 155 yX0_wearAt ∈ GW := gwm 399 (by decide +kernel) (by decide +kernel)
theorem gw400 : Cond.methodLink RL 81 yL_lock ∈ GW := gwm 400 (by decide +kernel) (by decide +kernel)
theorem gw401 : Cond.static yL_lock ∈ GW := gwm 401 (by decide +kernel) (by decide +kernel)
theorem gw402 : Cond.codeWith yL_lock cL_lock 4 (Option.some Jvm.ClassFile.FieldType.int) [((0 : Nat), (9 : Nat), (12 : Nat), (13 : Nat)), ((0 : Nat), (9 : Nat), (15 : Nat), (15 : Nat))] ∈ GW := gwm 402 (by decide +kernel) (by decide +kernel)
theorem gw403 : Cond.classLink RL 13 "java/lang/IllegalArgumentException" ∈ GW := gwm 403 (by decide +kernel) (by decide +kernel)
theorem gw404 : Cond.classLink RL 15 "java/lang/IllegalStateException" ∈ GW := gwm 404 (by decide +kernel) (by decide +kernel)
theorem gw405 : Cond.methodLink RL 7 yX3_lock ∈ GW := gwm 405 (by decide +kernel) (by decide +kernel)
theorem gw406 : Cond.instanceMethod yX3_lock ∈ GW := gwm 406 (by decide +kernel) (by decide +kernel)
theorem gw407 : Cond.selects RX3 yX3_lock yX3_lock ∈ GW := gwm 407 (by decide +kernel) (by decide +kernel)
theorem gw408 : Cond.code yX3_lock cX3_lock 2 (Option.some Jvm.ClassFile.FieldType.int) ∈ GW := gwm 408 (by decide +kernel) (by decide +kernel)
theorem gw409 : Cond.methodLink RX3 46 yX3_requireWord ∈ GW := gwm 409 (by decide +kernel) (by decide +kernel)
theorem gw410 : Cond.static yX3_requireWord ∈ GW := gwm 410 (by decide +kernel) (by decide +kernel)
theorem gw411 : Cond.code yX3_requireWord cX3_requireWord 1 (Option.none : Option Jvm.ClassFile.FieldType) ∈ GW := gwm 411 (by decide +kernel) (by decide +kernel)
theorem gw412 : Cond.classLink RX3 75 "java/lang/IllegalArgumentException" ∈ GW := gwm 412 (by decide +kernel) (by decide +kernel)
theorem gw413 : Cond.instantiable "java/lang/IllegalArgumentException" 6 ∈ GW := gwm 413 (by decide +kernel) (by decide +kernel)
theorem nw414 : Cond.castable "java/lang/IllegalArgumentException" "java/lang/IllegalArgumentException" ∈ NW := nwm 414 (by decide +kernel) (by decide +kernel)
theorem gw415 : Cond.selects "java/lang/IllegalArgumentException" ⟨"java/lang/Throwable", "fillInStackTrace", "(I)Ljava/lang/Throwable;"⟩ ⟨"java/lang/Throwable", "fillInStackTrace", "(I)Ljava/lang/Throwable;"⟩ ∈ GW := gwm 415 (by decide +kernel) (by decide +kernel)
theorem gw422 : Cond.methodLink RX3 79 ⟨"java/lang/IllegalArgumentException", "<init>", "(Ljava/lang/String;)V"⟩ ∈ GW := gwm 422 (by decide +kernel) (by decide +kernel)
theorem gw423 : Cond.instanceMethod ⟨"java/lang/IllegalArgumentException", "<init>", "(Ljava/lang/String;)V"⟩ ∈ GW := gwm 423 (by decide +kernel) (by decide +kernel)
theorem gw425 : Cond.methodLink "java/lang/IllegalArgumentException" 7 ⟨"java/lang/RuntimeException", "<init>", "(Ljava/lang/String;)V"⟩ ∈ GW := gwm 425 (by decide +kernel) (by decide +kernel)
theorem gw428 : Cond.classLink RX3 53 "java/lang/IllegalStateException" ∈ GW := gwm 428 (by decide +kernel) (by decide +kernel)
theorem gw429 : Cond.instantiable "java/lang/IllegalStateException" 6 ∈ GW := gwm 429 (by decide +kernel) (by decide +kernel)
theorem nw430 : Cond.castable "java/lang/IllegalStateException" "java/lang/IllegalStateException" ∈ NW := nwm 430 (by decide +kernel) (by decide +kernel)
theorem gw431 : Cond.selects "java/lang/IllegalStateException" ⟨"java/lang/Throwable", "fillInStackTrace", "(I)Ljava/lang/Throwable;"⟩ ⟨"java/lang/Throwable", "fillInStackTrace", "(I)Ljava/lang/Throwable;"⟩ ∈ GW := gwm 431 (by decide +kernel) (by decide +kernel)
theorem gw438 : Cond.methodLink RX3 57 ⟨"java/lang/IllegalStateException", "<init>", "(Ljava/lang/String;)V"⟩ ∈ GW := gwm 438 (by decide +kernel) (by decide +kernel)
theorem gw439 : Cond.instanceMethod ⟨"java/lang/IllegalStateException", "<init>", "(Ljava/lang/String;)V"⟩ ∈ GW := gwm 439 (by decide +kernel) (by decide +kernel)
theorem gw441 : Cond.methodLink "java/lang/IllegalStateException" 7 ⟨"java/lang/RuntimeException", "<init>", "(Ljava/lang/String;)V"⟩ ∈ GW := gwm 441 (by decide +kernel) (by decide +kernel)
theorem gw444 : Cond.methodLink RX3 60 yJx4a65c_add_9ea2d ∈ GW := gwm 444 (by decide +kernel) (by decide +kernel)
theorem gw445 : Cond.instanceMethod yJx4a65c_add_9ea2d ∈ GW := gwm 445 (by decide +kernel) (by decide +kernel)
theorem gw446 : Cond.selects RJx4a65c yJx4a65c_add_9ea2d yJx4a65c_add_9ea2d ∈ GW := gwm 446 (by decide +kernel) (by decide +kernel)
theorem gw447 : Cond.code yJx4a65c_add_9ea2d cJx4a65c_add_9ea2d 2 (Option.some Jvm.ClassFile.FieldType.boolean) ∈ GW := gwm 447 (by decide +kernel) (by decide +kernel)
theorem gw448 : Cond.methodLink RJx4a65c 131 yJx4a65c_add_72be8 ∈ GW := gwm 448 (by decide +kernel) (by decide +kernel)
theorem gw450 : Cond.instanceMethod yJx4a65c_add_72be8 ∈ GW := gwm 450 (by decide +kernel) (by decide +kernel)
theorem gw451 : Cond.code yJx4a65c_add_72be8 cJx4a65c_add_72be8 4 (Option.none : Option Jvm.ClassFile.FieldType) ∈ GW := gwm 451 (by decide +kernel) (by decide +kernel)
theorem gw452 : Cond.methodLink RJx4a65c 129 yJx4a65c_grow_d5877 ∈ GW := gwm 452 (by decide +kernel) (by decide +kernel)
theorem gw454 : Cond.instanceMethod yJx4a65c_grow_d5877 ∈ GW := gwm 454 (by decide +kernel) (by decide +kernel)
theorem gw455 : Cond.code yJx4a65c_grow_d5877 cJx4a65c_grow_d5877 1 (Option.some (Jvm.ClassFile.FieldType.array (Jvm.ClassFile.FieldType.object "java/lang/Object"))) ∈ GW := gwm 455 (by decide +kernel) (by decide +kernel)
theorem gw456 : Cond.methodLink RJx4a65c 69 yJx4a65c_grow_92f84 ∈ GW := gwm 456 (by decide +kernel) (by decide +kernel)
theorem gw458 : Cond.instanceMethod yJx4a65c_grow_92f84 ∈ GW := gwm 458 (by decide +kernel) (by decide +kernel)
theorem gw459 : Cond.code yJx4a65c_grow_92f84 cJx4a65c_grow_92f84 4 (Option.some (Jvm.ClassFile.FieldType.array (Jvm.ClassFile.FieldType.object "java/lang/Object"))) ∈ GW := gwm 459 (by decide +kernel) (by decide +kernel)
theorem gw460 : Cond.methodLink RJx4a65c 73 yJ8_newLength_cabcc ∈ GW := gwm 460 (by decide +kernel) (by decide +kernel)
theorem gw461 : Cond.static yJ8_newLength_cabcc ∈ GW := gwm 461 (by decide +kernel) (by decide +kernel)
theorem gw462 : Cond.code yJ8_newLength_cabcc cJ8_newLength_cabcc 4 (Option.some Jvm.ClassFile.FieldType.int) ∈ GW := gwm 462 (by decide +kernel) (by decide +kernel)
theorem gw463 : Cond.methodLink RJ8 194 Lib.Math.max.name ∈ GW := gwm 463 (by decide +kernel) (by decide +kernel)
theorem gw464 : Cond.static Lib.Math.max.name ∈ GW := gwm 464 (by decide +kernel) (by decide +kernel)
theorem gw465 : Cond.code Lib.Math.max.name Lib.Math.max.code 2 (Option.some Jvm.ClassFile.FieldType.int) ∈ GW := gwm 465 (by decide +kernel) (by decide +kernel)
theorem gw467 : Cond.methodLink RJ8 201 yJ8_hugeLength_7cf53 ∈ GW := gwm 467 (by decide +kernel) (by decide +kernel)
theorem gw468 : Cond.static yJ8_hugeLength_7cf53 ∈ GW := gwm 468 (by decide +kernel) (by decide +kernel)
theorem gw469 : Cond.code yJ8_hugeLength_7cf53 cJ8_hugeLength_7cf53 3 (Option.some Jvm.ClassFile.FieldType.int) ∈ GW := gwm 469 (by decide +kernel) (by decide +kernel)
theorem gw470 : Cond.methodLink RJx4a65c 66 yJ7_copyOf_1904c ∈ GW := gwm 470 (by decide +kernel) (by decide +kernel)
theorem gw471 : Cond.static yJ7_copyOf_1904c ∈ GW := gwm 471 (by decide +kernel) (by decide +kernel)
theorem gw472 : Cond.code yJ7_copyOf_1904c cJ7_copyOf_1904c 2 (Option.some (Jvm.ClassFile.FieldType.array (Jvm.ClassFile.FieldType.object "java/lang/Object"))) ∈ GW := gwm 472 (by decide +kernel) (by decide +kernel)
theorem gw473 : Cond.methodLink RJ7 86 ⟨"java/lang/Object", "getClass", "()Ljava/lang/Class;"⟩ ∈ GW := gwm 473 (by decide +kernel) (by decide +kernel)
theorem gw474 : Cond.instanceMethod ⟨"java/lang/Object", "getClass", "()Ljava/lang/Class;"⟩ ∈ GW := gwm 474 (by decide +kernel) (by decide +kernel)
theorem gw476 : Cond.selects RX3 ⟨"java/lang/Object", "getClass", "()Ljava/lang/Class;"⟩ ⟨"java/lang/Object", "getClass", "()Ljava/lang/Class;"⟩ ∈ GW := gwm 476 (by decide +kernel) (by decide +kernel)
theorem gw477 : Cond.selects RX0 ⟨"java/lang/Object", "getClass", "()Ljava/lang/Class;"⟩ ⟨"java/lang/Object", "getClass", "()Ljava/lang/Class;"⟩ ∈ GW := gwm 477 (by decide +kernel) (by decide +kernel)
theorem gw478 : Cond.selects RX1 ⟨"java/lang/Object", "getClass", "()Ljava/lang/Class;"⟩ ⟨"java/lang/Object", "getClass", "()Ljava/lang/Class;"⟩ ∈ GW := gwm 478 (by decide +kernel) (by decide +kernel)
theorem gw479 : Cond.selects RX2 ⟨"java/lang/Object", "getClass", "()Ljava/lang/Class;"⟩ ⟨"java/lang/Object", "getClass", "()Ljava/lang/Class;"⟩ ∈ GW := gwm 479 (by decide +kernel) (by decide +kernel)
theorem gw480 : Cond.selects RX4 ⟨"java/lang/Object", "getClass", "()Ljava/lang/Class;"⟩ ⟨"java/lang/Object", "getClass", "()Ljava/lang/Class;"⟩ ∈ GW := gwm 480 (by decide +kernel) (by decide +kernel)
theorem gw481 : Cond.selects "java/lang/IllegalArgumentException" ⟨"java/lang/Object", "getClass", "()Ljava/lang/Class;"⟩ ⟨"java/lang/Object", "getClass", "()Ljava/lang/Class;"⟩ ∈ GW := gwm 481 (by decide +kernel) (by decide +kernel)
theorem gw482 : Cond.selects "java/lang/IllegalStateException" ⟨"java/lang/Object", "getClass", "()Ljava/lang/Class;"⟩ ⟨"java/lang/Object", "getClass", "()Ljava/lang/Class;"⟩ ∈ GW := gwm 482 (by decide +kernel) (by decide +kernel)
theorem gw483 : Cond.selects "java/lang/IndexOutOfBoundsException" ⟨"java/lang/Object", "getClass", "()Ljava/lang/Class;"⟩ ⟨"java/lang/Object", "getClass", "()Ljava/lang/Class;"⟩ ∈ GW := gwm 483 (by decide +kernel) (by decide +kernel)
theorem gw484 : Cond.selects RJx4a65c ⟨"java/lang/Object", "getClass", "()Ljava/lang/Class;"⟩ ⟨"java/lang/Object", "getClass", "()Ljava/lang/Class;"⟩ ∈ GW := gwm 484 (by decide +kernel) (by decide +kernel)
theorem gw485 : Cond.native ⟨"java/lang/Object", "getClass", "()Ljava/lang/Class;"⟩ ∈ GW := gwm 485 (by decide +kernel) (by decide +kernel)
theorem gw486 : Cond.methodLink RJ7 300 yJ7_copyOf_6403c ∈ GW := gwm 486 (by decide +kernel) (by decide +kernel)
theorem gw487 : Cond.static yJ7_copyOf_6403c ∈ GW := gwm 487 (by decide +kernel) (by decide +kernel)
theorem gw488 : Cond.code yJ7_copyOf_6403c cJ7_copyOf_6403c 4 (Option.some (Jvm.ClassFile.FieldType.array (Jvm.ClassFile.FieldType.object "java/lang/Object"))) ∈ GW := gwm 488 (by decide +kernel) (by decide +kernel)
theorem gw489 : Cond.classLink RJ7 110 "[Ljava/lang/Object;" ∈ GW := gwm 489 (by decide +kernel) (by decide +kernel)
theorem gw491 : Cond.classLink RJ7 2 "java/lang/Object" ∈ GW := gwm 491 (by decide +kernel) (by decide +kernel)
theorem gw492 : Cond.methodLink RJ7 304 Lib.Math.min.name ∈ GW := gwm 492 (by decide +kernel) (by decide +kernel)
theorem gw493 : Cond.static Lib.Math.min.name ∈ GW := gwm 493 (by decide +kernel) (by decide +kernel)
theorem gw494 : Cond.code Lib.Math.min.name Lib.Math.min.code 2 (Option.some Jvm.ClassFile.FieldType.int) ∈ GW := gwm 494 (by decide +kernel) (by decide +kernel)
theorem gw495 : Cond.methodLink RJ7 150 arraycopyName ∈ GW := gwm 495 (by decide +kernel) (by decide +kernel)
theorem gw496 : Cond.static arraycopyName ∈ GW := gwm 496 (by decide +kernel) (by decide +kernel)
theorem gw497 : Cond.native arraycopyName ∈ GW := gwm 497 (by decide +kernel) (by decide +kernel)
theorem gw498 : Cond.methodLink RJx4a65c 79 Lib.Math.max.name ∈ GW := gwm 498 (by decide +kernel) (by decide +kernel)
theorem gw499 : Cond.classLink RJx4a65c 7 "java/lang/Object" ∈ GW := gwm 499 (by decide +kernel) (by decide +kernel)
theorem gw500 : Cond.methodLink RL 91 yL_turn ∈ GW := gwm 500 (by decide +kernel) (by decide +kernel)
theorem gw501 : Cond.static yL_turn ∈ GW := gwm 501 (by decide +kernel) (by decide +kernel)
theorem gw502 : Cond.codeWith yL_turn cL_turn 6 (Option.some Jvm.ClassFile.FieldType.int) [((0 : Nat), (12 : Nat), (15 : Nat), (21 : Nat)), ((0 : Nat), (12 : Nat), (19 : Nat), (13 : Nat))] ∈ GW := gwm 502 (by decide +kernel) (by decide +kernel)
theorem gw503 : Cond.classLink RL 21 "java/lang/IndexOutOfBoundsException" ∈ GW := gwm 503 (by decide +kernel) (by decide +kernel)
theorem gw504 : Cond.methodLink RL 17 yX3_turn ∈ GW := gwm 504 (by decide +kernel) (by decide +kernel)
theorem gw505 : Cond.instanceMethod yX3_turn ∈ GW := gwm 505 (by decide +kernel) (by decide +kernel)
theorem gw506 : Cond.selects RX3 yX3_turn yX3_turn ∈ GW := gwm 506 (by decide +kernel) (by decide +kernel)
theorem gw507 : Cond.code yX3_turn cX3_turn 6 (Option.some Jvm.ClassFile.FieldType.int) ∈ GW := gwm 507 (by decide +kernel) (by decide +kernel)
theorem gw508 : Cond.methodLink RX3 80 yX0_letterAt ∈ GW := gwm 508 (by decide +kernel) (by decide +kernel)
theorem gw509 : Cond.instanceMethod yX0_letterAt ∈ GW := gwm 509 (by decide +kernel) (by decide +kernel)
theorem gw510 : Cond.selects RX0 yX0_letterAt yX0_letterAt ∈ GW := gwm 510 (by decide +kernel) (by decide +kernel)
theorem gw511 : Cond.code yX0_letterAt cX0_letterAt 2 (Option.some Jvm.ClassFile.FieldType.int) ∈ GW := gwm 511 (by decide +kernel) (by decide +kernel)
theorem gw512 : Cond.methodLink RX3 84 yX3_turnsBetween ∈ GW := gwm 512 (by decide +kernel) (by decide +kernel)
theorem gw513 : Cond.static yX3_turnsBetween ∈ GW := gwm 513 (by decide +kernel) (by decide +kernel)
theorem gw514 : Cond.code yX3_turnsBetween cX3_turnsBetween 3 (Option.some Jvm.ClassFile.FieldType.int) ∈ GW := gwm 514 (by decide +kernel) (by decide +kernel)
theorem gw515 : Cond.methodLink RX3 239 Lib.Math.abs.name ∈ GW := gwm 515 (by decide +kernel) (by decide +kernel)
theorem gw516 : Cond.static Lib.Math.abs.name ∈ GW := gwm 516 (by decide +kernel) (by decide +kernel)
theorem gw517 : Cond.code Lib.Math.abs.name Lib.Math.abs.code 1 (Option.some Jvm.ClassFile.FieldType.int) ∈ GW := gwm 517 (by decide +kernel) (by decide +kernel)
theorem gw518 : Cond.methodLink RX3 244 Lib.Math.min.name ∈ GW := gwm 518 (by decide +kernel) (by decide +kernel)
theorem gw519 : Cond.methodLink RX3 88 yX0_turnTo ∈ GW := gwm 519 (by decide +kernel) (by decide +kernel)
theorem gw520 : Cond.instanceMethod yX0_turnTo ∈ GW := gwm 520 (by decide +kernel) (by decide +kernel)
theorem gw521 : Cond.selects RX0 yX0_turnTo yX0_turnTo ∈ GW := gwm 521 (by decide +kernel) (by decide +kernel)
theorem gw522 : Cond.code yX0_turnTo cX0_turnTo 3 (Option.none : Option Jvm.ClassFile.FieldType) ∈ GW := gwm 522 (by decide +kernel) (by decide +kernel)
theorem gw523 : Cond.methodLink RL 95 yL_open ∈ GW := gwm 523 (by decide +kernel) (by decide +kernel)
theorem gw524 : Cond.static yL_open ∈ GW := gwm 524 (by decide +kernel) (by decide +kernel)
theorem gw525 : Cond.codeWith yL_open cL_open 4 (Option.some Jvm.ClassFile.FieldType.int) [((0 : Nat), (16 : Nat), (19 : Nat), (21 : Nat))] ∈ GW := gwm 525 (by decide +kernel) (by decide +kernel)
theorem gw526 : Cond.methodLink RL 23 yX3_open ∈ GW := gwm 526 (by decide +kernel) (by decide +kernel)
theorem gw527 : Cond.instanceMethod yX3_open ∈ GW := gwm 527 (by decide +kernel) (by decide +kernel)
theorem gw528 : Cond.selects RX3 yX3_open yX3_open ∈ GW := gwm 528 (by decide +kernel) (by decide +kernel)
theorem gw529 : Cond.code yX3_open cX3_open 3 (Option.some Jvm.ClassFile.FieldType.boolean) ∈ GW := gwm 529 (by decide +kernel) (by decide +kernel)
theorem gw530 : Cond.methodLink RL 98 yL_shut ∈ GW := gwm 530 (by decide +kernel) (by decide +kernel)
theorem gw531 : Cond.static yL_shut ∈ GW := gwm 531 (by decide +kernel) (by decide +kernel)
theorem gw532 : Cond.codeWith yL_shut cL_shut 4 (Option.some Jvm.ClassFile.FieldType.int) [((0 : Nat), (9 : Nat), (12 : Nat), (21 : Nat)), ((0 : Nat), (9 : Nat), (15 : Nat), (15 : Nat))] ∈ GW := gwm 532 (by decide +kernel) (by decide +kernel)
theorem gw533 : Cond.methodLink RL 27 yX3_shut ∈ GW := gwm 533 (by decide +kernel) (by decide +kernel)
theorem gw534 : Cond.instanceMethod yX3_shut ∈ GW := gwm 534 (by decide +kernel) (by decide +kernel)
theorem gw535 : Cond.selects RX3 yX3_shut yX3_shut ∈ GW := gwm 535 (by decide +kernel) (by decide +kernel)
theorem gw536 : Cond.code yX3_shut cX3_shut 3 (Option.some Jvm.ClassFile.FieldType.int) ∈ GW := gwm 536 (by decide +kernel) (by decide +kernel)
theorem gw537 : Cond.methodLink RX3 102 yX3_requireOpen ∈ GW := gwm 537 (by decide +kernel) (by decide +kernel)
theorem gw538 : Cond.static yX3_requireOpen ∈ GW := gwm 538 (by decide +kernel) (by decide +kernel)
theorem gw539 : Cond.code yX3_requireOpen cX3_requireOpen 1 (Option.none : Option Jvm.ClassFile.FieldType) ∈ GW := gwm 539 (by decide +kernel) (by decide +kernel)
theorem gw541 : Cond.methodLink RX3 106 yX0_close ∈ GW := gwm 541 (by decide +kernel) (by decide +kernel)
theorem gw542 : Cond.instanceMethod yX0_close ∈ GW := gwm 542 (by decide +kernel) (by decide +kernel)
theorem gw543 : Cond.selects RX0 yX0_close yX0_close ∈ GW := gwm 543 (by decide +kernel) (by decide +kernel)
theorem gw544 : Cond.code yX0_close cX0_close 2 (Option.none : Option Jvm.ClassFile.FieldType) ∈ GW := gwm 544 (by decide +kernel) (by decide +kernel)
theorem gw545 : Cond.methodLink RL 101 yL_rename ∈ GW := gwm 545 (by decide +kernel) (by decide +kernel)
theorem gw546 : Cond.static yL_rename ∈ GW := gwm 546 (by decide +kernel) (by decide +kernel)
theorem gw547 : Cond.codeWith yL_rename cL_rename 5 (Option.some Jvm.ClassFile.FieldType.int) [((0 : Nat), (10 : Nat), (13 : Nat), (21 : Nat)), ((0 : Nat), (10 : Nat), (17 : Nat), (13 : Nat)), ((0 : Nat), (10 : Nat), (21 : Nat), (15 : Nat))] ∈ GW := gwm 547 (by decide +kernel) (by decide +kernel)
theorem gw548 : Cond.methodLink RL 30 yX3_rename ∈ GW := gwm 548 (by decide +kernel) (by decide +kernel)
theorem gw549 : Cond.instanceMethod yX3_rename ∈ GW := gwm 549 (by decide +kernel) (by decide +kernel)
theorem gw550 : Cond.selects RX3 yX3_rename yX3_rename ∈ GW := gwm 550 (by decide +kernel) (by decide +kernel)
theorem gw551 : Cond.code yX3_rename cX3_rename 5 (Option.some Jvm.ClassFile.FieldType.int) ∈ GW := gwm 551 (by decide +kernel) (by decide +kernel)
theorem gw552 : Cond.methodLink RL 105 yL_lose ∈ GW := gwm 552 (by decide +kernel) (by decide +kernel)
theorem gw553 : Cond.static yL_lose ∈ GW := gwm 553 (by decide +kernel) (by decide +kernel)
theorem gw554 : Cond.codeWith yL_lose cL_lose 5 (Option.some Jvm.ClassFile.FieldType.int) [((0 : Nat), (17 : Nat), (20 : Nat), (21 : Nat))] ∈ GW := gwm 554 (by decide +kernel) (by decide +kernel)
theorem gw555 : Cond.methodLink RL 34 yX3_lose ∈ GW := gwm 555 (by decide +kernel) (by decide +kernel)
theorem gw556 : Cond.instanceMethod yX3_lose ∈ GW := gwm 556 (by decide +kernel) (by decide +kernel)
theorem gw557 : Cond.selects RX3 yX3_lose yX3_lose ∈ GW := gwm 557 (by decide +kernel) (by decide +kernel)
theorem gw558 : Cond.code yX3_lose cX3_lose 5 (Option.some Jvm.ClassFile.FieldType.boolean) ∈ GW := gwm 558 (by decide +kernel) (by decide +kernel)
theorem gw559 : Cond.methodLink RL 109 yL_setPlaces ∈ GW := gwm 559 (by decide +kernel) (by decide +kernel)
theorem gw560 : Cond.static yL_setPlaces ∈ GW := gwm 560 (by decide +kernel) (by decide +kernel)
theorem gw561 : Cond.codeWith yL_setPlaces cL_setPlaces 5 (Option.some Jvm.ClassFile.FieldType.int) [((0 : Nat), (10 : Nat), (13 : Nat), (21 : Nat)), ((0 : Nat), (10 : Nat), (17 : Nat), (13 : Nat)), ((0 : Nat), (10 : Nat), (21 : Nat), (15 : Nat))] ∈ GW := gwm 561 (by decide +kernel) (by decide +kernel)
theorem gw562 : Cond.methodLink RL 38 yX3_setPlaces ∈ GW := gwm 562 (by decide +kernel) (by decide +kernel)
theorem gw563 : Cond.instanceMethod yX3_setPlaces ∈ GW := gwm 563 (by decide +kernel) (by decide +kernel)
theorem gw564 : Cond.selects RX3 yX3_setPlaces yX3_setPlaces ∈ GW := gwm 564 (by decide +kernel) (by decide +kernel)
theorem gw565 : Cond.code yX3_setPlaces cX3_setPlaces 5 (Option.some Jvm.ClassFile.FieldType.int) ∈ GW := gwm 565 (by decide +kernel) (by decide +kernel)
theorem gw568 : Cond.methodLink RL 112 yL_setHours ∈ GW := gwm 568 (by decide +kernel) (by decide +kernel)
theorem gw569 : Cond.static yL_setHours ∈ GW := gwm 569 (by decide +kernel) (by decide +kernel)
theorem gw570 : Cond.codeWith yL_setHours cL_setHours 6 (Option.some Jvm.ClassFile.FieldType.int) [((0 : Nat), (12 : Nat), (15 : Nat), (21 : Nat)), ((0 : Nat), (12 : Nat), (19 : Nat), (13 : Nat))] ∈ GW := gwm 570 (by decide +kernel) (by decide +kernel)
theorem gw571 : Cond.methodLink RL 41 yX3_setHours ∈ GW := gwm 571 (by decide +kernel) (by decide +kernel)
theorem gw572 : Cond.instanceMethod yX3_setHours ∈ GW := gwm 572 (by decide +kernel) (by decide +kernel)
theorem gw573 : Cond.selects RX3 yX3_setHours yX3_setHours ∈ GW := gwm 573 (by decide +kernel) (by decide +kernel)
theorem gw574 : Cond.code yX3_setHours cX3_setHours 6 (Option.some Jvm.ClassFile.FieldType.int) ∈ GW := gwm 574 (by decide +kernel) (by decide +kernel)
theorem gw576 : Cond.methodLink RL 115 yL_put ∈ GW := gwm 576 (by decide +kernel) (by decide +kernel)
theorem gw577 : Cond.static yL_put ∈ GW := gwm 577 (by decide +kernel) (by decide +kernel)
theorem gw578 : Cond.codeWith yL_put cL_put 5 (Option.some Jvm.ClassFile.FieldType.int) [((0 : Nat), (10 : Nat), (13 : Nat), (21 : Nat)), ((0 : Nat), (10 : Nat), (17 : Nat), (15 : Nat))] ∈ GW := gwm 578 (by decide +kernel) (by decide +kernel)
theorem gw579 : Cond.methodLink RL 44 yX3_put ∈ GW := gwm 579 (by decide +kernel) (by decide +kernel)
theorem gw580 : Cond.instanceMethod yX3_put ∈ GW := gwm 580 (by decide +kernel) (by decide +kernel)
theorem gw581 : Cond.selects RX3 yX3_put yX3_put ∈ GW := gwm 581 (by decide +kernel) (by decide +kernel)
theorem gw582 : Cond.code yX3_put cX3_put 5 (Option.some Jvm.ClassFile.FieldType.int) ∈ GW := gwm 582 (by decide +kernel) (by decide +kernel)
theorem gw583 : Cond.methodLink RX3 145 yX3_takesAnother ∈ GW := gwm 583 (by decide +kernel) (by decide +kernel)
theorem gw585 : Cond.instanceMethod yX3_takesAnother ∈ GW := gwm 585 (by decide +kernel) (by decide +kernel)
theorem gw586 : Cond.code yX3_takesAnother cX3_takesAnother 2 (Option.some Jvm.ClassFile.FieldType.boolean) ∈ GW := gwm 586 (by decide +kernel) (by decide +kernel)
theorem gw588 : Cond.methodLink RL 118 yL_told ∈ GW := gwm 588 (by decide +kernel) (by decide +kernel)
theorem gw589 : Cond.static yL_told ∈ GW := gwm 589 (by decide +kernel) (by decide +kernel)
theorem gw590 : Cond.codeWith yL_told cL_told 5 (Option.some Jvm.ClassFile.FieldType.int) [((0 : Nat), (10 : Nat), (13 : Nat), (21 : Nat))] ∈ GW := gwm 590 (by decide +kernel) (by decide +kernel)
theorem gw591 : Cond.methodLink RL 47 yX3_told ∈ GW := gwm 591 (by decide +kernel) (by decide +kernel)
theorem gw592 : Cond.methodLink RL 121 yL_wear ∈ GW := gwm 592 (by decide +kernel) (by decide +kernel)
theorem gw593 : Cond.static yL_wear ∈ GW := gwm 593 (by decide +kernel) (by decide +kernel)
theorem gw594 : Cond.codeWith yL_wear cL_wear 6 (Option.some Jvm.ClassFile.FieldType.int) [((0 : Nat), (12 : Nat), (15 : Nat), (21 : Nat))] ∈ GW := gwm 594 (by decide +kernel) (by decide +kernel)
theorem gw595 : Cond.methodLink RL 50 yX3_wear ∈ GW := gwm 595 (by decide +kernel) (by decide +kernel)
theorem gw596 : Cond.methodLink RL 124 yL_rack ∈ GW := gwm 596 (by decide +kernel) (by decide +kernel)
theorem gw597 : Cond.static yL_rack ∈ GW := gwm 597 (by decide +kernel) (by decide +kernel)
theorem gw598 : Cond.codeWith yL_rack cL_rack 5 (Option.some Jvm.ClassFile.FieldType.int) [((0 : Nat), (10 : Nat), (13 : Nat), (21 : Nat))] ∈ GW := gwm 598 (by decide +kernel) (by decide +kernel)
theorem gw599 : Cond.methodLink RL 53 yX3_rack ∈ GW := gwm 599 (by decide +kernel) (by decide +kernel)
theorem gw600 : Cond.methodLink RL 127 yL_count ∈ GW := gwm 600 (by decide +kernel) (by decide +kernel)
theorem gw601 : Cond.static yL_count ∈ GW := gwm 601 (by decide +kernel) (by decide +kernel)
theorem gw602 : Cond.codeWith yL_count cL_count 4 (Option.some Jvm.ClassFile.FieldType.int) [((0 : Nat), (9 : Nat), (12 : Nat), (21 : Nat))] ∈ GW := gwm 602 (by decide +kernel) (by decide +kernel)
theorem gw603 : Cond.methodLink RL 56 yX3_count ∈ GW := gwm 603 (by decide +kernel) (by decide +kernel)
theorem gw604 : Cond.methodLink RL 130 yL_apart ∈ GW := gwm 604 (by decide +kernel) (by decide +kernel)
theorem gw605 : Cond.static yL_apart ∈ GW := gwm 605 (by decide +kernel) (by decide +kernel)
theorem gw606 : Cond.codeWith yL_apart cL_apart 5 (Option.some Jvm.ClassFile.FieldType.int) [((0 : Nat), (10 : Nat), (13 : Nat), (13 : Nat))] ∈ GW := gwm 606 (by decide +kernel) (by decide +kernel)
theorem gw607 : Cond.methodLink RL 59 yX3_apart ∈ GW := gwm 607 (by decide +kernel) (by decide +kernel)
theorem gw608 : Cond.instanceMethod yX3_apart ∈ GW := gwm 608 (by decide +kernel) (by decide +kernel)
theorem gw609 : Cond.selects RX3 yX3_apart yX3_apart ∈ GW := gwm 609 (by decide +kernel) (by decide +kernel)
theorem gw610 : Cond.code yX3_apart cX3_apart 5 (Option.some Jvm.ClassFile.FieldType.int) ∈ GW := gwm 610 (by decide +kernel) (by decide +kernel)
theorem gw611 : Cond.methodLink RX3 178 yX3_letterOf ∈ GW := gwm 611 (by decide +kernel) (by decide +kernel)
theorem gw612 : Cond.methodLink RL 133 yL_trial ∈ GW := gwm 612 (by decide +kernel) (by decide +kernel)
theorem gw613 : Cond.static yL_trial ∈ GW := gwm 613 (by decide +kernel) (by decide +kernel)
theorem gw614 : Cond.codeWith yL_trial cL_trial 5 (Option.some Jvm.ClassFile.FieldType.int) [((0 : Nat), (10 : Nat), (13 : Nat), (21 : Nat)), ((0 : Nat), (10 : Nat), (17 : Nat), (13 : Nat))] ∈ GW := gwm 614 (by decide +kernel) (by decide +kernel)
theorem gw615 : Cond.methodLink RL 62 yX3_trial ∈ GW := gwm 615 (by decide +kernel) (by decide +kernel)
theorem gw616 : Cond.instanceMethod yX3_trial ∈ GW := gwm 616 (by decide +kernel) (by decide +kernel)
theorem gw617 : Cond.selects RX3 yX3_trial yX3_trial ∈ GW := gwm 617 (by decide +kernel) (by decide +kernel)
theorem gw618 : Cond.code yX3_trial cX3_trial 4 (Option.some Jvm.ClassFile.FieldType.int) ∈ GW := gwm 618 (by decide +kernel) (by decide +kernel)
theorem gw619 : Cond.methodLink RL 136 yL_safe ∈ GW := gwm 619 (by decide +kernel) (by decide +kernel)
theorem gw620 : Cond.static yL_safe ∈ GW := gwm 620 (by decide +kernel) (by decide +kernel)
theorem gw621 : Cond.codeWith yL_safe cL_safe 4 (Option.some Jvm.ClassFile.FieldType.int) [((0 : Nat), (9 : Nat), (12 : Nat), (21 : Nat))] ∈ GW := gwm 621 (by decide +kernel) (by decide +kernel)
theorem gw622 : Cond.methodLink RL 65 yX3_safe ∈ GW := gwm 622 (by decide +kernel) (by decide +kernel)
theorem gw623 : Cond.methodLink RL 139 yL_pass ∈ GW := gwm 623 (by decide +kernel) (by decide +kernel)
theorem gw624 : Cond.static yL_pass ∈ GW := gwm 624 (by decide +kernel) (by decide +kernel)
theorem gw625 : Cond.codeWith yL_pass cL_pass 4 (Option.some Jvm.ClassFile.FieldType.int) [((0 : Nat), (9 : Nat), (12 : Nat), (13 : Nat))] ∈ GW := gwm 625 (by decide +kernel) (by decide +kernel)
theorem gw626 : Cond.methodLink RL 68 yX3_pass ∈ GW := gwm 626 (by decide +kernel) (by decide +kernel)
theorem gw627 : Cond.instanceMethod yX3_pass ∈ GW := gwm 627 (by decide +kernel) (by decide +kernel)
theorem gw628 : Cond.selects RX3 yX3_pass yX3_pass ∈ GW := gwm 628 (by decide +kernel) (by decide +kernel)
theorem gw629 : Cond.code yX3_pass cX3_pass 5 (Option.some Jvm.ClassFile.FieldType.int) ∈ GW := gwm 629 (by decide +kernel) (by decide +kernel)
theorem gw630 : Cond.methodLink RX3 185 yX3_requireHours ∈ GW := gwm 630 (by decide +kernel) (by decide +kernel)
theorem gw631 : Cond.static yX3_requireHours ∈ GW := gwm 631 (by decide +kernel) (by decide +kernel)
theorem gw632 : Cond.code yX3_requireHours cX3_requireHours 1 (Option.none : Option Jvm.ClassFile.FieldType) ∈ GW := gwm 632 (by decide +kernel) (by decide +kernel)
theorem gw634 : Cond.methodLink RX3 192 yX3_letHourGoBy ∈ GW := gwm 634 (by decide +kernel) (by decide +kernel)
theorem gw636 : Cond.instanceMethod yX3_letHourGoBy ∈ GW := gwm 636 (by decide +kernel) (by decide +kernel)
theorem gw637 : Cond.code yX3_letHourGoBy cX3_letHourGoBy 3 (Option.some Jvm.ClassFile.FieldType.boolean) ∈ GW := gwm 637 (by decide +kernel) (by decide +kernel)
theorem gw638 : Cond.methodLink RX3 247 yX0_wearByAnHour ∈ GW := gwm 638 (by decide +kernel) (by decide +kernel)
theorem gw639 : Cond.instanceMethod yX0_wearByAnHour ∈ GW := gwm 639 (by decide +kernel) (by decide +kernel)
theorem gw640 : Cond.selects RX0 yX0_wearByAnHour yX0_wearByAnHour ∈ GW := gwm 640 (by decide +kernel) (by decide +kernel)
theorem gw641 : Cond.code yX0_wearByAnHour cX0_wearByAnHour 2 (Option.none : Option Jvm.ClassFile.FieldType) ∈ GW := gwm 641 (by decide +kernel) (by decide +kernel)
theorem gw642 : Cond.methodLink RX0 45 yX0_wearMore ∈ GW := gwm 642 (by decide +kernel) (by decide +kernel)
theorem gw644 : Cond.instanceMethod yX0_wearMore ∈ GW := gwm 644 (by decide +kernel) (by decide +kernel)
theorem gw645 : Cond.code yX0_wearMore cX0_wearMore 5 (Option.none : Option Jvm.ClassFile.FieldType) ∈ GW := gwm 645 (by decide +kernel) (by decide +kernel)
theorem gw646 : Cond.methodLink RX0 53 Lib.Math.min.name ∈ GW := gwm 646 (by decide +kernel) (by decide +kernel)
theorem nw647 : Cond.methodLinkNest RX0 49 yX3_letterOf "LetterLocks" ∈ NW := nwm 647 (by decide +kernel) (by decide +kernel)
theorem gw648 : Cond.methodLink RX3 199 yX3_isInClosedRack ∈ GW := gwm 648 (by decide +kernel) (by decide +kernel)
theorem gw650 : Cond.instanceMethod yX3_isInClosedRack ∈ GW := gwm 650 (by decide +kernel) (by decide +kernel)
theorem gw651 : Cond.code yX3_isInClosedRack cX3_isInClosedRack 3 (Option.some Jvm.ClassFile.FieldType.boolean) ∈ GW := gwm 651 (by decide +kernel) (by decide +kernel)
theorem gw652 : Cond.methodLink RL 142 yL_foresee ∈ GW := gwm 652 (by decide +kernel) (by decide +kernel)
theorem gw653 : Cond.static yL_foresee ∈ GW := gwm 653 (by decide +kernel) (by decide +kernel)
theorem gw654 : Cond.codeWith yL_foresee cL_foresee 5 (Option.some Jvm.ClassFile.FieldType.int) [((0 : Nat), (10 : Nat), (13 : Nat), (13 : Nat)), ((0 : Nat), (10 : Nat), (17 : Nat), (21 : Nat))] ∈ GW := gwm 654 (by decide +kernel) (by decide +kernel)
theorem gw655 : Cond.methodLink RL 71 yX3_foresee ∈ GW := gwm 655 (by decide +kernel) (by decide +kernel)
theorem gw656 : Cond.instanceMethod yX3_foresee ∈ GW := gwm 656 (by decide +kernel) (by decide +kernel)
theorem gw657 : Cond.selects RX3 yX3_foresee yX3_foresee ∈ GW := gwm 657 (by decide +kernel) (by decide +kernel)
theorem gw658 : Cond.code yX3_foresee cX3_foresee 4 (Option.some Jvm.ClassFile.FieldType.int) ∈ GW := gwm 658 (by decide +kernel) (by decide +kernel)
theorem gw659 : Cond.methodLink RX3 196 yX0_become ∈ GW := gwm 659 (by decide +kernel) (by decide +kernel)
theorem gw660 : Cond.instanceMethod yX0_become ∈ GW := gwm 660 (by decide +kernel) (by decide +kernel)
theorem gw661 : Cond.selects RX0 yX0_become yX0_become ∈ GW := gwm 661 (by decide +kernel) (by decide +kernel)
theorem gw662 : Cond.code yX0_become cX0_become 2 (Option.none : Option Jvm.ClassFile.FieldType) ∈ GW := gwm 662 (by decide +kernel) (by decide +kernel)
theorem gw663 : Cond.methodLink RX0 32 arraycopyName ∈ GW := gwm 663 (by decide +kernel) (by decide +kernel)
theorem gw664 : Cond.methodLink RL 145 yL_until ∈ GW := gwm 664 (by decide +kernel) (by decide +kernel)
theorem gw665 : Cond.static yL_until ∈ GW := gwm 665 (by decide +kernel) (by decide +kernel)
theorem gw666 : Cond.codeWith yL_until cL_until 4 (Option.some Jvm.ClassFile.FieldType.int) [((0 : Nat), (9 : Nat), (12 : Nat), (21 : Nat))] ∈ GW := gwm 666 (by decide +kernel) (by decide +kernel)
theorem gw667 : Cond.methodLink RL 74 yX3_until ∈ GW := gwm 667 (by decide +kernel) (by decide +kernel)
theorem gw668 : Cond.instanceMethod yX3_until ∈ GW := gwm 668 (by decide +kernel) (by decide +kernel)
theorem gw669 : Cond.selects RX3 yX3_until yX3_until ∈ GW := gwm 669 (by decide +kernel) (by decide +kernel)
theorem gw670 : Cond.code yX3_until cX3_until 4 (Option.some Jvm.ClassFile.FieldType.int) ∈ GW := gwm 670 (by decide +kernel) (by decide +kernel)
theorem gw671 : Cond.classLink RL 78 RX4 ∈ GW := gwm 671 (by decide +kernel) (by decide +kernel)
theorem gw672 : Cond.instantiable RX4 7 ∈ GW := gwm 672 (by decide +kernel) (by decide +kernel)
theorem gw673 : Cond.methodLink RL 80 yX4_init ∈ GW := gwm 673 (by decide +kernel) (by decide +kernel)
theorem gw674 : Cond.instanceMethod yX4_init ∈ GW := gwm 674 (by decide +kernel) (by decide +kernel)
theorem gw675 : Cond.code yX4_init cX4_init 1 (Option.none : Option Jvm.ClassFile.FieldType) ∈ GW := gwm 675 (by decide +kernel) (by decide +kernel)
theorem gw676 : Cond.methodLink RX4 3 objectInit ∈ GW := gwm 676 (by decide +kernel) (by decide +kernel)
theorem gw677 : Cond.fieldLink RX4 19 "LetterLocksModel" "thrown" "I" ∈ GW := gwm 677 (by decide +kernel) (by decide +kernel)
theorem gw678 : Cond.fieldLink RX4 23 "LetterLocksModel" "locks" "I" ∈ GW := gwm 678 (by decide +kernel) (by decide +kernel)
theorem gw679 : Cond.fieldLink RX4 70 "LetterLocksModel" "hour" "I" ∈ GW := gwm 679 (by decide +kernel) (by decide +kernel)
theorem gw680 : Cond.fieldLink RX4 60 "LetterLocksModel" "turns" "I" ∈ GW := gwm 680 (by decide +kernel) (by decide +kernel)
theorem gw681 : Cond.fieldLink RX4 9 "LetterLocksModel" "rows" "[I" ∈ GW := gwm 681 (by decide +kernel) (by decide +kernel)
theorem gw682 : Cond.fieldLink RX4 13 "LetterLocksModel" "wear" "[I" ∈ GW := gwm 682 (by decide +kernel) (by decide +kernel)
theorem gw683 : Cond.fieldLink RX4 16 "LetterLocksModel" "racks" "[I" ∈ GW := gwm 683 (by decide +kernel) (by decide +kernel)
theorem gw699 : Cond.methodLink RL 87 yX4_thrown ∈ GW := gwm 699 (by decide +kernel) (by decide +kernel)
theorem gw700 : Cond.instanceMethod yX4_thrown ∈ GW := gwm 700 (by decide +kernel) (by decide +kernel)
theorem gw701 : Cond.selects RX4 yX4_thrown yX4_thrown ∈ GW := gwm 701 (by decide +kernel) (by decide +kernel)
theorem gw702 : Cond.code yX4_thrown cX4_thrown 1 (Option.some Jvm.ClassFile.FieldType.int) ∈ GW := gwm 702 (by decide +kernel) (by decide +kernel)
theorem gw703 : Cond.methodLink RL 86 yX4_lock ∈ GW := gwm 703 (by decide +kernel) (by decide +kernel)
theorem gw704 : Cond.instanceMethod yX4_lock ∈ GW := gwm 704 (by decide +kernel) (by decide +kernel)
theorem gw705 : Cond.selects RX4 yX4_lock yX4_lock ∈ GW := gwm 705 (by decide +kernel) (by decide +kernel)
theorem gw706 : Cond.code yX4_lock cX4_lock 2 (Option.some Jvm.ClassFile.FieldType.int) ∈ GW := gwm 706 (by decide +kernel) (by decide +kernel)
theorem gw707 : Cond.methodLink RX4 43 yX4_isWord ∈ GW := gwm 707 (by decide +kernel) (by decide +kernel)
theorem gw708 : Cond.static yX4_isWord ∈ GW := gwm 708 (by decide +kernel) (by decide +kernel)
theorem gw709 : Cond.code yX4_isWord cX4_isWord 1 (Option.some Jvm.ClassFile.FieldType.boolean) ∈ GW := gwm 709 (by decide +kernel) (by decide +kernel)
theorem gw710 : Cond.methodLink RX4 26 yX4_isIn ∈ GW := gwm 710 (by decide +kernel) (by decide +kernel)
theorem gw711 : Cond.static yX4_isIn ∈ GW := gwm 711 (by decide +kernel) (by decide +kernel)
theorem gw712 : Cond.code yX4_isIn cX4_isIn 3 (Option.some Jvm.ClassFile.FieldType.boolean) ∈ GW := gwm 712 (by decide +kernel) (by decide +kernel)
theorem gw713 : Cond.methodLink RX4 47 yX4_fail ∈ GW := gwm 713 (by decide +kernel) (by decide +kernel)
theorem gw715 : Cond.instanceMethod yX4_fail ∈ GW := gwm 715 (by decide +kernel) (by decide +kernel)
theorem gw716 : Cond.code yX4_fail cX4_fail 2 (Option.some Jvm.ClassFile.FieldType.int) ∈ GW := gwm 716 (by decide +kernel) (by decide +kernel)
theorem gw717 : Cond.methodLink RX4 50 yX4_let ∈ GW := gwm 717 (by decide +kernel) (by decide +kernel)
theorem gw719 : Cond.instanceMethod yX4_let ∈ GW := gwm 719 (by decide +kernel) (by decide +kernel)
theorem gw720 : Cond.code yX4_let cX4_let 4 (Option.none : Option Jvm.ClassFile.FieldType) ∈ GW := gwm 720 (by decide +kernel) (by decide +kernel)
theorem gw721 : Cond.methodLink RL 94 yX4_turn ∈ GW := gwm 721 (by decide +kernel) (by decide +kernel)
theorem gw722 : Cond.instanceMethod yX4_turn ∈ GW := gwm 722 (by decide +kernel) (by decide +kernel)
theorem gw723 : Cond.selects RX4 yX4_turn yX4_turn ∈ GW := gwm 723 (by decide +kernel) (by decide +kernel)
theorem gw724 : Cond.code yX4_turn cX4_turn 5 (Option.some Jvm.ClassFile.FieldType.int) ∈ GW := gwm 724 (by decide +kernel) (by decide +kernel)
theorem gw725 : Cond.methodLink RX4 54 yX4_isLock ∈ GW := gwm 725 (by decide +kernel) (by decide +kernel)
theorem gw727 : Cond.instanceMethod yX4_isLock ∈ GW := gwm 727 (by decide +kernel) (by decide +kernel)
theorem gw728 : Cond.code yX4_isLock cX4_isLock 2 (Option.some Jvm.ClassFile.FieldType.boolean) ∈ GW := gwm 728 (by decide +kernel) (by decide +kernel)
theorem gw729 : Cond.methodLink RX4 30 yX4_lo ∈ GW := gwm 729 (by decide +kernel) (by decide +kernel)
theorem gw731 : Cond.instanceMethod yX4_lo ∈ GW := gwm 731 (by decide +kernel) (by decide +kernel)
theorem gw732 : Cond.code yX4_lo cX4_lo 3 (Option.some Jvm.ClassFile.FieldType.int) ∈ GW := gwm 732 (by decide +kernel) (by decide +kernel)
theorem gw733 : Cond.methodLink RX4 57 yX4_far ∈ GW := gwm 733 (by decide +kernel) (by decide +kernel)
theorem gw734 : Cond.static yX4_far ∈ GW := gwm 734 (by decide +kernel) (by decide +kernel)
theorem gw735 : Cond.code yX4_far cX4_far 3 (Option.some Jvm.ClassFile.FieldType.int) ∈ GW := gwm 735 (by decide +kernel) (by decide +kernel)
theorem gw736 : Cond.methodLink RX4 34 Lib.Math.abs.name ∈ GW := gwm 736 (by decide +kernel) (by decide +kernel)
theorem gw737 : Cond.methodLink RX4 40 Lib.Math.min.name ∈ GW := gwm 737 (by decide +kernel) (by decide +kernel)
theorem gw738 : Cond.methodLink RL 97 yX4_open ∈ GW := gwm 738 (by decide +kernel) (by decide +kernel)
theorem gw739 : Cond.instanceMethod yX4_open ∈ GW := gwm 739 (by decide +kernel) (by decide +kernel)
theorem gw740 : Cond.selects RX4 yX4_open yX4_open ∈ GW := gwm 740 (by decide +kernel) (by decide +kernel)
theorem gw741 : Cond.code yX4_open cX4_open 2 (Option.some Jvm.ClassFile.FieldType.boolean) ∈ GW := gwm 741 (by decide +kernel) (by decide +kernel)
theorem gw742 : Cond.methodLink RX4 63 yX4_stands ∈ GW := gwm 742 (by decide +kernel) (by decide +kernel)
theorem gw744 : Cond.instanceMethod yX4_stands ∈ GW := gwm 744 (by decide +kernel) (by decide +kernel)
theorem gw745 : Cond.code yX4_stands cX4_stands 4 (Option.some Jvm.ClassFile.FieldType.int) ∈ GW := gwm 745 (by decide +kernel) (by decide +kernel)
theorem gw746 : Cond.methodLink RL 100 yX4_shut ∈ GW := gwm 746 (by decide +kernel) (by decide +kernel)
theorem gw747 : Cond.instanceMethod yX4_shut ∈ GW := gwm 747 (by decide +kernel) (by decide +kernel)
theorem gw748 : Cond.selects RX4 yX4_shut yX4_shut ∈ GW := gwm 748 (by decide +kernel) (by decide +kernel)
theorem gw749 : Cond.code yX4_shut cX4_shut 2 (Option.some Jvm.ClassFile.FieldType.int) ∈ GW := gwm 749 (by decide +kernel) (by decide +kernel)
theorem gw750 : Cond.methodLink RX4 66 yX4_close ∈ GW := gwm 750 (by decide +kernel) (by decide +kernel)
theorem gw752 : Cond.instanceMethod yX4_close ∈ GW := gwm 752 (by decide +kernel) (by decide +kernel)
theorem gw753 : Cond.code yX4_close cX4_close 3 (Option.none : Option Jvm.ClassFile.FieldType) ∈ GW := gwm 753 (by decide +kernel) (by decide +kernel)
theorem gw754 : Cond.methodLink RL 104 yX4_rename ∈ GW := gwm 754 (by decide +kernel) (by decide +kernel)
theorem gw755 : Cond.instanceMethod yX4_rename ∈ GW := gwm 755 (by decide +kernel) (by decide +kernel)
theorem gw756 : Cond.selects RX4 yX4_rename yX4_rename ∈ GW := gwm 756 (by decide +kernel) (by decide +kernel)
theorem gw757 : Cond.code yX4_rename cX4_rename 4 (Option.some Jvm.ClassFile.FieldType.int) ∈ GW := gwm 757 (by decide +kernel) (by decide +kernel)
theorem gw758 : Cond.methodLink RL 108 yX4_lose ∈ GW := gwm 758 (by decide +kernel) (by decide +kernel)
theorem gw759 : Cond.instanceMethod yX4_lose ∈ GW := gwm 759 (by decide +kernel) (by decide +kernel)
theorem gw760 : Cond.selects RX4 yX4_lose yX4_lose ∈ GW := gwm 760 (by decide +kernel) (by decide +kernel)
theorem gw761 : Cond.code yX4_lose cX4_lose 4 (Option.some Jvm.ClassFile.FieldType.boolean) ∈ GW := gwm 761 (by decide +kernel) (by decide +kernel)
theorem gw762 : Cond.methodLink RL 111 yX4_setPlaces ∈ GW := gwm 762 (by decide +kernel) (by decide +kernel)
theorem gw763 : Cond.instanceMethod yX4_setPlaces ∈ GW := gwm 763 (by decide +kernel) (by decide +kernel)
theorem gw764 : Cond.selects RX4 yX4_setPlaces yX4_setPlaces ∈ GW := gwm 764 (by decide +kernel) (by decide +kernel)
theorem gw765 : Cond.code yX4_setPlaces cX4_setPlaces 4 (Option.some Jvm.ClassFile.FieldType.int) ∈ GW := gwm 765 (by decide +kernel) (by decide +kernel)
theorem gw766 : Cond.methodLink RX4 76 yX4_isRack ∈ GW := gwm 766 (by decide +kernel) (by decide +kernel)
theorem gw767 : Cond.static yX4_isRack ∈ GW := gwm 767 (by decide +kernel) (by decide +kernel)
theorem gw768 : Cond.code yX4_isRack cX4_isRack 1 (Option.some Jvm.ClassFile.FieldType.boolean) ∈ GW := gwm 768 (by decide +kernel) (by decide +kernel)
theorem gw769 : Cond.methodLink RX4 79 yX4_in ∈ GW := gwm 769 (by decide +kernel) (by decide +kernel)
theorem gw771 : Cond.instanceMethod yX4_in ∈ GW := gwm 771 (by decide +kernel) (by decide +kernel)
theorem gw772 : Cond.code yX4_in cX4_in 4 (Option.some Jvm.ClassFile.FieldType.int) ∈ GW := gwm 772 (by decide +kernel) (by decide +kernel)
theorem gw773 : Cond.methodLink RX4 73 yX4_ra ∈ GW := gwm 773 (by decide +kernel) (by decide +kernel)
theorem gw775 : Cond.instanceMethod yX4_ra ∈ GW := gwm 775 (by decide +kernel) (by decide +kernel)
theorem gw776 : Cond.code yX4_ra cX4_ra 3 (Option.some Jvm.ClassFile.FieldType.int) ∈ GW := gwm 776 (by decide +kernel) (by decide +kernel)
theorem gw777 : Cond.methodLink RL 114 yX4_setHours ∈ GW := gwm 777 (by decide +kernel) (by decide +kernel)
theorem gw778 : Cond.instanceMethod yX4_setHours ∈ GW := gwm 778 (by decide +kernel) (by decide +kernel)
theorem gw779 : Cond.selects RX4 yX4_setHours yX4_setHours ∈ GW := gwm 779 (by decide +kernel) (by decide +kernel)
theorem gw780 : Cond.code yX4_setHours cX4_setHours 5 (Option.some Jvm.ClassFile.FieldType.int) ∈ GW := gwm 780 (by decide +kernel) (by decide +kernel)
theorem gw781 : Cond.methodLink RL 117 yX4_put ∈ GW := gwm 781 (by decide +kernel) (by decide +kernel)
theorem gw782 : Cond.instanceMethod yX4_put ∈ GW := gwm 782 (by decide +kernel) (by decide +kernel)
theorem gw783 : Cond.selects RX4 yX4_put yX4_put ∈ GW := gwm 783 (by decide +kernel) (by decide +kernel)
theorem gw784 : Cond.code yX4_put cX4_put 4 (Option.some Jvm.ClassFile.FieldType.int) ∈ GW := gwm 784 (by decide +kernel) (by decide +kernel)
theorem gw785 : Cond.methodLink RX4 82 yX4_isOpen ∈ GW := gwm 785 (by decide +kernel) (by decide +kernel)
theorem gw787 : Cond.instanceMethod yX4_isOpen ∈ GW := gwm 787 (by decide +kernel) (by decide +kernel)
theorem gw788 : Cond.code yX4_isOpen cX4_isOpen 5 (Option.some Jvm.ClassFile.FieldType.boolean) ∈ GW := gwm 788 (by decide +kernel) (by decide +kernel)
theorem gw789 : Cond.methodLink RL 120 yX4_told ∈ GW := gwm 789 (by decide +kernel) (by decide +kernel)
theorem gw790 : Cond.instanceMethod yX4_told ∈ GW := gwm 790 (by decide +kernel) (by decide +kernel)
theorem gw791 : Cond.selects RX4 yX4_told yX4_told ∈ GW := gwm 791 (by decide +kernel) (by decide +kernel)
theorem gw792 : Cond.code yX4_told cX4_told 3 (Option.some Jvm.ClassFile.FieldType.int) ∈ GW := gwm 792 (by decide +kernel) (by decide +kernel)
theorem gw793 : Cond.methodLink RX4 92 yX4_lockTold ∈ GW := gwm 793 (by decide +kernel) (by decide +kernel)
theorem gw795 : Cond.instanceMethod yX4_lockTold ∈ GW := gwm 795 (by decide +kernel) (by decide +kernel)
theorem gw796 : Cond.code yX4_lockTold cX4_lockTold 3 (Option.some Jvm.ClassFile.FieldType.int) ∈ GW := gwm 796 (by decide +kernel) (by decide +kernel)
theorem gw797 : Cond.methodLink RX4 89 yX4_shows ∈ GW := gwm 797 (by decide +kernel) (by decide +kernel)
theorem gw799 : Cond.instanceMethod yX4_shows ∈ GW := gwm 799 (by decide +kernel) (by decide +kernel)
theorem gw800 : Cond.code yX4_shows cX4_shows 6 (Option.some Jvm.ClassFile.FieldType.int) ∈ GW := gwm 800 (by decide +kernel) (by decide +kernel)
theorem gw801 : Cond.methodLink RX4 85 yX4_we ∈ GW := gwm 801 (by decide +kernel) (by decide +kernel)
theorem gw803 : Cond.instanceMethod yX4_we ∈ GW := gwm 803 (by decide +kernel) (by decide +kernel)
theorem gw804 : Cond.code yX4_we cX4_we 4 (Option.some Jvm.ClassFile.FieldType.int) ∈ GW := gwm 804 (by decide +kernel) (by decide +kernel)
theorem gw805 : Cond.methodLink RL 123 yX4_wear ∈ GW := gwm 805 (by decide +kernel) (by decide +kernel)
theorem gw806 : Cond.instanceMethod yX4_wear ∈ GW := gwm 806 (by decide +kernel) (by decide +kernel)
theorem gw807 : Cond.selects RX4 yX4_wear yX4_wear ∈ GW := gwm 807 (by decide +kernel) (by decide +kernel)
theorem gw808 : Cond.code yX4_wear cX4_wear 4 (Option.some Jvm.ClassFile.FieldType.int) ∈ GW := gwm 808 (by decide +kernel) (by decide +kernel)
theorem gw809 : Cond.methodLink RL 126 yX4_rack ∈ GW := gwm 809 (by decide +kernel) (by decide +kernel)
theorem gw810 : Cond.instanceMethod yX4_rack ∈ GW := gwm 810 (by decide +kernel) (by decide +kernel)
theorem gw811 : Cond.selects RX4 yX4_rack yX4_rack ∈ GW := gwm 811 (by decide +kernel) (by decide +kernel)
theorem gw812 : Cond.code yX4_rack cX4_rack 3 (Option.some Jvm.ClassFile.FieldType.int) ∈ GW := gwm 812 (by decide +kernel) (by decide +kernel)
theorem gw813 : Cond.methodLink RX4 95 yX4_rackTold ∈ GW := gwm 813 (by decide +kernel) (by decide +kernel)
theorem gw815 : Cond.instanceMethod yX4_rackTold ∈ GW := gwm 815 (by decide +kernel) (by decide +kernel)
theorem gw816 : Cond.code yX4_rackTold cX4_rackTold 5 (Option.some Jvm.ClassFile.FieldType.int) ∈ GW := gwm 816 (by decide +kernel) (by decide +kernel)
theorem gw817 : Cond.methodLink RL 129 yX4_count ∈ GW := gwm 817 (by decide +kernel) (by decide +kernel)
theorem gw818 : Cond.instanceMethod yX4_count ∈ GW := gwm 818 (by decide +kernel) (by decide +kernel)
theorem gw819 : Cond.selects RX4 yX4_count yX4_count ∈ GW := gwm 819 (by decide +kernel) (by decide +kernel)
theorem gw820 : Cond.code yX4_count cX4_count 2 (Option.some Jvm.ClassFile.FieldType.int) ∈ GW := gwm 820 (by decide +kernel) (by decide +kernel)
theorem gw821 : Cond.methodLink RX4 98 yX4_counted ∈ GW := gwm 821 (by decide +kernel) (by decide +kernel)
theorem gw823 : Cond.instanceMethod yX4_counted ∈ GW := gwm 823 (by decide +kernel) (by decide +kernel)
theorem gw824 : Cond.code yX4_counted cX4_counted 7 (Option.some Jvm.ClassFile.FieldType.int) ∈ GW := gwm 824 (by decide +kernel) (by decide +kernel)
theorem gw825 : Cond.methodLink RL 132 yX4_apart ∈ GW := gwm 825 (by decide +kernel) (by decide +kernel)
theorem gw826 : Cond.instanceMethod yX4_apart ∈ GW := gwm 826 (by decide +kernel) (by decide +kernel)
theorem gw827 : Cond.selects RX4 yX4_apart yX4_apart ∈ GW := gwm 827 (by decide +kernel) (by decide +kernel)
theorem gw828 : Cond.code yX4_apart cX4_apart 3 (Option.some Jvm.ClassFile.FieldType.int) ∈ GW := gwm 828 (by decide +kernel) (by decide +kernel)
theorem gw829 : Cond.methodLink RX4 104 yX4_between ∈ GW := gwm 829 (by decide +kernel) (by decide +kernel)
theorem gw830 : Cond.static yX4_between ∈ GW := gwm 830 (by decide +kernel) (by decide +kernel)
theorem gw831 : Cond.code yX4_between cX4_between 4 (Option.some Jvm.ClassFile.FieldType.int) ∈ GW := gwm 831 (by decide +kernel) (by decide +kernel)
theorem gw832 : Cond.methodLink RX4 101 yX4_letter ∈ GW := gwm 832 (by decide +kernel) (by decide +kernel)
theorem gw833 : Cond.static yX4_letter ∈ GW := gwm 833 (by decide +kernel) (by decide +kernel)
theorem gw834 : Cond.code yX4_letter cX4_letter 4 (Option.some Jvm.ClassFile.FieldType.int) ∈ GW := gwm 834 (by decide +kernel) (by decide +kernel)
theorem gw835 : Cond.methodLink RL 135 yX4_trial ∈ GW := gwm 835 (by decide +kernel) (by decide +kernel)
theorem gw836 : Cond.instanceMethod yX4_trial ∈ GW := gwm 836 (by decide +kernel) (by decide +kernel)
theorem gw837 : Cond.selects RX4 yX4_trial yX4_trial ∈ GW := gwm 837 (by decide +kernel) (by decide +kernel)
theorem gw838 : Cond.code yX4_trial cX4_trial 3 (Option.some Jvm.ClassFile.FieldType.int) ∈ GW := gwm 838 (by decide +kernel) (by decide +kernel)
theorem gw839 : Cond.methodLink RX4 115 yX4_tried ∈ GW := gwm 839 (by decide +kernel) (by decide +kernel)
theorem gw841 : Cond.instanceMethod yX4_tried ∈ GW := gwm 841 (by decide +kernel) (by decide +kernel)
theorem gw842 : Cond.code yX4_tried cX4_tried 8 (Option.some Jvm.ClassFile.FieldType.int) ∈ GW := gwm 842 (by decide +kernel) (by decide +kernel)
theorem gw843 : Cond.methodLink RX4 107 yX4_places ∈ GW := gwm 843 (by decide +kernel) (by decide +kernel)
theorem gw845 : Cond.instanceMethod yX4_places ∈ GW := gwm 845 (by decide +kernel) (by decide +kernel)
theorem gw846 : Cond.code yX4_places cX4_places 7 (Option.some (Jvm.ClassFile.FieldType.array Jvm.ClassFile.FieldType.int)) ∈ GW := gwm 846 (by decide +kernel) (by decide +kernel)
theorem gw847 : Cond.methodLink RX4 111 yX4_sum ∈ GW := gwm 847 (by decide +kernel) (by decide +kernel)
theorem gw848 : Cond.static yX4_sum ∈ GW := gwm 848 (by decide +kernel) (by decide +kernel)
theorem gw849 : Cond.code yX4_sum cX4_sum 5 (Option.some Jvm.ClassFile.FieldType.int) ∈ GW := gwm 849 (by decide +kernel) (by decide +kernel)
theorem gw850 : Cond.methodLink RL 138 yX4_safe ∈ GW := gwm 850 (by decide +kernel) (by decide +kernel)
theorem gw851 : Cond.instanceMethod yX4_safe ∈ GW := gwm 851 (by decide +kernel) (by decide +kernel)
theorem gw852 : Cond.selects RX4 yX4_safe yX4_safe ∈ GW := gwm 852 (by decide +kernel) (by decide +kernel)
theorem gw853 : Cond.code yX4_safe cX4_safe 2 (Option.some Jvm.ClassFile.FieldType.int) ∈ GW := gwm 853 (by decide +kernel) (by decide +kernel)
theorem gw854 : Cond.methodLink RL 141 yX4_pass ∈ GW := gwm 854 (by decide +kernel) (by decide +kernel)
theorem gw855 : Cond.instanceMethod yX4_pass ∈ GW := gwm 855 (by decide +kernel) (by decide +kernel)
theorem gw856 : Cond.selects RX4 yX4_pass yX4_pass ∈ GW := gwm 856 (by decide +kernel) (by decide +kernel)
theorem gw857 : Cond.code yX4_pass cX4_pass 2 (Option.some Jvm.ClassFile.FieldType.int) ∈ GW := gwm 857 (by decide +kernel) (by decide +kernel)
theorem gw858 : Cond.methodLink RX4 126 yX4_hoursOn ∈ GW := gwm 858 (by decide +kernel) (by decide +kernel)
theorem gw860 : Cond.instanceMethod yX4_hoursOn ∈ GW := gwm 860 (by decide +kernel) (by decide +kernel)
theorem gw861 : Cond.code yX4_hoursOn cX4_hoursOn 4 (Option.some Jvm.ClassFile.FieldType.int) ∈ GW := gwm 861 (by decide +kernel) (by decide +kernel)
theorem gw862 : Cond.methodLink RX4 122 yX4_hourOn ∈ GW := gwm 862 (by decide +kernel) (by decide +kernel)
theorem gw864 : Cond.instanceMethod yX4_hourOn ∈ GW := gwm 864 (by decide +kernel) (by decide +kernel)
theorem gw865 : Cond.code yX4_hourOn cX4_hourOn 3 (Option.some Jvm.ClassFile.FieldType.int) ∈ GW := gwm 865 (by decide +kernel) (by decide +kernel)
theorem gw866 : Cond.methodLink RX4 118 yX4_wearAt ∈ GW := gwm 866 (by decide +kernel) (by decide +kernel)
theorem gw868 : Cond.instanceMethod yX4_wearAt ∈ GW := gwm 868 (by decide +kernel) (by decide +kernel)
theorem gw869 : Cond.code yX4_wearAt cX4_wearAt 6 (Option.none : Option Jvm.ClassFile.FieldType) ∈ GW := gwm 869 (by decide +kernel) (by decide +kernel)
theorem gw870 : Cond.methodLink RL 144 yX4_foresee ∈ GW := gwm 870 (by decide +kernel) (by decide +kernel)
theorem gw871 : Cond.instanceMethod yX4_foresee ∈ GW := gwm 871 (by decide +kernel) (by decide +kernel)
theorem gw872 : Cond.selects RX4 yX4_foresee yX4_foresee ∈ GW := gwm 872 (by decide +kernel) (by decide +kernel)
theorem gw873 : Cond.code yX4_foresee cX4_foresee 7 (Option.some Jvm.ClassFile.FieldType.int) ∈ GW := gwm 873 (by decide +kernel) (by decide +kernel)
theorem gw874 : Cond.methodLink RX4 135 ⟨"[I", "clone", "()Ljava/lang/Object;"⟩ ∈ GW := gwm 874 (by decide +kernel) (by decide +kernel)
theorem gw876 : Cond.native ⟨"java/lang/Object", "clone", "()Ljava/lang/Object;"⟩ ∈ GW := gwm 876 (by decide +kernel) (by decide +kernel)
theorem gw877 : Cond.instanceMethod ⟨"java/lang/Object", "clone", "()Ljava/lang/Object;"⟩ ∈ GW := gwm 877 (by decide +kernel) (by decide +kernel)
theorem gw878 : Cond.selects "[I" ⟨"[I", "clone", "()Ljava/lang/Object;"⟩ ⟨"java/lang/Object", "clone", "()Ljava/lang/Object;"⟩ ∈ GW := gwm 878 (by decide +kernel) (by decide +kernel)
theorem nw879 : Cond.castable "[I" RJx8e188 ∈ NW := nwm 879 (by decide +kernel) (by decide +kernel)
theorem gw880 : Cond.classLink RX4 136 "[I" ∈ GW := gwm 880 (by decide +kernel) (by decide +kernel)
theorem gw881 : Cond.methodLink RX4 140 yX4_bringBack ∈ GW := gwm 881 (by decide +kernel) (by decide +kernel)
theorem gw883 : Cond.instanceMethod yX4_bringBack ∈ GW := gwm 883 (by decide +kernel) (by decide +kernel)
theorem gw884 : Cond.code yX4_bringBack cX4_bringBack 4 (Option.none : Option Jvm.ClassFile.FieldType) ∈ GW := gwm 884 (by decide +kernel) (by decide +kernel)
theorem gw885 : Cond.methodLink RX4 129 arraycopyName ∈ GW := gwm 885 (by decide +kernel) (by decide +kernel)
theorem gw886 : Cond.methodLink RL 147 yX4_until ∈ GW := gwm 886 (by decide +kernel) (by decide +kernel)
theorem gw887 : Cond.instanceMethod yX4_until ∈ GW := gwm 887 (by decide +kernel) (by decide +kernel)
theorem gw888 : Cond.selects RX4 yX4_until yX4_until ∈ GW := gwm 888 (by decide +kernel) (by decide +kernel)
theorem gw889 : Cond.code yX4_until cX4_until 6 (Option.some Jvm.ClassFile.FieldType.int) ∈ GW := gwm 889 (by decide +kernel) (by decide +kernel)
theorem gw890 : Cond.methodLink RL 151 yX4_weakest ∈ GW := gwm 890 (by decide +kernel) (by decide +kernel)
theorem gw891 : Cond.instanceMethod yX4_weakest ∈ GW := gwm 891 (by decide +kernel) (by decide +kernel)
theorem gw892 : Cond.selects RX4 yX4_weakest yX4_weakest ∈ GW := gwm 892 (by decide +kernel) (by decide +kernel)
theorem gw893 : Cond.code yX4_weakest cX4_weakest 5 (Option.some Jvm.ClassFile.FieldType.int) ∈ GW := gwm 893 (by decide +kernel) (by decide +kernel)
theorem gw894 : Cond.methodLink RL 156 yX4_mean ∈ GW := gwm 894 (by decide +kernel) (by decide +kernel)
theorem gw895 : Cond.instanceMethod yX4_mean ∈ GW := gwm 895 (by decide +kernel) (by decide +kernel)
theorem gw896 : Cond.selects RX4 yX4_mean yX4_mean ∈ GW := gwm 896 (by decide +kernel) (by decide +kernel)
theorem gw897 : Cond.code yX4_mean cX4_mean 1 (Option.some Jvm.ClassFile.FieldType.double) ∈ GW := gwm 897 (by decide +kernel) (by decide +kernel)
theorem gw898 : Cond.methodLink RL 161 yX4_digest ∈ GW := gwm 898 (by decide +kernel) (by decide +kernel)
theorem gw899 : Cond.instanceMethod yX4_digest ∈ GW := gwm 899 (by decide +kernel) (by decide +kernel)
theorem gw900 : Cond.selects RX4 yX4_digest yX4_digest ∈ GW := gwm 900 (by decide +kernel) (by decide +kernel)
theorem gw901 : Cond.code yX4_digest cX4_digest 5 (Option.some Jvm.ClassFile.FieldType.long) ∈ GW := gwm 901 (by decide +kernel) (by decide +kernel)
theorem nw906 : Cond.castable RX1 "java/lang/Object" ∈ NW := nwm 906 (by decide +kernel) (by decide +kernel)
theorem nw907 : Cond.castable RX3 "java/lang/Object" ∈ NW := nwm 907 (by decide +kernel) (by decide +kernel)
theorem nw908 : Cond.castable RJx4a65c "java/lang/Object" ∈ NW := nwm 908 (by decide +kernel) (by decide +kernel)
theorem nw909 : Cond.castable RX2 "java/lang/Object" ∈ NW := nwm 909 (by decide +kernel) (by decide +kernel)
theorem nw910 : Cond.castable RX0 "java/lang/Object" ∈ NW := nwm 910 (by decide +kernel) (by decide +kernel)
theorem nw911 : Cond.castable RX4 "java/lang/Object" ∈ NW := nwm 911 (by decide +kernel) (by decide +kernel)
theorem nw912 : Cond.castable "java/lang/IllegalArgumentException" "java/lang/Object" ∈ NW := nwm 912 (by decide +kernel) (by decide +kernel)
theorem nw913 : Cond.castable "java/lang/IllegalStateException" "java/lang/Object" ∈ NW := nwm 913 (by decide +kernel) (by decide +kernel)
theorem nw914 : Cond.castable "java/lang/IndexOutOfBoundsException" "java/lang/Object" ∈ NW := nwm 914 (by decide +kernel) (by decide +kernel)
theorem nw915 : Cond.castable "java/lang/Throwable" "java/lang/Object" ∈ NW := nwm 915 (by decide +kernel) (by decide +kernel)
theorem nw916 : Cond.castable RJ0 "java/lang/Object" ∈ NW := nwm 916 (by decide +kernel) (by decide +kernel)
theorem gw918 : Cond.selects "[Ljava/lang/Object;" ⟨"java/lang/Object", "getClass", "()Ljava/lang/Class;"⟩ ⟨"java/lang/Object", "getClass", "()Ljava/lang/Class;"⟩ ∈ GW := gwm 918 (by decide +kernel) (by decide +kernel)
theorem nw919 : Cond.declares ⟨"java/lang/Object", "getClass", "()Ljava/lang/Class;"⟩ ∈ NW := nwm 919 (by decide +kernel) (by decide +kernel)
theorem nw920 : Cond.castable "[LLetterLocks$Rack;" "java/lang/Object" ∈ NW := nwm 920 (by decide +kernel) (by decide +kernel)
theorem nw921 : Cond.castable "[[I" "java/lang/Object" ∈ NW := nwm 921 (by decide +kernel) (by decide +kernel)
theorem nw922 : Cond.castable "[I" "java/lang/Object" ∈ NW := nwm 922 (by decide +kernel) (by decide +kernel)
theorem nw923 : Cond.castable "[B" "java/lang/Object" ∈ NW := nwm 923 (by decide +kernel) (by decide +kernel)
theorem nw924 : Cond.castable "[Ljava/lang/Object;" "java/lang/Object" ∈ NW := nwm 924 (by decide +kernel) (by decide +kernel)
theorem nw925 : Cond.castable "[J" "java/lang/Object" ∈ NW := nwm 925 (by decide +kernel) (by decide +kernel)
theorem gw128 : Cond.arrayClass Jvm.ClassFile.FieldType.int ∈ GW := gwm 128 (by decide +kernel) (by decide +kernel)
theorem gw260 : Cond.arrayClass Jvm.ClassFile.FieldType.byte ∈ GW := gwm 260 (by decide +kernel) (by decide +kernel)
theorem gw904 : Cond.arrayClass Jvm.ClassFile.FieldType.long ∈ GW := gwm 904 (by decide +kernel) (by decide +kernel)
theorem iX0 : ∀ w ∈ wsX00, w ∈ GW := by decide +kernel
theorem iX1 : ∀ w ∈ wsX10, w ∈ GW := by decide +kernel
theorem iX2 : ∀ w ∈ wsX20, w ∈ GW := by decide +kernel
theorem iX3 : ∀ w ∈ wsX30, w ∈ GW := by decide +kernel
theorem iX4 : ∀ w ∈ wsX40, w ∈ GW := by decide +kernel
theorem iJx4a65c : ∀ w ∈ wsJx4a65c0, w ∈ GW := by decide +kernel
end
section
/-! THE LAYER: a walk's fixed things in one tuple, its heap facts in one judgement -/
abbrev Ctx : Type := Program × Launch × Env × Room × State × MethodId × Array Value × List Frame × Method × Code × va_G × (Nat → ClassId) × (Nat → Nat) × (Nat → Prop) × Nat × (State → Prop)
/-- the array classes: of int, of Rack, of Object, of int[], of long -/
abbrev TY (ct : Nat → ClassId) : List (ClassId × FieldType) := [(ct 0, .int), (ct 1, .object "LetterLocks$Rack"), (ct 2, .object "java/lang/Object"), (ct 3, .array .int), (ct 4, .long)]
theorem va_AOA.moved {ty : FieldType} {u U : State} (hvm : u.vm.Alike U.vm) (h : va_AOA ty u) : va_AOA ty U := by
  have h0 : (Cond.arrayOver (.array ty)).holds #[] u none u [] = true := h
  simp only [Cond.holds, Cond.value, beq_iff_eq] at h0
  show (Cond.arrayOver (.array ty)).holds #[] U none U [] = true
  simp only [Cond.holds, Cond.value, beq_iff_eq]
  cases hc : u.vm.findClass (FieldType.array ty).toString with
  | none => simp [hc] at h0
  | some comp =>
    simp only [hc, Option.bind_some, Option.bind_eq_some_iff, Option.map_eq_some_iff] at h0
    obtain ⟨c, hi, k, hk, hb⟩ := h0
    obtain ⟨k', hk', he⟩ := hvm.2.2 _ _ hk
    have hi' : (U.vm.classes.findIdx? fun (x : Class) => match x.kind with | .array component _ => component == comp | _ => false) = some c := by
      refine (va_idx_bare U.vm comp).symm.trans ?_
      have e : U.vm.bare = u.vm.bare := by first | exact hvm.bare_eq | exact hvm.bare_eq.symm
      rw [e]
      exact (va_idx_bare u.vm comp).trans hi
    have hkind : k'.kind = k.kind := by rw [he]
    rw [show U.vm.findClass (FieldType.array ty).toString = some comp by rw [hvm.findClass]; exact hc]
    rw [Option.bind_some]
    refine (congrArg (fun o : Option Nat => o.bind (fun c => (U.vm.classes[c]?).map fun (k : Class) => match k.kind with | .array _ t2 => decide (t2 = FieldType.array ty) && decide (U.vm.findClass ("[" ++ (FieldType.array ty).toString) = some c) | _ => false)) hi').trans ?_
    simp only [Option.bind_some]
    rw [hk', Option.map_some, hkind, hvm.findClass]
    exact congrArg some hb
abbrev STRS : List (Nat × String) := [(226, "no such lock"), (176, "what is 0 to 6"), (139, "no such rack"), (153, "what is 0 to 5"), (231, "no such ring"), (77, "no such letter"), (233, "no such word"), (55, "there are 8 locks"), (237, "the lock is shut"), (116, "places are 1 to 6"), (121, "more locks are in the rack"), (126, "hours are 0 to 23 and 0 to 24"), (148, "the rack is not open, or full"), (235, "hours are 1 to 99")]
/-- what a walk may ask beside the good words: members of nest mates, texts, classes of arrays, statics outside A -/
def EX (sa : Nat → Nat) (A : Nat → Prop) (U : State) (H : Heap) : Prop :=
  (∀ w ∈ NW, va_Nw w U) ∧ (∀ q ∈ STRS, vk_R "LetterLocks" q.1 q.2 (sa q.1) U) ∧ va_AO "LetterLocks$Rack" U ∧ va_AOA .int U ∧ va_AO "java/lang/Object" U ∧
  vx_Zq Bundle.tN "UNASSIGNED_STACK" Bundle.steD A U H ∧ vx_Zq Bundle.tN "SUPPRESSED_SENTINEL" Bundle.listD A U H ∧
  va_Z "java/util/ArrayList" "DEFAULTCAPACITY_EMPTY_ELEMENTDATA" "[Ljava/lang/Object;" (.ref (sa 0)) A U H ∧ va_T (.object "java/lang/Object") (sa 0) 0 (fun _ => .null) A U H
theorem EX.moved {sa : Nat → Nat} {A : Nat → Prop} {s U : State} {H : Heap} (hW : s.WarmedH U.vm) (h : EX sa A s H) : EX sa A U H := by
  obtain ⟨h1, h2, h3, h4, h5, h6, h7, h8, h9⟩ := h
  exact ⟨fun w hw => nw_warm (List.mem_filter.mp hw).2 hW (h1 w hw), fun q hq => vk_R.warm hW (h2 q hq), h3.moved hW.alike, h4.moved hW.alike, h5.moved hW.alike, h6.moved hW.alike, h7.moved hW.alike, h8.moved hW.alike, h9.moved hW.alike⟩
theorem EX.kept {sa : Nat → Nat} {A : Nat → Prop} {U : State} {H H1 : Heap} (h : EX sa A U H) (hq : ∀ a : Nat, a < H.size → ¬ A a → H1[a]? = H[a]?) : EX sa A U H1 := by
  obtain ⟨h1, h2, h3, h4, h5, h6, h7, h8, h9⟩ := h
  exact ⟨h1, h2, h3, h4, h5, h6.kept hq, h7.kept hq, h8.kept hq, h9.kept hq⟩
theorem EX.narrow {sa : Nat → Nat} {A B : Nat → Prop} {U : State} {H : Heap} (h : EX sa A U H) (hAB : ∀ q, B q → A q) : EX sa B U H := by
  obtain ⟨h1, h2, h3, h4, h5, h6, h7, h8, h9⟩ := h
  exact ⟨h1, h2, h3, h4, h5, h6.narrow hAB, h7.narrow hAB, h8.narrow hAB, h9.narrow hAB⟩
def J (X : Ctx) (ws : va_W) (k n pc : Nat) (lv : List (Nat × Value)) (st : List Value) : Prop :=
  match X with
  | (p, l0, e, R, s, m, args, below, meth, c, D0, ct0, sa0, A, nL, Q) =>
    ∀ (H : Heap) (locs : List Loc) (ls : Array Slot), va_P D0 vwCl ws H → va_D A ws → va_S A s.heap H locs → lv_has ls nL lv → W p l0 e R s m args below meth c H locs k n Q (F0 m pc ls st)
def jC (X : Ctx) (l : Launch) (D : va_G) (ct : Nat → ClassId) (sa : Nat → Nat) (cc : ByteArray) (nL1 : Nat) (own : String) (R0 : Room) : Prop :=
  match X with
  | (p, l0, e, R, s, m, args, below, meth, c, D0, ct0, sa0, A, nL, Q) =>
    p.tables.exec = Jvm.exec ∧ c.code = cc ∧ c.maxLocals = nL ∧ s.vm.findClass own = some m.cls ∧ (∀ w ∈ GW, w.before args s = true) ∧ va_K D vwCl (TY ct) s ∧ (∀ q, s.heap.size ≤ q → A q) ∧ meth.locks = false ∧ EX sa A s s.heap ∧
    R = R0 ∧ l0 = l ∧ D0 = D ∧ ct0 = ct ∧ sa0 = sa ∧ nL = nL1
/-- the world that a contract begins with -/
def jPre (D : va_G) (ct : Nat → ClassId) (sa : Nat → Nat) (sz : Nat) (ws : va_W) (U : State) : Prop := U.heap.size = sz ∧ va_P D vwCl ws U.heap ∧ va_K D vwCl (TY ct) U ∧ va_D (fun _ => True) ws ∧ EX sa (va_A ws sz) U U.heap
def jW (D : va_G) (ct : Nat → ClassId) (sz : Nat) (ws w : va_W) (t : State) : Prop := va_P D vwCl w t.heap ∧ va_D (va_A ws sz) w
def jQ (D : va_G) (ct : Nat → ClassId) (sz : Nat) (ws : va_W) (K : Option Value → va_W → Prop) : Array Value → State → Outcome → State → Prop := fun _ st oc t => (∃ r w, oc = .returned r ∧ K r w ∧ jW D ct sz ws w t) ∧ va_F (va_A ws sz) st t
def jX (D : va_G) (ct : Nat → ClassId) (sz : Nat) (ws : va_W) (KX : String → Prop) : String → State → State → Prop := fun E st t => (KX E ∧ jW D ct sz ws ws t) ∧ va_F (va_A ws sz) st t
def jM (l : Launch) (y : MethodName) (wl : List Cond) (rm : Room) (D : va_G) (ct : Nat → ClassId) (sa : Nat → Nat) (av : List Value) (ws : va_W) (K : Option Value → va_W → Prop) (mc ms : Nat) : Prop :=
  ∀ sz, Met l y wl rm (va_Pc av (jPre D ct sa sz ws)) (jQ D ct sz ws K) mc ms (va_A ws sz)
def jMX (l : Launch) (y : MethodName) (wl : List Cond) (rm : Room) (D : va_G) (ct : Nat → ClassId) (sa : Nat → Nat) (av : List Value) (ws : va_W) (K : Option Value → va_W → Prop) (KX : String → Prop) (mc ms : Nat) : Prop :=
  ∀ sz, vx_Met l y wl rm (va_Pc av (jPre D ct sa sz ws)) (jQ D ct sz ws K) (jX D ct sz ws KX) mc ms (va_A ws sz)
/-- what stands at a method's end -/
def jE (X : Ctx) (ws0 : va_W) (K : Option Value → va_W → Prop) (KX : String → Prop) (mc ms : Nat) (rt : Option FieldType) : Prop :=
  match X with
  | (p, l0, e, R, s, m, args, below, meth, c, D0, ct0, sa0, A, nL, Q) =>
    Q = vx_MQ below (jQ D0 ct0 s.heap.size ws0 K) (jX D0 ct0 s.heap.size ws0 KX) args s mc ms A ∧ A = va_A ws0 s.heap.size ∧ meth.sig.returnType = rt
def jT0 (X : Ctx) : Prop :=
  match X with
  | (p, l0, e, R, s, m, args, below, meth, c, D0, ct0, sa0, A, nL, Q) => ∀ x ∈ c.exceptionTable.toList, False
def jTb (X : Ctx) (hh : List (Nat × Nat × Nat × Nat)) : Prop :=
  match X with
  | (p, l0, e, R, s, m, args, below, meth, c, D0, ct0, sa0, A, nL, Q) => c.exceptionTable.toList = tableOf hh
/-- a contract that never throws is a plain one -/
theorem jMX.plain {l : Launch} {y : MethodName} {wl : List Cond} {rm : Room} {D : va_G} {ct : Nat → ClassId} {sa : Nat → Nat} {av : List Value} {ws : va_W} {K : Option Value → va_W → Prop} {mc ms : Nat} (h : jMX l y wl rm D ct sa av ws K (fun _ => False) mc ms) : jM l y wl rm D ct sa av ws K mc ms := by
  intro sz p e h1 h2 h3 s m args below h4 h5 h6 h7
  obtain ⟨n, o, a1, a2, a3, a4⟩ := h sz p e h1 h2 h3 s m args below h4 h5 h6 h7
  refine ⟨n, o, a1, a2, a3, ?_⟩
  rcases a4 with a4 | ⟨q, -, E, ce, L, ⟨⟨hx, -⟩, -⟩, -⟩
  · exact a4
  · exact hx.elim
theorem jM.weak {l : Launch} {y : MethodName} {wl : List Cond} {rm : Room} {D : va_G} {ct : Nat → ClassId} {sa : Nat → Nat} {av : List Value} {ws : va_W} {K K' : Option Value → va_W → Prop} {mc ms : Nat} (h : jM l y wl rm D ct sa av ws K mc ms) (hk : ∀ r w, K r w → K' r w) : jM l y wl rm D ct sa av ws K' mc ms := by
  intro sz p e h1 h2 h3 s m args below h4 h5 h6 h7
  obtain ⟨n, o, a1, a2, a3, ⟨⟨r, w, b1, b2, b3⟩, a5⟩, a6⟩ := h sz p e h1 h2 h3 s m args below h4 h5 h6 h7
  exact ⟨n, o, a1, a2, a3, ⟨⟨r, w, b1, hk r w b2, b3⟩, a5⟩, a6⟩

abbrev rM (f k n lo : Nat) : Room := { frames := f, cells := k, slots := n, locals := lo }
theorem jBody {l : Launch} {y : MethodName} {ws' : List Cond} {D : va_G} {ct : Nat → ClassId} {sa : Nat → Nat} {av : List Value} {ws : va_W} {K : Option Value → va_W → Prop} {KX : String → Prop} {f lo mc ms : Nat} {cc : ByteArray} {maxL : Nat} {ret : Option FieldType} {own : String}
    (hy : plainName y.cls = true) (hown : y.cls = own) (hw : ws' = GW) (hfit : (lg_sl av).length ≤ maxL)
    (body : ∀ X : Ctx, jC X l D ct sa cc maxL own (rM f mc ms lo) → jE X ws K KX mc ms ret → jT0 X → J X ws 0 0 0 (lv_args 0 av) []) : jMX l y (Cond.code y cc maxL ret :: ws') (rM f mc ms lo) D ct sa av ws K KX mc ms := by
  intro sz
  subst hw
  refine vx_ofW (cc := cc) (maxL := maxL) (ret := ret) hy rfl ?_
  intro p e s m args below meth c s₁ B hml htab hv
  obtain ⟨rfl, hsz, hP, hK, hD0, hE⟩ := hv
  have hts := atoms_spec (ws := Cond.code y cc maxL ret :: GW) B.pre
  subst hsz
  have hA : ∀ q : Nat, s.heap.size ≤ q → va_A ws s.heap.size q := fun q h => Or.inr h
  have hl := lv_entry av (n := maxL) hfit
  rw [lg_entry_eq]
  exact body (p, l, e, rM f mc ms lo, s, m, av.toArray, below, meth, c, D, ct, sa, va_A ws s.heap.size, maxL, vx_MQ below (jQ D ct s.heap.size ws K) (jX D ct s.heap.size ws KX) av.toArray s mc ms (va_A ws s.heap.size))
    ⟨B.exec, B.bytes, hml, hown ▸ findClass_of_methodNamed B.named, fun w h => hts w (List.mem_cons_of_mem _ h), hK, hA, B.notSynchronized, hE, rfl, rfl, rfl, rfl, rfl, rfl⟩
    ⟨rfl, rfl, B.returns⟩ htab s.heap [] _ hP hD0.self va_S.rf hl
theorem jBodyH {l : Launch} {y : MethodName} {ws' : List Cond} {D : va_G} {ct : Nat → ClassId} {sa : Nat → Nat} {av : List Value} {ws : va_W} {K : Option Value → va_W → Prop} {KX : String → Prop} {f lo mc ms : Nat} {cc : ByteArray} {maxL : Nat} {ret : Option FieldType} {own : String} {hh : List (Nat × Nat × Nat × Nat)}
    (hy : plainName y.cls = true) (hown : y.cls = own) (hw : ws' = GW) (hfit : (lg_sl av).length ≤ maxL)
    (body : ∀ X : Ctx, jC X l D ct sa cc maxL own (rM f mc ms lo) → jE X ws K KX mc ms ret → jTb X hh → J X ws 0 0 0 (lv_args 0 av) []) : jMX l y (Cond.codeWith y cc maxL ret hh :: ws') (rM f mc ms lo) D ct sa av ws K KX mc ms := by
  intro sz
  subst hw
  refine vx_ofWH (cc := cc) (maxL := maxL) (ret := ret) hy rfl ?_
  intro p e s m args below meth c s₁ B hml hv
  obtain ⟨rfl, hsz, hP, hK, hD0, hE⟩ := hv
  have hts := atoms_spec (ws := Cond.codeWith y cc maxL ret hh :: GW) B.pre
  subst hsz
  have hA : ∀ q : Nat, s.heap.size ≤ q → va_A ws s.heap.size q := fun q h => Or.inr h
  have hl := lv_entry av (n := maxL) hfit
  rw [lg_entry_eq]
  exact body (p, l, e, rM f mc ms lo, s, m, av.toArray, below, meth, c, D, ct, sa, va_A ws s.heap.size, maxL, vx_MQ below (jQ D ct s.heap.size ws K) (jX D ct s.heap.size ws KX) av.toArray s mc ms (va_A ws s.heap.size))
    ⟨B.exec, B.bytes, hml, hown ▸ findClass_of_methodNamed B.named, fun w h => hts w (List.mem_cons_of_mem _ h), hK, hA, B.notSynchronized, hE, rfl, rfl, rfl, rfl, rfl, rfl⟩
    ⟨rfl, rfl, B.returns⟩ (vx_table (x := y) B (hts _ List.mem_cons_self)) s.heap [] _ hP hD0.self va_S.rf hl

section JR
variable {X : Ctx} {l : Launch} {D : va_G} {ct : Nat → ClassId} {sa : Nat → Nat} {cc : ByteArray} {nL1 : Nat} {own : String} {R0 : Room} {ws : va_W} {k n pc : Nat} {lv lv' : List (Nat × Value)} {st : List Value}

theorem j_iconst (C : jC X l D ct sa cc nL1 own R0) {i : Int} {v : Int32} (d : decode cc pc = .ok (.iconst i, 1)) (hv : Int32.ofInt i = v) (kk : J X ws k n (pc + 1) lv (.int v :: st)) : J X ws k n pc lv st := by
  obtain ⟨p, l0, e, R, s, m, args, below, meth, c, D0, ct0, sa0, A, nL, Q⟩ := X
  obtain ⟨hx, hb, hml, ho, hts, hK, hA, hlk, hEX, rfl, rfl, rfl, rfl, rfl, rfl⟩ := C
  intro H locs ls hP hD hS hl
  exact lv_iconst hx hb d hv (kk H locs ls hP hD hS hl)
theorem j_bipush (C : jC X l D ct sa cc nL1 own R0) {i : Int} {v : Int32} (d : decode cc pc = .ok (.bipush i, 2)) (hv : (Int8.ofInt i).toInt32 = v) (kk : J X ws k n (pc + 2) lv (.int v :: st)) : J X ws k n pc lv st := by
  obtain ⟨p, l0, e, R, s, m, args, below, meth, c, D0, ct0, sa0, A, nL, Q⟩ := X
  obtain ⟨hx, hb, hml, ho, hts, hK, hA, hlk, hEX, rfl, rfl, rfl, rfl, rfl, rfl⟩ := C
  intro H locs ls hP hD hS hl
  exact lv_bipush hx hb d hv (kk H locs ls hP hD hS hl)
theorem j_sipush (C : jC X l D ct sa cc nL1 own R0) {i : Int} {v : Int32} (d : decode cc pc = .ok (.sipush i, 3)) (hv : (Int16.ofInt i).toInt32 = v) (kk : J X ws k n (pc + 3) lv (.int v :: st)) : J X ws k n pc lv st := by
  obtain ⟨p, l0, e, R, s, m, args, below, meth, c, D0, ct0, sa0, A, nL, Q⟩ := X
  obtain ⟨hx, hb, hml, ho, hts, hK, hA, hlk, hEX, rfl, rfl, rfl, rfl, rfl, rfl⟩ := C
  intro H locs ls hP hD hS hl
  exact lv_sipush hx hb d hv (kk H locs ls hP hD hS hl)
theorem j_lconst (C : jC X l D ct sa cc nL1 own R0) {i : Fin 2} {v : Int64} (d : decode cc pc = .ok (.lconst i, 1)) (hv : Int64.ofNat (i : Nat) = v) (kk : J X ws k n (pc + 1) lv (.long v :: st)) : J X ws k n pc lv st := by
  obtain ⟨p, l0, e, R, s, m, args, below, meth, c, D0, ct0, sa0, A, nL, Q⟩ := X
  obtain ⟨hx, hb, hml, ho, hts, hK, hA, hlk, hEX, rfl, rfl, rfl, rfl, rfl, rfl⟩ := C
  intro H locs ls hP hD hS hl
  exact lv_lconst hx hb d hv (kk H locs ls hP hD hS hl)
theorem j_iload_n (C : jC X l D ct sa cc nL1 own R0) {q : Fin 4} {i : Nat} {x : Int32} (d : decode cc pc = .ok (.iload_n q, 1)) (hi : (q : Nat) = i) (z : Nat) (hz : lv[z]? = some (i, .int x)) (kk : J X ws k n (pc + 1) lv (.int x :: st)) : J X ws k n pc lv st := by
  obtain ⟨p, l0, e, R, s, m, args, below, meth, c, D0, ct0, sa0, A, nL, Q⟩ := X
  obtain ⟨hx, hb, hml, ho, hts, hK, hA, hlk, hEX, rfl, rfl, rfl, rfl, rfl, rfl⟩ := C
  intro H locs ls hP hD hS hl
  exact lv_iload_n hx hb d hi (lv_at hl z hz) (kk H locs ls hP hD hS hl)
theorem j_iload (C : jC X l D ct sa cc nL1 own R0) {i : Nat} {x : Int32} (d : decode cc pc = .ok (.iload i, 2)) (z : Nat) (hz : lv[z]? = some (i, .int x)) (kk : J X ws k n (pc + 2) lv (.int x :: st)) : J X ws k n pc lv st := by
  obtain ⟨p, l0, e, R, s, m, args, below, meth, c, D0, ct0, sa0, A, nL, Q⟩ := X
  obtain ⟨hx, hb, hml, ho, hts, hK, hA, hlk, hEX, rfl, rfl, rfl, rfl, rfl, rfl⟩ := C
  intro H locs ls hP hD hS hl
  exact lv_iload hx hb d (lv_at hl z hz) (kk H locs ls hP hD hS hl)
theorem j_lload_n (C : jC X l D ct sa cc nL1 own R0) {q : Fin 4} {i : Nat} {x : Int64} (d : decode cc pc = .ok (.lload_n q, 1)) (hi : (q : Nat) = i) (z : Nat) (hz : lv[z]? = some (i, .long x)) (kk : J X ws k n (pc + 1) lv (.long x :: st)) : J X ws k n pc lv st := by
  obtain ⟨p, l0, e, R, s, m, args, below, meth, c, D0, ct0, sa0, A, nL, Q⟩ := X
  obtain ⟨hx, hb, hml, ho, hts, hK, hA, hlk, hEX, rfl, rfl, rfl, rfl, rfl, rfl⟩ := C
  intro H locs ls hP hD hS hl
  exact lv_lload_n hx hb d hi (lv_at hl z hz) (kk H locs ls hP hD hS hl)
theorem j_lload (C : jC X l D ct sa cc nL1 own R0) {i : Nat} {x : Int64} (d : decode cc pc = .ok (.lload i, 2)) (z : Nat) (hz : lv[z]? = some (i, .long x)) (kk : J X ws k n (pc + 2) lv (.long x :: st)) : J X ws k n pc lv st := by
  obtain ⟨p, l0, e, R, s, m, args, below, meth, c, D0, ct0, sa0, A, nL, Q⟩ := X
  obtain ⟨hx, hb, hml, ho, hts, hK, hA, hlk, hEX, rfl, rfl, rfl, rfl, rfl, rfl⟩ := C
  intro H locs ls hP hD hS hl
  exact lv_lload hx hb d (lv_at hl z hz) (kk H locs ls hP hD hS hl)
theorem j_aload_n (C : jC X l D ct sa cc nL1 own R0) {q : Fin 4} {i : Nat} {x : Nat} (d : decode cc pc = .ok (.aload_n q, 1)) (hi : (q : Nat) = i) (z : Nat) (hz : lv[z]? = some (i, .ref x)) (kk : J X ws k n (pc + 1) lv (.ref x :: st)) : J X ws k n pc lv st := by
  obtain ⟨p, l0, e, R, s, m, args, below, meth, c, D0, ct0, sa0, A, nL, Q⟩ := X
  obtain ⟨hx, hb, hml, ho, hts, hK, hA, hlk, hEX, rfl, rfl, rfl, rfl, rfl, rfl⟩ := C
  intro H locs ls hP hD hS hl
  exact lv_aload_n hx hb d hi (lv_at hl z hz) (kk H locs ls hP hD hS hl)
theorem j_aload (C : jC X l D ct sa cc nL1 own R0) {i : Nat} {x : Nat} (d : decode cc pc = .ok (.aload i, 2)) (z : Nat) (hz : lv[z]? = some (i, .ref x)) (kk : J X ws k n (pc + 2) lv (.ref x :: st)) : J X ws k n pc lv st := by
  obtain ⟨p, l0, e, R, s, m, args, below, meth, c, D0, ct0, sa0, A, nL, Q⟩ := X
  obtain ⟨hx, hb, hml, ho, hts, hK, hA, hlk, hEX, rfl, rfl, rfl, rfl, rfl, rfl⟩ := C
  intro H locs ls hP hD hS hl
  exact lv_aload hx hb d (lv_at hl z hz) (kk H locs ls hP hD hS hl)
theorem j_dload_n (C : jC X l D ct sa cc nL1 own R0) {q : Fin 4} {i : Nat} {x : UInt64} (d : decode cc pc = .ok (.dload_n q, 1)) (hi : (q : Nat) = i) (z : Nat) (hz : lv[z]? = some (i, .double x)) (kk : J X ws k n (pc + 1) lv (.double x :: st)) : J X ws k n pc lv st := by
  obtain ⟨p, l0, e, R, s, m, args, below, meth, c, D0, ct0, sa0, A, nL, Q⟩ := X
  obtain ⟨hx, hb, hml, ho, hts, hK, hA, hlk, hEX, rfl, rfl, rfl, rfl, rfl, rfl⟩ := C
  intro H locs ls hP hD hS hl
  exact lv_dload_n hx hb d hi (lv_at hl z hz) (kk H locs ls hP hD hS hl)
theorem j_dload (C : jC X l D ct sa cc nL1 own R0) {i : Nat} {x : UInt64} (d : decode cc pc = .ok (.dload i, 2)) (z : Nat) (hz : lv[z]? = some (i, .double x)) (kk : J X ws k n (pc + 2) lv (.double x :: st)) : J X ws k n pc lv st := by
  obtain ⟨p, l0, e, R, s, m, args, below, meth, c, D0, ct0, sa0, A, nL, Q⟩ := X
  obtain ⟨hx, hb, hml, ho, hts, hK, hA, hlk, hEX, rfl, rfl, rfl, rfl, rfl, rfl⟩ := C
  intro H locs ls hP hD hS hl
  exact lv_dload hx hb d (lv_at hl z hz) (kk H locs ls hP hD hS hl)
theorem j_istore_n (C : jC X l D ct sa cc nL1 own R0) {q : Fin 4} {i : Nat} {x : Int32} (d : decode cc pc = .ok (.istore_n q, 1)) (hi : (q : Nat) = i) (hn : i < nL1) (hl2 : (i, Value.int x) :: lv.filter (fun q => !(q.1 == i) && !(q.1 + 1 == i && q.2.category == 2)) = lv') (kk : J X ws k n (pc + 1) lv' st) : J X ws k n pc lv (Value.int x :: st) := by
  obtain ⟨p, l0, e, R, s, m, args, below, meth, c, D0, ct0, sa0, A, nL, Q⟩ := X
  obtain ⟨hx, hb, hml, ho, hts, hK, hA, hlk, hEX, rfl, rfl, rfl, rfl, rfl, rfl⟩ := C
  intro H locs ls hP hD hS hl
  exact lv_istore_n hx hb d hi hl hn hl2 (fun ls1 h1 => kk H locs ls1 hP hD hS h1)
theorem j_istore (C : jC X l D ct sa cc nL1 own R0) {i : Nat} {x : Int32} (d : decode cc pc = .ok (.istore i, 2)) (hn : i < nL1) (hl2 : (i, Value.int x) :: lv.filter (fun q => !(q.1 == i) && !(q.1 + 1 == i && q.2.category == 2)) = lv') (kk : J X ws k n (pc + 2) lv' st) : J X ws k n pc lv (Value.int x :: st) := by
  obtain ⟨p, l0, e, R, s, m, args, below, meth, c, D0, ct0, sa0, A, nL, Q⟩ := X
  obtain ⟨hx, hb, hml, ho, hts, hK, hA, hlk, hEX, rfl, rfl, rfl, rfl, rfl, rfl⟩ := C
  intro H locs ls hP hD hS hl
  exact lv_istore hx hb d hl hn hl2 (fun ls1 h1 => kk H locs ls1 hP hD hS h1)
theorem j_astore_n (C : jC X l D ct sa cc nL1 own R0) {q : Fin 4} {i : Nat} {x : Nat} (d : decode cc pc = .ok (.astore_n q, 1)) (hi : (q : Nat) = i) (hn : i < nL1) (hl2 : (i, Value.ref x) :: lv.filter (fun q => !(q.1 == i) && !(q.1 + 1 == i && q.2.category == 2)) = lv') (kk : J X ws k n (pc + 1) lv' st) : J X ws k n pc lv (Value.ref x :: st) := by
  obtain ⟨p, l0, e, R, s, m, args, below, meth, c, D0, ct0, sa0, A, nL, Q⟩ := X
  obtain ⟨hx, hb, hml, ho, hts, hK, hA, hlk, hEX, rfl, rfl, rfl, rfl, rfl, rfl⟩ := C
  intro H locs ls hP hD hS hl
  exact lv_astore_n hx hb d hi hl hn hl2 (fun ls1 h1 => kk H locs ls1 hP hD hS h1)
theorem j_astore (C : jC X l D ct sa cc nL1 own R0) {i : Nat} {x : Nat} (d : decode cc pc = .ok (.astore i, 2)) (hn : i < nL1) (hl2 : (i, Value.ref x) :: lv.filter (fun q => !(q.1 == i) && !(q.1 + 1 == i && q.2.category == 2)) = lv') (kk : J X ws k n (pc + 2) lv' st) : J X ws k n pc lv (Value.ref x :: st) := by
  obtain ⟨p, l0, e, R, s, m, args, below, meth, c, D0, ct0, sa0, A, nL, Q⟩ := X
  obtain ⟨hx, hb, hml, ho, hts, hK, hA, hlk, hEX, rfl, rfl, rfl, rfl, rfl, rfl⟩ := C
  intro H locs ls hP hD hS hl
  exact lv_astore hx hb d hl hn hl2 (fun ls1 h1 => kk H locs ls1 hP hD hS h1)
theorem j_lstore_n (C : jC X l D ct sa cc nL1 own R0) {q : Fin 4} {i : Nat} {x : Int64} (d : decode cc pc = .ok (.lstore_n q, 1)) (hi : (q : Nat) = i) (hn : i + 1 < nL1) (hl2 : (i, Value.long x) :: lv.filter (fun q => !(q.1 == i) && (!(q.1 == i + 1) && !(q.1 + 1 == i && q.2.category == 2))) = lv') (kk : J X ws k n (pc + 1) lv' st) : J X ws k n pc lv (Value.long x :: st) := by
  obtain ⟨p, l0, e, R, s, m, args, below, meth, c, D0, ct0, sa0, A, nL, Q⟩ := X
  obtain ⟨hx, hb, hml, ho, hts, hK, hA, hlk, hEX, rfl, rfl, rfl, rfl, rfl, rfl⟩ := C
  intro H locs ls hP hD hS hl
  exact lv_lstore_n hx hb d hi hl hn hl2 (fun ls1 h1 => kk H locs ls1 hP hD hS h1)
theorem j_lstore (C : jC X l D ct sa cc nL1 own R0) {i : Nat} {x : Int64} (d : decode cc pc = .ok (.lstore i, 2)) (hn : i + 1 < nL1) (hl2 : (i, Value.long x) :: lv.filter (fun q => !(q.1 == i) && (!(q.1 == i + 1) && !(q.1 + 1 == i && q.2.category == 2))) = lv') (kk : J X ws k n (pc + 2) lv' st) : J X ws k n pc lv (Value.long x :: st) := by
  obtain ⟨p, l0, e, R, s, m, args, below, meth, c, D0, ct0, sa0, A, nL, Q⟩ := X
  obtain ⟨hx, hb, hml, ho, hts, hK, hA, hlk, hEX, rfl, rfl, rfl, rfl, rfl, rfl⟩ := C
  intro H locs ls hP hD hS hl
  exact lv_lstore hx hb d hl hn hl2 (fun ls1 h1 => kk H locs ls1 hP hD hS h1)
theorem j_dstore_n (C : jC X l D ct sa cc nL1 own R0) {q : Fin 4} {i : Nat} {x : UInt64} (d : decode cc pc = .ok (.dstore_n q, 1)) (hi : (q : Nat) = i) (hn : i + 1 < nL1) (hl2 : (i, Value.double x) :: lv.filter (fun q => !(q.1 == i) && (!(q.1 == i + 1) && !(q.1 + 1 == i && q.2.category == 2))) = lv') (kk : J X ws k n (pc + 1) lv' st) : J X ws k n pc lv (Value.double x :: st) := by
  obtain ⟨p, l0, e, R, s, m, args, below, meth, c, D0, ct0, sa0, A, nL, Q⟩ := X
  obtain ⟨hx, hb, hml, ho, hts, hK, hA, hlk, hEX, rfl, rfl, rfl, rfl, rfl, rfl⟩ := C
  intro H locs ls hP hD hS hl
  exact lv_dstore_n hx hb d hi hl hn hl2 (fun ls1 h1 => kk H locs ls1 hP hD hS h1)
theorem j_dstore (C : jC X l D ct sa cc nL1 own R0) {i : Nat} {x : UInt64} (d : decode cc pc = .ok (.dstore i, 2)) (hn : i + 1 < nL1) (hl2 : (i, Value.double x) :: lv.filter (fun q => !(q.1 == i) && (!(q.1 == i + 1) && !(q.1 + 1 == i && q.2.category == 2))) = lv') (kk : J X ws k n (pc + 2) lv' st) : J X ws k n pc lv (Value.double x :: st) := by
  obtain ⟨p, l0, e, R, s, m, args, below, meth, c, D0, ct0, sa0, A, nL, Q⟩ := X
  obtain ⟨hx, hb, hml, ho, hts, hK, hA, hlk, hEX, rfl, rfl, rfl, rfl, rfl, rfl⟩ := C
  intro H locs ls hP hD hS hl
  exact lv_dstore hx hb d hl hn hl2 (fun ls1 h1 => kk H locs ls1 hP hD hS h1)
theorem j_iinc (C : jC X l D ct sa cc nL1 own R0) {i z : Nat} {b : Int} {x v : Int32} (d : decode cc pc = .ok (.iinc i b, 3)) (hz : lv[z]? = some (i, .int x)) (hv : x + Int32.ofInt b = v) (hn : i < nL1) (hl2 : (i, Value.int v) :: lv.filter (fun q => !(q.1 == i) && !(q.1 + 1 == i && q.2.category == 2)) = lv') (kk : J X ws k n (pc + 3) lv' st) : J X ws k n pc lv st := by
  obtain ⟨p, l0, e, R, s, m, args, below, meth, c, D0, ct0, sa0, A, nL, Q⟩ := X
  obtain ⟨hx, hb, hml, ho, hts, hK, hA, hlk, hEX, rfl, rfl, rfl, rfl, rfl, rfl⟩ := C
  intro H locs ls hP hD hS hl
  exact lv_iinc hx hb d hl hz hv hn hl2 (fun ls1 h1 => kk H locs ls1 hP hD hS h1)
theorem j_iadd (C : jC X l D ct sa cc nL1 own R0) {x y : Int32} (d : decode cc pc = .ok (.iadd, 1)) (kk : J X ws k n (pc + 1) lv (.int (x + y) :: st)) : J X ws k n pc lv (.int y :: .int x :: st) := by
  obtain ⟨p, l0, e, R, s, m, args, below, meth, c, D0, ct0, sa0, A, nL, Q⟩ := X
  obtain ⟨hx, hb, hml, ho, hts, hK, hA, hlk, hEX, rfl, rfl, rfl, rfl, rfl, rfl⟩ := C
  intro H locs ls hP hD hS hl
  exact lv_iadd hx hb d (kk H locs ls hP hD hS hl)
theorem j_isub (C : jC X l D ct sa cc nL1 own R0) {x y : Int32} (d : decode cc pc = .ok (.isub, 1)) (kk : J X ws k n (pc + 1) lv (.int (x - y) :: st)) : J X ws k n pc lv (.int y :: .int x :: st) := by
  obtain ⟨p, l0, e, R, s, m, args, below, meth, c, D0, ct0, sa0, A, nL, Q⟩ := X
  obtain ⟨hx, hb, hml, ho, hts, hK, hA, hlk, hEX, rfl, rfl, rfl, rfl, rfl, rfl⟩ := C
  intro H locs ls hP hD hS hl
  exact lv_isub hx hb d (kk H locs ls hP hD hS hl)
theorem j_imul (C : jC X l D ct sa cc nL1 own R0) {x y : Int32} (d : decode cc pc = .ok (.imul, 1)) (kk : J X ws k n (pc + 1) lv (.int (x * y) :: st)) : J X ws k n pc lv (.int y :: .int x :: st) := by
  obtain ⟨p, l0, e, R, s, m, args, below, meth, c, D0, ct0, sa0, A, nL, Q⟩ := X
  obtain ⟨hx, hb, hml, ho, hts, hK, hA, hlk, hEX, rfl, rfl, rfl, rfl, rfl, rfl⟩ := C
  intro H locs ls hP hD hS hl
  exact lv_imul hx hb d (kk H locs ls hP hD hS hl)
theorem j_iand (C : jC X l D ct sa cc nL1 own R0) {x y : Int32} (d : decode cc pc = .ok (.iand, 1)) (kk : J X ws k n (pc + 1) lv (.int (x &&& y) :: st)) : J X ws k n pc lv (.int y :: .int x :: st) := by
  obtain ⟨p, l0, e, R, s, m, args, below, meth, c, D0, ct0, sa0, A, nL, Q⟩ := X
  obtain ⟨hx, hb, hml, ho, hts, hK, hA, hlk, hEX, rfl, rfl, rfl, rfl, rfl, rfl⟩ := C
  intro H locs ls hP hD hS hl
  exact lv_iand hx hb d (kk H locs ls hP hD hS hl)
theorem j_ladd (C : jC X l D ct sa cc nL1 own R0) {x y : Int64} (d : decode cc pc = .ok (.ladd, 1)) (kk : J X ws k n (pc + 1) lv (.long (x + y) :: st)) : J X ws k n pc lv (.long y :: .long x :: st) := by
  obtain ⟨p, l0, e, R, s, m, args, below, meth, c, D0, ct0, sa0, A, nL, Q⟩ := X
  obtain ⟨hx, hb, hml, ho, hts, hK, hA, hlk, hEX, rfl, rfl, rfl, rfl, rfl, rfl⟩ := C
  intro H locs ls hP hD hS hl
  exact lv_ladd hx hb d (kk H locs ls hP hD hS hl)
theorem j_lmul (C : jC X l D ct sa cc nL1 own R0) {x y : Int64} (d : decode cc pc = .ok (.lmul, 1)) (kk : J X ws k n (pc + 1) lv (.long (x * y) :: st)) : J X ws k n pc lv (.long y :: .long x :: st) := by
  obtain ⟨p, l0, e, R, s, m, args, below, meth, c, D0, ct0, sa0, A, nL, Q⟩ := X
  obtain ⟨hx, hb, hml, ho, hts, hK, hA, hlk, hEX, rfl, rfl, rfl, rfl, rfl, rfl⟩ := C
  intro H locs ls hP hD hS hl
  exact lv_lmul hx hb d (kk H locs ls hP hD hS hl)
theorem j_idiv (C : jC X l D ct sa cc nL1 own R0) {x y : Int32} (d : decode cc pc = .ok (.idiv, 1)) (hne : ¬ y = 0) (kk : J X ws k n (pc + 1) lv (.int (x / y) :: st)) : J X ws k n pc lv (.int y :: .int x :: st) := by
  obtain ⟨p, l0, e, R, s, m, args, below, meth, c, D0, ct0, sa0, A, nL, Q⟩ := X
  obtain ⟨hx, hb, hml, ho, hts, hK, hA, hlk, hEX, rfl, rfl, rfl, rfl, rfl, rfl⟩ := C
  intro H locs ls hP hD hS hl
  exact lv_idiv hx hb d hne (kk H locs ls hP hD hS hl)
theorem j_irem (C : jC X l D ct sa cc nL1 own R0) {x y : Int32} (d : decode cc pc = .ok (.irem, 1)) (hne : ¬ y = 0) (kk : J X ws k n (pc + 1) lv (.int (x - x / y * y) :: st)) : J X ws k n pc lv (.int y :: .int x :: st) := by
  obtain ⟨p, l0, e, R, s, m, args, below, meth, c, D0, ct0, sa0, A, nL, Q⟩ := X
  obtain ⟨hx, hb, hml, ho, hts, hK, hA, hlk, hEX, rfl, rfl, rfl, rfl, rfl, rfl⟩ := C
  intro H locs ls hP hD hS hl
  exact lv_irem hx hb d hne (kk H locs ls hP hD hS hl)
theorem j_i2l (C : jC X l D ct sa cc nL1 own R0) {x : Int32} {v : Int64} (d : decode cc pc = .ok (.i2l, 1)) (hv : x.toInt64 = v) (kk : J X ws k n (pc + 1) lv (.long v :: st)) : J X ws k n pc lv (.int x :: st) := by
  obtain ⟨p, l0, e, R, s, m, args, below, meth, c, D0, ct0, sa0, A, nL, Q⟩ := X
  obtain ⟨hx, hb, hml, ho, hts, hK, hA, hlk, hEX, rfl, rfl, rfl, rfl, rfl, rfl⟩ := C
  intro H locs ls hP hD hS hl
  exact lv_i2l hx hb d hv (kk H locs ls hP hD hS hl)
theorem j_dup (C : jC X l D ct sa cc nL1 own R0) {va : Value} (d : decode cc pc = .ok (.dup, 1)) (hva : va.category = 1) (kk : J X ws k n (pc + 1) lv (va :: va :: st)) : J X ws k n pc lv (va :: st) := by
  obtain ⟨p, l0, e, R, s, m, args, below, meth, c, D0, ct0, sa0, A, nL, Q⟩ := X
  obtain ⟨hx, hb, hml, ho, hts, hK, hA, hlk, hEX, rfl, rfl, rfl, rfl, rfl, rfl⟩ := C
  intro H locs ls hP hD hS hl
  exact lv_dup hx hb d hva (kk H locs ls hP hD hS hl)
theorem j_pop (C : jC X l D ct sa cc nL1 own R0) {va : Value} (d : decode cc pc = .ok (.pop, 1)) (hva : va.category = 1) (kk : J X ws k n (pc + 1) lv st) : J X ws k n pc lv (va :: st) := by
  obtain ⟨p, l0, e, R, s, m, args, below, meth, c, D0, ct0, sa0, A, nL, Q⟩ := X
  obtain ⟨hx, hb, hml, ho, hts, hK, hA, hlk, hEX, rfl, rfl, rfl, rfl, rfl, rfl⟩ := C
  intro H locs ls hP hD hS hl
  exact lv_pop hx hb d hva (kk H locs ls hP hD hS hl)
theorem j_dup2 (C : jC X l D ct sa cc nL1 own R0) {va vb : Value} (d : decode cc pc = .ok (.dup2, 1)) (hva : va.category = 1) (hvb : vb.category = 1) (kk : J X ws k n (pc + 1) lv (va :: vb :: va :: vb :: st)) : J X ws k n pc lv (va :: vb :: st) := by
  obtain ⟨p, l0, e, R, s, m, args, below, meth, c, D0, ct0, sa0, A, nL, Q⟩ := X
  obtain ⟨hx, hb, hml, ho, hts, hK, hA, hlk, hEX, rfl, rfl, rfl, rfl, rfl, rfl⟩ := C
  intro H locs ls hP hD hS hl
  exact lv_dup2_11 hx hb d hva hvb (kk H locs ls hP hD hS hl)
theorem j_dup_x1 (C : jC X l D ct sa cc nL1 own R0) {va vb : Value} (d : decode cc pc = .ok (.dup_x1, 1)) (hva : va.category = 1) (hvb : vb.category = 1) (kk : J X ws k n (pc + 1) lv (va :: vb :: va :: st)) : J X ws k n pc lv (va :: vb :: st) := by
  obtain ⟨p, l0, e, R, s, m, args, below, meth, c, D0, ct0, sa0, A, nL, Q⟩ := X
  obtain ⟨hx, hb, hml, ho, hts, hK, hA, hlk, hEX, rfl, rfl, rfl, rfl, rfl, rfl⟩ := C
  intro H locs ls hP hD hS hl
  exact lv_dup_x1 hx hb d hva hvb (kk H locs ls hP hD hS hl)
theorem j_if_eq (C : jC X l D ct sa cc nL1 own R0) {x : Int32} {off : Int} (tgt : Nat) (d : decode cc pc = .ok (.ifCond .eq off, 3)) (ht : (pc : Int) + off = (tgt : Int)) (kt : x = 0 → J X ws k n (tgt) lv st) (kf : ¬ x = 0 → J X ws k n (pc + 3) lv st) : J X ws k n pc lv (.int x :: st) := by
  obtain ⟨p, l0, e, R, s, m, args, below, meth, c, D0, ct0, sa0, A, nL, Q⟩ := X
  obtain ⟨hx, hb, hml, ho, hts, hK, hA, hlk, hEX, rfl, rfl, rfl, rfl, rfl, rfl⟩ := C
  intro H locs ls hP hD hS hl
  exact lv_if_eq hx hb d ht (fun h => kt h H locs ls hP hD hS hl) (fun h => kf h H locs ls hP hD hS hl)
theorem j_if_ne (C : jC X l D ct sa cc nL1 own R0) {x : Int32} {off : Int} (tgt : Nat) (d : decode cc pc = .ok (.ifCond .ne off, 3)) (ht : (pc : Int) + off = (tgt : Int)) (kt : ¬ x = 0 → J X ws k n (tgt) lv st) (kf : x = 0 → J X ws k n (pc + 3) lv st) : J X ws k n pc lv (.int x :: st) := by
  obtain ⟨p, l0, e, R, s, m, args, below, meth, c, D0, ct0, sa0, A, nL, Q⟩ := X
  obtain ⟨hx, hb, hml, ho, hts, hK, hA, hlk, hEX, rfl, rfl, rfl, rfl, rfl, rfl⟩ := C
  intro H locs ls hP hD hS hl
  exact lv_if_ne hx hb d ht (fun h => kt h H locs ls hP hD hS hl) (fun h => kf h H locs ls hP hD hS hl)
theorem j_if_lt (C : jC X l D ct sa cc nL1 own R0) {x : Int32} {off : Int} (tgt : Nat) (d : decode cc pc = .ok (.ifCond .lt off, 3)) (ht : (pc : Int) + off = (tgt : Int)) (kt : x < 0 → J X ws k n (tgt) lv st) (kf : ¬ x < 0 → J X ws k n (pc + 3) lv st) : J X ws k n pc lv (.int x :: st) := by
  obtain ⟨p, l0, e, R, s, m, args, below, meth, c, D0, ct0, sa0, A, nL, Q⟩ := X
  obtain ⟨hx, hb, hml, ho, hts, hK, hA, hlk, hEX, rfl, rfl, rfl, rfl, rfl, rfl⟩ := C
  intro H locs ls hP hD hS hl
  exact lv_if_lt hx hb d ht (fun h => kt h H locs ls hP hD hS hl) (fun h => kf h H locs ls hP hD hS hl)
theorem j_if_ge (C : jC X l D ct sa cc nL1 own R0) {x : Int32} {off : Int} (tgt : Nat) (d : decode cc pc = .ok (.ifCond .ge off, 3)) (ht : (pc : Int) + off = (tgt : Int)) (kt : 0 ≤ x → J X ws k n (tgt) lv st) (kf : ¬ 0 ≤ x → J X ws k n (pc + 3) lv st) : J X ws k n pc lv (.int x :: st) := by
  obtain ⟨p, l0, e, R, s, m, args, below, meth, c, D0, ct0, sa0, A, nL, Q⟩ := X
  obtain ⟨hx, hb, hml, ho, hts, hK, hA, hlk, hEX, rfl, rfl, rfl, rfl, rfl, rfl⟩ := C
  intro H locs ls hP hD hS hl
  exact lv_if_ge hx hb d ht (fun h => kt h H locs ls hP hD hS hl) (fun h => kf h H locs ls hP hD hS hl)
theorem j_if_gt (C : jC X l D ct sa cc nL1 own R0) {x : Int32} {off : Int} (tgt : Nat) (d : decode cc pc = .ok (.ifCond .gt off, 3)) (ht : (pc : Int) + off = (tgt : Int)) (kt : 0 < x → J X ws k n (tgt) lv st) (kf : ¬ 0 < x → J X ws k n (pc + 3) lv st) : J X ws k n pc lv (.int x :: st) := by
  obtain ⟨p, l0, e, R, s, m, args, below, meth, c, D0, ct0, sa0, A, nL, Q⟩ := X
  obtain ⟨hx, hb, hml, ho, hts, hK, hA, hlk, hEX, rfl, rfl, rfl, rfl, rfl, rfl⟩ := C
  intro H locs ls hP hD hS hl
  exact lv_if_gt hx hb d ht (fun h => kt h H locs ls hP hD hS hl) (fun h => kf h H locs ls hP hD hS hl)
theorem j_if_le (C : jC X l D ct sa cc nL1 own R0) {x : Int32} {off : Int} (tgt : Nat) (d : decode cc pc = .ok (.ifCond .le off, 3)) (ht : (pc : Int) + off = (tgt : Int)) (kt : x ≤ 0 → J X ws k n (tgt) lv st) (kf : ¬ x ≤ 0 → J X ws k n (pc + 3) lv st) : J X ws k n pc lv (.int x :: st) := by
  obtain ⟨p, l0, e, R, s, m, args, below, meth, c, D0, ct0, sa0, A, nL, Q⟩ := X
  obtain ⟨hx, hb, hml, ho, hts, hK, hA, hlk, hEX, rfl, rfl, rfl, rfl, rfl, rfl⟩ := C
  intro H locs ls hP hD hS hl
  exact lv_if_le hx hb d ht (fun h => kt h H locs ls hP hD hS hl) (fun h => kf h H locs ls hP hD hS hl)
theorem j_icmp_eq (C : jC X l D ct sa cc nL1 own R0) {x y : Int32} {off : Int} (tgt : Nat) (d : decode cc pc = .ok (.if_icmp .eq off, 3)) (ht : (pc : Int) + off = (tgt : Int)) (kt : x = y → J X ws k n (tgt) lv st) (kf : ¬ x = y → J X ws k n (pc + 3) lv st) : J X ws k n pc lv (.int y :: .int x :: st) := by
  obtain ⟨p, l0, e, R, s, m, args, below, meth, c, D0, ct0, sa0, A, nL, Q⟩ := X
  obtain ⟨hx, hb, hml, ho, hts, hK, hA, hlk, hEX, rfl, rfl, rfl, rfl, rfl, rfl⟩ := C
  intro H locs ls hP hD hS hl
  exact lv_icmp_eq hx hb d ht (fun h => kt h H locs ls hP hD hS hl) (fun h => kf h H locs ls hP hD hS hl)
theorem j_icmp_ne (C : jC X l D ct sa cc nL1 own R0) {x y : Int32} {off : Int} (tgt : Nat) (d : decode cc pc = .ok (.if_icmp .ne off, 3)) (ht : (pc : Int) + off = (tgt : Int)) (kt : ¬ x = y → J X ws k n (tgt) lv st) (kf : x = y → J X ws k n (pc + 3) lv st) : J X ws k n pc lv (.int y :: .int x :: st) := by
  obtain ⟨p, l0, e, R, s, m, args, below, meth, c, D0, ct0, sa0, A, nL, Q⟩ := X
  obtain ⟨hx, hb, hml, ho, hts, hK, hA, hlk, hEX, rfl, rfl, rfl, rfl, rfl, rfl⟩ := C
  intro H locs ls hP hD hS hl
  exact lv_icmp_ne hx hb d ht (fun h => kt h H locs ls hP hD hS hl) (fun h => kf h H locs ls hP hD hS hl)
theorem j_icmp_lt (C : jC X l D ct sa cc nL1 own R0) {x y : Int32} {off : Int} (tgt : Nat) (d : decode cc pc = .ok (.if_icmp .lt off, 3)) (ht : (pc : Int) + off = (tgt : Int)) (kt : x < y → J X ws k n (tgt) lv st) (kf : ¬ x < y → J X ws k n (pc + 3) lv st) : J X ws k n pc lv (.int y :: .int x :: st) := by
  obtain ⟨p, l0, e, R, s, m, args, below, meth, c, D0, ct0, sa0, A, nL, Q⟩ := X
  obtain ⟨hx, hb, hml, ho, hts, hK, hA, hlk, hEX, rfl, rfl, rfl, rfl, rfl, rfl⟩ := C
  intro H locs ls hP hD hS hl
  exact lv_icmp_lt hx hb d ht (fun h => kt h H locs ls hP hD hS hl) (fun h => kf h H locs ls hP hD hS hl)
theorem j_icmp_ge (C : jC X l D ct sa cc nL1 own R0) {x y : Int32} {off : Int} (tgt : Nat) (d : decode cc pc = .ok (.if_icmp .ge off, 3)) (ht : (pc : Int) + off = (tgt : Int)) (kt : y ≤ x → J X ws k n (tgt) lv st) (kf : ¬ y ≤ x → J X ws k n (pc + 3) lv st) : J X ws k n pc lv (.int y :: .int x :: st) := by
  obtain ⟨p, l0, e, R, s, m, args, below, meth, c, D0, ct0, sa0, A, nL, Q⟩ := X
  obtain ⟨hx, hb, hml, ho, hts, hK, hA, hlk, hEX, rfl, rfl, rfl, rfl, rfl, rfl⟩ := C
  intro H locs ls hP hD hS hl
  exact lv_icmp_ge hx hb d ht (fun h => kt h H locs ls hP hD hS hl) (fun h => kf h H locs ls hP hD hS hl)
theorem j_icmp_gt (C : jC X l D ct sa cc nL1 own R0) {x y : Int32} {off : Int} (tgt : Nat) (d : decode cc pc = .ok (.if_icmp .gt off, 3)) (ht : (pc : Int) + off = (tgt : Int)) (kt : y < x → J X ws k n (tgt) lv st) (kf : ¬ y < x → J X ws k n (pc + 3) lv st) : J X ws k n pc lv (.int y :: .int x :: st) := by
  obtain ⟨p, l0, e, R, s, m, args, below, meth, c, D0, ct0, sa0, A, nL, Q⟩ := X
  obtain ⟨hx, hb, hml, ho, hts, hK, hA, hlk, hEX, rfl, rfl, rfl, rfl, rfl, rfl⟩ := C
  intro H locs ls hP hD hS hl
  exact lv_icmp_gt hx hb d ht (fun h => kt h H locs ls hP hD hS hl) (fun h => kf h H locs ls hP hD hS hl)
theorem j_icmp_le (C : jC X l D ct sa cc nL1 own R0) {x y : Int32} {off : Int} (tgt : Nat) (d : decode cc pc = .ok (.if_icmp .le off, 3)) (ht : (pc : Int) + off = (tgt : Int)) (kt : x ≤ y → J X ws k n (tgt) lv st) (kf : ¬ x ≤ y → J X ws k n (pc + 3) lv st) : J X ws k n pc lv (.int y :: .int x :: st) := by
  obtain ⟨p, l0, e, R, s, m, args, below, meth, c, D0, ct0, sa0, A, nL, Q⟩ := X
  obtain ⟨hx, hb, hml, ho, hts, hK, hA, hlk, hEX, rfl, rfl, rfl, rfl, rfl, rfl⟩ := C
  intro H locs ls hP hD hS hl
  exact lv_icmp_le hx hb d ht (fun h => kt h H locs ls hP hD hS hl) (fun h => kf h H locs ls hP hD hS hl)
theorem j_goto (C : jC X l D ct sa cc nL1 own R0) {off : Int} (tgt : Nat) (d : decode cc pc = .ok (.goto off, 3)) (ht : (pc : Int) + off = (tgt : Int)) (kk : J X ws k n (tgt) lv st) : J X ws k n pc lv st := by
  obtain ⟨p, l0, e, R, s, m, args, below, meth, c, D0, ct0, sa0, A, nL, Q⟩ := X
  obtain ⟨hx, hb, hml, ho, hts, hK, hA, hlk, hEX, rfl, rfl, rfl, rfl, rfl, rfl⟩ := C
  intro H locs ls hP hD hS hl
  exact lv_goto hx hb d ht (kk H locs ls hP hD hS hl)
theorem j_get (C : jC X l D ct sa cc nL1 own R0) {a ci N index : Nat} {Cn ref : String} {T : u_T} {fs : List Value} {v : Value} (hin : ∀ w ∈ u_ws Cn T N, w ∈ GW) (hc : vwCl[ci]? = some (Cn, T, N)) (q0 : Nat) (he : ws[q0]? = some (a, .inr (ci, fs))) (z : Nat) (hz : z < N) (hl1 : Cond.fieldLink own index ref (T z).2.1 (T z).2.2.1 ∈ GW) (hsame : (T z).1 = ref) (hv : fs[z]? = some v) (d : decode cc pc = .ok (.getfield index, 3)) (kk : J X ws k n (pc + 3) lv (v :: st)) : J X ws k n pc lv (.ref a :: st) := by
  obtain ⟨p, l0, e, R, s, m, args, below, meth, c, D0, ct0, sa0, A, nL, Q⟩ := X
  obtain ⟨hx, hb, hml, ho, hts, hK, hA, hlk, hEX, rfl, rfl, rfl, rfl, rfl, rfl⟩ := C
  intro H locs ls hP hD hS hl
  exact va_get hx hb hts hin ho hK hP q0 he hc z hz (hts _ hl1) (fun _ h => hsame ▸ h) hv d (kk H locs ls hP hD hS hl)
theorem j_getN (C : jC X l D ct sa cc nL1 own R0) {a ci N index : Nat} {Cn ref host : String} {T : u_T} {fs : List Value} {v : Value} (hin : ∀ w ∈ u_ws Cn T N, w ∈ GW) (hc : vwCl[ci]? = some (Cn, T, N)) (q0 : Nat) (he : ws[q0]? = some (a, .inr (ci, fs))) (z : Nat) (hz : z < N) (hl1 : Cond.fieldLinkNest own index ref (T z).2.1 (T z).2.2.1 host ∈ NW) (hsame : (T z).1 = ref) (hv : fs[z]? = some v) (d : decode cc pc = .ok (.getfield index, 3)) (kk : J X ws k n (pc + 3) lv (v :: st)) : J X ws k n pc lv (.ref a :: st) := by
  obtain ⟨p, l0, e, R, s, m, args, below, meth, c, D0, ct0, sa0, A, nL, Q⟩ := X
  obtain ⟨hx, hb, hml, ho, hts, hK, hA, hlk, hEX, rfl, rfl, rfl, rfl, rfl, rfl⟩ := C
  intro H locs ls hP hD hS hl
  exact va_getN hx hb hts hin ho hK hP q0 he hc z hz (va_Nw.use rfl (hEX.1 _ hl1)) (fun _ h => hsame ▸ h) hv d (kk H locs ls hP hD hS hl)
theorem j_put (C : jC X l D ct sa cc nL1 own R0) {a ci N index : Nat} {Cn ref : String} {T : u_T} {fs : List Value} {v : Value} {ws2 : va_W} {ty : FieldType} (hin : ∀ w ∈ u_ws Cn T N, w ∈ GW) (ty0 : Nat → FieldType) (hty : ∀ k, k < N → parseFieldDescriptor (T k).2.2.1 = some (ty0 k)) (hnm : ∀ a, a < N → ∀ b, b < N → a ≠ b → (T a).2.1 ≠ (T b).2.1) (hc : vwCl[ci]? = some (Cn, T, N)) (q0 : Nat) (he : ws[q0]? = some (a, .inr (ci, fs))) (z : Nat) (hz : z < N) (hl1 : Cond.fieldLink own index ref (T z).2.1 (T z).2.2.1 ∈ GW) (hsame : (T z).1 = ref) (hfin : (T z).2.2.2 = false) (hd : parseFieldDescriptor (T z).2.2.1 = some ty) (hnr : narrow ty v = v) (hfit : fits ty v = true) (hlt : z < fs.length) (hw : ws.set q0 (a, .inr (ci, fs.set z v)) = ws2) (d : decode cc pc = .ok (.putfield index, 3)) (kk : J X ws2 k n (pc + 3) lv st) : J X ws k n pc lv (v :: .ref a :: st) := by
  obtain ⟨p, l0, e, R, s, m, args, below, meth, c, D0, ct0, sa0, A, nL, Q⟩ := X
  obtain ⟨hx, hb, hml, ho, hts, hK, hA, hlk, hEX, rfl, rfl, rfl, rfl, rfl, rfl⟩ := C
  intro H locs ls hP hD hS hl
  exact va_put hx hb hts hin ty0 hty hnm ho hK hP hD hS q0 he hc z hz (hts _ hl1) (fun _ h => hsame ▸ h) hfin hd hnr hfit hlt d (fun H1 locs1 hP1 hD1 hS1 => kk H1 locs1 ls (hw ▸ hP1) (hw ▸ hD1) hS1 hl)
theorem j_putN (C : jC X l D ct sa cc nL1 own R0) {a ci N index : Nat} {Cn ref host : String} {T : u_T} {fs : List Value} {v : Value} {ws2 : va_W} {ty : FieldType} (hin : ∀ w ∈ u_ws Cn T N, w ∈ GW) (ty0 : Nat → FieldType) (hty : ∀ k, k < N → parseFieldDescriptor (T k).2.2.1 = some (ty0 k)) (hnm : ∀ a, a < N → ∀ b, b < N → a ≠ b → (T a).2.1 ≠ (T b).2.1) (hc : vwCl[ci]? = some (Cn, T, N)) (q0 : Nat) (he : ws[q0]? = some (a, .inr (ci, fs))) (z : Nat) (hz : z < N) (hl1 : Cond.fieldLinkNest own index ref (T z).2.1 (T z).2.2.1 host ∈ NW) (hsame : (T z).1 = ref) (hfin : (T z).2.2.2 = false) (hd : parseFieldDescriptor (T z).2.2.1 = some ty) (hnr : narrow ty v = v) (hfit : fits ty v = true) (hlt : z < fs.length) (hw : ws.set q0 (a, .inr (ci, fs.set z v)) = ws2) (d : decode cc pc = .ok (.putfield index, 3)) (kk : J X ws2 k n (pc + 3) lv st) : J X ws k n pc lv (v :: .ref a :: st) := by
  obtain ⟨p, l0, e, R, s, m, args, below, meth, c, D0, ct0, sa0, A, nL, Q⟩ := X
  obtain ⟨hx, hb, hml, ho, hts, hK, hA, hlk, hEX, rfl, rfl, rfl, rfl, rfl, rfl⟩ := C
  intro H locs ls hP hD hS hl
  exact va_putN hx hb hts hin ty0 hty hnm ho hK hP hD hS q0 he hc z hz (va_Nw.use rfl (hEX.1 _ hl1)) (fun _ h => hsame ▸ h) hfin hd hnr hfit hlt d (fun H1 locs1 hP1 hD1 hS1 => kk H1 locs1 ls (hw ▸ hP1) (hw ▸ hD1) hS1 hl)
theorem j_iald (C : jC X l D ct sa cc nL1 own R0) {a N : Nat} {f : Nat → Int32} {i : Int32} (q0 : Nat) (ha : ws[q0]? = some (a, .inl (ct 0, N, .inl f))) (j : Nat) (hi : i = nI j) (hj : j < N) (hN : N < 2 ^ 31) (d : decode cc pc = .ok (.iaload, 1)) (kk : J X ws k n (pc + 1) lv (.int (f j) :: st)) : J X ws k n pc lv (.int i :: .ref a :: st) := by
  obtain ⟨p, l0, e, R, s, m, args, below, meth, c, D0, ct0, sa0, A, nL, Q⟩ := X
  obtain ⟨hx, hb, hml, ho, hts, hK, hA, hlk, hEX, rfl, rfl, rfl, rfl, rfl, rfl⟩ := C
  intro H locs ls hP hD hS hl
  exact va_iald hx hb hK hP q0 0 ha rfl (i := i) (by rw [hi]; exact vp_in_nI hj hN) d (by rw [hi, nI_clamp (Nat.lt_trans hj hN)]; exact kk H locs ls hP hD hS hl)
theorem j_iast (C : jC X l D ct sa cc nL1 own R0) {a N : Nat} {f : Nat → Int32} {i x : Int32} {ws2 : va_W} (q0 : Nat) (ha : ws[q0]? = some (a, .inl (ct 0, N, .inl f))) (j : Nat) (hi : i = nI j) (hj : j < N) (hN : N < 2 ^ 31) (hw : ws.set q0 (a, .inl (ct 0, N, .inl (upd f j x))) = ws2) (d : decode cc pc = .ok (.iastore, 1)) (kk : J X ws2 k n (pc + 1) lv st) : J X ws k n pc lv (.int x :: .int i :: .ref a :: st) := by
  obtain ⟨p, l0, e, R, s, m, args, below, meth, c, D0, ct0, sa0, A, nL, Q⟩ := X
  obtain ⟨hx, hb, hml, ho, hts, hK, hA, hlk, hEX, rfl, rfl, rfl, rfl, rfl, rfl⟩ := C
  intro H locs ls hP hD hS hl
  exact va_iast hx hb hK hP hD hS q0 0 ha rfl (i := i) (by rw [hi]; exact vp_in_nI hj hN) d (fun H1 locs1 hP1 hD1 hS1 => by rw [hi, nI_clamp (Nat.lt_trans hj hN), hw] at hP1 hD1; exact kk H1 locs1 ls hP1 hD1 hS1 hl)
theorem j_lald (C : jC X l D ct sa cc nL1 own R0) {a N : Nat} {f : Nat → Int64} {i : Int32} (q0 : Nat) (ha : ws[q0]? = some (a, .inl (ct 4, N, .inr (.inl f)))) (j : Nat) (hi : i = nI j) (hj : j < N) (hN : N < 2 ^ 31) (d : decode cc pc = .ok (.laload, 1)) (kk : J X ws k n (pc + 1) lv (.long (f j) :: st)) : J X ws k n pc lv (.int i :: .ref a :: st) := by
  obtain ⟨p, l0, e, R, s, m, args, below, meth, c, D0, ct0, sa0, A, nL, Q⟩ := X
  obtain ⟨hx, hb, hml, ho, hts, hK, hA, hlk, hEX, rfl, rfl, rfl, rfl, rfl, rfl⟩ := C
  intro H locs ls hP hD hS hl
  exact va_lald hx hb hK hP q0 4 ha rfl (i := i) (by rw [hi]; exact vp_in_nI hj hN) d (by rw [hi, nI_clamp (Nat.lt_trans hj hN)]; exact kk H locs ls hP hD hS hl)
theorem j_last (C : jC X l D ct sa cc nL1 own R0) {a N : Nat} {f : Nat → Int64} {i : Int32} {x : Int64} {ws2 : va_W} (q0 : Nat) (ha : ws[q0]? = some (a, .inl (ct 4, N, .inr (.inl f)))) (j : Nat) (hi : i = nI j) (hj : j < N) (hN : N < 2 ^ 31) (hw : ws.set q0 (a, .inl (ct 4, N, .inr (.inl (vp_updL f j x)))) = ws2) (d : decode cc pc = .ok (.lastore, 1)) (kk : J X ws2 k n (pc + 1) lv st) : J X ws k n pc lv (.long x :: .int i :: .ref a :: st) := by
  obtain ⟨p, l0, e, R, s, m, args, below, meth, c, D0, ct0, sa0, A, nL, Q⟩ := X
  obtain ⟨hx, hb, hml, ho, hts, hK, hA, hlk, hEX, rfl, rfl, rfl, rfl, rfl, rfl⟩ := C
  intro H locs ls hP hD hS hl
  exact va_last hx hb hK hP hD hS q0 4 ha rfl (i := i) (by rw [hi]; exact vp_in_nI hj hN) d (fun H1 locs1 hP1 hD1 hS1 => by rw [hi, nI_clamp (Nat.lt_trans hj hN), hw] at hP1 hD1; exact kk H1 locs1 ls hP1 hD1 hS1 hl)
theorem j_alen (C : jC X l D ct sa cc nL1 own R0) {a : Nat} {x : vp_A} {v : Int32} {cA : ClassId} {ty : FieldType} (q0 t0 : Nat) (ha : ws[q0]? = some (a, .inl (cA, x))) (ht : (TY ct)[t0]? = some (cA, ty)) (hv : Int32.ofNat x.1 = v) (d : decode cc pc = .ok (.arraylength, 1)) (kk : J X ws k n (pc + 1) lv (.int v :: st)) : J X ws k n pc lv (.ref a :: st) := by
  obtain ⟨p, l0, e, R, s, m, args, below, meth, c, D0, ct0, sa0, A, nL, Q⟩ := X
  obtain ⟨hx, hb, hml, ho, hts, hK, hA, hlk, hEX, rfl, rfl, rfl, rfl, rfl, rfl⟩ := C
  intro H locs ls hP hD hS hl
  exact va_alen hx hb hK hP q0 t0 ha ht hv d (kk H locs ls hP hD hS hl)
theorem j_aldq (C : jC X l D ct sa cc nL1 own R0) {a N : Nat} {Cn : String} {cA : ClassId} {f : Nat → Option Nat} {i : Int32} {b : Nat} (q0 t0 : Nat) (ha : ws[q0]? = some (a, .inl (cA, N, .inr (.inr (.inr (.inr f)))))) (ht : (TY ct)[t0]? = some (cA, .object Cn)) (j : Nat) (hi : i = nI j) (hj : j < N) (hN : N < 2 ^ 31) (hb2 : f j = some b) (d : decode cc pc = .ok (.aaload, 1)) (kk : J X ws k n (pc + 1) lv (.ref b :: st)) : J X ws k n pc lv (.int i :: .ref a :: st) := by
  obtain ⟨p, l0, e, R, s, m, args, below, meth, c, D0, ct0, sa0, A, nL, Q⟩ := X
  obtain ⟨hx, hb, hml, ho, hts, hK, hA, hlk, hEX, rfl, rfl, rfl, rfl, rfl, rfl⟩ := C
  intro H locs ls hP hD hS hl
  exact va_aldq hx hb hK hP q0 t0 ha ht (i := i) (by rw [hi]; exact vp_in_nI hj hN) d (by rw [hi, nI_clamp (Nat.lt_trans hj hN), hb2]; exact kk H locs ls hP hD hS hl)
end JR
end
section
/-- one answer, one world -/
abbrev dK (r : Option Value) (w : va_W) : Option Value → va_W → Prop := fun r1 w1 => r1 = r ∧ w1 = w
section JD
variable {X : Ctx} {k n pc : Nat} {lv : List (Nat × Value)} {st : List Value} {w0 : va_W}
theorem dki {x : Int32} (h : J X w0 k n pc lv (.int x :: st)) : ∀ v w, dK (some (.int x)) w0 v w → J X w k n pc lv (v.toList ++ st) := fun v w q => by obtain ⟨rfl, rfl⟩ := q; exact h
theorem dkl {x : Int64} (h : J X w0 k n pc lv (.long x :: st)) : ∀ v w, dK (some (.long x)) w0 v w → J X w k n pc lv (v.toList ++ st) := fun v w q => by obtain ⟨rfl, rfl⟩ := q; exact h
theorem dkd {x : UInt64} (h : J X w0 k n pc lv (.double x :: st)) : ∀ v w, dK (some (.double x)) w0 v w → J X w k n pc lv (v.toList ++ st) := fun v w q => by obtain ⟨rfl, rfl⟩ := q; exact h
theorem dkr {x : Nat} (h : J X w0 k n pc lv (.ref x :: st)) : ∀ v w, dK (some (.ref x)) w0 v w → J X w k n pc lv (v.toList ++ st) := fun v w q => by obtain ⟨rfl, rfl⟩ := q; exact h
theorem dkv (h : J X w0 k n pc lv st) : ∀ v w, dK none w0 v w → J X w k n pc lv (v.toList ++ st) := fun v w q => by obtain ⟨rfl, rfl⟩ := q; exact h
end JD
/-- q thrown over this frame -/
def JT (X : Ctx) (ws : va_W) (k n pc : Nat) (lv : List (Nat × Value)) (E : String) : Prop :=
  match X with
  | (p, l0, e, R, s, m, args, below, meth, c, D0, ct0, sa0, A, nL, Q) =>
    ∀ (H : Heap) (locs : List Loc) (ls : Array Slot) (rest : List Value) (q : Addr) (ce : Cell), va_P D0 vwCl ws H → va_D A ws → va_S A s.heap H locs → lv_has ls nL lv → H[q]? = some ce → ce.vm = .none → s.vm.findClass E = some ce.cls → vx_W p l0 e R s m args below meth c H locs k n Q (F0 m pc ls rest) q
theorem jp_blind {D : va_G} {ct : Nat → ClassId} {sa : Nat → Nat} {sz : Nat} {ws : va_W} {av : List Value} : FrameBlind (va_Pc av (jPre D ct sa sz ws)) := fun a U g mk q => by
  obtain ⟨e, h1, h2, h3, h4, h5⟩ := q
  exact ⟨e, h1, h2, va_K.moved (u := U) (U := U.calling g mk a) (Vm.Alike.refl U.vm) h3, h4, h5.moved (U := U.calling g mk a) (State.WarmedH.refl U)⟩
theorem jp_pre {s : State} {A : Nat → Prop} {D : va_G} {ct : Nat → ClassId} {sa : Nat → Nat} {ws : va_W} {H : Heap} {locs : List Loc} (hK : va_K D vwCl (TY ct) s) (hA : ∀ q, s.heap.size ≤ q → A q) (hEX : EX sa A s s.heap) (hP : va_P D vwCl ws H) (hD : va_D A ws) (hS : va_S A s.heap H locs) :
    (∀ q, va_A ws H.size q → A q) ∧ ∀ U : State, U.heap = H → s.WarmedH U.vm → jPre D ct sa H.size ws U := by
  have hsub : ∀ q, va_A ws H.size q → A q := by
    intro q hq
    rcases hq with ⟨i, e, hi⟩ | hq
    · exact hD.2 i _ hi
    · exact hA q (Nat.le_trans hS.1 hq)
  refine ⟨hsub, fun U hU hW => ⟨by rw [hU], by rw [hU]; exact hP, va_K.moved hW.alike hK, hD.weaken (fun _ _ _ _ => trivial), ?_⟩⟩
  rw [hU]
  exact ((hEX.kept hS.2.1).narrow hsub).moved hW
section JC
variable {X : Ctx} {l : Launch} {D : va_G} {ct : Nat → ClassId} {sa : Nat → Nat} {cc : ByteArray} {nL1 : Nat} {own : String} {R0 : Room} {ws : va_W} {k n pc : Nat} {lv lv' : List (Nat × Value)} {st : List Value}
variable {ws0 : va_W} {K0 : Option Value → va_W → Prop} {KX0 : String → Prop} {mc0 ms0 : Nat} {rt0 : Option FieldType}

theorem j_ireturn (C : jC X l D ct sa cc nL1 own R0) {v : Int32} {ty : FieldType} (E : jE X ws0 K0 KX0 mc0 ms0 (some ty)) (hnr : narrow ty (.int v) = .int v) (d : decode cc pc = .ok (.ireturn, 1)) (hk : k ≤ mc0) (hn : n ≤ ms0) (h : K0 (some (.int v)) ws) : J X ws k n pc lv [.int v] := by
  obtain ⟨p, l0, e, R, s, m, args, below, meth, c, D0, ct0, sa0, A, nL, Q⟩ := X
  obtain ⟨hx, hb, hml, ho, hts, hK, hA, hlk, hEX, rfl, rfl, rfl, rfl, rfl, rfl⟩ := C
  obtain ⟨rfl, rfl, hr⟩ := E
  intro H locs ls hP hD hS hl
  refine W.widen hk hn (vx_ret ?_)
  exact W.zret hx hb hr hnr (fun t ht hW => ⟨⟨_, ws, rfl, h, by rw [ht]; exact hP, hD⟩, hS.F ht⟩) hS.2.2 d hlk
theorem j_lreturn (C : jC X l D ct sa cc nL1 own R0) {v : Int64} (E : jE X ws0 K0 KX0 mc0 ms0 (some .long)) (d : decode cc pc = .ok (.lreturn, 1)) (hk : k ≤ mc0) (hn : n ≤ ms0) (h : K0 (some (.long v)) ws) : J X ws k n pc lv [.long v] := by
  obtain ⟨p, l0, e, R, s, m, args, below, meth, c, D0, ct0, sa0, A, nL, Q⟩ := X
  obtain ⟨hx, hb, hml, ho, hts, hK, hA, hlk, hEX, rfl, rfl, rfl, rfl, rfl, rfl⟩ := C
  obtain ⟨rfl, rfl, hr⟩ := E
  intro H locs ls hP hD hS hl
  refine W.widen hk hn (vx_ret ?_)
  exact W.lret hx hb hr (fun t ht hW => ⟨⟨_, ws, rfl, h, by rw [ht]; exact hP, hD⟩, hS.F ht⟩) hS.2.2 d hlk
theorem j_dreturn (C : jC X l D ct sa cc nL1 own R0) {v : UInt64} (E : jE X ws0 K0 KX0 mc0 ms0 (some .double)) (d : decode cc pc = .ok (.dreturn, 1)) (hk : k ≤ mc0) (hn : n ≤ ms0) (h : K0 (some (.double v)) ws) : J X ws k n pc lv [.double v] := by
  obtain ⟨p, l0, e, R, s, m, args, below, meth, c, D0, ct0, sa0, A, nL, Q⟩ := X
  obtain ⟨hx, hb, hml, ho, hts, hK, hA, hlk, hEX, rfl, rfl, rfl, rfl, rfl, rfl⟩ := C
  obtain ⟨rfl, rfl, hr⟩ := E
  intro H locs ls hP hD hS hl
  refine W.widen hk hn (vx_ret ?_)
  exact W.dret hx hb hr (fun t ht hW => ⟨⟨_, ws, rfl, h, by rw [ht]; exact hP, hD⟩, hS.F ht⟩) hS.2.2 d hlk
theorem j_areturn (C : jC X l D ct sa cc nL1 own R0) {v : Nat} {rt : FieldType} (E : jE X ws0 K0 KX0 mc0 ms0 (some rt)) (hrt : (∃ n, rt = .object n) ∨ ∃ t, rt = .array t) (d : decode cc pc = .ok (.areturn, 1)) (hk : k ≤ mc0) (hn : n ≤ ms0) (h : K0 (some (.ref v)) ws) : J X ws k n pc lv [.ref v] := by
  obtain ⟨p, l0, e, R, s, m, args, below, meth, c, D0, ct0, sa0, A, nL, Q⟩ := X
  obtain ⟨hx, hb, hml, ho, hts, hK, hA, hlk, hEX, rfl, rfl, rfl, rfl, rfl, rfl⟩ := C
  obtain ⟨rfl, rfl, hr⟩ := E
  intro H locs ls hP hD hS hl
  refine W.widen hk hn (vx_ret ?_)
  exact W.aret hx hb hr hrt (Or.inr ⟨v, rfl⟩) (fun t ht hW => ⟨⟨_, ws, rfl, h, by rw [ht]; exact hP, hD⟩, hS.F ht⟩) hS.2.2 d hlk
theorem j_return (C : jC X l D ct sa cc nL1 own R0)  (E : jE X ws0 K0 KX0 mc0 ms0 none) (d : decode cc pc = .ok (.return_, 1)) (hk : k ≤ mc0) (hn : n ≤ ms0) (h : K0 none ws) : J X ws k n pc lv [] := by
  obtain ⟨p, l0, e, R, s, m, args, below, meth, c, D0, ct0, sa0, A, nL, Q⟩ := X
  obtain ⟨hx, hb, hml, ho, hts, hK, hA, hlk, hEX, rfl, rfl, rfl, rfl, rfl, rfl⟩ := C
  obtain ⟨rfl, rfl, hr⟩ := E
  intro H locs ls hP hD hS hl
  refine W.widen hk hn (vx_ret ?_)
  exact W.vret hx hb hr (fun t ht hW => ⟨⟨_, ws, rfl, h, by rw [ht]; exact hP, hD⟩, hS.F ht⟩) hS.2.2 d hlk
theorem j_widen {k1 n1 : Nat} (h1 : k ≤ k1) (h2 : n ≤ n1) (kk : J X ws k1 n1 pc lv st) : J X ws k n pc lv st := by
  obtain ⟨p, l0, e, R, s, m, args, below, meth, c, D0, ct0, sa0, A, nL, Q⟩ := X
  intro H locs ls hP hD hS hl
  exact W.widen h1 h2 (kk H locs ls hP hD hS hl)
theorem j_lv {lv1 : List (Nat × Value)} (h : lv = lv1) (kk : J X ws k n pc lv1 st) : J X ws k n pc lv st := h ▸ kk
theorem j_lvs {lv1 : List (Nat × Value)} (ks : List Nat) (h : lv_pick lv ks = lv1) (kk : J X ws k n pc lv1 st) : J X ws k n pc lv st := by
  obtain ⟨p, l0, e, R, s, m, args, below, meth, c, D0, ct0, sa0, A, nL, Q⟩ := X
  intro H locs ls hP hD hS hl
  exact kk H locs ls hP hD hS (lv_sub hl ks h)
theorem j_st {st1 : List Value} (h : st = st1) (kk : J X ws k n pc lv st1) : J X ws k n pc lv st := h ▸ kk
theorem j_ws {ws1 : va_W} (h : ws = ws1) (kk : J X ws1 k n pc lv st) : J X ws k n pc lv st := h ▸ kk
/-- the cells in another order, or fewer -/
theorem j_by {ws1 : va_W} (g : Nat → Nat) (hg : ∀ (k : Nat) (q : Nat × va_E), ws1[k]? = some q → ws[g k]? = some q) (hi : ∀ i j : Nat, i < ws1.length → j < ws1.length → g i = g j → i = j) (kk : J X ws1 k n pc lv st) : J X ws k n pc lv st := by
  obtain ⟨p, l0, e, R, s, m, args, below, meth, c, D0, ct0, sa0, A, nL, Q⟩ := X
  intro H locs ls hP hD hS hl
  exact kk H locs ls (hP.by g hg) (hD.by g hg hi) hS hl
theorem j_swap {a b c0 : va_W} (h : ws = (a ++ b) ++ c0) (kk : J X ((a ++ c0) ++ b) k n pc lv st) : J X ws k n pc lv st := by
  subst h
  obtain ⟨p, l0, e, R, s, m, args, below, meth, c, D0, ct0, sa0, A, nL, Q⟩ := X
  intro H locs ls hP hD hS hl
  exact kk H locs ls hP.swap hD.swap hS hl
/-- the cells in front are forgotten, or those behind -/
theorem j_drop {a b : va_W} (h : ws = a ++ b) (kk : J X a k n pc lv st) : J X ws k n pc lv st := by
  subst h
  refine j_by (fun i => i) (fun i q hq => ?_) (fun i j _ _ h => h) kk
  have hl : i < a.length := (List.getElem?_eq_some_iff.mp hq).1
  rw [List.getElem?_append_left hl]
  exact hq

theorem jt_out (C : jC X l D ct sa cc nL1 own R0) (E : jE X ws0 K0 KX0 mc0 ms0 rt0) (T0 : jT0 X) {En : String} (h0 : ws = ws0) (hk : k ≤ mc0) (hn : n ≤ ms0) (h : KX0 En) : JT X ws k n pc lv En := by
  obtain ⟨p, l0, e, R, s, m, args, below, meth, c, D0, ct0, sa0, A, nL, Q⟩ := X
  obtain ⟨hx, hb, hml, ho, hts, hK, hA, hlk, hEX, rfl, rfl, rfl, rfl, rfl, rfl⟩ := C
  obtain ⟨rfl, rfl, hr⟩ := E
  subst h0
  intro H locs ls rest q ce hP hD hS hl hce hcv hcl
  exact vx_out (fun x hx => (T0 x hx).elim) hlk hce hcv hcl (fun t ht hW => ⟨⟨h, by rw [ht]; exact hP, hD⟩, hS.F ht⟩) hS.2.2 hk hn
theorem j_throwS (C : jC X l D ct sa cc nL1 own R0) (E : jE X ws0 K0 KX0 mc0 ms0 rt0) (T0 : jT0 X) (htr : l.stackTraces = false) {cls text : String} {names : List String} {ik is ic : Nat} (hown : own = "LetterLocks") (hcls : Bundle.fit cls = true) (hnames : ∀ n ∈ names, Bundle.fit n = true) (hk1 : Cond.classLink own ik cls ∈ GW) (hini : Cond.initialized cls ∈ GW) (hstr : (is, text) ∈ STRS) (hat : ∀ w ∈ vx_atS own ic cls names, w ∈ GW ∨ w ∈ NW) (hgood : ∀ w ∈ Cond.classLink own ik cls :: Cond.initialized cls :: vx_atS own ic cls names, vx_ot w = true) (d0 : decode cc pc = .ok (.new ik, 3)) (d3 : decode cc (pc + 3) = .ok (.dup, 1)) (d4 : decode cc (pc + 4) = .ok (.ldc is, 2)) (d6 : decode cc (pc + 6) = .ok (.invokespecial ic, 3)) (d9 : decode cc (pc + 9) = .ok (.athrow, 1)) (hRf : names.length + 3 < R0.frames) (hRl : (st.map fun v => v.category).sum + (13 * (names.length + 1) + 43) ≤ R0.locals) (hRc : k + 1 ≤ R0.cells) (hRs : n + 6 ≤ R0.slots) (h0 : ws = ws0) (h : KX0 cls) (hk : k + 1 ≤ mc0) (hn : n + 6 ≤ ms0) : J X ws k n pc lv st := by
  obtain ⟨p, l0, e, R, s, m, args, below, meth, c, D0, ct0, sa0, A, nL, Q⟩ := X
  obtain ⟨hx, hb, hml, ho, hts, hK, hA, hlk, hEX, rfl, rfl, rfl, rfl, rfl, rfl⟩ := C
  obtain ⟨rfl, rfl, hr⟩ := E
  subst h0
  subst hown
  intro H locs ls hP hD hS hl
  exact vx_throwS hx hb htr ho hcls hnames (hts _ hk1) (hts _ hini) (hEX.2.1 _ hstr) (fun w hw => (hat w hw).elim (fun q => hts _ q) (fun q => va_Nw.use (nw_tab (List.mem_filter.mp q).2) (hEX.1 _ q))) hgood hEX.2.2.2.2.2.1 hEX.2.2.2.2.2.2.1 hS (hl.1.trans hml.symm) d0 d3 d4 d6 d9 (fun x hx => (T0 x hx).elim) hRf hRl hRc hRs hlk
    (fun t hal hz hq => ⟨⟨h, hP.kept (fun i q hi => hq _ (hP i q hi).lt), hD⟩, ⟨Nat.le_trans hS.1 hz, fun q h1 h2 => (hq q (Nat.lt_of_lt_of_le h1 hS.1)).trans (hS.2.1 q h1 h2)⟩⟩) hS.2.2 hk hn
theorem jr_core {p : Program} {e : Env} {R : Room} {s : State} {m : MethodId} {args : Array Value} {below : List Frame} {meth : Method} {c : Code} {A : Nat → Prop} {nL : Nat} {Q : State → Prop} {H : Heap} {locs : List Loc} {ls : Array Slot} {mc ms : Nat} {rest st0 : List Value} {K : Option Value → va_W → Prop} {a : Array Value}
    (hA : ∀ q, va_A ws H.size q → A q) (hS : va_S A s.heap H locs) (hl : lv_has ls nL lv)
    (hr : va_Run p l e R s m args below meth c H locs k n mc ms (F0 m pc ls st0) rest (jQ D ct H.size ws K a) (va_A ws H.size))
    (kk : ∀ v w, K v w → J (p, l, e, R, s, m, args, below, meth, c, D, ct, sa, A, nL, Q) w (k + mc) (n + ms) (pc + 3) lv (v.toList ++ rest)) : W p l e R s m args below meth c H locs k n Q (F0 m pc ls st0) := by
  intro T hT Xs
  obtain ⟨v, st₀, t, T', L, h0, X', hL, e1, e2, ⟨⟨r, w, hv, hk, hP1, hD1⟩, hF⟩, stp⟩ := hr T hT Xs
  cases hv
  obtain ⟨k1, k2, k3⟩ := vx_keep h0 e1 hS (fun q _ h => hA q h) (fun q h => hA q h) hL hF
  obtain ⟨t2, a1, b1⟩ := kk v w hk T'.heap (locs ++ L) ls (by rw [e1]; exact hP1) (hD1.weaken (fun _ _ _ h => hA _ h)) k3 hl T' rfl X'
  exact ⟨t2, stp t2 a1, b1⟩
theorem jr_coreX {p : Program} {e : Env} {R : Room} {s : State} {m : MethodId} {args : Array Value} {below : List Frame} {meth : Method} {c : Code} {A : Nat → Prop} {nL : Nat} {Q : State → Prop} {H : Heap} {locs : List Loc} {ls : Array Slot} {mc ms : Nat} {rest st0 : List Value} {K : Option Value → va_W → Prop} {KX : String → Prop} {a : Array Value}
    (hA : ∀ q, va_A ws H.size q → A q) (hS : va_S A s.heap H locs) (hl : lv_has ls nL lv)
    (hr : vx_Run p l e R s m args below meth c H locs k n mc ms (F0 m pc ls st0) rest (jQ D ct H.size ws K a) (jX D ct H.size ws KX) (va_A ws H.size))
    (kx : ∀ En, KX En → JT (p, l, e, R, s, m, args, below, meth, c, D, ct, sa, A, nL, Q) ws (k + mc) (n + ms) pc lv En)
    (kk : ∀ v w, K v w → J (p, l, e, R, s, m, args, below, meth, c, D, ct, sa, A, nL, Q) w (k + mc) (n + ms) (pc + 3) lv (v.toList ++ rest)) : W p l e R s m args below meth c H locs k n Q (F0 m pc ls st0) := by
  intro T hT Xs
  rcases hr T hT Xs with ⟨v, st₀, t, T', L, h0, X', hL, e1, e2, ⟨⟨r, w, hv, hk, hP1, hD1⟩, hF⟩, stp⟩ | ⟨q, st₀, t, T', L, En, ce, h0, X', hL, e1, e2, ⟨⟨hkx, hP1, hD1⟩, hF⟩, hce, hcv, hcl, stp⟩
  · cases hv
    obtain ⟨k1, k2, k3⟩ := vx_keep h0 e1 hS (fun q _ h => hA q h) (fun q h => hA q h) hL hF
    obtain ⟨t2, a1, b1⟩ := kk v w hk T'.heap (locs ++ L) ls (by rw [e1]; exact hP1) (hD1.weaken (fun _ _ _ h => hA _ h)) k3 hl T' rfl X'
    exact ⟨t2, stp t2 a1, b1⟩
  · obtain ⟨k1, k2, k3⟩ := vx_keep h0 e1 hS (fun q _ h => hA q h) (fun q h => hA q h) hL hF
    obtain ⟨t2, a1, b1⟩ := kx En hkx T'.heap (locs ++ L) ls rest q ce (by rw [e1]; exact hP1) (hD1.weaken (fun _ _ _ h => hA _ h)) k3 hl (by rw [e1]; exact hce) hcv hcl T' rfl X'
    exact ⟨t2, stp.trans a1, b1⟩
theorem gi_V {own Cn : String} {index : Nat} {y : MethodName} {wl : List Cond} (w1 : Cond.methodLink own index y ∈ GW) (w2 : Cond.instanceMethod y ∈ GW) (w3 : Cond.selects Cn y y ∈ GW) (w4 : Cond.initialized Cn ∈ GW) (hw : ∀ w ∈ wl, w ∈ GW) : GoodIn GW (wsV own index Cn y wl) := by
  refine good_in (fun w h => ?_)
  rcases List.mem_append.mp h with h | h
  · simp only [List.mem_cons, List.not_mem_nil, or_false] at h
    rcases h with rfl | rfl | rfl | rfl
    · exact w1
    · exact w2
    · exact w3
    · exact w4
  · exact hw w h
theorem gi_S {own : String} {index : Nat} {y : MethodName} {wl : List Cond} (w1 : Cond.methodLink own index y ∈ GW) (w2 : Cond.static y ∈ GW) (w4 : Cond.initialized y.cls ∈ GW) (hw : ∀ w ∈ wl, w ∈ GW) : GoodIn GW (va_wsS own index y wl) := by
  refine good_in (fun w h => ?_)
  rcases List.mem_append.mp h with h | h
  · simp only [List.mem_cons, List.not_mem_nil, or_false] at h
    rcases h with rfl | rfl | rfl
    · exact w1
    · exact w2
    · exact w4
  · exact hw w h
theorem gi_c {w : Cond} (h : w ∈ GW) : ∀ q ∈ w :: GW, q ∈ GW := fun q hq => (List.mem_cons.mp hq).elim (fun e => e ▸ h) id

theorem j_callV (C : jC X l D ct sa cc nL1 own R0) {y : MethodName} {bytes : ByteArray} {maxL index f mc ms lo nargs : Nat} {ret : Option FieldType} {As rest : List Value} {K : Option Value → va_W → Prop}  {b ci : Nat} {fs : List Value} {Cn : String} {r0 : vw_C} (q0 : Nat) (he : ws[q0]? = some (b, .inr (ci, fs))) (hc : vwCl[ci]? = some r0) (hr0 : r0.1 = Cn) (w1 : Cond.methodLink own index y ∈ GW) (w2 : Cond.instanceMethod y ∈ GW) (w3 : Cond.selects Cn y y ∈ GW) (w4 : Cond.initialized Cn ∈ GW) (hM : jM l y (Cond.code y bytes maxL ret :: GW) (rM f mc ms lo) D ct sa (.ref b :: As) ws K mc ms) (w5 : Cond.code y bytes maxL ret ∈ GW) (hy : y.cls = Cn ∧ y.cls ≠ "java/lang/invoke/MethodHandle" ∧ y.cls ≠ "java/lang/invoke/VarHandle" ∧ (parseMethodDescriptor y.desc).map (fun d => d.parameters.length) = some nargs) (hn : As.length = nargs) (d : decode cc pc = .ok (.invokevirtual index, 3)) (hR : f + 1 ≤ R0.frames ∧ 8 + (maxL + 11) + lo ≤ R0.locals) (hf : k + mc ≤ R0.cells ∧ n + ms ≤ R0.slots) (hrest : (rest.map fun v => v.category).sum ≤ 8) (kk : ∀ v w, K v w → J X w (k + mc) (n + ms) (pc + 3) lv (v.toList ++ rest)) : J X ws k n pc lv (As.reverse ++ .ref b :: rest) := by
  obtain ⟨p, l0, e, R, s, m, args, below, meth, c, D0, ct0, sa0, A, nL, Q⟩ := X
  obtain ⟨hx, hb, hml, ho, hts, hK, hA, hlk, hEX, rfl, rfl, rfl, rfl, rfl, rfl⟩ := C
  intro H locs ls hP hD hS hl
  obtain ⟨hsub, hpre⟩ := jp_pre hK hA hEX hP hD hS
  exact jr_core hsub hS hl (va_runV (C := Cn) (As := As) (rest := rest) ⟨hx, hb, hml, ho, hts⟩ (hM H.size) (cwV nargs hts (gi_V w1 w2 w3 w4 (gi_c w5)) rfl rfl rfl hy hR) ⟨jp_blind, by obtain ⟨cb, h1, h2, h3⟩ := va_recv hK hP hc he; exact ⟨cb, h1, h2, hr0 ▸ h3⟩, fun U hU hW => ⟨rfl, hpre U hU hW⟩⟩ rfl hn hl.1 rfl (lv_room hrest) d hf) kk
theorem j_callS (C : jC X l D ct sa cc nL1 own R0) {y : MethodName} {bytes : ByteArray} {maxL index f mc ms lo nargs : Nat} {ret : Option FieldType} {As rest : List Value} {K : Option Value → va_W → Prop}  (w1 : Cond.methodLink own index y ∈ GW) (w2 : Cond.static y ∈ GW) (w4 : Cond.initialized y.cls ∈ GW) (hM : jM l y (Cond.code y bytes maxL ret :: GW) (rM f mc ms lo) D ct sa As ws K mc ms) (w5 : Cond.code y bytes maxL ret ∈ GW) (hy : y.cls ≠ "java/lang/invoke/MethodHandle" ∧ y.cls ≠ "java/lang/invoke/VarHandle" ∧ (parseMethodDescriptor y.desc).map (fun d => d.parameters.length) = some nargs) (hn : As.length = nargs) (d : decode cc pc = .ok (.invokestatic index, 3)) (hR : f + 1 ≤ R0.frames ∧ 8 + (maxL + 11) + lo ≤ R0.locals) (hf : k + mc ≤ R0.cells ∧ n + ms ≤ R0.slots) (hrest : (rest.map fun v => v.category).sum ≤ 8) (kk : ∀ v w, K v w → J X w (k + mc) (n + ms) (pc + 3) lv (v.toList ++ rest)) : J X ws k n pc lv (As.reverse ++ rest) := by
  obtain ⟨p, l0, e, R, s, m, args, below, meth, c, D0, ct0, sa0, A, nL, Q⟩ := X
  obtain ⟨hx, hb, hml, ho, hts, hK, hA, hlk, hEX, rfl, rfl, rfl, rfl, rfl, rfl⟩ := C
  intro H locs ls hP hD hS hl
  obtain ⟨hsub, hpre⟩ := jp_pre hK hA hEX hP hD hS
  exact jr_core hsub hS hl (va_runS (As := As) (rest := rest) ⟨hx, hb, hml, ho, hts⟩ (hM H.size) (va_cwS nargs hts (gi_S w1 w2 w4 (gi_c w5)) rfl rfl rfl hy hR) ⟨jp_blind, fun U hU hW => ⟨rfl, hpre U hU hW⟩⟩ rfl hn hl.1 rfl (lv_room hrest) d hf) kk
theorem j_callVX (C : jC X l D ct sa cc nL1 own R0) {y : MethodName} {bytes : ByteArray} {maxL index f mc ms lo nargs : Nat} {ret : Option FieldType} {As rest : List Value} {K : Option Value → va_W → Prop} {KX : String → Prop}  {b ci : Nat} {fs : List Value} {Cn : String} {r0 : vw_C} (q0 : Nat) (he : ws[q0]? = some (b, .inr (ci, fs))) (hc : vwCl[ci]? = some r0) (hr0 : r0.1 = Cn) (w1 : Cond.methodLink own index y ∈ GW) (w2 : Cond.instanceMethod y ∈ GW) (w3 : Cond.selects Cn y y ∈ GW) (w4 : Cond.initialized Cn ∈ GW) (hM : jMX l y (Cond.code y bytes maxL ret :: GW) (rM f mc ms lo) D ct sa (.ref b :: As) ws K KX mc ms) (w5 : Cond.code y bytes maxL ret ∈ GW) (hy : y.cls = Cn ∧ y.cls ≠ "java/lang/invoke/MethodHandle" ∧ y.cls ≠ "java/lang/invoke/VarHandle" ∧ (parseMethodDescriptor y.desc).map (fun d => d.parameters.length) = some nargs) (hn : As.length = nargs) (d : decode cc pc = .ok (.invokevirtual index, 3)) (hR : f + 1 ≤ R0.frames ∧ 8 + (maxL + 11) + lo ≤ R0.locals) (hf : k + mc ≤ R0.cells ∧ n + ms ≤ R0.slots) (hrest : (rest.map fun v => v.category).sum ≤ 8) (kx : ∀ En, KX En → JT X ws (k + mc) (n + ms) pc lv En) (kk : ∀ v w, K v w → J X w (k + mc) (n + ms) (pc + 3) lv (v.toList ++ rest)) : J X ws k n pc lv (As.reverse ++ .ref b :: rest) := by
  obtain ⟨p, l0, e, R, s, m, args, below, meth, c, D0, ct0, sa0, A, nL, Q⟩ := X
  obtain ⟨hx, hb, hml, ho, hts, hK, hA, hlk, hEX, rfl, rfl, rfl, rfl, rfl, rfl⟩ := C
  intro H locs ls hP hD hS hl
  obtain ⟨hsub, hpre⟩ := jp_pre hK hA hEX hP hD hS
  exact jr_coreX hsub hS hl (vx_runV (C := Cn) (As := As) (rest := rest) ⟨hx, hb, hml, ho, hts⟩ (hM H.size) (cwV nargs hts (gi_V w1 w2 w3 w4 (gi_c w5)) rfl rfl rfl hy hR) ⟨jp_blind, by obtain ⟨cb, h1, h2, h3⟩ := va_recv hK hP hc he; exact ⟨cb, h1, h2, hr0 ▸ h3⟩, fun U hU hW => ⟨rfl, hpre U hU hW⟩⟩ rfl hn hl.1 rfl (lv_room hrest) d hf) kx kk
theorem j_callSX (C : jC X l D ct sa cc nL1 own R0) {y : MethodName} {bytes : ByteArray} {maxL index f mc ms lo nargs : Nat} {ret : Option FieldType} {As rest : List Value} {K : Option Value → va_W → Prop} {KX : String → Prop}  (w1 : Cond.methodLink own index y ∈ GW) (w2 : Cond.static y ∈ GW) (w4 : Cond.initialized y.cls ∈ GW) (hM : jMX l y (Cond.code y bytes maxL ret :: GW) (rM f mc ms lo) D ct sa As ws K KX mc ms) (w5 : Cond.code y bytes maxL ret ∈ GW) (hy : y.cls ≠ "java/lang/invoke/MethodHandle" ∧ y.cls ≠ "java/lang/invoke/VarHandle" ∧ (parseMethodDescriptor y.desc).map (fun d => d.parameters.length) = some nargs) (hn : As.length = nargs) (d : decode cc pc = .ok (.invokestatic index, 3)) (hR : f + 1 ≤ R0.frames ∧ 8 + (maxL + 11) + lo ≤ R0.locals) (hf : k + mc ≤ R0.cells ∧ n + ms ≤ R0.slots) (hrest : (rest.map fun v => v.category).sum ≤ 8) (kx : ∀ En, KX En → JT X ws (k + mc) (n + ms) pc lv En) (kk : ∀ v w, K v w → J X w (k + mc) (n + ms) (pc + 3) lv (v.toList ++ rest)) : J X ws k n pc lv (As.reverse ++ rest) := by
  obtain ⟨p, l0, e, R, s, m, args, below, meth, c, D0, ct0, sa0, A, nL, Q⟩ := X
  obtain ⟨hx, hb, hml, ho, hts, hK, hA, hlk, hEX, rfl, rfl, rfl, rfl, rfl, rfl⟩ := C
  intro H locs ls hP hD hS hl
  obtain ⟨hsub, hpre⟩ := jp_pre hK hA hEX hP hD hS
  exact jr_coreX hsub hS hl (vx_runS (As := As) (rest := rest) ⟨hx, hb, hml, ho, hts⟩ (hM H.size) (va_cwS nargs hts (gi_S w1 w2 w4 (gi_c w5)) rfl rfl rfl hy hR) ⟨jp_blind, fun U hU hW => ⟨rfl, hpre U hU hW⟩⟩ rfl hn hl.1 rfl (lv_room hrest) d hf) kx kk
theorem j_callSW (C : jC X l D ct sa cc nL1 own R0) {y : MethodName} {bytes : ByteArray} {maxL index f mc ms lo nargs : Nat} {ret : Option FieldType} {As rest : List Value} {K : Option Value → va_W → Prop} {hh : List (Nat × Nat × Nat × Nat)} (w1 : Cond.methodLink own index y ∈ GW) (w2 : Cond.static y ∈ GW) (w4 : Cond.initialized y.cls ∈ GW) (hM : jM l y (Cond.codeWith y bytes maxL ret hh :: GW) (rM f mc ms lo) D ct sa As ws K mc ms) (w5 : Cond.codeWith y bytes maxL ret hh ∈ GW) (hy : y.cls ≠ "java/lang/invoke/MethodHandle" ∧ y.cls ≠ "java/lang/invoke/VarHandle" ∧ (parseMethodDescriptor y.desc).map (fun d => d.parameters.length) = some nargs) (hn : As.length = nargs) (d : decode cc pc = .ok (.invokestatic index, 3)) (hR : f + 1 ≤ R0.frames ∧ 8 + (maxL + 11) + lo ≤ R0.locals) (hf : k + mc ≤ R0.cells ∧ n + ms ≤ R0.slots) (hrest : (rest.map fun v => v.category).sum ≤ 8) (kk : ∀ v w, K v w → J X w (k + mc) (n + ms) (pc + 3) lv (v.toList ++ rest)) : J X ws k n pc lv (As.reverse ++ rest) := by
  obtain ⟨p, l0, e, R, s, m, args, below, meth, c, D0, ct0, sa0, A, nL, Q⟩ := X
  obtain ⟨hx, hb, hml, ho, hts, hK, hA, hlk, hEX, rfl, rfl, rfl, rfl, rfl, rfl⟩ := C
  intro H locs ls hP hD hS hl
  obtain ⟨hsub, hpre⟩ := jp_pre hK hA hEX hP hD hS
  exact jr_core hsub hS hl (vx_runSW (As := As) (rest := rest) ⟨hx, hb, hml, ho, hts⟩ (hM H.size) (vx_cwSW (hh := hh) nargs hts (gi_S w1 w2 w4 (gi_c w5)) rfl rfl rfl hy hR) ⟨jp_blind, fun U hU hW => ⟨rfl, hpre U hU hW⟩⟩ rfl hn hl.1 rfl (lv_room hrest) d hf) kk
theorem j_callI (C : jC X l D ct sa cc nL1 own R0) {y : MethodName} {bytes : ByteArray} {maxL index f mc ms lo nargs : Nat} {As rest : List Value} {K : Option Value → va_W → Prop}  {b : Nat} (w1 : Cond.methodLink own index y ∈ GW) (w2 : Cond.instanceMethod y ∈ GW) (w4 : Cond.initialized y.cls ∈ GW) (hi0 : y.name = "<init>") (hM : jM l y (Cond.code y bytes maxL none :: GW) (rM f mc ms lo) D ct sa (.ref b :: As) ws K mc ms) (w5 : Cond.code y bytes maxL none ∈ GW) (hy : y.cls ≠ "java/lang/invoke/MethodHandle" ∧ y.cls ≠ "java/lang/invoke/VarHandle" ∧ (parseMethodDescriptor y.desc).map (fun d => d.parameters.length) = some nargs) (hn : As.length = nargs) (d : decode cc pc = .ok (.invokespecial index, 3)) (hR : f + 1 ≤ R0.frames ∧ 8 + (maxL + 11) + lo ≤ R0.locals) (hf : k + mc ≤ R0.cells ∧ n + ms ≤ R0.slots) (hrest : (rest.map fun v => v.category).sum ≤ 8) (kk : ∀ v w, K v w → J X w (k + mc) (n + ms) (pc + 3) lv (v.toList ++ rest)) : J X ws k n pc lv (As.reverse ++ .ref b :: rest) := by
  obtain ⟨p, l0, e, R, s, m, args, below, meth, c, D0, ct0, sa0, A, nL, Q⟩ := X
  obtain ⟨hx, hb, hml, ho, hts, hK, hA, hlk, hEX, rfl, rfl, rfl, rfl, rfl, rfl⟩ := C
  intro H locs ls hP hD hS hl
  obtain ⟨hsub, hpre⟩ := jp_pre hK hA hEX hP hD hS
  exact jr_core hsub hS hl (va_runI (As := As) (rest := rest) ⟨hx, hb, hml, ho, hts⟩ (hM H.size) (cwI nargs hts (good_in (gi_c w5)) rfl rfl rfl (hts _ w4) (hts _ w1) (hts _ w2) hi0 hy hR) ⟨jp_blind, fun U hU hW => ⟨rfl, hpre U hU hW⟩⟩ rfl hn hl.1 rfl (lv_room hrest) d hf) kk
theorem j_callSN (C : jC X l D ct sa cc nL1 own R0) {y : MethodName} {bytes : ByteArray} {maxL index f mc ms lo nargs : Nat} {ret : Option FieldType} {As rest : List Value} {K : Option Value → va_W → Prop}  {host : String} (w1 : Cond.methodLinkNest own index y host ∈ NW) (w2 : Cond.static y ∈ GW) (w4 : Cond.initialized y.cls ∈ GW) (hM : jM l y (Cond.code y bytes maxL ret :: GW) (rM f mc ms lo) D ct sa As ws K mc ms) (w5 : Cond.code y bytes maxL ret ∈ GW) (hy : y.cls ≠ "java/lang/invoke/MethodHandle" ∧ y.cls ≠ "java/lang/invoke/VarHandle" ∧ (parseMethodDescriptor y.desc).map (fun d => d.parameters.length) = some nargs) (hn : As.length = nargs) (d : decode cc pc = .ok (.invokestatic index, 3)) (hR : f + 1 ≤ R0.frames ∧ 8 + (maxL + 11) + lo ≤ R0.locals) (hf : k + mc ≤ R0.cells ∧ n + ms ≤ R0.slots) (hrest : (rest.map fun v => v.category).sum ≤ 8) (kk : ∀ v w, K v w → J X w (k + mc) (n + ms) (pc + 3) lv (v.toList ++ rest)) : J X ws k n pc lv (As.reverse ++ rest) := by
  obtain ⟨p, l0, e, R, s, m, args, below, meth, c, D0, ct0, sa0, A, nL, Q⟩ := X
  obtain ⟨hx, hb, hml, ho, hts, hK, hA, hlk, hEX, rfl, rfl, rfl, rfl, rfl, rfl⟩ := C
  intro H locs ls hP hD hS hl
  obtain ⟨hsub, hpre⟩ := jp_pre hK hA hEX hP hD hS
  exact jr_core hsub hS hl (va_runSN (As := As) (rest := rest) ⟨hx, hb, hml, ho, hts⟩ (hM H.size) (⟨va_cnB nargs hts (good_in (gi_c w5)) rfl rfl rfl (hEX.1 _ w1) (hts _ w4) hy hR, hts _ w2, trivial⟩) ⟨jp_blind, fun U hU hW => ⟨rfl, hpre U hU hW⟩⟩ rfl hn hl.1 rfl (lv_room hrest) d hf) kk
theorem j_callIN (C : jC X l D ct sa cc nL1 own R0) {y : MethodName} {bytes : ByteArray} {maxL index f mc ms lo nargs : Nat} {As rest : List Value} {K : Option Value → va_W → Prop}  {b : Nat} {host : String} (w1 : Cond.methodLinkNest own index y host ∈ NW) (w2 : Cond.instanceMethod y ∈ GW) (w4 : Cond.initialized y.cls ∈ GW) (hi0 : y.name = "<init>") (hM : jM l y (Cond.code y bytes maxL none :: GW) (rM f mc ms lo) D ct sa (.ref b :: As) ws K mc ms) (w5 : Cond.code y bytes maxL none ∈ GW) (hy : y.cls ≠ "java/lang/invoke/MethodHandle" ∧ y.cls ≠ "java/lang/invoke/VarHandle" ∧ (parseMethodDescriptor y.desc).map (fun d => d.parameters.length) = some nargs) (hn : As.length = nargs) (d : decode cc pc = .ok (.invokespecial index, 3)) (hR : f + 1 ≤ R0.frames ∧ 8 + (maxL + 11) + lo ≤ R0.locals) (hf : k + mc ≤ R0.cells ∧ n + ms ≤ R0.slots) (hrest : (rest.map fun v => v.category).sum ≤ 8) (kk : ∀ v w, K v w → J X w (k + mc) (n + ms) (pc + 3) lv (v.toList ++ rest)) : J X ws k n pc lv (As.reverse ++ .ref b :: rest) := by
  obtain ⟨p, l0, e, R, s, m, args, below, meth, c, D0, ct0, sa0, A, nL, Q⟩ := X
  obtain ⟨hx, hb, hml, ho, hts, hK, hA, hlk, hEX, rfl, rfl, rfl, rfl, rfl, rfl⟩ := C
  intro H locs ls hP hD hS hl
  obtain ⟨hsub, hpre⟩ := jp_pre hK hA hEX hP hD hS
  exact jr_core hsub hS hl (va_runIN (As := As) (rest := rest) ⟨hx, hb, hml, ho, hts⟩ (hM H.size) (⟨va_cnB nargs hts (good_in (gi_c w5)) rfl rfl rfl (hEX.1 _ w1) (hts _ w4) hy hR, hi0, hts _ w2⟩) ⟨jp_blind, fun U hU hW => ⟨rfl, hpre U hU hW⟩⟩ rfl hn hl.1 rfl (lv_room hrest) d hf) kk
theorem j_mmin (C : jC X l D ct sa cc nL1 own R0) {index : Nat} {x y : Int32} (w1 : Cond.methodLink own index Lib.Math.min.name ∈ GW) (w2 : Cond.static Lib.Math.min.name ∈ GW) (w4 : Cond.initialized "java/lang/Math" ∈ GW) (w5 : Cond.code Lib.Math.min.name Lib.Math.min.code 2 (some .int) ∈ GW) (hR : 1 ≤ R0.frames ∧ (st.map fun v => v.category).sum + 13 ≤ R0.locals) (hf : k ≤ R0.cells ∧ n ≤ R0.slots) (d : decode cc pc = .ok (.invokestatic index, 3)) (kk : J X ws k n (pc + 3) lv (.int (if y < x then y else x) :: st)) : J X ws k n pc lv (.int y :: .int x :: st) := by
  obtain ⟨p, l0, e, R, s, m, args, below, meth, c, D0, ct0, sa0, A, nL, Q⟩ := X
  obtain ⟨hx, hb, hml, ho, hts, hK, hA, hlk, hEX, rfl, rfl, rfl, rfl, rfl, rfl⟩ := C
  intro H locs ls hP hD hS hl
  exact va_mmin hx hb (hml.trans hl.1.symm) ho (hts _ w1) (hts _ w2) (hts _ w4) (hts _ w5) hR.1 hR.2 hf.1 hf.2 d (kk H locs ls hP hD hS hl)
theorem j_mmax (C : jC X l D ct sa cc nL1 own R0) {index : Nat} {x y : Int32} (w1 : Cond.methodLink own index Lib.Math.max.name ∈ GW) (w2 : Cond.static Lib.Math.max.name ∈ GW) (w4 : Cond.initialized "java/lang/Math" ∈ GW) (w5 : Cond.code Lib.Math.max.name Lib.Math.max.code 2 (some .int) ∈ GW) (hR : 1 ≤ R0.frames ∧ (st.map fun v => v.category).sum + 13 ≤ R0.locals) (hf : k ≤ R0.cells ∧ n ≤ R0.slots) (d : decode cc pc = .ok (.invokestatic index, 3)) (kk : J X ws k n (pc + 3) lv (.int (if x < y then y else x) :: st)) : J X ws k n pc lv (.int y :: .int x :: st) := by
  obtain ⟨p, l0, e, R, s, m, args, below, meth, c, D0, ct0, sa0, A, nL, Q⟩ := X
  obtain ⟨hx, hb, hml, ho, hts, hK, hA, hlk, hEX, rfl, rfl, rfl, rfl, rfl, rfl⟩ := C
  intro H locs ls hP hD hS hl
  exact va_mmax hx hb (hml.trans hl.1.symm) ho (hts _ w1) (hts _ w2) (hts _ w4) (hts _ w5) hR.1 hR.2 hf.1 hf.2 d (kk H locs ls hP hD hS hl)
theorem j_mabs (C : jC X l D ct sa cc nL1 own R0) {index : Nat} {x : Int32} (w1 : Cond.methodLink own index Lib.Math.abs.name ∈ GW) (w2 : Cond.static Lib.Math.abs.name ∈ GW) (w4 : Cond.initialized "java/lang/Math" ∈ GW) (w5 : Cond.code Lib.Math.abs.name Lib.Math.abs.code 1 (some .int) ∈ GW) (hR : 1 ≤ R0.frames ∧ (st.map fun v => v.category).sum + 13 ≤ R0.locals) (hf : k ≤ R0.cells ∧ n ≤ R0.slots) (d : decode cc pc = .ok (.invokestatic index, 3)) (kk : J X ws k n (pc + 3) lv (.int (if 0 ≤ x then x else 0 - x) :: st)) : J X ws k n pc lv (.int x :: st) := by
  obtain ⟨p, l0, e, R, s, m, args, below, meth, c, D0, ct0, sa0, A, nL, Q⟩ := X
  obtain ⟨hx, hb, hml, ho, hts, hK, hA, hlk, hEX, rfl, rfl, rfl, rfl, rfl, rfl⟩ := C
  intro H locs ls hP hD hS hl
  exact va_mabs hx hb (hml.trans hl.1.symm) ho (hts _ w1) (hts _ w2) (hts _ w4) (hts _ w5) hR.1 hR.2 hf.1 hf.2 d (kk H locs ls hP hD hS hl)
theorem j_objInit (C : jC X l D ct sa cc nL1 own R0) {index a : Nat} (w1 : Cond.methodLink own index objectInit ∈ GW) (w2 : Cond.instanceMethod objectInit ∈ GW) (w5 : Cond.code objectInit ⟨#[0xb1]⟩ 1 none ∈ GW) (hR : 1 ≤ R0.frames ∧ (st.map fun v => v.category).sum + 12 ≤ R0.locals) (d : decode cc pc = .ok (.invokespecial index, 3)) (kk : J X ws k n (pc + 3) lv st) : J X ws k n pc lv (.ref a :: st) := by
  obtain ⟨p, l0, e, R, s, m, args, below, meth, c, D0, ct0, sa0, A, nL, Q⟩ := X
  obtain ⟨hx, hb, hml, ho, hts, hK, hA, hlk, hEX, rfl, rfl, rfl, rfl, rfl, rfl⟩ := C
  intro H locs ls hP hD hS hl
  have hm : 2 * (F0 m pc ls (.ref a :: st)).monitorRoom + (st.map fun v => v.category).sum + 12 ≤ R.locals := by
    have : (F0 m pc ls (.ref a :: st)).monitorRoom = 0 := rfl
    rw [this]
    have := hR.2
    omega
  refine W.objInit hx hb ho (hts _ w1) (hts _ w2) (hts _ w5) rfl (hl.1.trans hml.symm) rfl d hR.1 hm ?_
  exact kk H locs ls hP hD hS hl
theorem j_aald (C : jC X l D ct sa cc nL1 own R0) {a N : Nat} {cA : ClassId} {ty : FieldType} {f : Nat → Option Nat} {i : Int32} {b : Nat} (q0 t0 : Nat) (ha : ws[q0]? = some (a, .inl (cA, N, .inr (.inr (.inr (.inr f)))))) (ht : (TY ct)[t0]? = some (cA, ty)) (hty : ty.isReference = true) (j : Nat) (hi : i = nI j) (hj : j < N) (hN : N < 2 ^ 31) (hb2 : f j = some b) (d : decode cc pc = .ok (.aaload, 1)) (kk : J X ws k n (pc + 1) lv (.ref b :: st)) : J X ws k n pc lv (.int i :: .ref a :: st) := by
  obtain ⟨p, l0, e, R, s, m, args, below, meth, c, D0, ct0, sa0, A, nL, Q⟩ := X
  obtain ⟨hx, hb, hml, ho, hts, hK, hA, hlk, hEX, rfl, rfl, rfl, rfl, rfl, rfl⟩ := C
  intro H locs ls hP hD hS hl
  subst hi
  have hin : vp_in (nI j) N := vp_in_nI hj hN
  have ec : (nI j).toNatClampNeg = j := nI_clamp (Nat.lt_trans hj hN)
  exact W.aald (v := .ref b) (ty := ty) hx hb (hP q0 _ ha) ((hK.2 t0 _ ht).1 N (fun j => va_rf (f j))) hty (fun q => by cases q) (by show ¬ (nI j < 0 ∨ (arrV _ _ _).slots.size ≤ _); rw [arrV_size]; exact hin) (by show (arrV _ _ _).slots[_]? = _; rw [ec, arrV_read _ _ hj, hb2]; rfl) rfl rfl d (kk H locs ls hP hD hS hl)
theorem j_cast (C : jC X l D ct sa cc nL1 own R0) {a ci index : Nat} {fs : List Value} {nm : String} {r0 : vw_C} (q0 : Nat) (he : ws[q0]? = some (a, .inr (ci, fs))) (hc : vwCl[ci]? = some r0) (w1 : Cond.classLink own index nm ∈ GW) (w2 : Cond.castable r0.1 nm ∈ NW) (d : decode cc pc = .ok (.checkcast index, 3)) (kk : J X ws k n (pc + 3) lv (.ref a :: st)) : J X ws k n pc lv (.ref a :: st) := by
  obtain ⟨p, l0, e, R, s, m, args, below, meth, c, D0, ct0, sa0, A, nL, Q⟩ := X
  obtain ⟨hx, hb, hml, ho, hts, hK, hA, hlk, hEX, rfl, rfl, rfl, rfl, rfl, rfl⟩ := C
  intro H locs ls hP hD hS hl
  exact va_castY hx hb ho (hts _ w1) (hEX.1 _ w2) (va_recv hK hP hc he) d (kk H locs ls hP hD hS hl)
theorem j_copyi (C : jC X l D ct sa cc nL1 own R0) {a a0 n0 n1 index : Nat} {f g : Nat → Int32} {sp dp nn : Int32} {ws2 : va_W} (w1 : Cond.methodLink own index arraycopyName ∈ GW) (w2 : Cond.native arraycopyName ∈ GW) (w3 : Cond.static arraycopyName ∈ GW) (w4 : Cond.initialized "java/lang/System" ∈ GW) (q0 q1 : Nat) (ha0 : ws[q0]? = some (a0, .inl (ct 0, n0, .inl f))) (ha1 : ws[q1]? = some (a, .inl (ct 0, n1, .inl g))) (h1 : ¬ sp < 0) (h2 : ¬ dp < 0) (h3 : ¬ nn < 0) (h4 : sp.toNatClampNeg + nn.toNatClampNeg ≤ n0) (h5 : dp.toNatClampNeg + nn.toNatClampNeg ≤ n1) (hR : 1 ≤ R0.frames ∧ (st.map fun v => v.category).sum + (nativeFrameWords "java/lang/System" "arraycopy" 5 + 11) ≤ R0.locals) (hw : ws.set q1 (a, .inl (ct 0, n1, .inl (va_cpy f g sp.toNatClampNeg dp.toNatClampNeg nn.toNatClampNeg))) = ws2) (d : decode cc pc = .ok (.invokestatic index, 3)) (kk : J X ws2 k n (pc + 3) lv st) : J X ws k n pc lv (.int nn :: .int dp :: .ref a :: .int sp :: .ref a0 :: st) := by
  obtain ⟨p, l0, e, R, s, m, args, below, meth, c, D0, ct0, sa0, A, nL, Q⟩ := X
  obtain ⟨hx, hb, hml, ho, hts, hK, hA, hlk, hEX, rfl, rfl, rfl, rfl, rfl, rfl⟩ := C
  intro H locs ls hP hD hS hl
  exact va_copyi hx hb (hml.trans hl.1.symm) ho (hts _ w1) (hts _ w2) (hts _ w3) (hts _ w4) hK hP hD hS q0 q1 0 0 ha0 ha1 rfl rfl rfl h1 h2 h3 h4 h5 (fun _ _ => rfl) hR.1 hR.2 d (fun H1 locs1 hP1 hD1 hS1 => kk H1 locs1 ls (hw ▸ hP1) (hw ▸ hD1) hS1 hl)
end JC
end
section
/-! numbers and the station's state -/
abbrev b2i (p : Prop) [Decidable p] : Int32 := if p then nI 1 else nI 0
theorem b2i_f {p : Prop} [Decidable p] (h : b2i p = 0) : ¬ p := by
  intro hp
  simp only [b2i, if_pos hp] at h
  exact absurd h (by decide)
theorem b2i_t {p : Prop} [Decidable p] (h : ¬ b2i p = 0) : p := by
  by_cases hp : p
  · exact hp
  · simp only [b2i, if_neg hp] at h
    exact absurd rfl h
theorem b2i_y {p : Prop} [Decidable p] (h : p) : b2i p = nI 1 := if_pos h
theorem b2i_n {p : Prop} [Decidable p] (h : ¬ p) : b2i p = nI 0 := if_neg h
theorem b2i_c {p q : Prop} [Decidable p] [Decidable q] (h : p ↔ q) : b2i p = b2i q := by
  by_cases hp : p
  · rw [b2i_y hp, b2i_y (h.mp hp)]
  · rw [b2i_n hp, b2i_n (fun z => hp (h.mpr z))]
theorem nr_b {p : Prop} [Decidable p] : narrow .boolean (.int (b2i p)) = .int (b2i p) := by
  by_cases hp : p
  · rw [b2i_y hp]; rfl
  · rw [b2i_n hp]; rfl
theorem nI_nle0 {a b : Nat} (h : a < b) (hb : b < 2 ^ 31) : ¬ nI b ≤ nI a := nI_ge h hb
theorem ile_of {x y : Int32} (h : ¬ x < y) : y ≤ x := by
  rw [Int32.lt_iff_toInt_lt] at h
  rw [Int32.le_iff_toInt_le]
  omega
theorem ilt_of {x y : Int32} (h : ¬ x ≤ y) : y < x := by
  rw [Int32.le_iff_toInt_le] at h
  rw [Int32.lt_iff_toInt_lt]
  omega
theorem inlt {x y : Int32} (h : x ≤ y) : ¬ y < x := by
  rw [Int32.le_iff_toInt_le] at h
  rw [Int32.lt_iff_toInt_lt]
  omega
theorem inle {x y : Int32} (h : x < y) : ¬ y ≤ x := by
  rw [Int32.lt_iff_toInt_lt] at h
  rw [Int32.le_iff_toInt_le]
  omega
/-- x is one of 0 to N - 1 -/
abbrev okI (N : Nat) (x : Int32) : Prop := 0 ≤ x ∧ x < nI N
theorem i0T : (0 : Int32).toInt = 0 := by decide
theorem im1T : (-1 : Int32).toInt = -1 := by decide
theorem okI_of {N : Nat} {x : Int32} (h : okI N x) (hN : N < 2 ^ 31) : ∃ j, j < N ∧ x = nI j := by
  obtain ⟨h1, h2⟩ := h
  rw [Int32.le_iff_toInt_le, i0T] at h1
  rw [Int32.lt_iff_toInt_lt, nI_toInt hN] at h2
  refine ⟨x.toInt.toNat, by omega, ?_⟩
  apply Int32.toInt_inj.mp
  rw [nI_toInt (by omega)]
  omega
theorem okI_n {N j : Nat} (h : j < N) (hN : N < 2 ^ 31) : okI N (nI j) := by
  constructor
  · rw [Int32.le_iff_toInt_le, i0T, nI_toInt (by omega)]; omega
  · rw [Int32.lt_iff_toInt_lt, nI_toInt (by omega), nI_toInt hN]; omega
theorem in_ok {M : Nat} {x : Int32} (hM : M + 1 < 2 ^ 31) : (nI 0 ≤ x ∧ x ≤ nI M) ↔ okI (M + 1) x := by
  have e0 : (nI 0).toInt = 0 := by decide
  simp only [okI, Int32.le_iff_toInt_le, Int32.lt_iff_toInt_lt, i0T, e0, nI_toInt hM, nI_toInt (show M < 2 ^ 31 by omega)]
  omega
theorem in_okn {n : Nat} {x : Int32} (hn : n ≤ 8) : (nI 0 ≤ x ∧ x ≤ nI n - nI 1) ↔ okI n x := by
  have e0 : (nI 0).toInt = 0 := by decide
  have e1 : (nI n - nI 1).toInt = (n : Int) - 1 := pk_sub_toInt (by omega) (by omega)
  simp only [okI, Int32.le_iff_toInt_le, Int32.lt_iff_toInt_lt, i0T, e0, e1, nI_toInt (show n < 2 ^ 31 by omega)]
  omega
abbrev irm (x d : Int32) : Int32 := x - x / d * d
/-- the state: locks, the hour, the turns; eight rows of eight, eight of twenty-four, three of three -/
abbrev St : Type := Nat × Int32 × Int32 × (Nat → Int32) × (Nat → Int32) × (Nat → Int32)
abbrev sN (σ : St) : Nat := σ.1
abbrev sH (σ : St) : Int32 := σ.2.1
abbrev sT (σ : St) : Int32 := σ.2.2.1
abbrev sR (σ : St) : Nat → Int32 := σ.2.2.2.1
abbrev sW (σ : St) : Nat → Int32 := σ.2.2.2.2.1
abbrev sK (σ : St) : Nat → Int32 := σ.2.2.2.2.2
abbrev uN (σ : St) (x : Nat) : St := (x, σ.2.1, σ.2.2.1, σ.2.2.2.1, σ.2.2.2.2.1, σ.2.2.2.2.2)
abbrev uH (σ : St) (x : Int32) : St := (σ.1, x, σ.2.2.1, σ.2.2.2.1, σ.2.2.2.2.1, σ.2.2.2.2.2)
abbrev uT (σ : St) (x : Int32) : St := (σ.1, σ.2.1, x, σ.2.2.2.1, σ.2.2.2.2.1, σ.2.2.2.2.2)
abbrev uR (σ : St) (x : Nat → Int32) : St := (σ.1, σ.2.1, σ.2.2.1, x, σ.2.2.2.2.1, σ.2.2.2.2.2)
abbrev uW (σ : St) (x : Nat → Int32) : St := (σ.1, σ.2.1, σ.2.2.1, σ.2.2.2.1, x, σ.2.2.2.2.2)
abbrev uK (σ : St) (x : Nat → Int32) : St := (σ.1, σ.2.1, σ.2.2.1, σ.2.2.2.1, σ.2.2.2.2.1, x)
/-- the model's four cells -/
def WM (ct : Nat → ClassId) (a : Nat → Nat) (thr : Int32) (σ : St) : va_W := [(a 0, .inr (5, [.int thr, .int (nI (sN σ)), .int (sH σ), .int (sT σ), .ref (a 1), .ref (a 2), .ref (a 3)])), (a 1, .inl (ct 0, 64, .inl (sR σ))), (a 2, .inl (ct 0, 192, .inl (sW σ))), (a 3, .inl (ct 0, 9, .inl (sK σ)))]
def sumF (f : Nat → Int32) : Nat → Int32
  | 0 => nI 0
  | i + 1 => sumF f i + f i
/-- six-fold, ring by ring -/
def stF (g : Nat → Int32) : Nat → Int32
  | 0 => nI 0
  | i + 1 => nI 6 * stF g i + g i
def dvF (w : Int32) : Nat → Int32
  | 0 => w
  | m + 1 => dvF w m / nI 6
def ltF (w : Int32) (r : Nat) : Int32 := irm (dvF w (3 - r)) (nI 6)
def absF (x : Int32) : Int32 := if 0 ≤ x then x else 0 - x
def minF (x y : Int32) : Int32 := if y < x then y else x
def farF (a b : Int32) : Int32 := minF (absF (a - b)) (nI 6 - absF (a - b))
def clF (f : Nat → Int32) (j : Nat) : Nat → (Nat → Int32)
  | 0 => upd f (8 * j + 1) (nI 0)
  | r + 1 => upd (clF f j r) (8 * j + (4 + r)) (irm (clF f j r (8 * j + (4 + r)) + nI r + nI 1) (nI 6))
section JS
variable {X : Ctx} {l : Launch} {D : va_G} {ct : Nat → ClassId} {sa : Nat → Nat} {cc : ByteArray} {nL1 : Nat} {own : String} {R0 : Room} {ws : va_W} {k n pc : Nat} {lv lv' : List (Nat × Value)} {st : List Value}
theorem j_tsIn (C : jC X l D ct sa cc nL1 own R0) {dflt lo hi : Int} {offs : Array Int} {len : Nat} {x : Int32} {off : Int} {tgt : Nat} (d : decode cc pc = .ok (.tableswitch dflt lo hi offs, len)) (h1 : ¬ x.toInt < lo) (h2 : ¬ hi < x.toInt) (ho1 : offs[(x.toInt - lo).toNat]? = some off) (ht : (pc : Int) + off = (tgt : Int)) (kk : J X ws k n tgt lv st) : J X ws k n pc lv (.int x :: st) := by
  obtain ⟨p, l0, e, R, s, m, args, below, meth, c, D0, ct0, sa0, A, nL, Q⟩ := X
  obtain ⟨hx, hb, hml, ho, hts, hK, hA, hlk, hEX, rfl, rfl, rfl, rfl, rfl, rfl⟩ := C
  intro H locs ls hP hD hS hl
  exact lv_tableIn hx hb d h1 h2 ho1 ht (kk H locs ls hP hD hS hl)
theorem j_tsOut (C : jC X l D ct sa cc nL1 own R0) {dflt lo hi : Int} {offs : Array Int} {len : Nat} {x : Int32} {tgt : Nat} (d : decode cc pc = .ok (.tableswitch dflt lo hi offs, len)) (h : x.toInt < lo ∨ hi < x.toInt) (ht : (pc : Int) + dflt = (tgt : Int)) (kk : J X ws k n tgt lv st) : J X ws k n pc lv (.int x :: st) := by
  obtain ⟨p, l0, e, R, s, m, args, below, meth, c, D0, ct0, sa0, A, nL, Q⟩ := X
  obtain ⟨hx, hb, hml, ho, hts, hK, hA, hlk, hEX, rfl, rfl, rfl, rfl, rfl, rfl⟩ := C
  intro H locs ls hP hD hS hl
  exact lv_tableOut hx hb d h ht (kk H locs ls hP hD hS hl)
end JS
end
section
set_option maxRecDepth 100000 in
set_option maxHeartbeats 4000000 in
theorem kX4_thrown (l : Launch) (D : va_G) (ct : Nat → ClassId) (sa : Nat → Nat) (a : Nat → Nat) (thr : Int32) (σ : St) (wr : va_W) : jM l yX4_thrown (Cond.code yX4_thrown cX4_thrown 1 (Option.some Jvm.ClassFile.FieldType.int) :: GW) (rM 0 0 0 0) D ct sa [.ref (a 0)] (WM ct a thr σ ++ wr) (dK (some (.int thr)) (WM ct a thr σ ++ wr)) 0 0 := by
  refine jMX.plain (jBody (own := RX4) (by decide) rfl rfl (Nat.le_of_ble_eq_true rfl) ?_)
  intro X C E T0
  refine j_lv (lv1 := [(0, .ref _)]) rfl ?_
  refine j_aload_n (i := 0) C dX4_thrown_0 rfl 0 rfl ?_
  refine j_get (Cn := RX4) (T := TX4) (N := 7) (ci := 5) C iX4 rfl (0) rfl 0 (by decide) gw677 rfl rfl dX4_thrown_1 ?_
  exact j_ireturn C E rfl dX4_thrown_4 (Nat.le_of_ble_eq_true rfl) (Nat.le_of_ble_eq_true rfl) (⟨rfl, rfl⟩)
set_option maxRecDepth 100000 in
set_option maxHeartbeats 4000000 in
theorem kX4_fail (l : Launch) (D : va_G) (ct : Nat → ClassId) (sa : Nat → Nat) (a : Nat → Nat) (thr : Int32) (σ : St) (wr : va_W) (x : Int32) : jM l yX4_fail (Cond.code yX4_fail cX4_fail 2 (Option.some Jvm.ClassFile.FieldType.int) :: GW) (rM 0 0 0 0) D ct sa [.ref (a 0), .int x] (WM ct a thr σ ++ wr) (dK (some (.int (nI 0))) (WM ct a x σ ++ wr)) 0 0 := by
  refine jMX.plain (jBody (own := RX4) (by decide) rfl rfl (Nat.le_of_ble_eq_true rfl) ?_)
  intro X C E T0
  refine j_lv (lv1 := [(0, .ref _), (1, .int _)]) rfl ?_
  refine j_aload_n (i := 0) C dX4_fail_0 rfl 0 rfl ?_
  refine j_iload_n (i := 1) C dX4_fail_1 rfl 1 rfl ?_
  refine j_put (Cn := RX4) (T := TX4) (N := 7) (ci := 5) (ws2 := WM ct a x σ ++ wr) C iX4 tyX4 tyX4_ok nmX4 rfl (0) rfl 0 (by decide) gw677 rfl rfl rfl rfl rfl (Nat.le_of_ble_eq_true rfl) rfl dX4_fail_2 ?_
  refine j_iconst (v := nI 0) C dX4_fail_5 (by decide) ?_
  exact j_ireturn C E rfl dX4_fail_6 (Nat.le_of_ble_eq_true rfl) (Nat.le_of_ble_eq_true rfl) (⟨rfl, rfl⟩)
set_option maxRecDepth 100000 in
set_option maxHeartbeats 4000000 in
theorem kX4_isIn (l : Launch) (D : va_G) (ct : Nat → ClassId) (sa : Nat → Nat) (ws : va_W) (v lo hi : Int32) : jM l yX4_isIn (Cond.code yX4_isIn cX4_isIn 3 (Option.some Jvm.ClassFile.FieldType.boolean) :: GW) (rM 0 0 0 0) D ct sa [.int v, .int lo, .int hi] (ws) (dK (some (.int (b2i (lo ≤ v ∧ v ≤ hi)))) ws) 0 0 := by
  refine jMX.plain (jBody (own := RX4) (by decide) rfl rfl (Nat.le_of_ble_eq_true rfl) ?_)
  intro X C E T0
  refine j_lv (lv1 := [(0, .int _), (1, .int _), (2, .int _)]) rfl ?_
  refine j_iload_n (i := 0) C dX4_isIn_0 rfl 0 rfl ?_
  refine j_iload_n (i := 1) C dX4_isIn_1 rfl 1 rfl ?_
  refine j_icmp_lt C 14 dX4_isIn_2 (by decide) (fun c2 => ?_) (fun c2 => ?_)
  · refine j_iconst (v := nI 0) C dX4_isIn_14 (by decide) ?_
    exact j_ireturn C E (by first | exact nr_b | rfl) dX4_isIn_15 (Nat.le_of_ble_eq_true rfl) (Nat.le_of_ble_eq_true rfl) (⟨congrArg (fun z => some (Value.int z)) (by first | exact (b2i_n (fun z => inle c2 z.1)).symm | exact (b2i_y ⟨ile_of c2, ile_of c7⟩).symm | exact (b2i_n (fun z => inle c7 z.2)).symm), rfl⟩)
  · refine j_iload_n (i := 0) C dX4_isIn_5 rfl 0 rfl ?_
    refine j_iload_n (i := 2) C dX4_isIn_6 rfl 2 rfl ?_
    refine j_icmp_gt C 14 dX4_isIn_7 (by decide) (fun c7 => ?_) (fun c7 => ?_)
    · refine j_iconst (v := nI 0) C dX4_isIn_14 (by decide) ?_
      exact j_ireturn C E (by first | exact nr_b | rfl) dX4_isIn_15 (Nat.le_of_ble_eq_true rfl) (Nat.le_of_ble_eq_true rfl) (⟨congrArg (fun z => some (Value.int z)) (by first | exact (b2i_n (fun z => inle c2 z.1)).symm | exact (b2i_y ⟨ile_of c2, ile_of c7⟩).symm | exact (b2i_n (fun z => inle c7 z.2)).symm), rfl⟩)
    · refine j_iconst (v := nI 1) C dX4_isIn_10 (by decide) ?_
      refine j_goto C 15 dX4_isIn_11 (by decide) ?_
      exact j_ireturn C E (by first | exact nr_b | rfl) dX4_isIn_15 (Nat.le_of_ble_eq_true rfl) (Nat.le_of_ble_eq_true rfl) (⟨congrArg (fun z => some (Value.int z)) (by first | exact (b2i_n (fun z => inle c2 z.1)).symm | exact (b2i_y ⟨ile_of c2, ile_of c7⟩).symm | exact (b2i_n (fun z => inle c7 z.2)).symm), rfl⟩)
set_option maxRecDepth 100000 in
set_option maxHeartbeats 4000000 in
theorem kX4_isLock (l : Launch) (D : va_G) (ct : Nat → ClassId) (sa : Nat → Nat) (a : Nat → Nat) (thr : Int32) (σ : St) (wr : va_W) (x : Int32) (hn : sN σ ≤ 8) : jM l yX4_isLock (Cond.code yX4_isLock cX4_isLock 2 (Option.some Jvm.ClassFile.FieldType.boolean) :: GW) (rM 1 0 0 22) D ct sa [.ref (a 0), .int x] (WM ct a thr σ ++ wr) (dK (some (.int (b2i (okI (sN σ) x)))) (WM ct a thr σ ++ wr)) 0 0 := by
  refine jMX.plain (jBody (own := RX4) (by decide) rfl rfl (Nat.le_of_ble_eq_true rfl) ?_)
  intro X C E T0
  refine j_lv (lv1 := [(0, .ref _), (1, .int _)]) rfl ?_
  refine j_iload_n (i := 1) C dX4_isLock_0 rfl 1 rfl ?_
  refine j_iconst (v := nI 0) C dX4_isLock_1 (by decide) ?_
  refine j_aload_n (i := 0) C dX4_isLock_2 rfl 0 rfl ?_
  refine j_get (Cn := RX4) (T := TX4) (N := 7) (ci := 5) C iX4 rfl (0) rfl 1 (by decide) gw678 rfl rfl dX4_isLock_3 ?_
  refine j_iconst (v := nI 1) C dX4_isLock_6 (by decide) ?_
  refine j_isub C dX4_isLock_7 ?_
  refine j_callS (nargs := 3) (As := [_, _, _]) C gw710 gw711 gw49 (kX4_isIn l D ct sa _ _ _ _) gw712 (by decide +kernel) rfl dX4_isLock_8 ⟨Nat.le_of_ble_eq_true rfl, Nat.le_of_ble_eq_true rfl⟩ ⟨Nat.le_of_ble_eq_true rfl, Nat.le_of_ble_eq_true rfl⟩ (Nat.le_of_ble_eq_true rfl) (dki ?_)
  exact j_ireturn C E (by first | exact nr_b | rfl) dX4_isLock_11 (Nat.le_of_ble_eq_true rfl) (Nat.le_of_ble_eq_true rfl) (⟨congrArg (fun z => some (Value.int z)) (b2i_c (in_okn hn)), rfl⟩)
set_option maxRecDepth 100000 in
set_option maxHeartbeats 4000000 in
theorem kX4_isWord (l : Launch) (D : va_G) (ct : Nat → ClassId) (sa : Nat → Nat) (ws : va_W) (x : Int32) : jM l yX4_isWord (Cond.code yX4_isWord cX4_isWord 1 (Option.some Jvm.ClassFile.FieldType.boolean) :: GW) (rM 1 0 0 22) D ct sa [.int x] (ws) (dK (some (.int (b2i (okI 1296 x)))) ws) 0 0 := by
  refine jMX.plain (jBody (own := RX4) (by decide) rfl rfl (Nat.le_of_ble_eq_true rfl) ?_)
  intro X C E T0
  refine j_lv (lv1 := [(0, .int _)]) rfl ?_
  refine j_iload_n (i := 0) C dX4_isWord_0 rfl 0 rfl ?_
  refine j_iconst (v := nI 0) C dX4_isWord_1 (by decide) ?_
  refine j_sipush (v := nI 1295) C dX4_isWord_2 (by decide) ?_
  refine j_callS (nargs := 3) (As := [_, _, _]) C gw710 gw711 gw49 (kX4_isIn l D ct sa _ _ _ _) gw712 (by decide +kernel) rfl dX4_isWord_5 ⟨Nat.le_of_ble_eq_true rfl, Nat.le_of_ble_eq_true rfl⟩ ⟨Nat.le_of_ble_eq_true rfl, Nat.le_of_ble_eq_true rfl⟩ (Nat.le_of_ble_eq_true rfl) (dki ?_)
  exact j_ireturn C E (by first | exact nr_b | rfl) dX4_isWord_8 (Nat.le_of_ble_eq_true rfl) (Nat.le_of_ble_eq_true rfl) (⟨congrArg (fun z => some (Value.int z)) (b2i_c (in_ok (M := 1295) (by decide))), rfl⟩)
set_option maxRecDepth 100000 in
set_option maxHeartbeats 4000000 in
theorem kX4_isRack (l : Launch) (D : va_G) (ct : Nat → ClassId) (sa : Nat → Nat) (ws : va_W) (x : Int32) : jM l yX4_isRack (Cond.code yX4_isRack cX4_isRack 1 (Option.some Jvm.ClassFile.FieldType.boolean) :: GW) (rM 1 0 0 22) D ct sa [.int x] (ws) (dK (some (.int (b2i (okI 3 x)))) ws) 0 0 := by
  refine jMX.plain (jBody (own := RX4) (by decide) rfl rfl (Nat.le_of_ble_eq_true rfl) ?_)
  intro X C E T0
  refine j_lv (lv1 := [(0, .int _)]) rfl ?_
  refine j_iload_n (i := 0) C dX4_isRack_0 rfl 0 rfl ?_
  refine j_iconst (v := nI 0) C dX4_isRack_1 (by decide) ?_
  refine j_iconst (v := nI 2) C dX4_isRack_2 (by decide) ?_
  refine j_callS (nargs := 3) (As := [_, _, _]) C gw710 gw711 gw49 (kX4_isIn l D ct sa _ _ _ _) gw712 (by decide +kernel) rfl dX4_isRack_3 ⟨Nat.le_of_ble_eq_true rfl, Nat.le_of_ble_eq_true rfl⟩ ⟨Nat.le_of_ble_eq_true rfl, Nat.le_of_ble_eq_true rfl⟩ (Nat.le_of_ble_eq_true rfl) (dki ?_)
  exact j_ireturn C E (by first | exact nr_b | rfl) dX4_isRack_6 (Nat.le_of_ble_eq_true rfl) (Nat.le_of_ble_eq_true rfl) (⟨congrArg (fun z => some (Value.int z)) (b2i_c (in_ok (M := 2) (by decide))), rfl⟩)
set_option maxRecDepth 100000 in
set_option maxHeartbeats 4000000 in
theorem kX4_lo (l : Launch) (D : va_G) (ct : Nat → ClassId) (sa : Nat → Nat) (a : Nat → Nat) (thr : Int32) (σ : St) (wr : va_W) (x y : Int32) (j w : Nat) (hx : x = nI j) (hy : y = nI w) (hj : j < 8) (hw : w < 8) : jM l yX4_lo (Cond.code yX4_lo cX4_lo 3 (Option.some Jvm.ClassFile.FieldType.int) :: GW) (rM 0 0 0 0) D ct sa [.ref (a 0), .int x, .int y] (WM ct a thr σ ++ wr) (dK (some (.int (sR σ (8 * j + w)))) (WM ct a thr σ ++ wr)) 0 0 := by
  refine jMX.plain (jBody (own := RX4) (by decide) rfl rfl (Nat.le_of_ble_eq_true rfl) ?_)
  intro X C E T0
  refine j_lv (lv1 := [(0, .ref _), (1, .int _), (2, .int _)]) rfl ?_
  refine j_aload_n (i := 0) C dX4_lo_0 rfl 0 rfl ?_
  refine j_get (Cn := RX4) (T := TX4) (N := 7) (ci := 5) C iX4 rfl (0) rfl 4 (by decide) gw681 rfl rfl dX4_lo_1 ?_
  refine j_bipush (v := nI 8) C dX4_lo_4 (by decide) ?_
  refine j_iload_n (i := 1) C dX4_lo_6 rfl 1 rfl ?_
  refine j_imul C dX4_lo_7 ?_
  refine j_iload_n (i := 2) C dX4_lo_8 rfl 2 rfl ?_
  refine j_iadd C dX4_lo_9 ?_
  refine j_iald C (1) rfl (8 * j + w) (by rw [hx, hy, pk_mul, nI_add]) (by omega) (by decide) dX4_lo_10 ?_
  exact j_ireturn C E rfl dX4_lo_11 (Nat.le_of_ble_eq_true rfl) (Nat.le_of_ble_eq_true rfl) (⟨rfl, rfl⟩)
set_option maxRecDepth 100000 in
set_option maxHeartbeats 4000000 in
theorem kX4_let (l : Launch) (D : va_G) (ct : Nat → ClassId) (sa : Nat → Nat) (a : Nat → Nat) (thr : Int32) (σ : St) (wr : va_W) (x y v : Int32) (j w : Nat) (hx : x = nI j) (hy : y = nI w) (hj : j < 8) (hw : w < 8) : jM l yX4_let (Cond.code yX4_let cX4_let 4 (Option.none : Option Jvm.ClassFile.FieldType) :: GW) (rM 0 0 0 0) D ct sa [.ref (a 0), .int x, .int y, .int v] (WM ct a thr σ ++ wr) (dK none (WM ct a thr (uR σ (upd (sR σ) (8 * j + w) v)) ++ wr)) 0 0 := by
  refine jMX.plain (jBody (own := RX4) (by decide) rfl rfl (Nat.le_of_ble_eq_true rfl) ?_)
  intro X C E T0
  refine j_lv (lv1 := [(0, .ref _), (1, .int _), (2, .int _), (3, .int _)]) rfl ?_
  refine j_aload_n (i := 0) C dX4_let_0 rfl 0 rfl ?_
  refine j_get (Cn := RX4) (T := TX4) (N := 7) (ci := 5) C iX4 rfl (0) rfl 4 (by decide) gw681 rfl rfl dX4_let_1 ?_
  refine j_bipush (v := nI 8) C dX4_let_4 (by decide) ?_
  refine j_iload_n (i := 1) C dX4_let_6 rfl 1 rfl ?_
  refine j_imul C dX4_let_7 ?_
  refine j_iload_n (i := 2) C dX4_let_8 rfl 2 rfl ?_
  refine j_iadd C dX4_let_9 ?_
  refine j_iload_n (i := 3) C dX4_let_10 rfl 3 rfl ?_
  refine j_iast (ws2 := WM ct a thr (uR σ (upd (sR σ) (8 * j + w) v)) ++ wr) C (1) rfl (8 * j + w) (by rw [hx, hy, pk_mul, nI_add]) (by omega) (by decide) rfl dX4_let_11 ?_
  exact j_return C E dX4_let_12 (Nat.le_of_ble_eq_true rfl) (Nat.le_of_ble_eq_true rfl) (⟨rfl, rfl⟩)
set_option maxRecDepth 100000 in
set_option maxHeartbeats 4000000 in
theorem kX4_ra (l : Launch) (D : va_G) (ct : Nat → ClassId) (sa : Nat → Nat) (a : Nat → Nat) (thr : Int32) (σ : St) (wr : va_W) (x y : Int32) (j w : Nat) (hx : x = nI j) (hy : y = nI w) (hj : j < 3) (hw : w < 3) : jM l yX4_ra (Cond.code yX4_ra cX4_ra 3 (Option.some Jvm.ClassFile.FieldType.int) :: GW) (rM 0 0 0 0) D ct sa [.ref (a 0), .int x, .int y] (WM ct a thr σ ++ wr) (dK (some (.int (sK σ (3 * j + w)))) (WM ct a thr σ ++ wr)) 0 0 := by
  refine jMX.plain (jBody (own := RX4) (by decide) rfl rfl (Nat.le_of_ble_eq_true rfl) ?_)
  intro X C E T0
  refine j_lv (lv1 := [(0, .ref _), (1, .int _), (2, .int _)]) rfl ?_
  refine j_aload_n (i := 0) C dX4_ra_0 rfl 0 rfl ?_
  refine j_get (Cn := RX4) (T := TX4) (N := 7) (ci := 5) C iX4 rfl (0) rfl 6 (by decide) gw683 rfl rfl dX4_ra_1 ?_
  refine j_iconst (v := nI 3) C dX4_ra_4 (by decide) ?_
  refine j_iload_n (i := 1) C dX4_ra_5 rfl 1 rfl ?_
  refine j_imul C dX4_ra_6 ?_
  refine j_iload_n (i := 2) C dX4_ra_7 rfl 2 rfl ?_
  refine j_iadd C dX4_ra_8 ?_
  refine j_iald C (3) rfl (3 * j + w) (by rw [hx, hy, pk_mul, nI_add]) (by omega) (by decide) dX4_ra_9 ?_
  exact j_ireturn C E rfl dX4_ra_10 (Nat.le_of_ble_eq_true rfl) (Nat.le_of_ble_eq_true rfl) (⟨rfl, rfl⟩)
set_option maxRecDepth 100000 in
set_option maxHeartbeats 4000000 in
theorem kX4_we (l : Launch) (D : va_G) (ct : Nat → ClassId) (sa : Nat → Nat) (a : Nat → Nat) (thr : Int32) (σ : St) (wr : va_W) (x y z : Int32) (j r q : Nat) (hx : x = nI j) (hy : y = nI r) (hz : z = nI q) (hj : j < 8) (hr : r < 4) (hq : q < 6) : jM l yX4_we (Cond.code yX4_we cX4_we 4 (Option.some Jvm.ClassFile.FieldType.int) :: GW) (rM 0 0 0 0) D ct sa [.ref (a 0), .int x, .int y, .int z] (WM ct a thr σ ++ wr) (dK (some (.int (sW σ (6 * (4 * j + r) + q)))) (WM ct a thr σ ++ wr)) 0 0 := by
  refine jMX.plain (jBody (own := RX4) (by decide) rfl rfl (Nat.le_of_ble_eq_true rfl) ?_)
  intro X C E T0
  refine j_lv (lv1 := [(0, .ref _), (1, .int _), (2, .int _), (3, .int _)]) rfl ?_
  refine j_aload_n (i := 0) C dX4_we_0 rfl 0 rfl ?_
  refine j_get (Cn := RX4) (T := TX4) (N := 7) (ci := 5) C iX4 rfl (0) rfl 5 (by decide) gw682 rfl rfl dX4_we_1 ?_
  refine j_bipush (v := nI 6) C dX4_we_4 (by decide) ?_
  refine j_iconst (v := nI 4) C dX4_we_6 (by decide) ?_
  refine j_iload_n (i := 1) C dX4_we_7 rfl 1 rfl ?_
  refine j_imul C dX4_we_8 ?_
  refine j_iload_n (i := 2) C dX4_we_9 rfl 2 rfl ?_
  refine j_iadd C dX4_we_10 ?_
  refine j_imul C dX4_we_11 ?_
  refine j_iload_n (i := 3) C dX4_we_12 rfl 3 rfl ?_
  refine j_iadd C dX4_we_13 ?_
  refine j_iald C (2) rfl (6 * (4 * j + r) + q) (by rw [hx, hy, hz, pk_mul, nI_add, pk_mul, nI_add]) (by omega) (by decide) dX4_we_14 ?_
  exact j_ireturn C E rfl dX4_we_15 (Nat.le_of_ble_eq_true rfl) (Nat.le_of_ble_eq_true rfl) (⟨rfl, rfl⟩)
set_option maxRecDepth 100000 in
set_option maxHeartbeats 4000000 in
theorem kX4_letter (l : Launch) (D : va_G) (ct : Nat → ClassId) (sa : Nat → Nat) (ws : va_W) (x y : Int32) (r : Nat) (hy : y = nI r) (hr : r < 4) : jM l yX4_letter (Cond.code yX4_letter cX4_letter 4 (Option.some Jvm.ClassFile.FieldType.int) :: GW) (rM 0 0 0 0) D ct sa [.int x, .int y] (ws) (dK (some (.int (ltF x r))) ws) 0 0 := by
  refine jMX.plain (jBody (own := RX4) (by decide) rfl rfl (Nat.le_of_ble_eq_true rfl) ?_)
  intro X C E T0
  refine j_lv (lv1 := [(0, .int _), (1, .int _)]) rfl ?_
  refine j_iload_n (i := 0) C dX4_letter_0 rfl 0 rfl ?_
  refine j_istore_n (lv' := [(2, .int _), (0, .int _), (1, .int _)]) C dX4_letter_1 rfl (by decide) rfl ?_
  refine j_iload_n (i := 1) C dX4_letter_2 rfl 2 rfl ?_
  refine j_iconst (v := nI 1) C dX4_letter_3 (by decide) ?_
  refine j_iadd C dX4_letter_4 ?_
  refine j_istore_n (lv' := [(3, .int _), (2, .int _), (0, .int _), (1, .int _)]) C dX4_letter_5 rfl (by decide) rfl ?_
  have L6 : ∀ (d i : Nat) (x2 : Int32) (x3 : Int32), i + d = 3 - r → x2 = dvF x i → x3 = nI (r + 1 + i) → J X (ws) (0) (0) 6 [(1, .int y), (2, .int x2), (3, .int x3)] [] := by
    intro d
    induction d with
    | zero =>
      intro i x2 x3 hd e_x2 e_x3 
      subst e_x2
      subst e_x3
      have hi : i = 3 - r := by omega
      subst hi
      refine j_iload_n (i := 3) C dX4_letter_6 rfl 2 rfl ?_
      refine j_iconst (v := nI 4) C dX4_letter_7 (by decide) ?_
      refine j_icmp_ge C 22 dX4_letter_8 (by decide) (fun c8 => ?_) (fun c8 => by first | exact absurd c8 (by decide) | exact absurd c8 (nI_ge (by omega) (by omega)) | exact absurd (nI_le (by omega) (by omega)) c8 | exact absurd c8 (nI_nlt (by omega) (by omega)) | exact absurd (nI_lt (by omega) (by omega)) c8 | exact absurd c8 (nI_nle0 (by omega) (by omega)))
      refine j_iload_n (i := 2) C dX4_letter_22 rfl 1 rfl ?_
      refine j_bipush (v := nI 6) C dX4_letter_23 (by decide) ?_
      refine j_irem C dX4_letter_25 (by decide) ?_
      exact j_ireturn C E rfl dX4_letter_26 (Nat.le_of_ble_eq_true rfl) (Nat.le_of_ble_eq_true rfl) (⟨rfl, rfl⟩)
    | succ d ih =>
      intro i x2 x3 hd e_x2 e_x3 
      subst e_x2
      subst e_x3
      refine j_iload_n (i := 3) C dX4_letter_6 rfl 2 rfl ?_
      refine j_iconst (v := nI 4) C dX4_letter_7 (by decide) ?_
      refine j_icmp_ge C 22 dX4_letter_8 (by decide) (fun c8 => by first | exact absurd c8 (by decide) | exact absurd c8 (nI_ge (by omega) (by omega)) | exact absurd (nI_le (by omega) (by omega)) c8 | exact absurd c8 (nI_nlt (by omega) (by omega)) | exact absurd (nI_lt (by omega) (by omega)) c8 | exact absurd c8 (nI_nle0 (by omega) (by omega))) (fun c8 => ?_)
      refine j_iload_n (i := 2) C dX4_letter_11 rfl 1 rfl ?_
      refine j_bipush (v := nI 6) C dX4_letter_12 (by decide) ?_
      refine j_idiv C dX4_letter_14 (by decide) ?_
      refine j_istore_n (lv' := [(2, .int _), (1, .int _), (3, .int _)]) C dX4_letter_15 rfl (by decide) rfl ?_
      refine j_iinc (z := 2) (lv' := [(3, .int _), (2, .int _), (1, .int _)]) C dX4_letter_16 rfl rfl (by decide) rfl ?_
      refine j_goto C 6 dX4_letter_19 (by decide) ?_
      exact j_lvs [2, 1, 0] rfl (ih (i + 1) _ _ (by omega) (rfl) (by rw [← Nat.add_assoc]; exact nI_1 _))
  exact j_lvs [3, 1, 0] rfl (L6 (3 - r) (0) _ _ (by omega) (rfl) (by rw [hy]; exact nI_add r 1))
set_option maxRecDepth 100000 in
set_option maxHeartbeats 4000000 in
theorem kX4_stands (l : Launch) (D : va_G) (ct : Nat → ClassId) (sa : Nat → Nat) (a : Nat → Nat) (thr : Int32) (σ : St) (wr : va_W) (x : Int32) (j : Nat) (hx : x = nI j) (hj : j < 8) : jM l yX4_stands (Cond.code yX4_stands cX4_stands 4 (Option.some Jvm.ClassFile.FieldType.int) :: GW) (rM 1 0 0 22) D ct sa [.ref (a 0), .int x] (WM ct a thr σ ++ wr) (dK (some (.int (stF (fun i => sR σ (8 * j + (4 + i))) 4))) (WM ct a thr σ ++ wr)) 0 0 := by
  refine jMX.plain (jBody (own := RX4) (by decide) rfl rfl (Nat.le_of_ble_eq_true rfl) ?_)
  intro X C E T0
  refine j_lv (lv1 := [(0, .ref _), (1, .int _)]) rfl ?_
  refine j_iconst (v := nI 0) C dX4_stands_0 (by decide) ?_
  refine j_istore_n (lv' := [(2, .int _), (0, .ref _), (1, .int _)]) C dX4_stands_1 rfl (by decide) rfl ?_
  refine j_iconst (v := nI 0) C dX4_stands_2 (by decide) ?_
  refine j_istore_n (lv' := [(3, .int _), (2, .int _), (0, .ref _), (1, .int _)]) C dX4_stands_3 rfl (by decide) rfl ?_
  have L4 : ∀ (d i : Nat) (x2 : Int32) (x3 : Int32), i + d = 4 → x2 = stF (fun i => sR σ (8 * j + (4 + i))) i → x3 = nI i → J X (WM ct a thr σ ++ wr) (0) (0) 4 [(0, .ref (a 0)), (1, .int x), (2, .int x2), (3, .int x3)] [] := by
    intro d
    induction d with
    | zero =>
      intro i x2 x3 hd e_x2 e_x3 
      subst e_x2
      subst e_x3
      have hi : i = 4 := by omega
      subst hi
      refine j_iload_n (i := 3) C dX4_stands_4 rfl 3 rfl ?_
      refine j_iconst (v := nI 4) C dX4_stands_5 (by decide) ?_
      refine j_icmp_ge C 29 dX4_stands_6 (by decide) (fun c6 => ?_) (fun c6 => by first | exact absurd c6 (by decide) | exact absurd c6 (nI_ge (by omega) (by omega)) | exact absurd (nI_le (by omega) (by omega)) c6 | exact absurd c6 (nI_nlt (by omega) (by omega)) | exact absurd (nI_lt (by omega) (by omega)) c6 | exact absurd c6 (nI_nle0 (by omega) (by omega)))
      refine j_iload_n (i := 2) C dX4_stands_29 rfl 2 rfl ?_
      exact j_ireturn C E rfl dX4_stands_30 (Nat.le_of_ble_eq_true rfl) (Nat.le_of_ble_eq_true rfl) (⟨rfl, rfl⟩)
    | succ d ih =>
      intro i x2 x3 hd e_x2 e_x3 
      subst e_x2
      subst e_x3
      refine j_iload_n (i := 3) C dX4_stands_4 rfl 3 rfl ?_
      refine j_iconst (v := nI 4) C dX4_stands_5 (by decide) ?_
      refine j_icmp_ge C 29 dX4_stands_6 (by decide) (fun c6 => by first | exact absurd c6 (by decide) | exact absurd c6 (nI_ge (by omega) (by omega)) | exact absurd (nI_le (by omega) (by omega)) c6 | exact absurd c6 (nI_nlt (by omega) (by omega)) | exact absurd (nI_lt (by omega) (by omega)) c6 | exact absurd c6 (nI_nle0 (by omega) (by omega))) (fun c6 => ?_)
      refine j_bipush (v := nI 6) C dX4_stands_9 (by decide) ?_
      refine j_iload_n (i := 2) C dX4_stands_11 rfl 2 rfl ?_
      refine j_imul C dX4_stands_12 ?_
      refine j_aload_n (i := 0) C dX4_stands_13 rfl 0 rfl ?_
      refine j_iload_n (i := 1) C dX4_stands_14 rfl 1 rfl ?_
      refine j_iconst (v := nI 4) C dX4_stands_15 (by decide) ?_
      refine j_iload_n (i := 3) C dX4_stands_16 rfl 3 rfl ?_
      refine j_iadd C dX4_stands_17 ?_
      refine j_callV (nargs := 2) (As := [_, _]) (Cn := RX4) C (0) rfl rfl rfl gw729 gw731 gw24 gw49 (kX4_lo l D ct sa a thr σ wr _ _ j (4 + i) hx (nI_add 4 i) hj (by omega)) gw732 (by decide +kernel) rfl dX4_stands_18 ⟨Nat.le_of_ble_eq_true rfl, Nat.le_of_ble_eq_true rfl⟩ ⟨Nat.le_of_ble_eq_true rfl, Nat.le_of_ble_eq_true rfl⟩ (Nat.le_of_ble_eq_true rfl) (dki ?_)
      refine j_iadd C dX4_stands_21 ?_
      refine j_istore_n (lv' := [(2, .int _), (0, .ref _), (1, .int _), (3, .int _)]) C dX4_stands_22 rfl (by decide) rfl ?_
      refine j_iinc (z := 3) (lv' := [(3, .int _), (2, .int _), (0, .ref _), (1, .int _)]) C dX4_stands_23 rfl rfl (by decide) rfl ?_
      refine j_goto C 4 dX4_stands_26 (by decide) ?_
      exact j_lvs [2, 3, 1, 0] rfl (ih (i + 1) _ _ (by omega) (rfl) (nI_1 i))
  exact j_lvs [2, 3, 1, 0] rfl (L4 (4) (0) _ _ (by omega) (rfl) (rfl))
set_option maxRecDepth 100000 in
set_option maxHeartbeats 4000000 in
theorem kX4_far (l : Launch) (D : va_G) (ct : Nat → ClassId) (sa : Nat → Nat) (ws : va_W) (x y : Int32) : jM l yX4_far (Cond.code yX4_far cX4_far 3 (Option.some Jvm.ClassFile.FieldType.int) :: GW) (rM 1 0 0 17) D ct sa [.int x, .int y] (ws) (dK (some (.int (farF x y))) ws) 0 0 := by
  refine jMX.plain (jBody (own := RX4) (by decide) rfl rfl (Nat.le_of_ble_eq_true rfl) ?_)
  intro X C E T0
  refine j_lv (lv1 := [(0, .int _), (1, .int _)]) rfl ?_
  refine j_iload_n (i := 0) C dX4_far_0 rfl 0 rfl ?_
  refine j_iload_n (i := 1) C dX4_far_1 rfl 1 rfl ?_
  refine j_isub C dX4_far_2 ?_
  refine j_mabs C gw736 gw516 gw56 gw517 ⟨Nat.le_of_ble_eq_true rfl, Nat.le_of_ble_eq_true rfl⟩ ⟨Nat.le_of_ble_eq_true rfl, Nat.le_of_ble_eq_true rfl⟩ dX4_far_3 ?_
  refine j_istore_n (lv' := [(2, .int _), (0, .int _), (1, .int _)]) C dX4_far_6 rfl (by decide) rfl ?_
  refine j_iload_n (i := 2) C dX4_far_7 rfl 0 rfl ?_
  refine j_bipush (v := nI 6) C dX4_far_8 (by decide) ?_
  refine j_iload_n (i := 2) C dX4_far_10 rfl 0 rfl ?_
  refine j_isub C dX4_far_11 ?_
  refine j_mmin C gw737 gw493 gw56 gw494 ⟨Nat.le_of_ble_eq_true rfl, Nat.le_of_ble_eq_true rfl⟩ ⟨Nat.le_of_ble_eq_true rfl, Nat.le_of_ble_eq_true rfl⟩ dX4_far_12 ?_
  exact j_ireturn C E rfl dX4_far_15 (Nat.le_of_ble_eq_true rfl) (Nat.le_of_ble_eq_true rfl) (⟨rfl, rfl⟩)
set_option maxRecDepth 100000 in
set_option maxHeartbeats 4000000 in
theorem kX4_close (l : Launch) (D : va_G) (ct : Nat → ClassId) (sa : Nat → Nat) (a : Nat → Nat) (thr : Int32) (σ : St) (wr : va_W) (x : Int32) (j : Nat) (hx : x = nI j) (hj : j < 8) : jM l yX4_close (Cond.code yX4_close cX4_close 3 (Option.none : Option Jvm.ClassFile.FieldType) :: GW) (rM 1 0 0 23) D ct sa [.ref (a 0), .int x] (WM ct a thr σ ++ wr) (dK none (WM ct a thr (uR σ (clF (sR σ) j 4)) ++ wr)) 0 0 := by
  refine jMX.plain (jBody (own := RX4) (by decide) rfl rfl (Nat.le_of_ble_eq_true rfl) ?_)
  intro X C E T0
  refine j_lv (lv1 := [(0, .ref _), (1, .int _)]) rfl ?_
  refine j_aload_n (i := 0) C dX4_close_0 rfl 0 rfl ?_
  refine j_iload_n (i := 1) C dX4_close_1 rfl 1 rfl ?_
  refine j_iconst (v := nI 1) C dX4_close_2 (by decide) ?_
  refine j_iconst (v := nI 0) C dX4_close_3 (by decide) ?_
  refine j_callV (nargs := 3) (As := [_, _, _]) (Cn := RX4) C (0) rfl rfl rfl gw717 gw719 gw22 gw49 (kX4_let l D ct sa a thr σ wr _ _ _ j 1 hx rfl hj (by decide)) gw720 (by decide +kernel) rfl dX4_close_4 ⟨Nat.le_of_ble_eq_true rfl, Nat.le_of_ble_eq_true rfl⟩ ⟨Nat.le_of_ble_eq_true rfl, Nat.le_of_ble_eq_true rfl⟩ (Nat.le_of_ble_eq_true rfl) (dkv ?_)
  refine j_iconst (v := nI 0) C dX4_close_7 (by decide) ?_
  refine j_istore_n (lv' := [(2, .int _), (0, .ref _), (1, .int _)]) C dX4_close_8 rfl (by decide) rfl ?_
  have L9 : ∀ (d i : Nat) (x2 : Int32) (w : va_W), i + d = 4 → x2 = nI i → w = WM ct a thr (uR σ (clF (sR σ) j i)) ++ wr → J X (w) (0) (0) 9 [(0, .ref (a 0)), (1, .int x), (2, .int x2)] [] := by
    intro d
    induction d with
    | zero =>
      intro i x2 w hd e_x2 e_w 
      subst e_x2
      subst e_w
      have hi : i = 4 := by omega
      subst hi
      refine j_iload_n (i := 2) C dX4_close_9 rfl 2 rfl ?_
      refine j_iconst (v := nI 4) C dX4_close_10 (by decide) ?_
      refine j_icmp_ge C 43 dX4_close_11 (by decide) (fun c11 => ?_) (fun c11 => by first | exact absurd c11 (by decide) | exact absurd c11 (nI_ge (by omega) (by omega)) | exact absurd (nI_le (by omega) (by omega)) c11 | exact absurd c11 (nI_nlt (by omega) (by omega)) | exact absurd (nI_lt (by omega) (by omega)) c11 | exact absurd c11 (nI_nle0 (by omega) (by omega)))
      exact j_return C E dX4_close_43 (Nat.le_of_ble_eq_true rfl) (Nat.le_of_ble_eq_true rfl) (⟨rfl, rfl⟩)
    | succ d ih =>
      intro i x2 w hd e_x2 e_w 
      subst e_x2
      subst e_w
      refine j_iload_n (i := 2) C dX4_close_9 rfl 2 rfl ?_
      refine j_iconst (v := nI 4) C dX4_close_10 (by decide) ?_
      refine j_icmp_ge C 43 dX4_close_11 (by decide) (fun c11 => by first | exact absurd c11 (by decide) | exact absurd c11 (nI_ge (by omega) (by omega)) | exact absurd (nI_le (by omega) (by omega)) c11 | exact absurd c11 (nI_nlt (by omega) (by omega)) | exact absurd (nI_lt (by omega) (by omega)) c11 | exact absurd c11 (nI_nle0 (by omega) (by omega))) (fun c11 => ?_)
      refine j_aload_n (i := 0) C dX4_close_14 rfl 0 rfl ?_
      refine j_iload_n (i := 1) C dX4_close_15 rfl 1 rfl ?_
      refine j_iconst (v := nI 4) C dX4_close_16 (by decide) ?_
      refine j_iload_n (i := 2) C dX4_close_17 rfl 2 rfl ?_
      refine j_iadd C dX4_close_18 ?_
      refine j_aload_n (i := 0) C dX4_close_19 rfl 0 rfl ?_
      refine j_iload_n (i := 1) C dX4_close_20 rfl 1 rfl ?_
      refine j_iconst (v := nI 4) C dX4_close_21 (by decide) ?_
      refine j_iload_n (i := 2) C dX4_close_22 rfl 2 rfl ?_
      refine j_iadd C dX4_close_23 ?_
      refine j_callV (nargs := 2) (As := [_, _]) (Cn := RX4) C (0) rfl rfl rfl gw729 gw731 gw24 gw49 (kX4_lo l D ct sa a thr (uR σ (clF (sR σ) j i)) wr _ _ j (4 + i) hx (nI_add 4 i) hj (by omega)) gw732 (by decide +kernel) rfl dX4_close_24 ⟨Nat.le_of_ble_eq_true rfl, Nat.le_of_ble_eq_true rfl⟩ ⟨Nat.le_of_ble_eq_true rfl, Nat.le_of_ble_eq_true rfl⟩ (Nat.le_of_ble_eq_true rfl) (dki ?_)
      refine j_iload_n (i := 2) C dX4_close_27 rfl 2 rfl ?_
      refine j_iadd C dX4_close_28 ?_
      refine j_iconst (v := nI 1) C dX4_close_29 (by decide) ?_
      refine j_iadd C dX4_close_30 ?_
      refine j_bipush (v := nI 6) C dX4_close_31 (by decide) ?_
      refine j_irem C dX4_close_33 (by decide) ?_
      refine j_callV (nargs := 3) (As := [_, _, _]) (Cn := RX4) C (0) rfl rfl rfl gw717 gw719 gw22 gw49 (kX4_let l D ct sa a thr (uR σ (clF (sR σ) j i)) wr _ _ _ j (4 + i) hx (nI_add 4 i) hj (by omega)) gw720 (by decide +kernel) rfl dX4_close_34 ⟨Nat.le_of_ble_eq_true rfl, Nat.le_of_ble_eq_true rfl⟩ ⟨Nat.le_of_ble_eq_true rfl, Nat.le_of_ble_eq_true rfl⟩ (Nat.le_of_ble_eq_true rfl) (dkv ?_)
      refine j_iinc (z := 2) (lv' := [(2, .int _), (0, .ref _), (1, .int _)]) C dX4_close_37 rfl rfl (by decide) rfl ?_
      refine j_goto C 9 dX4_close_40 (by decide) ?_
      exact j_lvs [1, 2, 0] rfl (ih (i + 1) _ _ (by omega) (nI_1 i) (rfl))
  exact j_lvs [1, 2, 0] rfl (L9 (4) (0) _ _ (by omega) (rfl) (rfl))
set_option maxRecDepth 100000 in
set_option maxHeartbeats 4000000 in
theorem kX4_in (l : Launch) (D : va_G) (ct : Nat → ClassId) (sa : Nat → Nat) (a : Nat → Nat) (thr : Int32) (σ : St) (wr : va_W) (y : Int32) (hn : sN σ ≤ 8) : jM l yX4_in (Cond.code yX4_in cX4_in 4 (Option.some Jvm.ClassFile.FieldType.int) :: GW) (rM 1 0 0 22) D ct sa [.ref (a 0), .int y] (WM ct a thr σ ++ wr) (dK (some (.int (sumF (fun i => b2i (sR σ (8 * i + 2) = y)) (sN σ)))) (WM ct a thr σ ++ wr)) 0 0 := by
  refine jMX.plain (jBody (own := RX4) (by decide) rfl rfl (Nat.le_of_ble_eq_true rfl) ?_)
  intro X C E T0
  refine j_lv (lv1 := [(0, .ref _), (1, .int _)]) rfl ?_
  refine j_iconst (v := nI 0) C dX4_in_0 (by decide) ?_
  refine j_istore_n (lv' := [(2, .int _), (0, .ref _), (1, .int _)]) C dX4_in_1 rfl (by decide) rfl ?_
  refine j_iconst (v := nI 0) C dX4_in_2 (by decide) ?_
  refine j_istore_n (lv' := [(3, .int _), (2, .int _), (0, .ref _), (1, .int _)]) C dX4_in_3 rfl (by decide) rfl ?_
  have L4 : ∀ (d i : Nat) (x2 : Int32) (x3 : Int32), i + d = sN σ → x2 = sumF (fun i => b2i (sR σ (8 * i + 2) = y)) i → x3 = nI i → J X (WM ct a thr σ ++ wr) (0) (0) 4 [(0, .ref (a 0)), (1, .int y), (2, .int x2), (3, .int x3)] [] := by
    intro d
    induction d with
    | zero =>
      intro i x2 x3 hd e_x2 e_x3 
      subst e_x2
      subst e_x3
      have hi : i = sN σ := by omega
      rw [hi]
      refine j_iload_n (i := 3) C dX4_in_4 rfl 3 rfl ?_
      refine j_aload_n (i := 0) C dX4_in_5 rfl 0 rfl ?_
      refine j_get (Cn := RX4) (T := TX4) (N := 7) (ci := 5) C iX4 rfl (0) rfl 1 (by decide) gw678 rfl rfl dX4_in_6 ?_
      refine j_icmp_ge C 36 dX4_in_9 (by decide) (fun c9 => ?_) (fun c9 => by first | exact absurd c9 (by decide) | exact absurd c9 (nI_ge (by omega) (by omega)) | exact absurd (nI_le (by omega) (by omega)) c9 | exact absurd c9 (nI_nlt (by omega) (by omega)) | exact absurd (nI_lt (by omega) (by omega)) c9 | exact absurd c9 (nI_nle0 (by omega) (by omega)))
      refine j_iload_n (i := 2) C dX4_in_36 rfl 2 rfl ?_
      exact j_ireturn C E rfl dX4_in_37 (Nat.le_of_ble_eq_true rfl) (Nat.le_of_ble_eq_true rfl) (⟨rfl, rfl⟩)
    | succ d ih =>
      intro i x2 x3 hd e_x2 e_x3 
      subst e_x2
      subst e_x3
      refine j_iload_n (i := 3) C dX4_in_4 rfl 3 rfl ?_
      refine j_aload_n (i := 0) C dX4_in_5 rfl 0 rfl ?_
      refine j_get (Cn := RX4) (T := TX4) (N := 7) (ci := 5) C iX4 rfl (0) rfl 1 (by decide) gw678 rfl rfl dX4_in_6 ?_
      refine j_icmp_ge C 36 dX4_in_9 (by decide) (fun c9 => by first | exact absurd c9 (by decide) | exact absurd c9 (nI_ge (by omega) (by omega)) | exact absurd (nI_le (by omega) (by omega)) c9 | exact absurd c9 (nI_nlt (by omega) (by omega)) | exact absurd (nI_lt (by omega) (by omega)) c9 | exact absurd c9 (nI_nle0 (by omega) (by omega))) (fun c9 => ?_)
      refine j_iload_n (i := 2) C dX4_in_12 rfl 2 rfl ?_
      refine j_aload_n (i := 0) C dX4_in_13 rfl 0 rfl ?_
      refine j_iload_n (i := 3) C dX4_in_14 rfl 3 rfl ?_
      refine j_iconst (v := nI 2) C dX4_in_15 (by decide) ?_
      refine j_callV (nargs := 2) (As := [_, _]) (Cn := RX4) C (0) rfl rfl rfl gw729 gw731 gw24 gw49 (kX4_lo l D ct sa a thr σ wr _ _ i 2 rfl rfl (by omega) (by decide)) gw732 (by decide +kernel) rfl dX4_in_16 ⟨Nat.le_of_ble_eq_true rfl, Nat.le_of_ble_eq_true rfl⟩ ⟨Nat.le_of_ble_eq_true rfl, Nat.le_of_ble_eq_true rfl⟩ (Nat.le_of_ble_eq_true rfl) (dki ?_)
      refine j_iload_n (i := 1) C dX4_in_19 rfl 1 rfl ?_
      refine j_icmp_ne C 27 dX4_in_20 (by decide) (fun c20 => ?_) (fun c20 => ?_)
      · refine j_iconst (v := nI 0) C dX4_in_27 (by decide) ?_
        refine j_iadd C dX4_in_28 ?_
        refine j_istore_n (lv' := [(2, .int _), (0, .ref _), (1, .int _), (3, .int _)]) C dX4_in_29 rfl (by decide) rfl ?_
        refine j_iinc (z := 3) (lv' := [(3, .int _), (2, .int _), (0, .ref _), (1, .int _)]) C dX4_in_30 rfl rfl (by decide) rfl ?_
        refine j_goto C 4 dX4_in_33 (by decide) ?_
        exact j_lvs [2, 3, 1, 0] rfl (ih (i + 1) _ _ (by omega) (by first | exact congrArg (fun z => sumF (fun i => b2i (sR σ (8 * i + 2) = y)) i + z) (b2i_n c20).symm | exact congrArg (fun z => sumF (fun i => b2i (sR σ (8 * i + 2) = y)) i + z) (b2i_y c20).symm) (nI_1 i))
      · refine j_iconst (v := nI 1) C dX4_in_23 (by decide) ?_
        refine j_goto C 28 dX4_in_24 (by decide) ?_
        refine j_iadd C dX4_in_28 ?_
        refine j_istore_n (lv' := [(2, .int _), (0, .ref _), (1, .int _), (3, .int _)]) C dX4_in_29 rfl (by decide) rfl ?_
        refine j_iinc (z := 3) (lv' := [(3, .int _), (2, .int _), (0, .ref _), (1, .int _)]) C dX4_in_30 rfl rfl (by decide) rfl ?_
        refine j_goto C 4 dX4_in_33 (by decide) ?_
        exact j_lvs [2, 3, 1, 0] rfl (ih (i + 1) _ _ (by omega) (by first | exact congrArg (fun z => sumF (fun i => b2i (sR σ (8 * i + 2) = y)) i + z) (b2i_n c20).symm | exact congrArg (fun z => sumF (fun i => b2i (sR σ (8 * i + 2) = y)) i + z) (b2i_y c20).symm) (nI_1 i))
  exact j_lvs [2, 3, 1, 0] rfl (L4 (sN σ) (0) _ _ (by omega) (rfl) (rfl))
end
section
/-! what each call answers: (the number of what is thrown, the answer, the state behind) -/
abbrev ix (x : Int32) : Nat := x.toNatClampNeg
theorem okI_ix {N : Nat} {x : Int32} (h : okI N x) (hN : N < 2 ^ 31) : ix x < N ∧ x = nI (ix x) := by
  obtain ⟨j, hj, rfl⟩ := okI_of h hN
  have e : ix (nI j) = j := nI_clamp (by omega)
  rw [e]
  exact ⟨hj, rfl⟩
abbrev Op : Type := Int32 × Int32 × St
abbrev fD (ct : Nat → ClassId) (a : Nat → Nat) (wr : va_W) (f : Op) : Option Value → va_W → Prop := dK (some (.int f.2.1)) (WM ct a f.1 f.2.2 ++ wr)
theorem fK {ct : Nat → ClassId} {a : Nat → Nat} {wr : va_W} {f : Op} {k v : Int32} {σ : St} (h : f = (k, v, σ)) : fD ct a wr f (some (.int v)) (WM ct a k σ ++ wr) := by
  subst h
  exact ⟨rfl, rfl⟩
/-- the hour is a number below 2^30 and there are at most 8 locks -/
abbrev Inv0 (σ : St) : Prop := sN σ ≤ 8 ∧ ∃ h : Nat, h < 2 ^ 30 ∧ sH σ = nI h
abbrev opP (h f t : Int32) : Prop := (f < t ∧ f ≤ h ∧ h < t) ∨ (t < f ∧ (f ≤ h ∨ h < t))
abbrev opR (σ : St) (h : Int32) (r : Nat) : Prop := opP (irm h (nI 24)) (sK σ (3 * r + 1)) (sK σ (3 * r + 2))
abbrev inF (σ : St) (y : Int32) : Int32 := sumF (fun i => b2i (sR σ (8 * i + 2) = y)) (sN σ)
def f_lock (σ : St) (w : Int32) : Op := if okI 1296 w then (if nI (sN σ) = nI 8 then (nI 2, nI 0, σ) else (nI 0, nI (sN σ), uN (uR σ (upd (upd (upd (sR σ) (8 * sN σ + 0) w) (8 * sN σ + 1) (nI 1)) (8 * sN σ + 2) (-1))) (sN σ + 1))) else (nI 1, nI 0, σ)
def f_turn (σ : St) (x y z : Int32) : Op := if okI (sN σ) x ∧ okI 4 y then (if okI 6 z then (nI 0, farF (sR σ (8 * ix x + (4 + ix y))) z, uT (uR σ (upd (sR σ) (8 * ix x + (4 + ix y)) z)) (sT σ + farF (sR σ (8 * ix x + (4 + ix y))) z)) else (nI 2, nI 0, σ)) else (nI 1, nI 0, σ)
abbrev stR (f : Nat → Int32) (j : Nat) : Int32 := stF (fun i => f (8 * j + (4 + i))) 4
def opnF (f : Nat → Int32) (j : Nat) : Nat → Int32 := if stR f j = f (8 * j + 0) then upd f (8 * j + 1) (nI 1) else f
def f_open (σ : St) (x : Int32) : Op := if okI (sN σ) x then (nI 0, b2i (opnF (sR σ) (ix x) (8 * ix x + 1) = nI 1), uR σ (opnF (sR σ) (ix x))) else (nI 1, nI 0, σ)
def f_shut (σ : St) (x : Int32) : Op := if okI (sN σ) x then (if sR σ (8 * ix x + 1) = 0 then (nI 2, nI 0, σ) else (nI 0, stR (clF (sR σ) (ix x) 4) (ix x), uR σ (clF (sR σ) (ix x) 4))) else (nI 1, nI 0, σ)
def f_rename (σ : St) (x w : Int32) : Op := if okI (sN σ) x then (if okI 1296 w then (if sR σ (8 * ix x + 1) = 0 then (nI 3, nI 0, σ) else (nI 0, sR σ (8 * ix x + 0), uR σ (upd (upd (sR σ) (8 * ix x + 0) w) (8 * ix x + 3) (nI 0)))) else (nI 2, nI 0, σ)) else (nI 1, nI 0, σ)
def f_lose (σ : St) (x b : Int32) : Op := if okI (sN σ) x then (nI 0, b2i (sR σ (8 * ix x + 3) = nI 1), uR σ (upd (sR σ) (8 * ix x + 3) (b2i (¬ b = 0)))) else (nI 1, nI 0, σ)
def f_setPlaces (σ : St) (x y : Int32) : Op := if okI 3 x then (if nI 1 ≤ y ∧ y ≤ nI 6 then (if inF σ x ≤ y then (nI 0, sK σ (3 * ix x + 0), uK σ (upd (sK σ) (3 * ix x + 0) y)) else (nI 3, nI 0, σ)) else (nI 2, nI 0, σ)) else (nI 1, nI 0, σ)
def f_setHours (σ : St) (x y z : Int32) : Op := if okI 3 x then (if okI 24 y ∧ okI 25 z then (nI 0, nI 25 * sK σ (3 * ix x + 1) + sK σ (3 * ix x + 2), uK σ (upd (upd (sK σ) (3 * ix x + 1) y) (3 * ix x + 2) z)) else (nI 2, nI 0, σ)) else (nI 1, nI 0, σ)
def f_put (σ : St) (x y : Int32) : Op := if okI (sN σ) x ∧ (y = -1 ∨ okI 3 y) then (if sR σ (8 * ix x + 2) = y then (nI 0, sR σ (8 * ix x + 2), σ) else (if sR σ (8 * ix x + 1) = 0 ∨ (¬ y = -1 ∧ (¬ opR σ (sH σ) (ix y) ∨ sK σ (3 * ix y + 0) ≤ inF σ y)) then (nI 2, nI 0, σ) else (nI 0, sR σ (8 * ix x + 2), uR σ (upd (sR σ) (8 * ix x + 2) y)))) else (nI 1, nI 0, σ)
/-- the most worn letter, of several the least one -/
def bmF (g : Nat → Int32) : Nat → Nat
  | 0 => 0
  | t + 1 => if g (bmF g t) < g (t + 1) then t + 1 else bmF g t
theorem bmF_le (g : Nat → Int32) : ∀ t, bmF g t ≤ t
  | 0 => Nat.le_refl 0
  | t + 1 => by
    show (if g (bmF g t) < g (t + 1) then t + 1 else bmF g t) ≤ t + 1
    by_cases h : g (bmF g t) < g (t + 1)
    · rw [if_pos h]; exact Nat.le_refl _
    · rw [if_neg h]; exact Nat.le_succ_of_le (bmF_le g t)
abbrev wrow (f : Nat → Int32) (j r : Nat) : Nat → Int32 := fun q => f (6 * (4 * j + r) + q)
abbrev shF (f : Nat → Int32) (j : Nat) : Int32 := stF (fun r => nI (bmF (wrow f j r) 5)) 4
def tld (σ : St) (j : Nat) : Nat → Int32
  | 0 => stR (sR σ) j
  | 1 => sR σ (8 * j + 1)
  | 2 => sR σ (8 * j + 2)
  | 3 => sR σ (8 * j + 3)
  | 4 => shF (sW σ) j
  | _ => if sR σ (8 * j + 3) = nI 1 then -1 else sR σ (8 * j + 0)
def f_told (σ : St) (x y : Int32) : Op := if okI (sN σ) x ∧ okI 6 y then (nI 0, tld σ (ix x) (ix y), σ) else (nI 1, nI 0, σ)
def f_wear (σ : St) (x y z : Int32) : Op := if okI (sN σ) x ∧ okI 4 y ∧ okI 6 z then (nI 0, sW σ (6 * (4 * ix x + ix y) + ix z), σ) else (nI 1, nI 0, σ)
def rtl (σ : St) (r : Nat) : Nat → Int32
  | 0 => sK σ (3 * r + 0)
  | 1 => inF σ (nI r)
  | 2 => b2i (opR σ (sH σ) r)
  | 3 => sumF (fun i => if sR σ (8 * i + 2) = nI r then sR σ (8 * i + 1) else nI 0) (sN σ)
  | 4 => sK σ (3 * r + 1)
  | _ => sK σ (3 * r + 2)
def f_rack (σ : St) (x y : Int32) : Op := if okI 3 x ∧ okI 6 y then (nI 0, rtl σ (ix x) (ix y), σ) else (nI 1, nI 0, σ)
def cnd (σ : St) : Nat → Int32
  | 0 => sH σ
  | 1 => nI (sN σ)
  | 2 => sumF (fun i => sR σ (8 * i + 1)) (sN σ)
  | 3 => sumF (fun i => sR σ (8 * i + 3)) (sN σ)
  | 4 => sumF (sW σ) 192
  | 5 => sT σ
  | _ => inF σ (nI 0) + inF σ (nI 1) + inF σ (nI 2)
def f_count (σ : St) (x : Int32) : Op := if okI 7 x then (nI 0, cnd σ (ix x), σ) else (nI 1, nI 0, σ)
abbrev betF (a b : Int32) : Int32 := sumF (fun r => farF (ltF a r) (ltF b r)) 4
def f_apart (σ : St) (a b : Int32) : Op := if okI 1296 a ∧ okI 1296 b then (nI 0, betF a b, σ) else (nI 1, nI 0, σ)
theorem nI_ne {a b : Nat} (h : a ≠ b) (ha : a < 2 ^ 31) (hb : b < 2 ^ 31) : ¬ nI a = nI b := fun z => h ((nI_eq ha hb).mp z)
end
section
set_option maxRecDepth 100000 in
set_option maxHeartbeats 4000000 in
theorem kX4_lock (l : Launch) (D : va_G) (ct : Nat → ClassId) (sa : Nat → Nat) (a : Nat → Nat) (thr : Int32) (σ : St) (wr : va_W) (x : Int32) (hi : Inv0 σ) : jM l yX4_lock (Cond.code yX4_lock cX4_lock 2 (Option.some Jvm.ClassFile.FieldType.int) :: GW) (rM 2 0 0 42) D ct sa [.ref (a 0), .int x] (WM ct a thr σ ++ wr) (fD ct a wr (f_lock σ x)) 0 0 := by
  refine jMX.plain (jBody (own := RX4) (by decide) rfl rfl (Nat.le_of_ble_eq_true rfl) ?_)
  intro X C E T0
  refine j_lv (lv1 := [(0, .ref _), (1, .int _)]) rfl ?_
  refine j_aload_n (i := 0) C dX4_lock_0 rfl 0 rfl ?_
  refine j_iconst (v := nI 0) C dX4_lock_1 (by decide) ?_
  refine j_put (Cn := RX4) (T := TX4) (N := 7) (ci := 5) (ws2 := WM ct a (nI 0) σ ++ wr) C iX4 tyX4 tyX4_ok nmX4 rfl (0) rfl 0 (by decide) gw677 rfl rfl rfl rfl rfl (Nat.le_of_ble_eq_true rfl) rfl dX4_lock_2 ?_
  refine j_iload_n (i := 1) C dX4_lock_5 rfl 1 rfl ?_
  refine j_callS (nargs := 1) (As := [_]) C gw707 gw708 gw49 (kX4_isWord l D ct sa _ _) gw709 (by decide +kernel) rfl dX4_lock_6 ⟨Nat.le_of_ble_eq_true rfl, Nat.le_of_ble_eq_true rfl⟩ ⟨Nat.le_of_ble_eq_true rfl, Nat.le_of_ble_eq_true rfl⟩ (Nat.le_of_ble_eq_true rfl) (dki ?_)
  refine j_if_ne C 18 dX4_lock_9 (by decide) (fun c9 => ?_) (fun c9 => ?_)
  · refine j_aload_n (i := 0) C dX4_lock_18 rfl 0 rfl ?_
    refine j_get (Cn := RX4) (T := TX4) (N := 7) (ci := 5) C iX4 rfl (0) rfl 1 (by decide) gw678 rfl rfl dX4_lock_19 ?_
    refine j_bipush (v := nI 8) C dX4_lock_22 (by decide) ?_
    refine j_icmp_ne C 33 dX4_lock_24 (by decide) (fun c24 => ?_) (fun c24 => ?_)
    · have h8 : sN σ < 8 := by
        rcases Nat.lt_or_ge (sN σ) 8 with h | h
        · exact h
        · exact absurd (by rw [show sN σ = 8 from Nat.le_antisymm hi.1 h]) c24
      refine j_aload_n (i := 0) C dX4_lock_33 rfl 0 rfl ?_
      refine j_aload_n (i := 0) C dX4_lock_34 rfl 0 rfl ?_
      refine j_get (Cn := RX4) (T := TX4) (N := 7) (ci := 5) C iX4 rfl (0) rfl 1 (by decide) gw678 rfl rfl dX4_lock_35 ?_
      refine j_iconst (v := nI 0) C dX4_lock_38 (by decide) ?_
      refine j_iload_n (i := 1) C dX4_lock_39 rfl 1 rfl ?_
      refine j_callV (nargs := 3) (As := [_, _, _]) (Cn := RX4) C (0) rfl rfl rfl gw717 gw719 gw22 gw49 (kX4_let l D ct sa a (nI 0) σ wr _ _ _ (sN σ) 0 rfl rfl h8 (by decide)) gw720 (by decide +kernel) rfl dX4_lock_40 ⟨Nat.le_of_ble_eq_true rfl, Nat.le_of_ble_eq_true rfl⟩ ⟨Nat.le_of_ble_eq_true rfl, Nat.le_of_ble_eq_true rfl⟩ (Nat.le_of_ble_eq_true rfl) (dkv ?_)
      refine j_aload_n (i := 0) C dX4_lock_43 rfl 0 rfl ?_
      refine j_aload_n (i := 0) C dX4_lock_44 rfl 0 rfl ?_
      refine j_get (Cn := RX4) (T := TX4) (N := 7) (ci := 5) C iX4 rfl (0) rfl 1 (by decide) gw678 rfl rfl dX4_lock_45 ?_
      refine j_iconst (v := nI 1) C dX4_lock_48 (by decide) ?_
      refine j_iconst (v := nI 1) C dX4_lock_49 (by decide) ?_
      refine j_callV (nargs := 3) (As := [_, _, _]) (Cn := RX4) C (0) rfl rfl rfl gw717 gw719 gw22 gw49 (kX4_let l D ct sa a (nI 0) (uR σ (upd (sR σ) (8 * sN σ + 0) x)) wr _ _ _ (sN σ) 1 rfl rfl h8 (by decide)) gw720 (by decide +kernel) rfl dX4_lock_50 ⟨Nat.le_of_ble_eq_true rfl, Nat.le_of_ble_eq_true rfl⟩ ⟨Nat.le_of_ble_eq_true rfl, Nat.le_of_ble_eq_true rfl⟩ (Nat.le_of_ble_eq_true rfl) (dkv ?_)
      refine j_aload_n (i := 0) C dX4_lock_53 rfl 0 rfl ?_
      refine j_aload_n (i := 0) C dX4_lock_54 rfl 0 rfl ?_
      refine j_get (Cn := RX4) (T := TX4) (N := 7) (ci := 5) C iX4 rfl (0) rfl 1 (by decide) gw678 rfl rfl dX4_lock_55 ?_
      refine j_iconst (v := nI 2) C dX4_lock_58 (by decide) ?_
      refine j_iconst (v := (-1)) C dX4_lock_59 (by decide) ?_
      refine j_callV (nargs := 3) (As := [_, _, _]) (Cn := RX4) C (0) rfl rfl rfl gw717 gw719 gw22 gw49 (kX4_let l D ct sa a (nI 0) (uR σ (upd (upd (sR σ) (8 * sN σ + 0) x) (8 * sN σ + 1) (nI 1))) wr _ _ _ (sN σ) 2 rfl rfl h8 (by decide)) gw720 (by decide +kernel) rfl dX4_lock_60 ⟨Nat.le_of_ble_eq_true rfl, Nat.le_of_ble_eq_true rfl⟩ ⟨Nat.le_of_ble_eq_true rfl, Nat.le_of_ble_eq_true rfl⟩ (Nat.le_of_ble_eq_true rfl) (dkv ?_)
      refine j_aload_n (i := 0) C dX4_lock_63 rfl 0 rfl ?_
      refine j_dup C dX4_lock_64 rfl ?_
      refine j_get (Cn := RX4) (T := TX4) (N := 7) (ci := 5) C iX4 rfl (0) rfl 1 (by decide) gw678 rfl rfl dX4_lock_65 ?_
      refine j_iconst (v := nI 1) C dX4_lock_68 (by decide) ?_
      refine j_iadd C dX4_lock_69 ?_
      refine j_st (st1 := .int (nI (sN σ + 1)) :: _) (by rw [nI_add]) ?_
      refine j_put (Cn := RX4) (T := TX4) (N := 7) (ci := 5) (ws2 := WM ct a (nI 0) (uN (uR σ (upd (upd (upd (sR σ) (8 * sN σ + 0) x) (8 * sN σ + 1) (nI 1)) (8 * sN σ + 2) (-1))) (sN σ + 1)) ++ wr) C iX4 tyX4 tyX4_ok nmX4 rfl (0) rfl 1 (by decide) gw678 rfl rfl rfl rfl rfl (Nat.le_of_ble_eq_true rfl) rfl dX4_lock_70 ?_
      refine j_aload_n (i := 0) C dX4_lock_73 rfl 0 rfl ?_
      refine j_get (Cn := RX4) (T := TX4) (N := 7) (ci := 5) C iX4 rfl (0) rfl 1 (by decide) gw678 rfl rfl dX4_lock_74 ?_
      refine j_iconst (v := nI 1) C dX4_lock_77 (by decide) ?_
      refine j_isub C dX4_lock_78 ?_
      refine j_st (st1 := .int (nI (sN σ)) :: _) (congrArg (fun z => Value.int z :: []) (nI_pred (sN σ))) ?_
      exact j_ireturn C E rfl dX4_lock_79 (Nat.le_of_ble_eq_true rfl) (Nat.le_of_ble_eq_true rfl) (fK (by rw [f_lock, if_pos (b2i_t c9), if_neg c24]))
    · refine j_aload_n (i := 0) C dX4_lock_27 rfl 0 rfl ?_
      refine j_iconst (v := nI 2) C dX4_lock_28 (by decide) ?_
      refine j_callV (nargs := 1) (As := [_]) (Cn := RX4) C (0) rfl rfl rfl gw713 gw715 gw21 gw49 (kX4_fail l D ct sa _ _ _ _ _) gw716 (by decide +kernel) rfl dX4_lock_29 ⟨Nat.le_of_ble_eq_true rfl, Nat.le_of_ble_eq_true rfl⟩ ⟨Nat.le_of_ble_eq_true rfl, Nat.le_of_ble_eq_true rfl⟩ (Nat.le_of_ble_eq_true rfl) (dki ?_)
      exact j_ireturn C E rfl dX4_lock_32 (Nat.le_of_ble_eq_true rfl) (Nat.le_of_ble_eq_true rfl) (fK (by rw [f_lock, if_pos (b2i_t c9), if_pos c24]))
  · refine j_aload_n (i := 0) C dX4_lock_12 rfl 0 rfl ?_
    refine j_iconst (v := nI 1) C dX4_lock_13 (by decide) ?_
    refine j_callV (nargs := 1) (As := [_]) (Cn := RX4) C (0) rfl rfl rfl gw713 gw715 gw21 gw49 (kX4_fail l D ct sa _ _ _ _ _) gw716 (by decide +kernel) rfl dX4_lock_14 ⟨Nat.le_of_ble_eq_true rfl, Nat.le_of_ble_eq_true rfl⟩ ⟨Nat.le_of_ble_eq_true rfl, Nat.le_of_ble_eq_true rfl⟩ (Nat.le_of_ble_eq_true rfl) (dki ?_)
    exact j_ireturn C E rfl dX4_lock_17 (Nat.le_of_ble_eq_true rfl) (Nat.le_of_ble_eq_true rfl) (fK (by rw [f_lock, if_neg (b2i_f c9)]))
set_option maxRecDepth 100000 in
set_option maxHeartbeats 4000000 in
theorem kX4_turn (l : Launch) (D : va_G) (ct : Nat → ClassId) (sa : Nat → Nat) (a : Nat → Nat) (thr : Int32) (σ : St) (wr : va_W) (x y z : Int32) (hi : Inv0 σ) : jM l yX4_turn (Cond.code yX4_turn cX4_turn 5 (Option.some Jvm.ClassFile.FieldType.int) :: GW) (rM 2 0 0 43) D ct sa [.ref (a 0), .int x, .int y, .int z] (WM ct a thr σ ++ wr) (fD ct a wr (f_turn σ x y z)) 0 0 := by
  refine jMX.plain (jBody (own := RX4) (by decide) rfl rfl (Nat.le_of_ble_eq_true rfl) ?_)
  intro X C E T0
  refine j_lv (lv1 := [(0, .ref _), (1, .int _), (2, .int _), (3, .int _)]) rfl ?_
  refine j_aload_n (i := 0) C dX4_turn_0 rfl 0 rfl ?_
  refine j_iconst (v := nI 0) C dX4_turn_1 (by decide) ?_
  refine j_put (Cn := RX4) (T := TX4) (N := 7) (ci := 5) (ws2 := WM ct a (nI 0) σ ++ wr) C iX4 tyX4 tyX4_ok nmX4 rfl (0) rfl 0 (by decide) gw677 rfl rfl rfl rfl rfl (Nat.le_of_ble_eq_true rfl) rfl dX4_turn_2 ?_
  refine j_aload_n (i := 0) C dX4_turn_5 rfl 0 rfl ?_
  refine j_iload_n (i := 1) C dX4_turn_6 rfl 1 rfl ?_
  refine j_callV (nargs := 1) (As := [_]) (Cn := RX4) C (0) rfl rfl rfl gw725 gw727 gw23 gw49 (kX4_isLock l D ct sa _ _ _ _ _ hi.1) gw728 (by decide +kernel) rfl dX4_turn_7 ⟨Nat.le_of_ble_eq_true rfl, Nat.le_of_ble_eq_true rfl⟩ ⟨Nat.le_of_ble_eq_true rfl, Nat.le_of_ble_eq_true rfl⟩ (Nat.le_of_ble_eq_true rfl) (dki ?_)
  refine j_if_eq C 22 dX4_turn_10 (by decide) (fun c10 => ?_) (fun c10 => ?_)
  · refine j_aload_n (i := 0) C dX4_turn_22 rfl 0 rfl ?_
    refine j_iconst (v := nI 1) C dX4_turn_23 (by decide) ?_
    refine j_callV (nargs := 1) (As := [_]) (Cn := RX4) C (0) rfl rfl rfl gw713 gw715 gw21 gw49 (kX4_fail l D ct sa _ _ _ _ _) gw716 (by decide +kernel) rfl dX4_turn_24 ⟨Nat.le_of_ble_eq_true rfl, Nat.le_of_ble_eq_true rfl⟩ ⟨Nat.le_of_ble_eq_true rfl, Nat.le_of_ble_eq_true rfl⟩ (Nat.le_of_ble_eq_true rfl) (dki ?_)
    exact j_ireturn C E rfl dX4_turn_27 (Nat.le_of_ble_eq_true rfl) (Nat.le_of_ble_eq_true rfl) (fK (by rw [f_turn]; first | rw [if_neg (fun z => absurd z.1 (b2i_f c10))] | rw [if_neg (fun z => absurd ((in_ok (M := 3) (by decide)).mpr z.2) (b2i_f c19))]))
  · refine j_iload_n (i := 2) C dX4_turn_13 rfl 2 rfl ?_
    refine j_iconst (v := nI 0) C dX4_turn_14 (by decide) ?_
    refine j_iconst (v := nI 3) C dX4_turn_15 (by decide) ?_
    refine j_callS (nargs := 3) (As := [_, _, _]) C gw710 gw711 gw49 (kX4_isIn l D ct sa _ _ _ _) gw712 (by decide +kernel) rfl dX4_turn_16 ⟨Nat.le_of_ble_eq_true rfl, Nat.le_of_ble_eq_true rfl⟩ ⟨Nat.le_of_ble_eq_true rfl, Nat.le_of_ble_eq_true rfl⟩ (Nat.le_of_ble_eq_true rfl) (dki ?_)
    refine j_if_ne C 28 dX4_turn_19 (by decide) (fun c19 => ?_) (fun c19 => ?_)
    · obtain ⟨hj_x, e_x⟩ := okI_ix (b2i_t c10) (by omega)
      have hy := (in_ok (M := 3) (by decide)).mp (b2i_t c19)
      obtain ⟨hj_y, e_y⟩ := okI_ix (hy) (by omega)
      refine j_iload_n (i := 3) C dX4_turn_28 rfl 3 rfl ?_
      refine j_iconst (v := nI 0) C dX4_turn_29 (by decide) ?_
      refine j_iconst (v := nI 5) C dX4_turn_30 (by decide) ?_
      refine j_callS (nargs := 3) (As := [_, _, _]) C gw710 gw711 gw49 (kX4_isIn l D ct sa _ _ _ _) gw712 (by decide +kernel) rfl dX4_turn_31 ⟨Nat.le_of_ble_eq_true rfl, Nat.le_of_ble_eq_true rfl⟩ ⟨Nat.le_of_ble_eq_true rfl, Nat.le_of_ble_eq_true rfl⟩ (Nat.le_of_ble_eq_true rfl) (dki ?_)
      refine j_if_ne C 43 dX4_turn_34 (by decide) (fun c34 => ?_) (fun c34 => ?_)
      · have hz := (in_ok (M := 5) (by decide)).mp (b2i_t c34)
        refine j_aload_n (i := 0) C dX4_turn_43 rfl 0 rfl ?_
        refine j_iload_n (i := 1) C dX4_turn_44 rfl 1 rfl ?_
        refine j_iconst (v := nI 4) C dX4_turn_45 (by decide) ?_
        refine j_iload_n (i := 2) C dX4_turn_46 rfl 2 rfl ?_
        refine j_iadd C dX4_turn_47 ?_
        refine j_callV (nargs := 2) (As := [_, _]) (Cn := RX4) C (0) rfl rfl rfl gw729 gw731 gw24 gw49 (kX4_lo l D ct sa a (nI 0) σ wr _ _ (ix x) (4 + ix y) e_x (by rw [e_y, nI_add]; congr 2; exact congrArg ix e_y) (by have := hi.1; omega) (by omega)) gw732 (by decide +kernel) rfl dX4_turn_48 ⟨Nat.le_of_ble_eq_true rfl, Nat.le_of_ble_eq_true rfl⟩ ⟨Nat.le_of_ble_eq_true rfl, Nat.le_of_ble_eq_true rfl⟩ (Nat.le_of_ble_eq_true rfl) (dki ?_)
        refine j_iload_n (i := 3) C dX4_turn_51 rfl 3 rfl ?_
        refine j_callS (nargs := 2) (As := [_, _]) C gw733 gw734 gw49 (kX4_far l D ct sa _ _ _) gw735 (by decide +kernel) rfl dX4_turn_52 ⟨Nat.le_of_ble_eq_true rfl, Nat.le_of_ble_eq_true rfl⟩ ⟨Nat.le_of_ble_eq_true rfl, Nat.le_of_ble_eq_true rfl⟩ (Nat.le_of_ble_eq_true rfl) (dki ?_)
        refine j_istore (lv' := [(4, .int _), (0, .ref _), (1, .int _), (2, .int _), (3, .int _)]) C dX4_turn_55 (by decide) rfl ?_
        refine j_aload_n (i := 0) C dX4_turn_57 rfl 1 rfl ?_
        refine j_iload_n (i := 1) C dX4_turn_58 rfl 2 rfl ?_
        refine j_iconst (v := nI 4) C dX4_turn_59 (by decide) ?_
        refine j_iload_n (i := 2) C dX4_turn_60 rfl 3 rfl ?_
        refine j_iadd C dX4_turn_61 ?_
        refine j_iload_n (i := 3) C dX4_turn_62 rfl 4 rfl ?_
        refine j_callV (nargs := 3) (As := [_, _, _]) (Cn := RX4) C (0) rfl rfl rfl gw717 gw719 gw22 gw49 (kX4_let l D ct sa a (nI 0) σ wr _ _ _ (ix x) (4 + ix y) e_x (by rw [e_y, nI_add]; congr 2; exact congrArg ix e_y) (by have := hi.1; omega) (by omega)) gw720 (by decide +kernel) rfl dX4_turn_63 ⟨Nat.le_of_ble_eq_true rfl, Nat.le_of_ble_eq_true rfl⟩ ⟨Nat.le_of_ble_eq_true rfl, Nat.le_of_ble_eq_true rfl⟩ (Nat.le_of_ble_eq_true rfl) (dkv ?_)
        refine j_aload_n (i := 0) C dX4_turn_66 rfl 1 rfl ?_
        refine j_dup C dX4_turn_67 rfl ?_
        refine j_get (Cn := RX4) (T := TX4) (N := 7) (ci := 5) C iX4 rfl (0) rfl 3 (by decide) gw680 rfl rfl dX4_turn_68 ?_
        refine j_iload C dX4_turn_71 0 rfl ?_
        refine j_iadd C dX4_turn_73 ?_
        refine j_put (Cn := RX4) (T := TX4) (N := 7) (ci := 5) (ws2 := WM ct a (nI 0) (uT (uR σ (upd (sR σ) (8 * ix x + (4 + ix y)) z)) (sT σ + farF (sR σ (8 * ix x + (4 + ix y))) z)) ++ wr) C iX4 tyX4 tyX4_ok nmX4 rfl (0) rfl 3 (by decide) gw680 rfl rfl rfl rfl rfl (Nat.le_of_ble_eq_true rfl) rfl dX4_turn_74 ?_
        refine j_iload C dX4_turn_77 0 rfl ?_
        exact j_ireturn C E rfl dX4_turn_79 (Nat.le_of_ble_eq_true rfl) (Nat.le_of_ble_eq_true rfl) (fK (by rw [f_turn, if_pos ⟨b2i_t c10, hy⟩, if_pos hz]))
      · refine j_aload_n (i := 0) C dX4_turn_37 rfl 0 rfl ?_
        refine j_iconst (v := nI 2) C dX4_turn_38 (by decide) ?_
        refine j_callV (nargs := 1) (As := [_]) (Cn := RX4) C (0) rfl rfl rfl gw713 gw715 gw21 gw49 (kX4_fail l D ct sa _ _ _ _ _) gw716 (by decide +kernel) rfl dX4_turn_39 ⟨Nat.le_of_ble_eq_true rfl, Nat.le_of_ble_eq_true rfl⟩ ⟨Nat.le_of_ble_eq_true rfl, Nat.le_of_ble_eq_true rfl⟩ (Nat.le_of_ble_eq_true rfl) (dki ?_)
        exact j_ireturn C E rfl dX4_turn_42 (Nat.le_of_ble_eq_true rfl) (Nat.le_of_ble_eq_true rfl) (fK (by rw [f_turn, if_pos ⟨b2i_t c10, hy⟩, if_neg (fun z => absurd ((in_ok (M := 5) (by decide)).mpr z) (b2i_f c34))]))
    · refine j_aload_n (i := 0) C dX4_turn_22 rfl 0 rfl ?_
      refine j_iconst (v := nI 1) C dX4_turn_23 (by decide) ?_
      refine j_callV (nargs := 1) (As := [_]) (Cn := RX4) C (0) rfl rfl rfl gw713 gw715 gw21 gw49 (kX4_fail l D ct sa _ _ _ _ _) gw716 (by decide +kernel) rfl dX4_turn_24 ⟨Nat.le_of_ble_eq_true rfl, Nat.le_of_ble_eq_true rfl⟩ ⟨Nat.le_of_ble_eq_true rfl, Nat.le_of_ble_eq_true rfl⟩ (Nat.le_of_ble_eq_true rfl) (dki ?_)
      exact j_ireturn C E rfl dX4_turn_27 (Nat.le_of_ble_eq_true rfl) (Nat.le_of_ble_eq_true rfl) (fK (by rw [f_turn]; first | rw [if_neg (fun z => absurd z.1 (b2i_f c10))] | rw [if_neg (fun z => absurd ((in_ok (M := 3) (by decide)).mpr z.2) (b2i_f c19))]))
set_option maxRecDepth 100000 in
set_option maxHeartbeats 4000000 in
theorem kX4_open (l : Launch) (D : va_G) (ct : Nat → ClassId) (sa : Nat → Nat) (a : Nat → Nat) (thr : Int32) (σ : St) (wr : va_W) (x : Int32) (hi : Inv0 σ) : jM l yX4_open (Cond.code yX4_open cX4_open 2 (Option.some Jvm.ClassFile.FieldType.boolean) :: GW) (rM 2 0 0 45) D ct sa [.ref (a 0), .int x] (WM ct a thr σ ++ wr) (fD ct a wr (f_open σ x)) 0 0 := by
  refine jMX.plain (jBody (own := RX4) (by decide) rfl rfl (Nat.le_of_ble_eq_true rfl) ?_)
  intro X C E T0
  refine j_lv (lv1 := [(0, .ref _), (1, .int _)]) rfl ?_
  refine j_aload_n (i := 0) C dX4_open_0 rfl 0 rfl ?_
  refine j_aload_n (i := 0) C dX4_open_1 rfl 0 rfl ?_
  refine j_iload_n (i := 1) C dX4_open_2 rfl 1 rfl ?_
  refine j_callV (nargs := 1) (As := [_]) (Cn := RX4) C (0) rfl rfl rfl gw725 gw727 gw23 gw49 (kX4_isLock l D ct sa _ _ _ _ _ hi.1) gw728 (by decide +kernel) rfl dX4_open_3 ⟨Nat.le_of_ble_eq_true rfl, Nat.le_of_ble_eq_true rfl⟩ ⟨Nat.le_of_ble_eq_true rfl, Nat.le_of_ble_eq_true rfl⟩ (Nat.le_of_ble_eq_true rfl) (dki ?_)
  refine j_if_eq C 13 dX4_open_6 (by decide) (fun c6 => ?_) (fun c6 => ?_)
  · refine j_iconst (v := nI 1) C dX4_open_13 (by decide) ?_
    refine j_put (Cn := RX4) (T := TX4) (N := 7) (ci := 5) (ws2 := WM ct a _ σ ++ wr) C iX4 tyX4 tyX4_ok nmX4 rfl (0) rfl 0 (by decide) gw677 rfl rfl rfl rfl rfl (Nat.le_of_ble_eq_true rfl) rfl dX4_open_14 ?_
    refine j_aload_n (i := 0) C dX4_open_17 rfl 0 rfl ?_
    refine j_get (Cn := RX4) (T := TX4) (N := 7) (ci := 5) C iX4 rfl (0) rfl 0 (by decide) gw677 rfl rfl dX4_open_18 ?_
    refine j_if_eq C 26 dX4_open_21 (by decide) (fun c21 => by exact absurd c21 (by decide)) (fun c21 => ?_)
    refine j_iconst (v := nI 0) C dX4_open_24 (by decide) ?_
    exact j_ireturn C E (by first | exact nr_b | rfl) dX4_open_25 (Nat.le_of_ble_eq_true rfl) (Nat.le_of_ble_eq_true rfl) (fK (by rw [f_open, if_neg (b2i_f c6)]))
  · have hl := b2i_t c6
    obtain ⟨hj_x, e_x⟩ := okI_ix (hl) (by omega)
    refine j_iconst (v := nI 0) C dX4_open_9 (by decide) ?_
    refine j_goto C 14 dX4_open_10 (by decide) ?_
    refine j_put (Cn := RX4) (T := TX4) (N := 7) (ci := 5) (ws2 := WM ct a _ σ ++ wr) C iX4 tyX4 tyX4_ok nmX4 rfl (0) rfl 0 (by decide) gw677 rfl rfl rfl rfl rfl (Nat.le_of_ble_eq_true rfl) rfl dX4_open_14 ?_
    refine j_aload_n (i := 0) C dX4_open_17 rfl 0 rfl ?_
    refine j_get (Cn := RX4) (T := TX4) (N := 7) (ci := 5) C iX4 rfl (0) rfl 0 (by decide) gw677 rfl rfl dX4_open_18 ?_
    refine j_if_eq C 26 dX4_open_21 (by decide) (fun c21 => ?_) (fun c21 => by exact absurd (by decide) c21)
    refine j_aload_n (i := 0) C dX4_open_26 rfl 0 rfl ?_
    refine j_iload_n (i := 1) C dX4_open_27 rfl 1 rfl ?_
    refine j_callV (nargs := 1) (As := [_]) (Cn := RX4) C (0) rfl rfl rfl gw742 gw744 gw25 gw49 (kX4_stands l D ct sa a (nI 0) σ wr _ (ix x) e_x (by have := hi.1; omega)) gw745 (by decide +kernel) rfl dX4_open_28 ⟨Nat.le_of_ble_eq_true rfl, Nat.le_of_ble_eq_true rfl⟩ ⟨Nat.le_of_ble_eq_true rfl, Nat.le_of_ble_eq_true rfl⟩ (Nat.le_of_ble_eq_true rfl) (dki ?_)
    refine j_aload_n (i := 0) C dX4_open_31 rfl 0 rfl ?_
    refine j_iload_n (i := 1) C dX4_open_32 rfl 1 rfl ?_
    refine j_iconst (v := nI 0) C dX4_open_33 (by decide) ?_
    refine j_callV (nargs := 2) (As := [_, _]) (Cn := RX4) C (0) rfl rfl rfl gw729 gw731 gw24 gw49 (kX4_lo l D ct sa a (nI 0) σ wr _ _ (ix x) 0 e_x rfl (by have := hi.1; omega) (by decide)) gw732 (by decide +kernel) rfl dX4_open_34 ⟨Nat.le_of_ble_eq_true rfl, Nat.le_of_ble_eq_true rfl⟩ ⟨Nat.le_of_ble_eq_true rfl, Nat.le_of_ble_eq_true rfl⟩ (Nat.le_of_ble_eq_true rfl) (dki ?_)
    refine j_icmp_ne C 47 dX4_open_37 (by decide) (fun c37 => ?_) (fun c37 => ?_)
    · refine j_aload_n (i := 0) C dX4_open_47 rfl 0 rfl ?_
      refine j_iload_n (i := 1) C dX4_open_48 rfl 1 rfl ?_
      refine j_iconst (v := nI 1) C dX4_open_49 (by decide) ?_
      refine j_callV (nargs := 2) (As := [_, _]) (Cn := RX4) C (0) rfl rfl rfl gw729 gw731 gw24 gw49 (kX4_lo l D ct sa a (nI 0) _ wr _ _ (ix x) 1 e_x rfl (by have := hi.1; omega) (by decide)) gw732 (by decide +kernel) rfl dX4_open_50 ⟨Nat.le_of_ble_eq_true rfl, Nat.le_of_ble_eq_true rfl⟩ ⟨Nat.le_of_ble_eq_true rfl, Nat.le_of_ble_eq_true rfl⟩ (Nat.le_of_ble_eq_true rfl) (dki ?_)
      refine j_iconst (v := nI 1) C dX4_open_53 (by decide) ?_
      refine j_icmp_ne C 61 dX4_open_54 (by decide) (fun c54 => ?_) (fun c54 => ?_)
      · refine j_iconst (v := nI 0) C dX4_open_61 (by decide) ?_
        exact j_ireturn C E (by first | exact nr_b | rfl) dX4_open_62 (Nat.le_of_ble_eq_true rfl) (Nat.le_of_ble_eq_true rfl) (fK (by rw [f_open, if_pos hl, opnF]; first | rw [if_pos c37, b2i_y c54] | rw [if_pos c37, b2i_n c54] | rw [if_neg c37, b2i_y c54] | rw [if_neg c37, b2i_n c54]))
      · refine j_iconst (v := nI 1) C dX4_open_57 (by decide) ?_
        refine j_goto C 62 dX4_open_58 (by decide) ?_
        exact j_ireturn C E (by first | exact nr_b | rfl) dX4_open_62 (Nat.le_of_ble_eq_true rfl) (Nat.le_of_ble_eq_true rfl) (fK (by rw [f_open, if_pos hl, opnF]; first | rw [if_pos c37, b2i_y c54] | rw [if_pos c37, b2i_n c54] | rw [if_neg c37, b2i_y c54] | rw [if_neg c37, b2i_n c54]))
    · refine j_aload_n (i := 0) C dX4_open_40 rfl 0 rfl ?_
      refine j_iload_n (i := 1) C dX4_open_41 rfl 1 rfl ?_
      refine j_iconst (v := nI 1) C dX4_open_42 (by decide) ?_
      refine j_iconst (v := nI 1) C dX4_open_43 (by decide) ?_
      refine j_callV (nargs := 3) (As := [_, _, _]) (Cn := RX4) C (0) rfl rfl rfl gw717 gw719 gw22 gw49 (kX4_let l D ct sa a (nI 0) σ wr _ _ _ (ix x) 1 e_x rfl (by have := hi.1; omega) (by decide)) gw720 (by decide +kernel) rfl dX4_open_44 ⟨Nat.le_of_ble_eq_true rfl, Nat.le_of_ble_eq_true rfl⟩ ⟨Nat.le_of_ble_eq_true rfl, Nat.le_of_ble_eq_true rfl⟩ (Nat.le_of_ble_eq_true rfl) (dkv ?_)
      refine j_aload_n (i := 0) C dX4_open_47 rfl 0 rfl ?_
      refine j_iload_n (i := 1) C dX4_open_48 rfl 1 rfl ?_
      refine j_iconst (v := nI 1) C dX4_open_49 (by decide) ?_
      refine j_callV (nargs := 2) (As := [_, _]) (Cn := RX4) C (0) rfl rfl rfl gw729 gw731 gw24 gw49 (kX4_lo l D ct sa a (nI 0) _ wr _ _ (ix x) 1 e_x rfl (by have := hi.1; omega) (by decide)) gw732 (by decide +kernel) rfl dX4_open_50 ⟨Nat.le_of_ble_eq_true rfl, Nat.le_of_ble_eq_true rfl⟩ ⟨Nat.le_of_ble_eq_true rfl, Nat.le_of_ble_eq_true rfl⟩ (Nat.le_of_ble_eq_true rfl) (dki ?_)
      refine j_iconst (v := nI 1) C dX4_open_53 (by decide) ?_
      refine j_icmp_ne C 61 dX4_open_54 (by decide) (fun c54 => ?_) (fun c54 => ?_)
      · refine j_iconst (v := nI 0) C dX4_open_61 (by decide) ?_
        exact j_ireturn C E (by first | exact nr_b | rfl) dX4_open_62 (Nat.le_of_ble_eq_true rfl) (Nat.le_of_ble_eq_true rfl) (fK (by rw [f_open, if_pos hl, opnF]; first | rw [if_pos c37, b2i_y c54] | rw [if_pos c37, b2i_n c54] | rw [if_neg c37, b2i_y c54] | rw [if_neg c37, b2i_n c54]))
      · refine j_iconst (v := nI 1) C dX4_open_57 (by decide) ?_
        refine j_goto C 62 dX4_open_58 (by decide) ?_
        exact j_ireturn C E (by first | exact nr_b | rfl) dX4_open_62 (Nat.le_of_ble_eq_true rfl) (Nat.le_of_ble_eq_true rfl) (fK (by rw [f_open, if_pos hl, opnF]; first | rw [if_pos c37, b2i_y c54] | rw [if_pos c37, b2i_n c54] | rw [if_neg c37, b2i_y c54] | rw [if_neg c37, b2i_n c54]))
set_option maxRecDepth 100000 in
set_option maxHeartbeats 4000000 in
theorem kX4_shut (l : Launch) (D : va_G) (ct : Nat → ClassId) (sa : Nat → Nat) (a : Nat → Nat) (thr : Int32) (σ : St) (wr : va_W) (x : Int32) (hi : Inv0 σ) : jM l yX4_shut (Cond.code yX4_shut cX4_shut 2 (Option.some Jvm.ClassFile.FieldType.int) :: GW) (rM 2 0 0 45) D ct sa [.ref (a 0), .int x] (WM ct a thr σ ++ wr) (fD ct a wr (f_shut σ x)) 0 0 := by
  refine jMX.plain (jBody (own := RX4) (by decide) rfl rfl (Nat.le_of_ble_eq_true rfl) ?_)
  intro X C E T0
  refine j_lv (lv1 := [(0, .ref _), (1, .int _)]) rfl ?_
  refine j_aload_n (i := 0) C dX4_shut_0 rfl 0 rfl ?_
  refine j_iconst (v := nI 0) C dX4_shut_1 (by decide) ?_
  refine j_put (Cn := RX4) (T := TX4) (N := 7) (ci := 5) (ws2 := WM ct a (nI 0) σ ++ wr) C iX4 tyX4 tyX4_ok nmX4 rfl (0) rfl 0 (by decide) gw677 rfl rfl rfl rfl rfl (Nat.le_of_ble_eq_true rfl) rfl dX4_shut_2 ?_
  refine j_aload_n (i := 0) C dX4_shut_5 rfl 0 rfl ?_
  refine j_iload_n (i := 1) C dX4_shut_6 rfl 1 rfl ?_
  refine j_callV (nargs := 1) (As := [_]) (Cn := RX4) C (0) rfl rfl rfl gw725 gw727 gw23 gw49 (kX4_isLock l D ct sa _ _ _ _ _ hi.1) gw728 (by decide +kernel) rfl dX4_shut_7 ⟨Nat.le_of_ble_eq_true rfl, Nat.le_of_ble_eq_true rfl⟩ ⟨Nat.le_of_ble_eq_true rfl, Nat.le_of_ble_eq_true rfl⟩ (Nat.le_of_ble_eq_true rfl) (dki ?_)
  refine j_if_ne C 19 dX4_shut_10 (by decide) (fun c10 => ?_) (fun c10 => ?_)
  · obtain ⟨hj_x, e_x⟩ := okI_ix (b2i_t c10) (by omega)
    refine j_aload_n (i := 0) C dX4_shut_19 rfl 0 rfl ?_
    refine j_iload_n (i := 1) C dX4_shut_20 rfl 1 rfl ?_
    refine j_iconst (v := nI 1) C dX4_shut_21 (by decide) ?_
    refine j_callV (nargs := 2) (As := [_, _]) (Cn := RX4) C (0) rfl rfl rfl gw729 gw731 gw24 gw49 (kX4_lo l D ct sa a (nI 0) σ wr _ _ (ix x) 1 e_x rfl (by have := hi.1; omega) (by decide)) gw732 (by decide +kernel) rfl dX4_shut_22 ⟨Nat.le_of_ble_eq_true rfl, Nat.le_of_ble_eq_true rfl⟩ ⟨Nat.le_of_ble_eq_true rfl, Nat.le_of_ble_eq_true rfl⟩ (Nat.le_of_ble_eq_true rfl) (dki ?_)
    refine j_if_ne C 34 dX4_shut_25 (by decide) (fun c25 => ?_) (fun c25 => ?_)
    · refine j_aload_n (i := 0) C dX4_shut_34 rfl 0 rfl ?_
      refine j_iload_n (i := 1) C dX4_shut_35 rfl 1 rfl ?_
      refine j_callV (nargs := 1) (As := [_]) (Cn := RX4) C (0) rfl rfl rfl gw750 gw752 gw26 gw49 (kX4_close l D ct sa a (nI 0) σ wr _ (ix x) e_x (by have := hi.1; omega)) gw753 (by decide +kernel) rfl dX4_shut_36 ⟨Nat.le_of_ble_eq_true rfl, Nat.le_of_ble_eq_true rfl⟩ ⟨Nat.le_of_ble_eq_true rfl, Nat.le_of_ble_eq_true rfl⟩ (Nat.le_of_ble_eq_true rfl) (dkv ?_)
      refine j_aload_n (i := 0) C dX4_shut_39 rfl 0 rfl ?_
      refine j_iload_n (i := 1) C dX4_shut_40 rfl 1 rfl ?_
      refine j_callV (nargs := 1) (As := [_]) (Cn := RX4) C (0) rfl rfl rfl gw742 gw744 gw25 gw49 (kX4_stands l D ct sa a (nI 0) _ wr _ (ix x) e_x (by have := hi.1; omega)) gw745 (by decide +kernel) rfl dX4_shut_41 ⟨Nat.le_of_ble_eq_true rfl, Nat.le_of_ble_eq_true rfl⟩ ⟨Nat.le_of_ble_eq_true rfl, Nat.le_of_ble_eq_true rfl⟩ (Nat.le_of_ble_eq_true rfl) (dki ?_)
      exact j_ireturn C E rfl dX4_shut_44 (Nat.le_of_ble_eq_true rfl) (Nat.le_of_ble_eq_true rfl) (fK (by rw [f_shut, if_pos (b2i_t c10), if_neg c25]))
    · refine j_aload_n (i := 0) C dX4_shut_28 rfl 0 rfl ?_
      refine j_iconst (v := nI 2) C dX4_shut_29 (by decide) ?_
      refine j_callV (nargs := 1) (As := [_]) (Cn := RX4) C (0) rfl rfl rfl gw713 gw715 gw21 gw49 (kX4_fail l D ct sa _ _ _ _ _) gw716 (by decide +kernel) rfl dX4_shut_30 ⟨Nat.le_of_ble_eq_true rfl, Nat.le_of_ble_eq_true rfl⟩ ⟨Nat.le_of_ble_eq_true rfl, Nat.le_of_ble_eq_true rfl⟩ (Nat.le_of_ble_eq_true rfl) (dki ?_)
      exact j_ireturn C E rfl dX4_shut_33 (Nat.le_of_ble_eq_true rfl) (Nat.le_of_ble_eq_true rfl) (fK (by rw [f_shut, if_pos (b2i_t c10), if_pos c25]))
  · refine j_aload_n (i := 0) C dX4_shut_13 rfl 0 rfl ?_
    refine j_iconst (v := nI 1) C dX4_shut_14 (by decide) ?_
    refine j_callV (nargs := 1) (As := [_]) (Cn := RX4) C (0) rfl rfl rfl gw713 gw715 gw21 gw49 (kX4_fail l D ct sa _ _ _ _ _) gw716 (by decide +kernel) rfl dX4_shut_15 ⟨Nat.le_of_ble_eq_true rfl, Nat.le_of_ble_eq_true rfl⟩ ⟨Nat.le_of_ble_eq_true rfl, Nat.le_of_ble_eq_true rfl⟩ (Nat.le_of_ble_eq_true rfl) (dki ?_)
    exact j_ireturn C E rfl dX4_shut_18 (Nat.le_of_ble_eq_true rfl) (Nat.le_of_ble_eq_true rfl) (fK (by rw [f_shut, if_neg (b2i_f c10)]))
set_option maxRecDepth 100000 in
set_option maxHeartbeats 4000000 in
theorem kX4_rename (l : Launch) (D : va_G) (ct : Nat → ClassId) (sa : Nat → Nat) (a : Nat → Nat) (thr : Int32) (σ : St) (wr : va_W) (x w : Int32) (hi : Inv0 σ) : jM l yX4_rename (Cond.code yX4_rename cX4_rename 4 (Option.some Jvm.ClassFile.FieldType.int) :: GW) (rM 2 0 0 43) D ct sa [.ref (a 0), .int x, .int w] (WM ct a thr σ ++ wr) (fD ct a wr (f_rename σ x w)) 0 0 := by
  refine jMX.plain (jBody (own := RX4) (by decide) rfl rfl (Nat.le_of_ble_eq_true rfl) ?_)
  intro X C E T0
  refine j_lv (lv1 := [(0, .ref _), (1, .int _), (2, .int _)]) rfl ?_
  refine j_aload_n (i := 0) C dX4_rename_0 rfl 0 rfl ?_
  refine j_iconst (v := nI 0) C dX4_rename_1 (by decide) ?_
  refine j_put (Cn := RX4) (T := TX4) (N := 7) (ci := 5) (ws2 := WM ct a (nI 0) σ ++ wr) C iX4 tyX4 tyX4_ok nmX4 rfl (0) rfl 0 (by decide) gw677 rfl rfl rfl rfl rfl (Nat.le_of_ble_eq_true rfl) rfl dX4_rename_2 ?_
  refine j_aload_n (i := 0) C dX4_rename_5 rfl 0 rfl ?_
  refine j_iload_n (i := 1) C dX4_rename_6 rfl 1 rfl ?_
  refine j_callV (nargs := 1) (As := [_]) (Cn := RX4) C (0) rfl rfl rfl gw725 gw727 gw23 gw49 (kX4_isLock l D ct sa _ _ _ _ _ hi.1) gw728 (by decide +kernel) rfl dX4_rename_7 ⟨Nat.le_of_ble_eq_true rfl, Nat.le_of_ble_eq_true rfl⟩ ⟨Nat.le_of_ble_eq_true rfl, Nat.le_of_ble_eq_true rfl⟩ (Nat.le_of_ble_eq_true rfl) (dki ?_)
  refine j_if_ne C 19 dX4_rename_10 (by decide) (fun c10 => ?_) (fun c10 => ?_)
  · obtain ⟨hj_x, e_x⟩ := okI_ix (b2i_t c10) (by omega)
    refine j_iload_n (i := 2) C dX4_rename_19 rfl 2 rfl ?_
    refine j_callS (nargs := 1) (As := [_]) C gw707 gw708 gw49 (kX4_isWord l D ct sa _ _) gw709 (by decide +kernel) rfl dX4_rename_20 ⟨Nat.le_of_ble_eq_true rfl, Nat.le_of_ble_eq_true rfl⟩ ⟨Nat.le_of_ble_eq_true rfl, Nat.le_of_ble_eq_true rfl⟩ (Nat.le_of_ble_eq_true rfl) (dki ?_)
    refine j_if_ne C 32 dX4_rename_23 (by decide) (fun c23 => ?_) (fun c23 => ?_)
    · refine j_aload_n (i := 0) C dX4_rename_32 rfl 0 rfl ?_
      refine j_iload_n (i := 1) C dX4_rename_33 rfl 1 rfl ?_
      refine j_iconst (v := nI 1) C dX4_rename_34 (by decide) ?_
      refine j_callV (nargs := 2) (As := [_, _]) (Cn := RX4) C (0) rfl rfl rfl gw729 gw731 gw24 gw49 (kX4_lo l D ct sa a (nI 0) σ wr _ _ (ix x) 1 e_x rfl (by have := hi.1; omega) (by decide)) gw732 (by decide +kernel) rfl dX4_rename_35 ⟨Nat.le_of_ble_eq_true rfl, Nat.le_of_ble_eq_true rfl⟩ ⟨Nat.le_of_ble_eq_true rfl, Nat.le_of_ble_eq_true rfl⟩ (Nat.le_of_ble_eq_true rfl) (dki ?_)
      refine j_if_ne C 47 dX4_rename_38 (by decide) (fun c38 => ?_) (fun c38 => ?_)
      · refine j_aload_n (i := 0) C dX4_rename_47 rfl 0 rfl ?_
        refine j_iload_n (i := 1) C dX4_rename_48 rfl 1 rfl ?_
        refine j_iconst (v := nI 0) C dX4_rename_49 (by decide) ?_
        refine j_callV (nargs := 2) (As := [_, _]) (Cn := RX4) C (0) rfl rfl rfl gw729 gw731 gw24 gw49 (kX4_lo l D ct sa a (nI 0) σ wr _ _ (ix x) 0 e_x rfl (by have := hi.1; omega) (by decide)) gw732 (by decide +kernel) rfl dX4_rename_50 ⟨Nat.le_of_ble_eq_true rfl, Nat.le_of_ble_eq_true rfl⟩ ⟨Nat.le_of_ble_eq_true rfl, Nat.le_of_ble_eq_true rfl⟩ (Nat.le_of_ble_eq_true rfl) (dki ?_)
        refine j_istore_n (lv' := [(3, .int _), (0, .ref _), (1, .int _), (2, .int _)]) C dX4_rename_53 rfl (by decide) rfl ?_
        refine j_aload_n (i := 0) C dX4_rename_54 rfl 1 rfl ?_
        refine j_iload_n (i := 1) C dX4_rename_55 rfl 2 rfl ?_
        refine j_iconst (v := nI 0) C dX4_rename_56 (by decide) ?_
        refine j_iload_n (i := 2) C dX4_rename_57 rfl 3 rfl ?_
        refine j_callV (nargs := 3) (As := [_, _, _]) (Cn := RX4) C (0) rfl rfl rfl gw717 gw719 gw22 gw49 (kX4_let l D ct sa a (nI 0) σ wr _ _ _ (ix x) 0 e_x rfl (by have := hi.1; omega) (by decide)) gw720 (by decide +kernel) rfl dX4_rename_58 ⟨Nat.le_of_ble_eq_true rfl, Nat.le_of_ble_eq_true rfl⟩ ⟨Nat.le_of_ble_eq_true rfl, Nat.le_of_ble_eq_true rfl⟩ (Nat.le_of_ble_eq_true rfl) (dkv ?_)
        refine j_aload_n (i := 0) C dX4_rename_61 rfl 1 rfl ?_
        refine j_iload_n (i := 1) C dX4_rename_62 rfl 2 rfl ?_
        refine j_iconst (v := nI 3) C dX4_rename_63 (by decide) ?_
        refine j_iconst (v := nI 0) C dX4_rename_64 (by decide) ?_
        refine j_callV (nargs := 3) (As := [_, _, _]) (Cn := RX4) C (0) rfl rfl rfl gw717 gw719 gw22 gw49 (kX4_let l D ct sa a (nI 0) _ wr _ _ _ (ix x) 3 e_x rfl (by have := hi.1; omega) (by decide)) gw720 (by decide +kernel) rfl dX4_rename_65 ⟨Nat.le_of_ble_eq_true rfl, Nat.le_of_ble_eq_true rfl⟩ ⟨Nat.le_of_ble_eq_true rfl, Nat.le_of_ble_eq_true rfl⟩ (Nat.le_of_ble_eq_true rfl) (dkv ?_)
        refine j_iload_n (i := 3) C dX4_rename_68 rfl 0 rfl ?_
        exact j_ireturn C E rfl dX4_rename_69 (Nat.le_of_ble_eq_true rfl) (Nat.le_of_ble_eq_true rfl) (fK (by rw [f_rename, if_pos (b2i_t c10), if_pos (b2i_t c23), if_neg c38]))
      · refine j_aload_n (i := 0) C dX4_rename_41 rfl 0 rfl ?_
        refine j_iconst (v := nI 3) C dX4_rename_42 (by decide) ?_
        refine j_callV (nargs := 1) (As := [_]) (Cn := RX4) C (0) rfl rfl rfl gw713 gw715 gw21 gw49 (kX4_fail l D ct sa _ _ _ _ _) gw716 (by decide +kernel) rfl dX4_rename_43 ⟨Nat.le_of_ble_eq_true rfl, Nat.le_of_ble_eq_true rfl⟩ ⟨Nat.le_of_ble_eq_true rfl, Nat.le_of_ble_eq_true rfl⟩ (Nat.le_of_ble_eq_true rfl) (dki ?_)
        exact j_ireturn C E rfl dX4_rename_46 (Nat.le_of_ble_eq_true rfl) (Nat.le_of_ble_eq_true rfl) (fK (by rw [f_rename, if_pos (b2i_t c10), if_pos (b2i_t c23), if_pos c38]))
    · refine j_aload_n (i := 0) C dX4_rename_26 rfl 0 rfl ?_
      refine j_iconst (v := nI 2) C dX4_rename_27 (by decide) ?_
      refine j_callV (nargs := 1) (As := [_]) (Cn := RX4) C (0) rfl rfl rfl gw713 gw715 gw21 gw49 (kX4_fail l D ct sa _ _ _ _ _) gw716 (by decide +kernel) rfl dX4_rename_28 ⟨Nat.le_of_ble_eq_true rfl, Nat.le_of_ble_eq_true rfl⟩ ⟨Nat.le_of_ble_eq_true rfl, Nat.le_of_ble_eq_true rfl⟩ (Nat.le_of_ble_eq_true rfl) (dki ?_)
      exact j_ireturn C E rfl dX4_rename_31 (Nat.le_of_ble_eq_true rfl) (Nat.le_of_ble_eq_true rfl) (fK (by rw [f_rename, if_pos (b2i_t c10), if_neg (b2i_f c23)]))
  · refine j_aload_n (i := 0) C dX4_rename_13 rfl 0 rfl ?_
    refine j_iconst (v := nI 1) C dX4_rename_14 (by decide) ?_
    refine j_callV (nargs := 1) (As := [_]) (Cn := RX4) C (0) rfl rfl rfl gw713 gw715 gw21 gw49 (kX4_fail l D ct sa _ _ _ _ _) gw716 (by decide +kernel) rfl dX4_rename_15 ⟨Nat.le_of_ble_eq_true rfl, Nat.le_of_ble_eq_true rfl⟩ ⟨Nat.le_of_ble_eq_true rfl, Nat.le_of_ble_eq_true rfl⟩ (Nat.le_of_ble_eq_true rfl) (dki ?_)
    exact j_ireturn C E rfl dX4_rename_18 (Nat.le_of_ble_eq_true rfl) (Nat.le_of_ble_eq_true rfl) (fK (by rw [f_rename, if_neg (b2i_f c10)]))
set_option maxRecDepth 100000 in
set_option maxHeartbeats 4000000 in
theorem kX4_lose (l : Launch) (D : va_G) (ct : Nat → ClassId) (sa : Nat → Nat) (a : Nat → Nat) (thr : Int32) (σ : St) (wr : va_W) (x b : Int32) (hi : Inv0 σ) : jM l yX4_lose (Cond.code yX4_lose cX4_lose 4 (Option.some Jvm.ClassFile.FieldType.boolean) :: GW) (rM 2 0 0 43) D ct sa [.ref (a 0), .int x, .int b] (WM ct a thr σ ++ wr) (fD ct a wr (f_lose σ x b)) 0 0 := by
  refine jMX.plain (jBody (own := RX4) (by decide) rfl rfl (Nat.le_of_ble_eq_true rfl) ?_)
  intro X C E T0
  refine j_lv (lv1 := [(0, .ref _), (1, .int _), (2, .int _)]) rfl ?_
  refine j_aload_n (i := 0) C dX4_lose_0 rfl 0 rfl ?_
  refine j_aload_n (i := 0) C dX4_lose_1 rfl 0 rfl ?_
  refine j_iload_n (i := 1) C dX4_lose_2 rfl 1 rfl ?_
  refine j_callV (nargs := 1) (As := [_]) (Cn := RX4) C (0) rfl rfl rfl gw725 gw727 gw23 gw49 (kX4_isLock l D ct sa _ _ _ _ _ hi.1) gw728 (by decide +kernel) rfl dX4_lose_3 ⟨Nat.le_of_ble_eq_true rfl, Nat.le_of_ble_eq_true rfl⟩ ⟨Nat.le_of_ble_eq_true rfl, Nat.le_of_ble_eq_true rfl⟩ (Nat.le_of_ble_eq_true rfl) (dki ?_)
  refine j_if_eq C 13 dX4_lose_6 (by decide) (fun c6 => ?_) (fun c6 => ?_)
  · refine j_iconst (v := nI 1) C dX4_lose_13 (by decide) ?_
    refine j_put (Cn := RX4) (T := TX4) (N := 7) (ci := 5) (ws2 := WM ct a _ σ ++ wr) C iX4 tyX4 tyX4_ok nmX4 rfl (0) rfl 0 (by decide) gw677 rfl rfl rfl rfl rfl (Nat.le_of_ble_eq_true rfl) rfl dX4_lose_14 ?_
    refine j_aload_n (i := 0) C dX4_lose_17 rfl 0 rfl ?_
    refine j_get (Cn := RX4) (T := TX4) (N := 7) (ci := 5) C iX4 rfl (0) rfl 0 (by decide) gw677 rfl rfl dX4_lose_18 ?_
    refine j_if_eq C 26 dX4_lose_21 (by decide) (fun c21 => by exact absurd c21 (by decide)) (fun c21 => ?_)
    refine j_iconst (v := nI 0) C dX4_lose_24 (by decide) ?_
    exact j_ireturn C E (by first | exact nr_b | rfl) dX4_lose_25 (Nat.le_of_ble_eq_true rfl) (Nat.le_of_ble_eq_true rfl) (fK (by rw [f_lose, if_neg (b2i_f c6)]))
  · have hl := b2i_t c6
    obtain ⟨hj_x, e_x⟩ := okI_ix (hl) (by omega)
    refine j_iconst (v := nI 0) C dX4_lose_9 (by decide) ?_
    refine j_goto C 14 dX4_lose_10 (by decide) ?_
    refine j_put (Cn := RX4) (T := TX4) (N := 7) (ci := 5) (ws2 := WM ct a _ σ ++ wr) C iX4 tyX4 tyX4_ok nmX4 rfl (0) rfl 0 (by decide) gw677 rfl rfl rfl rfl rfl (Nat.le_of_ble_eq_true rfl) rfl dX4_lose_14 ?_
    refine j_aload_n (i := 0) C dX4_lose_17 rfl 0 rfl ?_
    refine j_get (Cn := RX4) (T := TX4) (N := 7) (ci := 5) C iX4 rfl (0) rfl 0 (by decide) gw677 rfl rfl dX4_lose_18 ?_
    refine j_if_eq C 26 dX4_lose_21 (by decide) (fun c21 => ?_) (fun c21 => by exact absurd (by decide) c21)
    refine j_aload_n (i := 0) C dX4_lose_26 rfl 0 rfl ?_
    refine j_iload_n (i := 1) C dX4_lose_27 rfl 1 rfl ?_
    refine j_iconst (v := nI 3) C dX4_lose_28 (by decide) ?_
    refine j_callV (nargs := 2) (As := [_, _]) (Cn := RX4) C (0) rfl rfl rfl gw729 gw731 gw24 gw49 (kX4_lo l D ct sa a (nI 0) σ wr _ _ (ix x) 3 e_x rfl (by have := hi.1; omega) (by decide)) gw732 (by decide +kernel) rfl dX4_lose_29 ⟨Nat.le_of_ble_eq_true rfl, Nat.le_of_ble_eq_true rfl⟩ ⟨Nat.le_of_ble_eq_true rfl, Nat.le_of_ble_eq_true rfl⟩ (Nat.le_of_ble_eq_true rfl) (dki ?_)
    refine j_iconst (v := nI 1) C dX4_lose_32 (by decide) ?_
    refine j_icmp_ne C 40 dX4_lose_33 (by decide) (fun c33 => ?_) (fun c33 => ?_)
    · refine j_iconst (v := nI 0) C dX4_lose_40 (by decide) ?_
      refine j_istore_n (lv' := [(3, .int _), (0, .ref _), (1, .int _), (2, .int _)]) C dX4_lose_41 rfl (by decide) rfl ?_
      refine j_aload_n (i := 0) C dX4_lose_42 rfl 1 rfl ?_
      refine j_iload_n (i := 1) C dX4_lose_43 rfl 2 rfl ?_
      refine j_iconst (v := nI 3) C dX4_lose_44 (by decide) ?_
      refine j_iload_n (i := 2) C dX4_lose_45 rfl 3 rfl ?_
      refine j_if_eq C 53 dX4_lose_46 (by decide) (fun c46 => ?_) (fun c46 => ?_)
      · refine j_iconst (v := nI 0) C dX4_lose_53 (by decide) ?_
        refine j_callV (nargs := 3) (As := [_, _, _]) (Cn := RX4) C (0) rfl rfl rfl gw717 gw719 gw22 gw49 (kX4_let l D ct sa a (nI 0) σ wr _ _ _ (ix x) 3 e_x rfl (by have := hi.1; omega) (by decide)) gw720 (by decide +kernel) rfl dX4_lose_54 ⟨Nat.le_of_ble_eq_true rfl, Nat.le_of_ble_eq_true rfl⟩ ⟨Nat.le_of_ble_eq_true rfl, Nat.le_of_ble_eq_true rfl⟩ (Nat.le_of_ble_eq_true rfl) (dkv ?_)
        refine j_iload_n (i := 3) C dX4_lose_57 rfl 0 rfl ?_
        exact j_ireturn C E (by first | exact nr_b | rfl) dX4_lose_58 (Nat.le_of_ble_eq_true rfl) (Nat.le_of_ble_eq_true rfl) (fK (by rw [f_lose, if_pos hl]; first | rw [b2i_y c33, b2i_y c46] | rw [b2i_y c33, b2i_n (fun z => z c46)] | rw [b2i_n c33, b2i_y c46] | rw [b2i_n c33, b2i_n (fun z => z c46)]))
      · refine j_iconst (v := nI 1) C dX4_lose_49 (by decide) ?_
        refine j_goto C 54 dX4_lose_50 (by decide) ?_
        refine j_callV (nargs := 3) (As := [_, _, _]) (Cn := RX4) C (0) rfl rfl rfl gw717 gw719 gw22 gw49 (kX4_let l D ct sa a (nI 0) σ wr _ _ _ (ix x) 3 e_x rfl (by have := hi.1; omega) (by decide)) gw720 (by decide +kernel) rfl dX4_lose_54 ⟨Nat.le_of_ble_eq_true rfl, Nat.le_of_ble_eq_true rfl⟩ ⟨Nat.le_of_ble_eq_true rfl, Nat.le_of_ble_eq_true rfl⟩ (Nat.le_of_ble_eq_true rfl) (dkv ?_)
        refine j_iload_n (i := 3) C dX4_lose_57 rfl 0 rfl ?_
        exact j_ireturn C E (by first | exact nr_b | rfl) dX4_lose_58 (Nat.le_of_ble_eq_true rfl) (Nat.le_of_ble_eq_true rfl) (fK (by rw [f_lose, if_pos hl]; first | rw [b2i_y c33, b2i_y c46] | rw [b2i_y c33, b2i_n (fun z => z c46)] | rw [b2i_n c33, b2i_y c46] | rw [b2i_n c33, b2i_n (fun z => z c46)]))
    · refine j_iconst (v := nI 1) C dX4_lose_36 (by decide) ?_
      refine j_goto C 41 dX4_lose_37 (by decide) ?_
      refine j_istore_n (lv' := [(3, .int _), (0, .ref _), (1, .int _), (2, .int _)]) C dX4_lose_41 rfl (by decide) rfl ?_
      refine j_aload_n (i := 0) C dX4_lose_42 rfl 1 rfl ?_
      refine j_iload_n (i := 1) C dX4_lose_43 rfl 2 rfl ?_
      refine j_iconst (v := nI 3) C dX4_lose_44 (by decide) ?_
      refine j_iload_n (i := 2) C dX4_lose_45 rfl 3 rfl ?_
      refine j_if_eq C 53 dX4_lose_46 (by decide) (fun c46 => ?_) (fun c46 => ?_)
      · refine j_iconst (v := nI 0) C dX4_lose_53 (by decide) ?_
        refine j_callV (nargs := 3) (As := [_, _, _]) (Cn := RX4) C (0) rfl rfl rfl gw717 gw719 gw22 gw49 (kX4_let l D ct sa a (nI 0) σ wr _ _ _ (ix x) 3 e_x rfl (by have := hi.1; omega) (by decide)) gw720 (by decide +kernel) rfl dX4_lose_54 ⟨Nat.le_of_ble_eq_true rfl, Nat.le_of_ble_eq_true rfl⟩ ⟨Nat.le_of_ble_eq_true rfl, Nat.le_of_ble_eq_true rfl⟩ (Nat.le_of_ble_eq_true rfl) (dkv ?_)
        refine j_iload_n (i := 3) C dX4_lose_57 rfl 0 rfl ?_
        exact j_ireturn C E (by first | exact nr_b | rfl) dX4_lose_58 (Nat.le_of_ble_eq_true rfl) (Nat.le_of_ble_eq_true rfl) (fK (by rw [f_lose, if_pos hl]; first | rw [b2i_y c33, b2i_y c46] | rw [b2i_y c33, b2i_n (fun z => z c46)] | rw [b2i_n c33, b2i_y c46] | rw [b2i_n c33, b2i_n (fun z => z c46)]))
      · refine j_iconst (v := nI 1) C dX4_lose_49 (by decide) ?_
        refine j_goto C 54 dX4_lose_50 (by decide) ?_
        refine j_callV (nargs := 3) (As := [_, _, _]) (Cn := RX4) C (0) rfl rfl rfl gw717 gw719 gw22 gw49 (kX4_let l D ct sa a (nI 0) σ wr _ _ _ (ix x) 3 e_x rfl (by have := hi.1; omega) (by decide)) gw720 (by decide +kernel) rfl dX4_lose_54 ⟨Nat.le_of_ble_eq_true rfl, Nat.le_of_ble_eq_true rfl⟩ ⟨Nat.le_of_ble_eq_true rfl, Nat.le_of_ble_eq_true rfl⟩ (Nat.le_of_ble_eq_true rfl) (dkv ?_)
        refine j_iload_n (i := 3) C dX4_lose_57 rfl 0 rfl ?_
        exact j_ireturn C E (by first | exact nr_b | rfl) dX4_lose_58 (Nat.le_of_ble_eq_true rfl) (Nat.le_of_ble_eq_true rfl) (fK (by rw [f_lose, if_pos hl]; first | rw [b2i_y c33, b2i_y c46] | rw [b2i_y c33, b2i_n (fun z => z c46)] | rw [b2i_n c33, b2i_y c46] | rw [b2i_n c33, b2i_n (fun z => z c46)]))
set_option maxRecDepth 100000 in
set_option maxHeartbeats 4000000 in
theorem kX4_isOpen (l : Launch) (D : va_G) (ct : Nat → ClassId) (sa : Nat → Nat) (a : Nat → Nat) (thr : Int32) (σ : St) (wr : va_W) (x : Int32) (r : Nat) (hx : x = nI r) (hr : r < 3) : jM l yX4_isOpen (Cond.code yX4_isOpen cX4_isOpen 5 (Option.some Jvm.ClassFile.FieldType.boolean) :: GW) (rM 1 0 0 22) D ct sa [.ref (a 0), .int x] (WM ct a thr σ ++ wr) (dK (some (.int (b2i (opR σ (sH σ) r)))) (WM ct a thr σ ++ wr)) 0 0 := by
  refine jMX.plain (jBody (own := RX4) (by decide) rfl rfl (Nat.le_of_ble_eq_true rfl) ?_)
  intro X C E T0
  refine j_lv (lv1 := [(0, .ref _), (1, .int _)]) rfl ?_
  refine j_aload_n (i := 0) C dX4_isOpen_0 rfl 0 rfl ?_
  refine j_get (Cn := RX4) (T := TX4) (N := 7) (ci := 5) C iX4 rfl (0) rfl 2 (by decide) gw679 rfl rfl dX4_isOpen_1 ?_
  refine j_bipush (v := nI 24) C dX4_isOpen_4 (by decide) ?_
  refine j_irem C dX4_isOpen_6 (by decide) ?_
  refine j_istore_n (lv' := [(2, .int _), (0, .ref _), (1, .int _)]) C dX4_isOpen_7 rfl (by decide) rfl ?_
  refine j_aload_n (i := 0) C dX4_isOpen_8 rfl 1 rfl ?_
  refine j_iload_n (i := 1) C dX4_isOpen_9 rfl 2 rfl ?_
  refine j_iconst (v := nI 1) C dX4_isOpen_10 (by decide) ?_
  refine j_callV (nargs := 2) (As := [_, _]) (Cn := RX4) C (0) rfl rfl rfl gw773 gw775 gw28 gw49 (kX4_ra l D ct sa a thr σ wr _ _ r 1 hx rfl hr (by decide)) gw776 (by decide +kernel) rfl dX4_isOpen_11 ⟨Nat.le_of_ble_eq_true rfl, Nat.le_of_ble_eq_true rfl⟩ ⟨Nat.le_of_ble_eq_true rfl, Nat.le_of_ble_eq_true rfl⟩ (Nat.le_of_ble_eq_true rfl) (dki ?_)
  refine j_istore_n (lv' := [(3, .int _), (2, .int _), (0, .ref _), (1, .int _)]) C dX4_isOpen_14 rfl (by decide) rfl ?_
  refine j_aload_n (i := 0) C dX4_isOpen_15 rfl 2 rfl ?_
  refine j_iload_n (i := 1) C dX4_isOpen_16 rfl 3 rfl ?_
  refine j_iconst (v := nI 2) C dX4_isOpen_17 (by decide) ?_
  refine j_callV (nargs := 2) (As := [_, _]) (Cn := RX4) C (0) rfl rfl rfl gw773 gw775 gw28 gw49 (kX4_ra l D ct sa a thr σ wr _ _ r 2 hx rfl hr (by decide)) gw776 (by decide +kernel) rfl dX4_isOpen_18 ⟨Nat.le_of_ble_eq_true rfl, Nat.le_of_ble_eq_true rfl⟩ ⟨Nat.le_of_ble_eq_true rfl, Nat.le_of_ble_eq_true rfl⟩ (Nat.le_of_ble_eq_true rfl) (dki ?_)
  refine j_istore (lv' := [(4, .int _), (3, .int _), (2, .int _), (0, .ref _), (1, .int _)]) C dX4_isOpen_21 (by decide) rfl ?_
  refine j_iload_n (i := 3) C dX4_isOpen_23 rfl 1 rfl ?_
  refine j_iload C dX4_isOpen_24 0 rfl ?_
  refine j_icmp_ge C 48 dX4_isOpen_26 (by decide) (fun c26 => ?_) (fun c26 => ?_)
  · refine j_iload_n (i := 3) C dX4_isOpen_48 rfl 1 rfl ?_
    refine j_iload C dX4_isOpen_49 0 rfl ?_
    refine j_icmp_le C 69 dX4_isOpen_51 (by decide) (fun c51 => ?_) (fun c51 => ?_)
    · refine j_iconst (v := nI 0) C dX4_isOpen_69 (by decide) ?_
      exact j_ireturn C E (by first | exact nr_b | rfl) dX4_isOpen_70 (Nat.le_of_ble_eq_true rfl) (Nat.le_of_ble_eq_true rfl) (⟨congrArg (fun z => some (Value.int z)) (by first | exact (b2i_y (by simp only [opR, opP, irm, Int32.lt_iff_toInt_lt, Int32.le_iff_toInt_le] at *; omega)).symm | exact (b2i_n (by simp only [opR, opP, irm, Int32.lt_iff_toInt_lt, Int32.le_iff_toInt_le] at *; omega)).symm), rfl⟩)
    · refine j_iload_n (i := 2) C dX4_isOpen_54 rfl 2 rfl ?_
      refine j_iload_n (i := 3) C dX4_isOpen_55 rfl 1 rfl ?_
      refine j_icmp_ge C 65 dX4_isOpen_56 (by decide) (fun c56 => ?_) (fun c56 => ?_)
      · refine j_iconst (v := nI 1) C dX4_isOpen_65 (by decide) ?_
        refine j_goto C 70 dX4_isOpen_66 (by decide) ?_
        exact j_ireturn C E (by first | exact nr_b | rfl) dX4_isOpen_70 (Nat.le_of_ble_eq_true rfl) (Nat.le_of_ble_eq_true rfl) (⟨congrArg (fun z => some (Value.int z)) (by first | exact (b2i_y (by simp only [opR, opP, irm, Int32.lt_iff_toInt_lt, Int32.le_iff_toInt_le] at *; omega)).symm | exact (b2i_n (by simp only [opR, opP, irm, Int32.lt_iff_toInt_lt, Int32.le_iff_toInt_le] at *; omega)).symm), rfl⟩)
      · refine j_iload_n (i := 2) C dX4_isOpen_59 rfl 2 rfl ?_
        refine j_iload C dX4_isOpen_60 0 rfl ?_
        refine j_icmp_ge C 69 dX4_isOpen_62 (by decide) (fun c62 => ?_) (fun c62 => ?_)
        · refine j_iconst (v := nI 0) C dX4_isOpen_69 (by decide) ?_
          exact j_ireturn C E (by first | exact nr_b | rfl) dX4_isOpen_70 (Nat.le_of_ble_eq_true rfl) (Nat.le_of_ble_eq_true rfl) (⟨congrArg (fun z => some (Value.int z)) (by first | exact (b2i_y (by simp only [opR, opP, irm, Int32.lt_iff_toInt_lt, Int32.le_iff_toInt_le] at *; omega)).symm | exact (b2i_n (by simp only [opR, opP, irm, Int32.lt_iff_toInt_lt, Int32.le_iff_toInt_le] at *; omega)).symm), rfl⟩)
        · refine j_iconst (v := nI 1) C dX4_isOpen_65 (by decide) ?_
          refine j_goto C 70 dX4_isOpen_66 (by decide) ?_
          exact j_ireturn C E (by first | exact nr_b | rfl) dX4_isOpen_70 (Nat.le_of_ble_eq_true rfl) (Nat.le_of_ble_eq_true rfl) (⟨congrArg (fun z => some (Value.int z)) (by first | exact (b2i_y (by simp only [opR, opP, irm, Int32.lt_iff_toInt_lt, Int32.le_iff_toInt_le] at *; omega)).symm | exact (b2i_n (by simp only [opR, opP, irm, Int32.lt_iff_toInt_lt, Int32.le_iff_toInt_le] at *; omega)).symm), rfl⟩)
  · refine j_iload_n (i := 2) C dX4_isOpen_29 rfl 2 rfl ?_
    refine j_iload_n (i := 3) C dX4_isOpen_30 rfl 1 rfl ?_
    refine j_icmp_lt C 44 dX4_isOpen_31 (by decide) (fun c31 => ?_) (fun c31 => ?_)
    · refine j_iconst (v := nI 0) C dX4_isOpen_44 (by decide) ?_
      refine j_goto C 70 dX4_isOpen_45 (by decide) ?_
      exact j_ireturn C E (by first | exact nr_b | rfl) dX4_isOpen_70 (Nat.le_of_ble_eq_true rfl) (Nat.le_of_ble_eq_true rfl) (⟨congrArg (fun z => some (Value.int z)) (by first | exact (b2i_y (by simp only [opR, opP, irm, Int32.lt_iff_toInt_lt, Int32.le_iff_toInt_le] at *; omega)).symm | exact (b2i_n (by simp only [opR, opP, irm, Int32.lt_iff_toInt_lt, Int32.le_iff_toInt_le] at *; omega)).symm), rfl⟩)
    · refine j_iload_n (i := 2) C dX4_isOpen_34 rfl 2 rfl ?_
      refine j_iload C dX4_isOpen_35 0 rfl ?_
      refine j_icmp_ge C 44 dX4_isOpen_37 (by decide) (fun c37 => ?_) (fun c37 => ?_)
      · refine j_iconst (v := nI 0) C dX4_isOpen_44 (by decide) ?_
        refine j_goto C 70 dX4_isOpen_45 (by decide) ?_
        exact j_ireturn C E (by first | exact nr_b | rfl) dX4_isOpen_70 (Nat.le_of_ble_eq_true rfl) (Nat.le_of_ble_eq_true rfl) (⟨congrArg (fun z => some (Value.int z)) (by first | exact (b2i_y (by simp only [opR, opP, irm, Int32.lt_iff_toInt_lt, Int32.le_iff_toInt_le] at *; omega)).symm | exact (b2i_n (by simp only [opR, opP, irm, Int32.lt_iff_toInt_lt, Int32.le_iff_toInt_le] at *; omega)).symm), rfl⟩)
      · refine j_iconst (v := nI 1) C dX4_isOpen_40 (by decide) ?_
        refine j_goto C 70 dX4_isOpen_41 (by decide) ?_
        exact j_ireturn C E (by first | exact nr_b | rfl) dX4_isOpen_70 (Nat.le_of_ble_eq_true rfl) (Nat.le_of_ble_eq_true rfl) (⟨congrArg (fun z => some (Value.int z)) (by first | exact (b2i_y (by simp only [opR, opP, irm, Int32.lt_iff_toInt_lt, Int32.le_iff_toInt_le] at *; omega)).symm | exact (b2i_n (by simp only [opR, opP, irm, Int32.lt_iff_toInt_lt, Int32.le_iff_toInt_le] at *; omega)).symm), rfl⟩)
set_option maxRecDepth 100000 in
set_option maxHeartbeats 4000000 in
theorem kX4_setPlaces (l : Launch) (D : va_G) (ct : Nat → ClassId) (sa : Nat → Nat) (a : Nat → Nat) (thr : Int32) (σ : St) (wr : va_W) (x y : Int32) (hi : Inv0 σ) : jM l yX4_setPlaces (Cond.code yX4_setPlaces cX4_setPlaces 4 (Option.some Jvm.ClassFile.FieldType.int) :: GW) (rM 2 0 0 45) D ct sa [.ref (a 0), .int x, .int y] (WM ct a thr σ ++ wr) (fD ct a wr (f_setPlaces σ x y)) 0 0 := by
  refine jMX.plain (jBody (own := RX4) (by decide) rfl rfl (Nat.le_of_ble_eq_true rfl) ?_)
  intro X C E T0
  refine j_lv (lv1 := [(0, .ref _), (1, .int _), (2, .int _)]) rfl ?_
  refine j_aload_n (i := 0) C dX4_setPlaces_0 rfl 0 rfl ?_
  refine j_iconst (v := nI 0) C dX4_setPlaces_1 (by decide) ?_
  refine j_put (Cn := RX4) (T := TX4) (N := 7) (ci := 5) (ws2 := WM ct a (nI 0) σ ++ wr) C iX4 tyX4 tyX4_ok nmX4 rfl (0) rfl 0 (by decide) gw677 rfl rfl rfl rfl rfl (Nat.le_of_ble_eq_true rfl) rfl dX4_setPlaces_2 ?_
  refine j_iload_n (i := 1) C dX4_setPlaces_5 rfl 1 rfl ?_
  refine j_callS (nargs := 1) (As := [_]) C gw766 gw767 gw49 (kX4_isRack l D ct sa _ _) gw768 (by decide +kernel) rfl dX4_setPlaces_6 ⟨Nat.le_of_ble_eq_true rfl, Nat.le_of_ble_eq_true rfl⟩ ⟨Nat.le_of_ble_eq_true rfl, Nat.le_of_ble_eq_true rfl⟩ (Nat.le_of_ble_eq_true rfl) (dki ?_)
  refine j_if_ne C 18 dX4_setPlaces_9 (by decide) (fun c9 => ?_) (fun c9 => ?_)
  · refine j_iload_n (i := 2) C dX4_setPlaces_18 rfl 2 rfl ?_
    refine j_iconst (v := nI 1) C dX4_setPlaces_19 (by decide) ?_
    refine j_bipush (v := nI 6) C dX4_setPlaces_20 (by decide) ?_
    refine j_callS (nargs := 3) (As := [_, _, _]) C gw710 gw711 gw49 (kX4_isIn l D ct sa _ _ _ _) gw712 (by decide +kernel) rfl dX4_setPlaces_22 ⟨Nat.le_of_ble_eq_true rfl, Nat.le_of_ble_eq_true rfl⟩ ⟨Nat.le_of_ble_eq_true rfl, Nat.le_of_ble_eq_true rfl⟩ (Nat.le_of_ble_eq_true rfl) (dki ?_)
    refine j_if_ne C 34 dX4_setPlaces_25 (by decide) (fun c25 => ?_) (fun c25 => ?_)
    · refine j_aload_n (i := 0) C dX4_setPlaces_34 rfl 0 rfl ?_
      refine j_iload_n (i := 1) C dX4_setPlaces_35 rfl 1 rfl ?_
      refine j_callV (nargs := 1) (As := [_]) (Cn := RX4) C (0) rfl rfl rfl gw769 gw771 gw27 gw49 (kX4_in l D ct sa _ _ _ _ _ hi.1) gw772 (by decide +kernel) rfl dX4_setPlaces_36 ⟨Nat.le_of_ble_eq_true rfl, Nat.le_of_ble_eq_true rfl⟩ ⟨Nat.le_of_ble_eq_true rfl, Nat.le_of_ble_eq_true rfl⟩ (Nat.le_of_ble_eq_true rfl) (dki ?_)
      refine j_iload_n (i := 2) C dX4_setPlaces_39 rfl 2 rfl ?_
      refine j_icmp_le C 49 dX4_setPlaces_40 (by decide) (fun c40 => ?_) (fun c40 => ?_)
      · obtain ⟨hj_x, e_x⟩ := okI_ix (b2i_t c9) (by omega)
        refine j_aload_n (i := 0) C dX4_setPlaces_49 rfl 0 rfl ?_
        refine j_iload_n (i := 1) C dX4_setPlaces_50 rfl 1 rfl ?_
        refine j_iconst (v := nI 0) C dX4_setPlaces_51 (by decide) ?_
        refine j_callV (nargs := 2) (As := [_, _]) (Cn := RX4) C (0) rfl rfl rfl gw773 gw775 gw28 gw49 (kX4_ra l D ct sa a (nI 0) σ wr _ _ (ix x) 0 e_x rfl hj_x (by decide)) gw776 (by decide +kernel) rfl dX4_setPlaces_52 ⟨Nat.le_of_ble_eq_true rfl, Nat.le_of_ble_eq_true rfl⟩ ⟨Nat.le_of_ble_eq_true rfl, Nat.le_of_ble_eq_true rfl⟩ (Nat.le_of_ble_eq_true rfl) (dki ?_)
        refine j_istore_n (lv' := [(3, .int _), (0, .ref _), (1, .int _), (2, .int _)]) C dX4_setPlaces_55 rfl (by decide) rfl ?_
        refine j_aload_n (i := 0) C dX4_setPlaces_56 rfl 1 rfl ?_
        refine j_get (Cn := RX4) (T := TX4) (N := 7) (ci := 5) C iX4 rfl (0) rfl 6 (by decide) gw683 rfl rfl dX4_setPlaces_57 ?_
        refine j_iconst (v := nI 3) C dX4_setPlaces_60 (by decide) ?_
        refine j_iload_n (i := 1) C dX4_setPlaces_61 rfl 2 rfl ?_
        refine j_imul C dX4_setPlaces_62 ?_
        refine j_iconst (v := nI 0) C dX4_setPlaces_63 (by decide) ?_
        refine j_iadd C dX4_setPlaces_64 ?_
        refine j_iload_n (i := 2) C dX4_setPlaces_65 rfl 3 rfl ?_
        refine j_iast (ws2 := WM ct a (nI 0) (uK σ (upd (sK σ) (3 * ix x + 0) y)) ++ wr) C (3) rfl (3 * ix x + 0) (by rw [e_x, pk_mul, nI_add]; congr 3; exact congrArg ix e_x) (by omega) (by decide) rfl dX4_setPlaces_66 ?_
        refine j_iload_n (i := 3) C dX4_setPlaces_67 rfl 0 rfl ?_
        exact j_ireturn C E rfl dX4_setPlaces_68 (Nat.le_of_ble_eq_true rfl) (Nat.le_of_ble_eq_true rfl) (fK (by rw [f_setPlaces, if_pos (b2i_t c9), if_pos (b2i_t c25), if_pos c40]))
      · refine j_aload_n (i := 0) C dX4_setPlaces_43 rfl 0 rfl ?_
        refine j_iconst (v := nI 3) C dX4_setPlaces_44 (by decide) ?_
        refine j_callV (nargs := 1) (As := [_]) (Cn := RX4) C (0) rfl rfl rfl gw713 gw715 gw21 gw49 (kX4_fail l D ct sa _ _ _ _ _) gw716 (by decide +kernel) rfl dX4_setPlaces_45 ⟨Nat.le_of_ble_eq_true rfl, Nat.le_of_ble_eq_true rfl⟩ ⟨Nat.le_of_ble_eq_true rfl, Nat.le_of_ble_eq_true rfl⟩ (Nat.le_of_ble_eq_true rfl) (dki ?_)
        exact j_ireturn C E rfl dX4_setPlaces_48 (Nat.le_of_ble_eq_true rfl) (Nat.le_of_ble_eq_true rfl) (fK (by rw [f_setPlaces, if_pos (b2i_t c9), if_pos (b2i_t c25), if_neg c40]))
    · refine j_aload_n (i := 0) C dX4_setPlaces_28 rfl 0 rfl ?_
      refine j_iconst (v := nI 2) C dX4_setPlaces_29 (by decide) ?_
      refine j_callV (nargs := 1) (As := [_]) (Cn := RX4) C (0) rfl rfl rfl gw713 gw715 gw21 gw49 (kX4_fail l D ct sa _ _ _ _ _) gw716 (by decide +kernel) rfl dX4_setPlaces_30 ⟨Nat.le_of_ble_eq_true rfl, Nat.le_of_ble_eq_true rfl⟩ ⟨Nat.le_of_ble_eq_true rfl, Nat.le_of_ble_eq_true rfl⟩ (Nat.le_of_ble_eq_true rfl) (dki ?_)
      exact j_ireturn C E rfl dX4_setPlaces_33 (Nat.le_of_ble_eq_true rfl) (Nat.le_of_ble_eq_true rfl) (fK (by rw [f_setPlaces, if_pos (b2i_t c9), if_neg (b2i_f c25)]))
  · refine j_aload_n (i := 0) C dX4_setPlaces_12 rfl 0 rfl ?_
    refine j_iconst (v := nI 1) C dX4_setPlaces_13 (by decide) ?_
    refine j_callV (nargs := 1) (As := [_]) (Cn := RX4) C (0) rfl rfl rfl gw713 gw715 gw21 gw49 (kX4_fail l D ct sa _ _ _ _ _) gw716 (by decide +kernel) rfl dX4_setPlaces_14 ⟨Nat.le_of_ble_eq_true rfl, Nat.le_of_ble_eq_true rfl⟩ ⟨Nat.le_of_ble_eq_true rfl, Nat.le_of_ble_eq_true rfl⟩ (Nat.le_of_ble_eq_true rfl) (dki ?_)
    exact j_ireturn C E rfl dX4_setPlaces_17 (Nat.le_of_ble_eq_true rfl) (Nat.le_of_ble_eq_true rfl) (fK (by rw [f_setPlaces, if_neg (b2i_f c9)]))
set_option maxRecDepth 100000 in
set_option maxHeartbeats 4000000 in
theorem kX4_setHours (l : Launch) (D : va_G) (ct : Nat → ClassId) (sa : Nat → Nat) (a : Nat → Nat) (thr : Int32) (σ : St) (wr : va_W) (x y z : Int32) (hi : Inv0 σ) : jM l yX4_setHours (Cond.code yX4_setHours cX4_setHours 5 (Option.some Jvm.ClassFile.FieldType.int) :: GW) (rM 2 0 0 42) D ct sa [.ref (a 0), .int x, .int y, .int z] (WM ct a thr σ ++ wr) (fD ct a wr (f_setHours σ x y z)) 0 0 := by
  refine jMX.plain (jBody (own := RX4) (by decide) rfl rfl (Nat.le_of_ble_eq_true rfl) ?_)
  intro X C E T0
  refine j_lv (lv1 := [(0, .ref _), (1, .int _), (2, .int _), (3, .int _)]) rfl ?_
  refine j_aload_n (i := 0) C dX4_setHours_0 rfl 0 rfl ?_
  refine j_iconst (v := nI 0) C dX4_setHours_1 (by decide) ?_
  refine j_put (Cn := RX4) (T := TX4) (N := 7) (ci := 5) (ws2 := WM ct a (nI 0) σ ++ wr) C iX4 tyX4 tyX4_ok nmX4 rfl (0) rfl 0 (by decide) gw677 rfl rfl rfl rfl rfl (Nat.le_of_ble_eq_true rfl) rfl dX4_setHours_2 ?_
  refine j_iload_n (i := 1) C dX4_setHours_5 rfl 1 rfl ?_
  refine j_callS (nargs := 1) (As := [_]) C gw766 gw767 gw49 (kX4_isRack l D ct sa _ _) gw768 (by decide +kernel) rfl dX4_setHours_6 ⟨Nat.le_of_ble_eq_true rfl, Nat.le_of_ble_eq_true rfl⟩ ⟨Nat.le_of_ble_eq_true rfl, Nat.le_of_ble_eq_true rfl⟩ (Nat.le_of_ble_eq_true rfl) (dki ?_)
  refine j_if_ne C 18 dX4_setHours_9 (by decide) (fun c9 => ?_) (fun c9 => ?_)
  · refine j_iload_n (i := 2) C dX4_setHours_18 rfl 2 rfl ?_
    refine j_iconst (v := nI 0) C dX4_setHours_19 (by decide) ?_
    refine j_bipush (v := nI 23) C dX4_setHours_20 (by decide) ?_
    refine j_callS (nargs := 3) (As := [_, _, _]) C gw710 gw711 gw49 (kX4_isIn l D ct sa _ _ _ _) gw712 (by decide +kernel) rfl dX4_setHours_22 ⟨Nat.le_of_ble_eq_true rfl, Nat.le_of_ble_eq_true rfl⟩ ⟨Nat.le_of_ble_eq_true rfl, Nat.le_of_ble_eq_true rfl⟩ (Nat.le_of_ble_eq_true rfl) (dki ?_)
    refine j_if_eq C 38 dX4_setHours_25 (by decide) (fun c25 => ?_) (fun c25 => ?_)
    · refine j_aload_n (i := 0) C dX4_setHours_38 rfl 0 rfl ?_
      refine j_iconst (v := nI 2) C dX4_setHours_39 (by decide) ?_
      refine j_callV (nargs := 1) (As := [_]) (Cn := RX4) C (0) rfl rfl rfl gw713 gw715 gw21 gw49 (kX4_fail l D ct sa _ _ _ _ _) gw716 (by decide +kernel) rfl dX4_setHours_40 ⟨Nat.le_of_ble_eq_true rfl, Nat.le_of_ble_eq_true rfl⟩ ⟨Nat.le_of_ble_eq_true rfl, Nat.le_of_ble_eq_true rfl⟩ (Nat.le_of_ble_eq_true rfl) (dki ?_)
      exact j_ireturn C E rfl dX4_setHours_43 (Nat.le_of_ble_eq_true rfl) (Nat.le_of_ble_eq_true rfl) (fK (by rw [f_setHours, if_pos (b2i_t c9)]; first | rw [if_neg (fun z => absurd ((in_ok (M := 23) (by decide)).mpr z.1) (b2i_f c25))] | rw [if_neg (fun z => absurd ((in_ok (M := 24) (by decide)).mpr z.2) (b2i_f c35))]))
    · refine j_iload_n (i := 3) C dX4_setHours_28 rfl 3 rfl ?_
      refine j_iconst (v := nI 0) C dX4_setHours_29 (by decide) ?_
      refine j_bipush (v := nI 24) C dX4_setHours_30 (by decide) ?_
      refine j_callS (nargs := 3) (As := [_, _, _]) C gw710 gw711 gw49 (kX4_isIn l D ct sa _ _ _ _) gw712 (by decide +kernel) rfl dX4_setHours_32 ⟨Nat.le_of_ble_eq_true rfl, Nat.le_of_ble_eq_true rfl⟩ ⟨Nat.le_of_ble_eq_true rfl, Nat.le_of_ble_eq_true rfl⟩ (Nat.le_of_ble_eq_true rfl) (dki ?_)
      refine j_if_ne C 44 dX4_setHours_35 (by decide) (fun c35 => ?_) (fun c35 => ?_)
      · obtain ⟨hj_x, e_x⟩ := okI_ix (b2i_t c9) (by omega)
        refine j_bipush (v := nI 25) C dX4_setHours_44 (by decide) ?_
        refine j_aload_n (i := 0) C dX4_setHours_46 rfl 0 rfl ?_
        refine j_iload_n (i := 1) C dX4_setHours_47 rfl 1 rfl ?_
        refine j_iconst (v := nI 1) C dX4_setHours_48 (by decide) ?_
        refine j_callV (nargs := 2) (As := [_, _]) (Cn := RX4) C (0) rfl rfl rfl gw773 gw775 gw28 gw49 (kX4_ra l D ct sa a (nI 0) σ wr _ _ (ix x) 1 e_x rfl hj_x (by decide)) gw776 (by decide +kernel) rfl dX4_setHours_49 ⟨Nat.le_of_ble_eq_true rfl, Nat.le_of_ble_eq_true rfl⟩ ⟨Nat.le_of_ble_eq_true rfl, Nat.le_of_ble_eq_true rfl⟩ (Nat.le_of_ble_eq_true rfl) (dki ?_)
        refine j_imul C dX4_setHours_52 ?_
        refine j_aload_n (i := 0) C dX4_setHours_53 rfl 0 rfl ?_
        refine j_iload_n (i := 1) C dX4_setHours_54 rfl 1 rfl ?_
        refine j_iconst (v := nI 2) C dX4_setHours_55 (by decide) ?_
        refine j_callV (nargs := 2) (As := [_, _]) (Cn := RX4) C (0) rfl rfl rfl gw773 gw775 gw28 gw49 (kX4_ra l D ct sa a (nI 0) σ wr _ _ (ix x) 2 e_x rfl hj_x (by decide)) gw776 (by decide +kernel) rfl dX4_setHours_56 ⟨Nat.le_of_ble_eq_true rfl, Nat.le_of_ble_eq_true rfl⟩ ⟨Nat.le_of_ble_eq_true rfl, Nat.le_of_ble_eq_true rfl⟩ (Nat.le_of_ble_eq_true rfl) (dki ?_)
        refine j_iadd C dX4_setHours_59 ?_
        refine j_istore (lv' := [(4, .int _), (0, .ref _), (1, .int _), (2, .int _), (3, .int _)]) C dX4_setHours_60 (by decide) rfl ?_
        refine j_aload_n (i := 0) C dX4_setHours_62 rfl 1 rfl ?_
        refine j_get (Cn := RX4) (T := TX4) (N := 7) (ci := 5) C iX4 rfl (0) rfl 6 (by decide) gw683 rfl rfl dX4_setHours_63 ?_
        refine j_iconst (v := nI 3) C dX4_setHours_66 (by decide) ?_
        refine j_iload_n (i := 1) C dX4_setHours_67 rfl 2 rfl ?_
        refine j_imul C dX4_setHours_68 ?_
        refine j_iconst (v := nI 1) C dX4_setHours_69 (by decide) ?_
        refine j_iadd C dX4_setHours_70 ?_
        refine j_iload_n (i := 2) C dX4_setHours_71 rfl 3 rfl ?_
        refine j_iast (ws2 := WM ct a (nI 0) (uK σ (upd (sK σ) (3 * ix x + 1) y)) ++ wr) C (3) rfl (3 * ix x + 1) (by rw [e_x, pk_mul, nI_add]; congr 3; exact congrArg ix e_x) (by omega) (by decide) rfl dX4_setHours_72 ?_
        refine j_aload_n (i := 0) C dX4_setHours_73 rfl 1 rfl ?_
        refine j_get (Cn := RX4) (T := TX4) (N := 7) (ci := 5) C iX4 rfl (0) rfl 6 (by decide) gw683 rfl rfl dX4_setHours_74 ?_
        refine j_iconst (v := nI 3) C dX4_setHours_77 (by decide) ?_
        refine j_iload_n (i := 1) C dX4_setHours_78 rfl 2 rfl ?_
        refine j_imul C dX4_setHours_79 ?_
        refine j_iconst (v := nI 2) C dX4_setHours_80 (by decide) ?_
        refine j_iadd C dX4_setHours_81 ?_
        refine j_iload_n (i := 3) C dX4_setHours_82 rfl 4 rfl ?_
        refine j_iast (ws2 := WM ct a (nI 0) (uK σ (upd (upd (sK σ) (3 * ix x + 1) y) (3 * ix x + 2) z)) ++ wr) C (3) rfl (3 * ix x + 2) (by rw [e_x, pk_mul, nI_add]; congr 3; exact congrArg ix e_x) (by omega) (by decide) rfl dX4_setHours_83 ?_
        refine j_iload C dX4_setHours_84 0 rfl ?_
        exact j_ireturn C E rfl dX4_setHours_86 (Nat.le_of_ble_eq_true rfl) (Nat.le_of_ble_eq_true rfl) (fK (by rw [f_setHours, if_pos (b2i_t c9), if_pos ⟨(in_ok (M := 23) (by decide)).mp (b2i_t c25), (in_ok (M := 24) (by decide)).mp (b2i_t c35)⟩]))
      · refine j_aload_n (i := 0) C dX4_setHours_38 rfl 0 rfl ?_
        refine j_iconst (v := nI 2) C dX4_setHours_39 (by decide) ?_
        refine j_callV (nargs := 1) (As := [_]) (Cn := RX4) C (0) rfl rfl rfl gw713 gw715 gw21 gw49 (kX4_fail l D ct sa _ _ _ _ _) gw716 (by decide +kernel) rfl dX4_setHours_40 ⟨Nat.le_of_ble_eq_true rfl, Nat.le_of_ble_eq_true rfl⟩ ⟨Nat.le_of_ble_eq_true rfl, Nat.le_of_ble_eq_true rfl⟩ (Nat.le_of_ble_eq_true rfl) (dki ?_)
        exact j_ireturn C E rfl dX4_setHours_43 (Nat.le_of_ble_eq_true rfl) (Nat.le_of_ble_eq_true rfl) (fK (by rw [f_setHours, if_pos (b2i_t c9)]; first | rw [if_neg (fun z => absurd ((in_ok (M := 23) (by decide)).mpr z.1) (b2i_f c25))] | rw [if_neg (fun z => absurd ((in_ok (M := 24) (by decide)).mpr z.2) (b2i_f c35))]))
  · refine j_aload_n (i := 0) C dX4_setHours_12 rfl 0 rfl ?_
    refine j_iconst (v := nI 1) C dX4_setHours_13 (by decide) ?_
    refine j_callV (nargs := 1) (As := [_]) (Cn := RX4) C (0) rfl rfl rfl gw713 gw715 gw21 gw49 (kX4_fail l D ct sa _ _ _ _ _) gw716 (by decide +kernel) rfl dX4_setHours_14 ⟨Nat.le_of_ble_eq_true rfl, Nat.le_of_ble_eq_true rfl⟩ ⟨Nat.le_of_ble_eq_true rfl, Nat.le_of_ble_eq_true rfl⟩ (Nat.le_of_ble_eq_true rfl) (dki ?_)
    exact j_ireturn C E rfl dX4_setHours_17 (Nat.le_of_ble_eq_true rfl) (Nat.le_of_ble_eq_true rfl) (fK (by rw [f_setHours, if_neg (b2i_f c9)]))
set_option maxRecDepth 100000 in
set_option maxHeartbeats 4000000 in
theorem kX4_put (l : Launch) (D : va_G) (ct : Nat → ClassId) (sa : Nat → Nat) (a : Nat → Nat) (thr : Int32) (σ : St) (wr : va_W) (x y : Int32) (hi : Inv0 σ) : jM l yX4_put (Cond.code yX4_put cX4_put 4 (Option.some Jvm.ClassFile.FieldType.int) :: GW) (rM 2 0 0 46) D ct sa [.ref (a 0), .int x, .int y] (WM ct a thr σ ++ wr) (fD ct a wr (f_put σ x y)) 0 0 := by
  refine jMX.plain (jBody (own := RX4) (by decide) rfl rfl (Nat.le_of_ble_eq_true rfl) ?_)
  intro X C E T0
  refine j_lv (lv1 := [(0, .ref _), (1, .int _), (2, .int _)]) rfl ?_
  refine j_aload_n (i := 0) C dX4_put_0 rfl 0 rfl ?_
  refine j_iconst (v := nI 0) C dX4_put_1 (by decide) ?_
  refine j_put (Cn := RX4) (T := TX4) (N := 7) (ci := 5) (ws2 := WM ct a (nI 0) σ ++ wr) C iX4 tyX4 tyX4_ok nmX4 rfl (0) rfl 0 (by decide) gw677 rfl rfl rfl rfl rfl (Nat.le_of_ble_eq_true rfl) rfl dX4_put_2 ?_
  refine j_aload_n (i := 0) C dX4_put_5 rfl 0 rfl ?_
  refine j_iload_n (i := 1) C dX4_put_6 rfl 1 rfl ?_
  refine j_callV (nargs := 1) (As := [_]) (Cn := RX4) C (0) rfl rfl rfl gw725 gw727 gw23 gw49 (kX4_isLock l D ct sa _ _ _ _ _ hi.1) gw728 (by decide +kernel) rfl dX4_put_7 ⟨Nat.le_of_ble_eq_true rfl, Nat.le_of_ble_eq_true rfl⟩ ⟨Nat.le_of_ble_eq_true rfl, Nat.le_of_ble_eq_true rfl⟩ (Nat.le_of_ble_eq_true rfl) (dki ?_)
  refine j_if_eq C 25 dX4_put_10 (by decide) (fun c10 => ?_) (fun c10 => ?_)
  · refine j_aload_n (i := 0) C dX4_put_25 rfl 0 rfl ?_
    refine j_iconst (v := nI 1) C dX4_put_26 (by decide) ?_
    refine j_callV (nargs := 1) (As := [_]) (Cn := RX4) C (0) rfl rfl rfl gw713 gw715 gw21 gw49 (kX4_fail l D ct sa _ _ _ _ _) gw716 (by decide +kernel) rfl dX4_put_27 ⟨Nat.le_of_ble_eq_true rfl, Nat.le_of_ble_eq_true rfl⟩ ⟨Nat.le_of_ble_eq_true rfl, Nat.le_of_ble_eq_true rfl⟩ (Nat.le_of_ble_eq_true rfl) (dki ?_)
    exact j_ireturn C E rfl dX4_put_30 (Nat.le_of_ble_eq_true rfl) (Nat.le_of_ble_eq_true rfl) (fK (by rw [f_put]; first | rw [if_neg (fun z => absurd z.1 (b2i_f c10))] | rw [if_neg (fun z => z.2.elim c15 (b2i_f c22))]))
  · refine j_iload_n (i := 2) C dX4_put_13 rfl 2 rfl ?_
    refine j_iconst (v := (-1)) C dX4_put_14 (by decide) ?_
    refine j_icmp_eq C 31 dX4_put_15 (by decide) (fun c15 => ?_) (fun c15 => ?_)
    · have hl := b2i_t c10
      obtain ⟨hj_x, e_x⟩ := okI_ix (hl) (by omega)
      have hy : y = -1 ∨ okI 3 y := by first | exact Or.inl c15 | exact Or.inr (b2i_t c22)
      refine j_aload_n (i := 0) C dX4_put_31 rfl 0 rfl ?_
      refine j_iload_n (i := 1) C dX4_put_32 rfl 1 rfl ?_
      refine j_iconst (v := nI 2) C dX4_put_33 (by decide) ?_
      refine j_callV (nargs := 2) (As := [_, _]) (Cn := RX4) C (0) rfl rfl rfl gw729 gw731 gw24 gw49 (kX4_lo l D ct sa a (nI 0) σ wr _ _ (ix x) 2 e_x rfl (by have := hi.1; omega) (by decide)) gw732 (by decide +kernel) rfl dX4_put_34 ⟨Nat.le_of_ble_eq_true rfl, Nat.le_of_ble_eq_true rfl⟩ ⟨Nat.le_of_ble_eq_true rfl, Nat.le_of_ble_eq_true rfl⟩ (Nat.le_of_ble_eq_true rfl) (dki ?_)
      refine j_istore_n (lv' := [(3, .int _), (0, .ref _), (1, .int _), (2, .int _)]) C dX4_put_37 rfl (by decide) rfl ?_
      refine j_iload_n (i := 3) C dX4_put_38 rfl 0 rfl ?_
      refine j_iload_n (i := 2) C dX4_put_39 rfl 3 rfl ?_
      refine j_icmp_ne C 45 dX4_put_40 (by decide) (fun c40 => ?_) (fun c40 => ?_)
      · refine j_aload_n (i := 0) C dX4_put_45 rfl 1 rfl ?_
        refine j_iload_n (i := 1) C dX4_put_46 rfl 2 rfl ?_
        refine j_iconst (v := nI 1) C dX4_put_47 (by decide) ?_
        refine j_callV (nargs := 2) (As := [_, _]) (Cn := RX4) C (0) rfl rfl rfl gw729 gw731 gw24 gw49 (kX4_lo l D ct sa a (nI 0) σ wr _ _ (ix x) 1 e_x rfl (by have := hi.1; omega) (by decide)) gw732 (by decide +kernel) rfl dX4_put_48 ⟨Nat.le_of_ble_eq_true rfl, Nat.le_of_ble_eq_true rfl⟩ ⟨Nat.le_of_ble_eq_true rfl, Nat.le_of_ble_eq_true rfl⟩ (Nat.le_of_ble_eq_true rfl) (dki ?_)
        refine j_if_eq C 81 dX4_put_51 (by decide) (fun c51 => ?_) (fun c51 => ?_)
        · refine j_aload_n (i := 0) C dX4_put_81 rfl 1 rfl ?_
          refine j_iconst (v := nI 2) C dX4_put_82 (by decide) ?_
          refine j_callV (nargs := 1) (As := [_]) (Cn := RX4) C (0) rfl rfl rfl gw713 gw715 gw21 gw49 (kX4_fail l D ct sa _ _ _ _ _) gw716 (by decide +kernel) rfl dX4_put_83 ⟨Nat.le_of_ble_eq_true rfl, Nat.le_of_ble_eq_true rfl⟩ ⟨Nat.le_of_ble_eq_true rfl, Nat.le_of_ble_eq_true rfl⟩ (Nat.le_of_ble_eq_true rfl) (dki ?_)
          exact j_ireturn C E rfl dX4_put_86 (Nat.le_of_ble_eq_true rfl) (Nat.le_of_ble_eq_true rfl) (fK (by rw [f_put, if_pos ⟨hl, hy⟩, if_neg c40]; refine if_pos ?_; first | exact Or.inl c51 | (refine Or.inr ⟨c56, ?_⟩; first | exact Or.inl (b2i_f c64) | exact Or.inr (ile_of c78))))
        · refine j_iload_n (i := 2) C dX4_put_54 rfl 3 rfl ?_
          refine j_iconst (v := (-1)) C dX4_put_55 (by decide) ?_
          refine j_icmp_eq C 87 dX4_put_56 (by decide) (fun c56 => ?_) (fun c56 => ?_)
          · refine j_aload_n (i := 0) C dX4_put_87 rfl 1 rfl ?_
            refine j_iload_n (i := 1) C dX4_put_88 rfl 2 rfl ?_
            refine j_iconst (v := nI 2) C dX4_put_89 (by decide) ?_
            refine j_iload_n (i := 2) C dX4_put_90 rfl 3 rfl ?_
            refine j_callV (nargs := 3) (As := [_, _, _]) (Cn := RX4) C (0) rfl rfl rfl gw717 gw719 gw22 gw49 (kX4_let l D ct sa a (nI 0) σ wr _ _ _ (ix x) 2 e_x rfl (by have := hi.1; omega) (by decide)) gw720 (by decide +kernel) rfl dX4_put_91 ⟨Nat.le_of_ble_eq_true rfl, Nat.le_of_ble_eq_true rfl⟩ ⟨Nat.le_of_ble_eq_true rfl, Nat.le_of_ble_eq_true rfl⟩ (Nat.le_of_ble_eq_true rfl) (dkv ?_)
            refine j_iload_n (i := 3) C dX4_put_94 rfl 0 rfl ?_
            exact j_ireturn C E rfl dX4_put_95 (Nat.le_of_ble_eq_true rfl) (Nat.le_of_ble_eq_true rfl) (fK (by rw [f_put, if_pos ⟨hl, hy⟩, if_neg c40]; refine if_neg ?_; rintro (h | ⟨h1, h2 | h2⟩) <;> first | exact c51 h | exact h1 c56 | exact h2 (b2i_t c64) | exact inle c78 h2))
          · have hr := hy.resolve_left c56
            obtain ⟨hj_y, e_y⟩ := okI_ix (hr) (by omega)
            refine j_aload_n (i := 0) C dX4_put_59 rfl 1 rfl ?_
            refine j_iload_n (i := 2) C dX4_put_60 rfl 3 rfl ?_
            refine j_callV (nargs := 1) (As := [_]) (Cn := RX4) C (0) rfl rfl rfl gw785 gw787 gw29 gw49 (kX4_isOpen l D ct sa a (nI 0) σ wr _ (ix y) e_y hj_y) gw788 (by decide +kernel) rfl dX4_put_61 ⟨Nat.le_of_ble_eq_true rfl, Nat.le_of_ble_eq_true rfl⟩ ⟨Nat.le_of_ble_eq_true rfl, Nat.le_of_ble_eq_true rfl⟩ (Nat.le_of_ble_eq_true rfl) (dki ?_)
            refine j_if_eq C 81 dX4_put_64 (by decide) (fun c64 => ?_) (fun c64 => ?_)
            · refine j_aload_n (i := 0) C dX4_put_81 rfl 1 rfl ?_
              refine j_iconst (v := nI 2) C dX4_put_82 (by decide) ?_
              refine j_callV (nargs := 1) (As := [_]) (Cn := RX4) C (0) rfl rfl rfl gw713 gw715 gw21 gw49 (kX4_fail l D ct sa _ _ _ _ _) gw716 (by decide +kernel) rfl dX4_put_83 ⟨Nat.le_of_ble_eq_true rfl, Nat.le_of_ble_eq_true rfl⟩ ⟨Nat.le_of_ble_eq_true rfl, Nat.le_of_ble_eq_true rfl⟩ (Nat.le_of_ble_eq_true rfl) (dki ?_)
              exact j_ireturn C E rfl dX4_put_86 (Nat.le_of_ble_eq_true rfl) (Nat.le_of_ble_eq_true rfl) (fK (by rw [f_put, if_pos ⟨hl, hy⟩, if_neg c40]; refine if_pos ?_; first | exact Or.inl c51 | (refine Or.inr ⟨c56, ?_⟩; first | exact Or.inl (b2i_f c64) | exact Or.inr (ile_of c78))))
            · refine j_aload_n (i := 0) C dX4_put_67 rfl 1 rfl ?_
              refine j_iload_n (i := 2) C dX4_put_68 rfl 3 rfl ?_
              refine j_callV (nargs := 1) (As := [_]) (Cn := RX4) C (0) rfl rfl rfl gw769 gw771 gw27 gw49 (kX4_in l D ct sa _ _ _ _ _ hi.1) gw772 (by decide +kernel) rfl dX4_put_69 ⟨Nat.le_of_ble_eq_true rfl, Nat.le_of_ble_eq_true rfl⟩ ⟨Nat.le_of_ble_eq_true rfl, Nat.le_of_ble_eq_true rfl⟩ (Nat.le_of_ble_eq_true rfl) (dki ?_)
              refine j_aload_n (i := 0) C dX4_put_72 rfl 1 rfl ?_
              refine j_iload_n (i := 2) C dX4_put_73 rfl 3 rfl ?_
              refine j_iconst (v := nI 0) C dX4_put_74 (by decide) ?_
              refine j_callV (nargs := 2) (As := [_, _]) (Cn := RX4) C (0) rfl rfl rfl gw773 gw775 gw28 gw49 (kX4_ra l D ct sa a (nI 0) σ wr _ _ (ix y) 0 e_y rfl hj_y (by decide)) gw776 (by decide +kernel) rfl dX4_put_75 ⟨Nat.le_of_ble_eq_true rfl, Nat.le_of_ble_eq_true rfl⟩ ⟨Nat.le_of_ble_eq_true rfl, Nat.le_of_ble_eq_true rfl⟩ (Nat.le_of_ble_eq_true rfl) (dki ?_)
              refine j_icmp_lt C 87 dX4_put_78 (by decide) (fun c78 => ?_) (fun c78 => ?_)
              · refine j_aload_n (i := 0) C dX4_put_87 rfl 1 rfl ?_
                refine j_iload_n (i := 1) C dX4_put_88 rfl 2 rfl ?_
                refine j_iconst (v := nI 2) C dX4_put_89 (by decide) ?_
                refine j_iload_n (i := 2) C dX4_put_90 rfl 3 rfl ?_
                refine j_callV (nargs := 3) (As := [_, _, _]) (Cn := RX4) C (0) rfl rfl rfl gw717 gw719 gw22 gw49 (kX4_let l D ct sa a (nI 0) σ wr _ _ _ (ix x) 2 e_x rfl (by have := hi.1; omega) (by decide)) gw720 (by decide +kernel) rfl dX4_put_91 ⟨Nat.le_of_ble_eq_true rfl, Nat.le_of_ble_eq_true rfl⟩ ⟨Nat.le_of_ble_eq_true rfl, Nat.le_of_ble_eq_true rfl⟩ (Nat.le_of_ble_eq_true rfl) (dkv ?_)
                refine j_iload_n (i := 3) C dX4_put_94 rfl 0 rfl ?_
                exact j_ireturn C E rfl dX4_put_95 (Nat.le_of_ble_eq_true rfl) (Nat.le_of_ble_eq_true rfl) (fK (by rw [f_put, if_pos ⟨hl, hy⟩, if_neg c40]; refine if_neg ?_; rintro (h | ⟨h1, h2 | h2⟩) <;> first | exact c51 h | exact h1 c56 | exact h2 (b2i_t c64) | exact inle c78 h2))
              · refine j_aload_n (i := 0) C dX4_put_81 rfl 1 rfl ?_
                refine j_iconst (v := nI 2) C dX4_put_82 (by decide) ?_
                refine j_callV (nargs := 1) (As := [_]) (Cn := RX4) C (0) rfl rfl rfl gw713 gw715 gw21 gw49 (kX4_fail l D ct sa _ _ _ _ _) gw716 (by decide +kernel) rfl dX4_put_83 ⟨Nat.le_of_ble_eq_true rfl, Nat.le_of_ble_eq_true rfl⟩ ⟨Nat.le_of_ble_eq_true rfl, Nat.le_of_ble_eq_true rfl⟩ (Nat.le_of_ble_eq_true rfl) (dki ?_)
                exact j_ireturn C E rfl dX4_put_86 (Nat.le_of_ble_eq_true rfl) (Nat.le_of_ble_eq_true rfl) (fK (by rw [f_put, if_pos ⟨hl, hy⟩, if_neg c40]; refine if_pos ?_; first | exact Or.inl c51 | (refine Or.inr ⟨c56, ?_⟩; first | exact Or.inl (b2i_f c64) | exact Or.inr (ile_of c78))))
      · refine j_iload_n (i := 3) C dX4_put_43 rfl 0 rfl ?_
        exact j_ireturn C E rfl dX4_put_44 (Nat.le_of_ble_eq_true rfl) (Nat.le_of_ble_eq_true rfl) (fK (by rw [f_put, if_pos ⟨hl, hy⟩, if_pos c40]))
    · refine j_iload_n (i := 2) C dX4_put_18 rfl 2 rfl ?_
      refine j_callS (nargs := 1) (As := [_]) C gw766 gw767 gw49 (kX4_isRack l D ct sa _ _) gw768 (by decide +kernel) rfl dX4_put_19 ⟨Nat.le_of_ble_eq_true rfl, Nat.le_of_ble_eq_true rfl⟩ ⟨Nat.le_of_ble_eq_true rfl, Nat.le_of_ble_eq_true rfl⟩ (Nat.le_of_ble_eq_true rfl) (dki ?_)
      refine j_if_ne C 31 dX4_put_22 (by decide) (fun c22 => ?_) (fun c22 => ?_)
      · have hl := b2i_t c10
        obtain ⟨hj_x, e_x⟩ := okI_ix (hl) (by omega)
        have hy : y = -1 ∨ okI 3 y := by first | exact Or.inl c15 | exact Or.inr (b2i_t c22)
        refine j_aload_n (i := 0) C dX4_put_31 rfl 0 rfl ?_
        refine j_iload_n (i := 1) C dX4_put_32 rfl 1 rfl ?_
        refine j_iconst (v := nI 2) C dX4_put_33 (by decide) ?_
        refine j_callV (nargs := 2) (As := [_, _]) (Cn := RX4) C (0) rfl rfl rfl gw729 gw731 gw24 gw49 (kX4_lo l D ct sa a (nI 0) σ wr _ _ (ix x) 2 e_x rfl (by have := hi.1; omega) (by decide)) gw732 (by decide +kernel) rfl dX4_put_34 ⟨Nat.le_of_ble_eq_true rfl, Nat.le_of_ble_eq_true rfl⟩ ⟨Nat.le_of_ble_eq_true rfl, Nat.le_of_ble_eq_true rfl⟩ (Nat.le_of_ble_eq_true rfl) (dki ?_)
        refine j_istore_n (lv' := [(3, .int _), (0, .ref _), (1, .int _), (2, .int _)]) C dX4_put_37 rfl (by decide) rfl ?_
        refine j_iload_n (i := 3) C dX4_put_38 rfl 0 rfl ?_
        refine j_iload_n (i := 2) C dX4_put_39 rfl 3 rfl ?_
        refine j_icmp_ne C 45 dX4_put_40 (by decide) (fun c40 => ?_) (fun c40 => ?_)
        · refine j_aload_n (i := 0) C dX4_put_45 rfl 1 rfl ?_
          refine j_iload_n (i := 1) C dX4_put_46 rfl 2 rfl ?_
          refine j_iconst (v := nI 1) C dX4_put_47 (by decide) ?_
          refine j_callV (nargs := 2) (As := [_, _]) (Cn := RX4) C (0) rfl rfl rfl gw729 gw731 gw24 gw49 (kX4_lo l D ct sa a (nI 0) σ wr _ _ (ix x) 1 e_x rfl (by have := hi.1; omega) (by decide)) gw732 (by decide +kernel) rfl dX4_put_48 ⟨Nat.le_of_ble_eq_true rfl, Nat.le_of_ble_eq_true rfl⟩ ⟨Nat.le_of_ble_eq_true rfl, Nat.le_of_ble_eq_true rfl⟩ (Nat.le_of_ble_eq_true rfl) (dki ?_)
          refine j_if_eq C 81 dX4_put_51 (by decide) (fun c51 => ?_) (fun c51 => ?_)
          · refine j_aload_n (i := 0) C dX4_put_81 rfl 1 rfl ?_
            refine j_iconst (v := nI 2) C dX4_put_82 (by decide) ?_
            refine j_callV (nargs := 1) (As := [_]) (Cn := RX4) C (0) rfl rfl rfl gw713 gw715 gw21 gw49 (kX4_fail l D ct sa _ _ _ _ _) gw716 (by decide +kernel) rfl dX4_put_83 ⟨Nat.le_of_ble_eq_true rfl, Nat.le_of_ble_eq_true rfl⟩ ⟨Nat.le_of_ble_eq_true rfl, Nat.le_of_ble_eq_true rfl⟩ (Nat.le_of_ble_eq_true rfl) (dki ?_)
            exact j_ireturn C E rfl dX4_put_86 (Nat.le_of_ble_eq_true rfl) (Nat.le_of_ble_eq_true rfl) (fK (by rw [f_put, if_pos ⟨hl, hy⟩, if_neg c40]; refine if_pos ?_; first | exact Or.inl c51 | (refine Or.inr ⟨c56, ?_⟩; first | exact Or.inl (b2i_f c64) | exact Or.inr (ile_of c78))))
          · refine j_iload_n (i := 2) C dX4_put_54 rfl 3 rfl ?_
            refine j_iconst (v := (-1)) C dX4_put_55 (by decide) ?_
            refine j_icmp_eq C 87 dX4_put_56 (by decide) (fun c56 => ?_) (fun c56 => ?_)
            · refine j_aload_n (i := 0) C dX4_put_87 rfl 1 rfl ?_
              refine j_iload_n (i := 1) C dX4_put_88 rfl 2 rfl ?_
              refine j_iconst (v := nI 2) C dX4_put_89 (by decide) ?_
              refine j_iload_n (i := 2) C dX4_put_90 rfl 3 rfl ?_
              refine j_callV (nargs := 3) (As := [_, _, _]) (Cn := RX4) C (0) rfl rfl rfl gw717 gw719 gw22 gw49 (kX4_let l D ct sa a (nI 0) σ wr _ _ _ (ix x) 2 e_x rfl (by have := hi.1; omega) (by decide)) gw720 (by decide +kernel) rfl dX4_put_91 ⟨Nat.le_of_ble_eq_true rfl, Nat.le_of_ble_eq_true rfl⟩ ⟨Nat.le_of_ble_eq_true rfl, Nat.le_of_ble_eq_true rfl⟩ (Nat.le_of_ble_eq_true rfl) (dkv ?_)
              refine j_iload_n (i := 3) C dX4_put_94 rfl 0 rfl ?_
              exact j_ireturn C E rfl dX4_put_95 (Nat.le_of_ble_eq_true rfl) (Nat.le_of_ble_eq_true rfl) (fK (by rw [f_put, if_pos ⟨hl, hy⟩, if_neg c40]; refine if_neg ?_; rintro (h | ⟨h1, h2 | h2⟩) <;> first | exact c51 h | exact h1 c56 | exact h2 (b2i_t c64) | exact inle c78 h2))
            · have hr := hy.resolve_left c56
              obtain ⟨hj_y, e_y⟩ := okI_ix (hr) (by omega)
              refine j_aload_n (i := 0) C dX4_put_59 rfl 1 rfl ?_
              refine j_iload_n (i := 2) C dX4_put_60 rfl 3 rfl ?_
              refine j_callV (nargs := 1) (As := [_]) (Cn := RX4) C (0) rfl rfl rfl gw785 gw787 gw29 gw49 (kX4_isOpen l D ct sa a (nI 0) σ wr _ (ix y) e_y hj_y) gw788 (by decide +kernel) rfl dX4_put_61 ⟨Nat.le_of_ble_eq_true rfl, Nat.le_of_ble_eq_true rfl⟩ ⟨Nat.le_of_ble_eq_true rfl, Nat.le_of_ble_eq_true rfl⟩ (Nat.le_of_ble_eq_true rfl) (dki ?_)
              refine j_if_eq C 81 dX4_put_64 (by decide) (fun c64 => ?_) (fun c64 => ?_)
              · refine j_aload_n (i := 0) C dX4_put_81 rfl 1 rfl ?_
                refine j_iconst (v := nI 2) C dX4_put_82 (by decide) ?_
                refine j_callV (nargs := 1) (As := [_]) (Cn := RX4) C (0) rfl rfl rfl gw713 gw715 gw21 gw49 (kX4_fail l D ct sa _ _ _ _ _) gw716 (by decide +kernel) rfl dX4_put_83 ⟨Nat.le_of_ble_eq_true rfl, Nat.le_of_ble_eq_true rfl⟩ ⟨Nat.le_of_ble_eq_true rfl, Nat.le_of_ble_eq_true rfl⟩ (Nat.le_of_ble_eq_true rfl) (dki ?_)
                exact j_ireturn C E rfl dX4_put_86 (Nat.le_of_ble_eq_true rfl) (Nat.le_of_ble_eq_true rfl) (fK (by rw [f_put, if_pos ⟨hl, hy⟩, if_neg c40]; refine if_pos ?_; first | exact Or.inl c51 | (refine Or.inr ⟨c56, ?_⟩; first | exact Or.inl (b2i_f c64) | exact Or.inr (ile_of c78))))
              · refine j_aload_n (i := 0) C dX4_put_67 rfl 1 rfl ?_
                refine j_iload_n (i := 2) C dX4_put_68 rfl 3 rfl ?_
                refine j_callV (nargs := 1) (As := [_]) (Cn := RX4) C (0) rfl rfl rfl gw769 gw771 gw27 gw49 (kX4_in l D ct sa _ _ _ _ _ hi.1) gw772 (by decide +kernel) rfl dX4_put_69 ⟨Nat.le_of_ble_eq_true rfl, Nat.le_of_ble_eq_true rfl⟩ ⟨Nat.le_of_ble_eq_true rfl, Nat.le_of_ble_eq_true rfl⟩ (Nat.le_of_ble_eq_true rfl) (dki ?_)
                refine j_aload_n (i := 0) C dX4_put_72 rfl 1 rfl ?_
                refine j_iload_n (i := 2) C dX4_put_73 rfl 3 rfl ?_
                refine j_iconst (v := nI 0) C dX4_put_74 (by decide) ?_
                refine j_callV (nargs := 2) (As := [_, _]) (Cn := RX4) C (0) rfl rfl rfl gw773 gw775 gw28 gw49 (kX4_ra l D ct sa a (nI 0) σ wr _ _ (ix y) 0 e_y rfl hj_y (by decide)) gw776 (by decide +kernel) rfl dX4_put_75 ⟨Nat.le_of_ble_eq_true rfl, Nat.le_of_ble_eq_true rfl⟩ ⟨Nat.le_of_ble_eq_true rfl, Nat.le_of_ble_eq_true rfl⟩ (Nat.le_of_ble_eq_true rfl) (dki ?_)
                refine j_icmp_lt C 87 dX4_put_78 (by decide) (fun c78 => ?_) (fun c78 => ?_)
                · refine j_aload_n (i := 0) C dX4_put_87 rfl 1 rfl ?_
                  refine j_iload_n (i := 1) C dX4_put_88 rfl 2 rfl ?_
                  refine j_iconst (v := nI 2) C dX4_put_89 (by decide) ?_
                  refine j_iload_n (i := 2) C dX4_put_90 rfl 3 rfl ?_
                  refine j_callV (nargs := 3) (As := [_, _, _]) (Cn := RX4) C (0) rfl rfl rfl gw717 gw719 gw22 gw49 (kX4_let l D ct sa a (nI 0) σ wr _ _ _ (ix x) 2 e_x rfl (by have := hi.1; omega) (by decide)) gw720 (by decide +kernel) rfl dX4_put_91 ⟨Nat.le_of_ble_eq_true rfl, Nat.le_of_ble_eq_true rfl⟩ ⟨Nat.le_of_ble_eq_true rfl, Nat.le_of_ble_eq_true rfl⟩ (Nat.le_of_ble_eq_true rfl) (dkv ?_)
                  refine j_iload_n (i := 3) C dX4_put_94 rfl 0 rfl ?_
                  exact j_ireturn C E rfl dX4_put_95 (Nat.le_of_ble_eq_true rfl) (Nat.le_of_ble_eq_true rfl) (fK (by rw [f_put, if_pos ⟨hl, hy⟩, if_neg c40]; refine if_neg ?_; rintro (h | ⟨h1, h2 | h2⟩) <;> first | exact c51 h | exact h1 c56 | exact h2 (b2i_t c64) | exact inle c78 h2))
                · refine j_aload_n (i := 0) C dX4_put_81 rfl 1 rfl ?_
                  refine j_iconst (v := nI 2) C dX4_put_82 (by decide) ?_
                  refine j_callV (nargs := 1) (As := [_]) (Cn := RX4) C (0) rfl rfl rfl gw713 gw715 gw21 gw49 (kX4_fail l D ct sa _ _ _ _ _) gw716 (by decide +kernel) rfl dX4_put_83 ⟨Nat.le_of_ble_eq_true rfl, Nat.le_of_ble_eq_true rfl⟩ ⟨Nat.le_of_ble_eq_true rfl, Nat.le_of_ble_eq_true rfl⟩ (Nat.le_of_ble_eq_true rfl) (dki ?_)
                  exact j_ireturn C E rfl dX4_put_86 (Nat.le_of_ble_eq_true rfl) (Nat.le_of_ble_eq_true rfl) (fK (by rw [f_put, if_pos ⟨hl, hy⟩, if_neg c40]; refine if_pos ?_; first | exact Or.inl c51 | (refine Or.inr ⟨c56, ?_⟩; first | exact Or.inl (b2i_f c64) | exact Or.inr (ile_of c78))))
        · refine j_iload_n (i := 3) C dX4_put_43 rfl 0 rfl ?_
          exact j_ireturn C E rfl dX4_put_44 (Nat.le_of_ble_eq_true rfl) (Nat.le_of_ble_eq_true rfl) (fK (by rw [f_put, if_pos ⟨hl, hy⟩, if_pos c40]))
      · refine j_aload_n (i := 0) C dX4_put_25 rfl 0 rfl ?_
        refine j_iconst (v := nI 1) C dX4_put_26 (by decide) ?_
        refine j_callV (nargs := 1) (As := [_]) (Cn := RX4) C (0) rfl rfl rfl gw713 gw715 gw21 gw49 (kX4_fail l D ct sa _ _ _ _ _) gw716 (by decide +kernel) rfl dX4_put_27 ⟨Nat.le_of_ble_eq_true rfl, Nat.le_of_ble_eq_true rfl⟩ ⟨Nat.le_of_ble_eq_true rfl, Nat.le_of_ble_eq_true rfl⟩ (Nat.le_of_ble_eq_true rfl) (dki ?_)
        exact j_ireturn C E rfl dX4_put_30 (Nat.le_of_ble_eq_true rfl) (Nat.le_of_ble_eq_true rfl) (fK (by rw [f_put]; first | rw [if_neg (fun z => absurd z.1 (b2i_f c10))] | rw [if_neg (fun z => z.2.elim c15 (b2i_f c22))]))
set_option maxRecDepth 100000 in
set_option maxHeartbeats 4000000 in
theorem kX4_shows (l : Launch) (D : va_G) (ct : Nat → ClassId) (sa : Nat → Nat) (a : Nat → Nat) (thr : Int32) (σ : St) (wr : va_W) (x : Int32) (j : Nat) (hx : x = nI j) (hj : j < 8) : jM l yX4_shows (Cond.code yX4_shows cX4_shows 6 (Option.some Jvm.ClassFile.FieldType.int) :: GW) (rM 1 0 0 23) D ct sa [.ref (a 0), .int x] (WM ct a thr σ ++ wr) (dK (some (.int (shF (sW σ) j))) (WM ct a thr σ ++ wr)) 0 0 := by
  refine jMX.plain (jBody (own := RX4) (by decide) rfl rfl (Nat.le_of_ble_eq_true rfl) ?_)
  intro X C E T0
  refine j_lv (lv1 := [(0, .ref _), (1, .int _)]) rfl ?_
  refine j_iconst (v := nI 0) C dX4_shows_0 (by decide) ?_
  refine j_istore_n (lv' := [(2, .int _), (0, .ref _), (1, .int _)]) C dX4_shows_1 rfl (by decide) rfl ?_
  refine j_iconst (v := nI 0) C dX4_shows_2 (by decide) ?_
  refine j_istore_n (lv' := [(3, .int _), (2, .int _), (0, .ref _), (1, .int _)]) C dX4_shows_3 rfl (by decide) rfl ?_
  have L4 : ∀ (d i : Nat) (x2 : Int32) (x3 : Int32), i + d = 4 → x2 = stF (fun r => nI (bmF (wrow (sW σ) j r) 5)) i → x3 = nI i → J X (WM ct a thr σ ++ wr) (0) (0) 4 [(0, .ref (a 0)), (1, .int x), (2, .int x2), (3, .int x3)] [] := by
    intro d
    induction d with
    | zero =>
      intro i x2 x3 hd e_x2 e_x3 
      subst e_x2
      subst e_x3
      have hi : i = 4 := by omega
      subst hi
      refine j_iload_n (i := 3) C dX4_shows_4 rfl 3 rfl ?_
      refine j_iconst (v := nI 4) C dX4_shows_5 (by decide) ?_
      refine j_icmp_ge C 65 dX4_shows_6 (by decide) (fun c6 => ?_) (fun c6 => by first | exact absurd c6 (by decide) | exact absurd c6 (nI_ge (by omega) (by omega)) | exact absurd (nI_le (by omega) (by omega)) c6 | exact absurd c6 (nI_nlt (by omega) (by omega)) | exact absurd (nI_lt (by omega) (by omega)) c6 | exact absurd c6 (nI_nle0 (by omega) (by omega)))
      refine j_iload_n (i := 2) C dX4_shows_65 rfl 2 rfl ?_
      exact j_ireturn C E rfl dX4_shows_66 (Nat.le_of_ble_eq_true rfl) (Nat.le_of_ble_eq_true rfl) (⟨rfl, rfl⟩)
    | succ d ih =>
      intro i x2 x3 hd e_x2 e_x3 
      subst e_x2
      subst e_x3
      refine j_iload_n (i := 3) C dX4_shows_4 rfl 3 rfl ?_
      refine j_iconst (v := nI 4) C dX4_shows_5 (by decide) ?_
      refine j_icmp_ge C 65 dX4_shows_6 (by decide) (fun c6 => by first | exact absurd c6 (by decide) | exact absurd c6 (nI_ge (by omega) (by omega)) | exact absurd (nI_le (by omega) (by omega)) c6 | exact absurd c6 (nI_nlt (by omega) (by omega)) | exact absurd (nI_lt (by omega) (by omega)) c6 | exact absurd c6 (nI_nle0 (by omega) (by omega))) (fun c6 => ?_)
      refine j_iconst (v := nI 0) C dX4_shows_9 (by decide) ?_
      refine j_istore (lv' := [(4, .int _), (0, .ref _), (1, .int _), (2, .int _), (3, .int _)]) C dX4_shows_10 (by decide) rfl ?_
      refine j_iconst (v := nI 1) C dX4_shows_12 (by decide) ?_
      refine j_istore (lv' := [(5, .int _), (4, .int _), (0, .ref _), (1, .int _), (2, .int _), (3, .int _)]) C dX4_shows_13 (by decide) rfl ?_
      have L15 : ∀ (d t : Nat) (x4 : Int32) (x5 : Int32), t + d = 5 → x4 = nI (bmF (wrow (sW σ) j i) t) → x5 = nI (t + 1) → J X (WM ct a thr σ ++ wr) (0) (0) 15 [(0, .ref (a 0)), (1, .int x), (2, .int (stF (fun r => nI (bmF (wrow (sW σ) j r) 5)) i)), (3, .int (nI i)), (4, .int x4), (5, .int x5)] [] := by
        intro d
        induction d with
        | zero =>
          intro t x4 x5 hd e_x4 e_x5 
          subst e_x4
          subst e_x5
          have ht : t = 5 := by omega
          subst ht
          refine j_iload C dX4_shows_15 5 rfl ?_
          refine j_bipush (v := nI 6) C dX4_shows_17 (by decide) ?_
          refine j_icmp_ge C 51 dX4_shows_19 (by decide) (fun c19 => ?_) (fun c19 => by first | exact absurd c19 (by decide) | exact absurd c19 (nI_ge (by omega) (by omega)) | exact absurd (nI_le (by omega) (by omega)) c19 | exact absurd c19 (nI_nlt (by omega) (by omega)) | exact absurd (nI_lt (by omega) (by omega)) c19 | exact absurd c19 (nI_nle0 (by omega) (by omega)))
          refine j_bipush (v := nI 6) C dX4_shows_51 (by decide) ?_
          refine j_iload_n (i := 2) C dX4_shows_53 rfl 2 rfl ?_
          refine j_imul C dX4_shows_54 ?_
          refine j_iload C dX4_shows_55 4 rfl ?_
          refine j_iadd C dX4_shows_57 ?_
          refine j_istore_n (lv' := [(2, .int _), (0, .ref _), (1, .int _), (3, .int _), (4, .int _), (5, .int _)]) C dX4_shows_58 rfl (by decide) rfl ?_
          refine j_iinc (z := 3) (lv' := [(3, .int _), (2, .int _), (0, .ref _), (1, .int _), (4, .int _), (5, .int _)]) C dX4_shows_59 rfl rfl (by decide) rfl ?_
          refine j_goto C 4 dX4_shows_62 (by decide) ?_
          exact j_lvs [2, 3, 1, 0] rfl (ih (i + 1) _ _ (by omega) (rfl) (nI_1 i))
        | succ d ih =>
          intro t x4 x5 hd e_x4 e_x5 
          subst e_x4
          subst e_x5
          have hb := bmF_le (wrow (sW σ) j i) t
          refine j_iload C dX4_shows_15 5 rfl ?_
          refine j_bipush (v := nI 6) C dX4_shows_17 (by decide) ?_
          refine j_icmp_ge C 51 dX4_shows_19 (by decide) (fun c19 => by first | exact absurd c19 (by decide) | exact absurd c19 (nI_ge (by omega) (by omega)) | exact absurd (nI_le (by omega) (by omega)) c19 | exact absurd c19 (nI_nlt (by omega) (by omega)) | exact absurd (nI_lt (by omega) (by omega)) c19 | exact absurd c19 (nI_nle0 (by omega) (by omega))) (fun c19 => ?_)
          refine j_aload_n (i := 0) C dX4_shows_22 rfl 0 rfl ?_
          refine j_iload_n (i := 1) C dX4_shows_23 rfl 1 rfl ?_
          refine j_iload_n (i := 3) C dX4_shows_24 rfl 3 rfl ?_
          refine j_iload C dX4_shows_25 5 rfl ?_
          refine j_callV (nargs := 3) (As := [_, _, _]) (Cn := RX4) C (0) rfl rfl rfl gw801 gw803 gw32 gw49 (kX4_we l D ct sa a thr σ wr _ _ _ j i (t + 1) hx rfl rfl hj (by omega) (by omega)) gw804 (by decide +kernel) rfl dX4_shows_27 ⟨Nat.le_of_ble_eq_true rfl, Nat.le_of_ble_eq_true rfl⟩ ⟨Nat.le_of_ble_eq_true rfl, Nat.le_of_ble_eq_true rfl⟩ (Nat.le_of_ble_eq_true rfl) (dki ?_)
          refine j_aload_n (i := 0) C dX4_shows_30 rfl 0 rfl ?_
          refine j_iload_n (i := 1) C dX4_shows_31 rfl 1 rfl ?_
          refine j_iload_n (i := 3) C dX4_shows_32 rfl 3 rfl ?_
          refine j_iload C dX4_shows_33 4 rfl ?_
          refine j_callV (nargs := 3) (As := [_, _, _]) (Cn := RX4) C (0) rfl rfl rfl gw801 gw803 gw32 gw49 (kX4_we l D ct sa a thr σ wr _ _ _ j i (bmF (wrow (sW σ) j i) t) hx rfl rfl hj (by omega) (by omega)) gw804 (by decide +kernel) rfl dX4_shows_35 ⟨Nat.le_of_ble_eq_true rfl, Nat.le_of_ble_eq_true rfl⟩ ⟨Nat.le_of_ble_eq_true rfl, Nat.le_of_ble_eq_true rfl⟩ (Nat.le_of_ble_eq_true rfl) (dki ?_)
          refine j_icmp_le C 45 dX4_shows_38 (by decide) (fun c38 => ?_) (fun c38 => ?_)
          · refine j_iinc (z := 5) (lv' := [(5, .int _), (0, .ref _), (1, .int _), (2, .int _), (3, .int _), (4, .int _)]) C dX4_shows_45 rfl rfl (by decide) rfl ?_
            refine j_goto C 15 dX4_shows_48 (by decide) ?_
            exact j_lvs [1, 2, 3, 4, 5, 0] rfl (ih (t + 1) _ _ (by omega) (by show _ = nI (if _ then _ else _); first | rw [if_neg (inlt c38)] | rw [if_pos (ilt_of c38)]) (nI_1 (t + 1)))
          · refine j_iload C dX4_shows_41 5 rfl ?_
            refine j_istore (lv' := [(4, .int _), (0, .ref _), (1, .int _), (2, .int _), (3, .int _), (5, .int _)]) C dX4_shows_43 (by decide) rfl ?_
            refine j_iinc (z := 5) (lv' := [(5, .int _), (4, .int _), (0, .ref _), (1, .int _), (2, .int _), (3, .int _)]) C dX4_shows_45 rfl rfl (by decide) rfl ?_
            refine j_goto C 15 dX4_shows_48 (by decide) ?_
            exact j_lvs [2, 3, 4, 5, 1, 0] rfl (ih (t + 1) _ _ (by omega) (by show _ = nI (if _ then _ else _); first | rw [if_neg (inlt c38)] | rw [if_pos (ilt_of c38)]) (nI_1 (t + 1)))
      exact j_lvs [2, 3, 4, 5, 1, 0] rfl (L15 (5) (0) _ _ (by omega) (rfl) (rfl))
  exact j_lvs [2, 3, 1, 0] rfl (L4 (4) (0) _ _ (by omega) (rfl) (rfl))
set_option maxRecDepth 100000 in
set_option maxHeartbeats 4000000 in
theorem kX4_lockTold (l : Launch) (D : va_G) (ct : Nat → ClassId) (sa : Nat → Nat) (a : Nat → Nat) (thr : Int32) (σ : St) (wr : va_W) (x y : Int32) (j v : Nat) (hx : x = nI j) (hy : y = nI v) (hj : j < 8) (hv : v < 6) : jM l yX4_lockTold (Cond.code yX4_lockTold cX4_lockTold 3 (Option.some Jvm.ClassFile.FieldType.int) :: GW) (rM 2 0 0 48) D ct sa [.ref (a 0), .int x, .int y] (WM ct a thr σ ++ wr) (dK (some (.int (tld σ j v))) (WM ct a thr σ ++ wr)) 0 0 := by
  refine jMX.plain (jBody (own := RX4) (by decide) rfl rfl (Nat.le_of_ble_eq_true rfl) ?_)
  intro X C E T0
  refine j_lv (lv1 := [(0, .ref _), (1, .int _), (2, .int _)]) rfl ?_
  subst hy
  rcases (show v = 0 ∨ v = 1 ∨ v = 2 ∨ v = 3 ∨ v = 4 ∨ v = 5 by omega) with rfl | rfl | rfl | rfl | rfl | rfl
  · refine j_iload_n (i := 2) C dX4_lockTold_0 rfl 2 rfl ?_
    refine j_tsIn (tgt := 36) C dX4_lockTold_1 (by decide) (by decide) rfl (by decide) ?_
    refine j_aload_n (i := 0) C dX4_lockTold_36 rfl 0 rfl ?_
    refine j_iload_n (i := 1) C dX4_lockTold_37 rfl 1 rfl ?_
    refine j_callV (nargs := 1) (As := [_]) (Cn := RX4) C (0) rfl rfl rfl gw742 gw744 gw25 gw49 (kX4_stands l D ct sa a thr σ wr _ j hx hj) gw745 (by decide +kernel) rfl dX4_lockTold_38 ⟨Nat.le_of_ble_eq_true rfl, Nat.le_of_ble_eq_true rfl⟩ ⟨Nat.le_of_ble_eq_true rfl, Nat.le_of_ble_eq_true rfl⟩ (Nat.le_of_ble_eq_true rfl) (dki ?_)
    exact j_ireturn C E rfl dX4_lockTold_41 (Nat.le_of_ble_eq_true rfl) (Nat.le_of_ble_eq_true rfl) (⟨rfl, rfl⟩)
  · refine j_iload_n (i := 2) C dX4_lockTold_0 rfl 2 rfl ?_
    refine j_tsIn (tgt := 42) C dX4_lockTold_1 (by decide) (by decide) rfl (by decide) ?_
    refine j_aload_n (i := 0) C dX4_lockTold_42 rfl 0 rfl ?_
    refine j_iload_n (i := 1) C dX4_lockTold_43 rfl 1 rfl ?_
    refine j_iconst (v := nI 1) C dX4_lockTold_44 (by decide) ?_
    refine j_callV (nargs := 2) (As := [_, _]) (Cn := RX4) C (0) rfl rfl rfl gw729 gw731 gw24 gw49 (kX4_lo l D ct sa a thr σ wr _ _ j 1 hx rfl hj (by decide)) gw732 (by decide +kernel) rfl dX4_lockTold_45 ⟨Nat.le_of_ble_eq_true rfl, Nat.le_of_ble_eq_true rfl⟩ ⟨Nat.le_of_ble_eq_true rfl, Nat.le_of_ble_eq_true rfl⟩ (Nat.le_of_ble_eq_true rfl) (dki ?_)
    exact j_ireturn C E rfl dX4_lockTold_48 (Nat.le_of_ble_eq_true rfl) (Nat.le_of_ble_eq_true rfl) (⟨rfl, rfl⟩)
  · refine j_iload_n (i := 2) C dX4_lockTold_0 rfl 2 rfl ?_
    refine j_tsIn (tgt := 49) C dX4_lockTold_1 (by decide) (by decide) rfl (by decide) ?_
    refine j_aload_n (i := 0) C dX4_lockTold_49 rfl 0 rfl ?_
    refine j_iload_n (i := 1) C dX4_lockTold_50 rfl 1 rfl ?_
    refine j_iconst (v := nI 2) C dX4_lockTold_51 (by decide) ?_
    refine j_callV (nargs := 2) (As := [_, _]) (Cn := RX4) C (0) rfl rfl rfl gw729 gw731 gw24 gw49 (kX4_lo l D ct sa a thr σ wr _ _ j 2 hx rfl hj (by decide)) gw732 (by decide +kernel) rfl dX4_lockTold_52 ⟨Nat.le_of_ble_eq_true rfl, Nat.le_of_ble_eq_true rfl⟩ ⟨Nat.le_of_ble_eq_true rfl, Nat.le_of_ble_eq_true rfl⟩ (Nat.le_of_ble_eq_true rfl) (dki ?_)
    exact j_ireturn C E rfl dX4_lockTold_55 (Nat.le_of_ble_eq_true rfl) (Nat.le_of_ble_eq_true rfl) (⟨rfl, rfl⟩)
  · refine j_iload_n (i := 2) C dX4_lockTold_0 rfl 2 rfl ?_
    refine j_tsIn (tgt := 56) C dX4_lockTold_1 (by decide) (by decide) rfl (by decide) ?_
    refine j_aload_n (i := 0) C dX4_lockTold_56 rfl 0 rfl ?_
    refine j_iload_n (i := 1) C dX4_lockTold_57 rfl 1 rfl ?_
    refine j_iconst (v := nI 3) C dX4_lockTold_58 (by decide) ?_
    refine j_callV (nargs := 2) (As := [_, _]) (Cn := RX4) C (0) rfl rfl rfl gw729 gw731 gw24 gw49 (kX4_lo l D ct sa a thr σ wr _ _ j 3 hx rfl hj (by decide)) gw732 (by decide +kernel) rfl dX4_lockTold_59 ⟨Nat.le_of_ble_eq_true rfl, Nat.le_of_ble_eq_true rfl⟩ ⟨Nat.le_of_ble_eq_true rfl, Nat.le_of_ble_eq_true rfl⟩ (Nat.le_of_ble_eq_true rfl) (dki ?_)
    exact j_ireturn C E rfl dX4_lockTold_62 (Nat.le_of_ble_eq_true rfl) (Nat.le_of_ble_eq_true rfl) (⟨rfl, rfl⟩)
  · refine j_iload_n (i := 2) C dX4_lockTold_0 rfl 2 rfl ?_
    refine j_tsIn (tgt := 63) C dX4_lockTold_1 (by decide) (by decide) rfl (by decide) ?_
    refine j_aload_n (i := 0) C dX4_lockTold_63 rfl 0 rfl ?_
    refine j_iload_n (i := 1) C dX4_lockTold_64 rfl 1 rfl ?_
    refine j_callV (nargs := 1) (As := [_]) (Cn := RX4) C (0) rfl rfl rfl gw797 gw799 gw31 gw49 (kX4_shows l D ct sa a thr σ wr _ j hx hj) gw800 (by decide +kernel) rfl dX4_lockTold_65 ⟨Nat.le_of_ble_eq_true rfl, Nat.le_of_ble_eq_true rfl⟩ ⟨Nat.le_of_ble_eq_true rfl, Nat.le_of_ble_eq_true rfl⟩ (Nat.le_of_ble_eq_true rfl) (dki ?_)
    exact j_ireturn C E rfl dX4_lockTold_68 (Nat.le_of_ble_eq_true rfl) (Nat.le_of_ble_eq_true rfl) (⟨rfl, rfl⟩)
  · refine j_iload_n (i := 2) C dX4_lockTold_0 rfl 2 rfl ?_
    refine j_tsOut (tgt := 69) C dX4_lockTold_1 (Or.inr (by decide)) (by decide) ?_
    refine j_aload_n (i := 0) C dX4_lockTold_69 rfl 0 rfl ?_
    refine j_iload_n (i := 1) C dX4_lockTold_70 rfl 1 rfl ?_
    refine j_iconst (v := nI 3) C dX4_lockTold_71 (by decide) ?_
    refine j_callV (nargs := 2) (As := [_, _]) (Cn := RX4) C (0) rfl rfl rfl gw729 gw731 gw24 gw49 (kX4_lo l D ct sa a thr σ wr _ _ j 3 hx rfl hj (by decide)) gw732 (by decide +kernel) rfl dX4_lockTold_72 ⟨Nat.le_of_ble_eq_true rfl, Nat.le_of_ble_eq_true rfl⟩ ⟨Nat.le_of_ble_eq_true rfl, Nat.le_of_ble_eq_true rfl⟩ (Nat.le_of_ble_eq_true rfl) (dki ?_)
    refine j_iconst (v := nI 1) C dX4_lockTold_75 (by decide) ?_
    refine j_icmp_ne C 83 dX4_lockTold_76 (by decide) (fun c76 => ?_) (fun c76 => ?_)
    · refine j_aload_n (i := 0) C dX4_lockTold_83 rfl 0 rfl ?_
      refine j_iload_n (i := 1) C dX4_lockTold_84 rfl 1 rfl ?_
      refine j_iconst (v := nI 0) C dX4_lockTold_85 (by decide) ?_
      refine j_callV (nargs := 2) (As := [_, _]) (Cn := RX4) C (0) rfl rfl rfl gw729 gw731 gw24 gw49 (kX4_lo l D ct sa a thr σ wr _ _ j 0 hx rfl hj (by decide)) gw732 (by decide +kernel) rfl dX4_lockTold_86 ⟨Nat.le_of_ble_eq_true rfl, Nat.le_of_ble_eq_true rfl⟩ ⟨Nat.le_of_ble_eq_true rfl, Nat.le_of_ble_eq_true rfl⟩ (Nat.le_of_ble_eq_true rfl) (dki ?_)
      exact j_ireturn C E rfl dX4_lockTold_89 (Nat.le_of_ble_eq_true rfl) (Nat.le_of_ble_eq_true rfl) (⟨congrArg (fun z => some (Value.int z)) (by first | exact (if_pos c76).symm | exact (if_neg c76).symm), rfl⟩)
    · refine j_iconst (v := (-1)) C dX4_lockTold_79 (by decide) ?_
      refine j_goto C 89 dX4_lockTold_80 (by decide) ?_
      exact j_ireturn C E rfl dX4_lockTold_89 (Nat.le_of_ble_eq_true rfl) (Nat.le_of_ble_eq_true rfl) (⟨congrArg (fun z => some (Value.int z)) (by first | exact (if_pos c76).symm | exact (if_neg c76).symm), rfl⟩)
set_option maxRecDepth 100000 in
set_option maxHeartbeats 4000000 in
theorem kX4_told (l : Launch) (D : va_G) (ct : Nat → ClassId) (sa : Nat → Nat) (a : Nat → Nat) (thr : Int32) (σ : St) (wr : va_W) (x y : Int32) (hi : Inv0 σ) : jM l yX4_told (Cond.code yX4_told cX4_told 3 (Option.some Jvm.ClassFile.FieldType.int) :: GW) (rM 3 0 0 70) D ct sa [.ref (a 0), .int x, .int y] (WM ct a thr σ ++ wr) (fD ct a wr (f_told σ x y)) 0 0 := by
  refine jMX.plain (jBody (own := RX4) (by decide) rfl rfl (Nat.le_of_ble_eq_true rfl) ?_)
  intro X C E T0
  refine j_lv (lv1 := [(0, .ref _), (1, .int _), (2, .int _)]) rfl ?_
  refine j_aload_n (i := 0) C dX4_told_0 rfl 0 rfl ?_
  refine j_iconst (v := nI 0) C dX4_told_1 (by decide) ?_
  refine j_put (Cn := RX4) (T := TX4) (N := 7) (ci := 5) (ws2 := WM ct a (nI 0) σ ++ wr) C iX4 tyX4 tyX4_ok nmX4 rfl (0) rfl 0 (by decide) gw677 rfl rfl rfl rfl rfl (Nat.le_of_ble_eq_true rfl) rfl dX4_told_2 ?_
  refine j_aload_n (i := 0) C dX4_told_5 rfl 0 rfl ?_
  refine j_iload_n (i := 1) C dX4_told_6 rfl 1 rfl ?_
  refine j_callV (nargs := 1) (As := [_]) (Cn := RX4) C (0) rfl rfl rfl gw725 gw727 gw23 gw49 (kX4_isLock l D ct sa _ _ _ _ _ hi.1) gw728 (by decide +kernel) rfl dX4_told_7 ⟨Nat.le_of_ble_eq_true rfl, Nat.le_of_ble_eq_true rfl⟩ ⟨Nat.le_of_ble_eq_true rfl, Nat.le_of_ble_eq_true rfl⟩ (Nat.le_of_ble_eq_true rfl) (dki ?_)
  refine j_if_eq C 31 dX4_told_10 (by decide) (fun c10 => ?_) (fun c10 => ?_)
  · refine j_aload_n (i := 0) C dX4_told_31 rfl 0 rfl ?_
    refine j_iconst (v := nI 1) C dX4_told_32 (by decide) ?_
    refine j_callV (nargs := 1) (As := [_]) (Cn := RX4) C (0) rfl rfl rfl gw713 gw715 gw21 gw49 (kX4_fail l D ct sa _ _ _ _ _) gw716 (by decide +kernel) rfl dX4_told_33 ⟨Nat.le_of_ble_eq_true rfl, Nat.le_of_ble_eq_true rfl⟩ ⟨Nat.le_of_ble_eq_true rfl, Nat.le_of_ble_eq_true rfl⟩ (Nat.le_of_ble_eq_true rfl) (dki ?_)
    exact j_ireturn C E rfl dX4_told_36 (Nat.le_of_ble_eq_true rfl) (Nat.le_of_ble_eq_true rfl) (fK (by rw [f_told]; first | exact if_pos ⟨b2i_t c10, hy⟩ | exact if_neg (fun z => absurd z.1 (b2i_f c10)) | exact if_neg (fun z => absurd ((in_ok (M := 5) (by decide)).mpr z.2) (b2i_f c19))))
  · refine j_iload_n (i := 2) C dX4_told_13 rfl 2 rfl ?_
    refine j_iconst (v := nI 0) C dX4_told_14 (by decide) ?_
    refine j_iconst (v := nI 5) C dX4_told_15 (by decide) ?_
    refine j_callS (nargs := 3) (As := [_, _, _]) C gw710 gw711 gw49 (kX4_isIn l D ct sa _ _ _ _) gw712 (by decide +kernel) rfl dX4_told_16 ⟨Nat.le_of_ble_eq_true rfl, Nat.le_of_ble_eq_true rfl⟩ ⟨Nat.le_of_ble_eq_true rfl, Nat.le_of_ble_eq_true rfl⟩ (Nat.le_of_ble_eq_true rfl) (dki ?_)
    refine j_if_eq C 31 dX4_told_19 (by decide) (fun c19 => ?_) (fun c19 => ?_)
    · refine j_aload_n (i := 0) C dX4_told_31 rfl 0 rfl ?_
      refine j_iconst (v := nI 1) C dX4_told_32 (by decide) ?_
      refine j_callV (nargs := 1) (As := [_]) (Cn := RX4) C (0) rfl rfl rfl gw713 gw715 gw21 gw49 (kX4_fail l D ct sa _ _ _ _ _) gw716 (by decide +kernel) rfl dX4_told_33 ⟨Nat.le_of_ble_eq_true rfl, Nat.le_of_ble_eq_true rfl⟩ ⟨Nat.le_of_ble_eq_true rfl, Nat.le_of_ble_eq_true rfl⟩ (Nat.le_of_ble_eq_true rfl) (dki ?_)
      exact j_ireturn C E rfl dX4_told_36 (Nat.le_of_ble_eq_true rfl) (Nat.le_of_ble_eq_true rfl) (fK (by rw [f_told]; first | exact if_pos ⟨b2i_t c10, hy⟩ | exact if_neg (fun z => absurd z.1 (b2i_f c10)) | exact if_neg (fun z => absurd ((in_ok (M := 5) (by decide)).mpr z.2) (b2i_f c19))))
    · obtain ⟨hj_x, e_x⟩ := okI_ix (b2i_t c10) (by omega)
      have hy := (in_ok (M := 5) (by decide)).mp (b2i_t c19)
      obtain ⟨hj_y, e_y⟩ := okI_ix (hy) (by omega)
      refine j_aload_n (i := 0) C dX4_told_22 rfl 0 rfl ?_
      refine j_iload_n (i := 1) C dX4_told_23 rfl 1 rfl ?_
      refine j_iload_n (i := 2) C dX4_told_24 rfl 2 rfl ?_
      refine j_callV (nargs := 2) (As := [_, _]) (Cn := RX4) C (0) rfl rfl rfl gw793 gw795 gw30 gw49 (kX4_lockTold l D ct sa a (nI 0) σ wr _ _ (ix x) (ix y) e_x e_y (by have := hi.1; omega) hj_y) gw796 (by decide +kernel) rfl dX4_told_25 ⟨Nat.le_of_ble_eq_true rfl, Nat.le_of_ble_eq_true rfl⟩ ⟨Nat.le_of_ble_eq_true rfl, Nat.le_of_ble_eq_true rfl⟩ (Nat.le_of_ble_eq_true rfl) (dki ?_)
      refine j_goto C 36 dX4_told_28 (by decide) ?_
      exact j_ireturn C E rfl dX4_told_36 (Nat.le_of_ble_eq_true rfl) (Nat.le_of_ble_eq_true rfl) (fK (by rw [f_told]; first | exact if_pos ⟨b2i_t c10, hy⟩ | exact if_neg (fun z => absurd z.1 (b2i_f c10)) | exact if_neg (fun z => absurd ((in_ok (M := 5) (by decide)).mpr z.2) (b2i_f c19))))
set_option maxRecDepth 100000 in
set_option maxHeartbeats 4000000 in
theorem kX4_wear (l : Launch) (D : va_G) (ct : Nat → ClassId) (sa : Nat → Nat) (a : Nat → Nat) (thr : Int32) (σ : St) (wr : va_W) (x y z : Int32) (hi : Inv0 σ) : jM l yX4_wear (Cond.code yX4_wear cX4_wear 4 (Option.some Jvm.ClassFile.FieldType.int) :: GW) (rM 2 0 0 43) D ct sa [.ref (a 0), .int x, .int y, .int z] (WM ct a thr σ ++ wr) (fD ct a wr (f_wear σ x y z)) 0 0 := by
  refine jMX.plain (jBody (own := RX4) (by decide) rfl rfl (Nat.le_of_ble_eq_true rfl) ?_)
  intro X C E T0
  refine j_lv (lv1 := [(0, .ref _), (1, .int _), (2, .int _), (3, .int _)]) rfl ?_
  refine j_aload_n (i := 0) C dX4_wear_0 rfl 0 rfl ?_
  refine j_iconst (v := nI 0) C dX4_wear_1 (by decide) ?_
  refine j_put (Cn := RX4) (T := TX4) (N := 7) (ci := 5) (ws2 := WM ct a (nI 0) σ ++ wr) C iX4 tyX4 tyX4_ok nmX4 rfl (0) rfl 0 (by decide) gw677 rfl rfl rfl rfl rfl (Nat.le_of_ble_eq_true rfl) rfl dX4_wear_2 ?_
  refine j_aload_n (i := 0) C dX4_wear_5 rfl 0 rfl ?_
  refine j_iload_n (i := 1) C dX4_wear_6 rfl 1 rfl ?_
  refine j_callV (nargs := 1) (As := [_]) (Cn := RX4) C (0) rfl rfl rfl gw725 gw727 gw23 gw49 (kX4_isLock l D ct sa _ _ _ _ _ hi.1) gw728 (by decide +kernel) rfl dX4_wear_7 ⟨Nat.le_of_ble_eq_true rfl, Nat.le_of_ble_eq_true rfl⟩ ⟨Nat.le_of_ble_eq_true rfl, Nat.le_of_ble_eq_true rfl⟩ (Nat.le_of_ble_eq_true rfl) (dki ?_)
  refine j_if_eq C 41 dX4_wear_10 (by decide) (fun c10 => ?_) (fun c10 => ?_)
  · refine j_aload_n (i := 0) C dX4_wear_41 rfl 0 rfl ?_
    refine j_iconst (v := nI 1) C dX4_wear_42 (by decide) ?_
    refine j_callV (nargs := 1) (As := [_]) (Cn := RX4) C (0) rfl rfl rfl gw713 gw715 gw21 gw49 (kX4_fail l D ct sa _ _ _ _ _) gw716 (by decide +kernel) rfl dX4_wear_43 ⟨Nat.le_of_ble_eq_true rfl, Nat.le_of_ble_eq_true rfl⟩ ⟨Nat.le_of_ble_eq_true rfl, Nat.le_of_ble_eq_true rfl⟩ (Nat.le_of_ble_eq_true rfl) (dki ?_)
    exact j_ireturn C E rfl dX4_wear_46 (Nat.le_of_ble_eq_true rfl) (Nat.le_of_ble_eq_true rfl) (fK (by rw [f_wear]; first | exact if_pos ⟨b2i_t c10, hy, hz⟩ | exact if_neg (fun z => absurd z.1 (b2i_f c10)) | exact if_neg (fun z => absurd ((in_ok (M := 3) (by decide)).mpr z.2.1) (b2i_f c19)) | exact if_neg (fun z => absurd ((in_ok (M := 5) (by decide)).mpr z.2.2) (b2i_f c28))))
  · refine j_iload_n (i := 2) C dX4_wear_13 rfl 2 rfl ?_
    refine j_iconst (v := nI 0) C dX4_wear_14 (by decide) ?_
    refine j_iconst (v := nI 3) C dX4_wear_15 (by decide) ?_
    refine j_callS (nargs := 3) (As := [_, _, _]) C gw710 gw711 gw49 (kX4_isIn l D ct sa _ _ _ _) gw712 (by decide +kernel) rfl dX4_wear_16 ⟨Nat.le_of_ble_eq_true rfl, Nat.le_of_ble_eq_true rfl⟩ ⟨Nat.le_of_ble_eq_true rfl, Nat.le_of_ble_eq_true rfl⟩ (Nat.le_of_ble_eq_true rfl) (dki ?_)
    refine j_if_eq C 41 dX4_wear_19 (by decide) (fun c19 => ?_) (fun c19 => ?_)
    · refine j_aload_n (i := 0) C dX4_wear_41 rfl 0 rfl ?_
      refine j_iconst (v := nI 1) C dX4_wear_42 (by decide) ?_
      refine j_callV (nargs := 1) (As := [_]) (Cn := RX4) C (0) rfl rfl rfl gw713 gw715 gw21 gw49 (kX4_fail l D ct sa _ _ _ _ _) gw716 (by decide +kernel) rfl dX4_wear_43 ⟨Nat.le_of_ble_eq_true rfl, Nat.le_of_ble_eq_true rfl⟩ ⟨Nat.le_of_ble_eq_true rfl, Nat.le_of_ble_eq_true rfl⟩ (Nat.le_of_ble_eq_true rfl) (dki ?_)
      exact j_ireturn C E rfl dX4_wear_46 (Nat.le_of_ble_eq_true rfl) (Nat.le_of_ble_eq_true rfl) (fK (by rw [f_wear]; first | exact if_pos ⟨b2i_t c10, hy, hz⟩ | exact if_neg (fun z => absurd z.1 (b2i_f c10)) | exact if_neg (fun z => absurd ((in_ok (M := 3) (by decide)).mpr z.2.1) (b2i_f c19)) | exact if_neg (fun z => absurd ((in_ok (M := 5) (by decide)).mpr z.2.2) (b2i_f c28))))
    · refine j_iload_n (i := 3) C dX4_wear_22 rfl 3 rfl ?_
      refine j_iconst (v := nI 0) C dX4_wear_23 (by decide) ?_
      refine j_iconst (v := nI 5) C dX4_wear_24 (by decide) ?_
      refine j_callS (nargs := 3) (As := [_, _, _]) C gw710 gw711 gw49 (kX4_isIn l D ct sa _ _ _ _) gw712 (by decide +kernel) rfl dX4_wear_25 ⟨Nat.le_of_ble_eq_true rfl, Nat.le_of_ble_eq_true rfl⟩ ⟨Nat.le_of_ble_eq_true rfl, Nat.le_of_ble_eq_true rfl⟩ (Nat.le_of_ble_eq_true rfl) (dki ?_)
      refine j_if_eq C 41 dX4_wear_28 (by decide) (fun c28 => ?_) (fun c28 => ?_)
      · refine j_aload_n (i := 0) C dX4_wear_41 rfl 0 rfl ?_
        refine j_iconst (v := nI 1) C dX4_wear_42 (by decide) ?_
        refine j_callV (nargs := 1) (As := [_]) (Cn := RX4) C (0) rfl rfl rfl gw713 gw715 gw21 gw49 (kX4_fail l D ct sa _ _ _ _ _) gw716 (by decide +kernel) rfl dX4_wear_43 ⟨Nat.le_of_ble_eq_true rfl, Nat.le_of_ble_eq_true rfl⟩ ⟨Nat.le_of_ble_eq_true rfl, Nat.le_of_ble_eq_true rfl⟩ (Nat.le_of_ble_eq_true rfl) (dki ?_)
        exact j_ireturn C E rfl dX4_wear_46 (Nat.le_of_ble_eq_true rfl) (Nat.le_of_ble_eq_true rfl) (fK (by rw [f_wear]; first | exact if_pos ⟨b2i_t c10, hy, hz⟩ | exact if_neg (fun z => absurd z.1 (b2i_f c10)) | exact if_neg (fun z => absurd ((in_ok (M := 3) (by decide)).mpr z.2.1) (b2i_f c19)) | exact if_neg (fun z => absurd ((in_ok (M := 5) (by decide)).mpr z.2.2) (b2i_f c28))))
      · obtain ⟨hj_x, e_x⟩ := okI_ix (b2i_t c10) (by omega)
        have hy := (in_ok (M := 3) (by decide)).mp (b2i_t c19)
        obtain ⟨hj_y, e_y⟩ := okI_ix (hy) (by omega)
        have hz := (in_ok (M := 5) (by decide)).mp (b2i_t c28)
        obtain ⟨hj_z, e_z⟩ := okI_ix (hz) (by omega)
        refine j_aload_n (i := 0) C dX4_wear_31 rfl 0 rfl ?_
        refine j_iload_n (i := 1) C dX4_wear_32 rfl 1 rfl ?_
        refine j_iload_n (i := 2) C dX4_wear_33 rfl 2 rfl ?_
        refine j_iload_n (i := 3) C dX4_wear_34 rfl 3 rfl ?_
        refine j_callV (nargs := 3) (As := [_, _, _]) (Cn := RX4) C (0) rfl rfl rfl gw801 gw803 gw32 gw49 (kX4_we l D ct sa a (nI 0) σ wr _ _ _ (ix x) (ix y) (ix z) e_x e_y e_z (by have := hi.1; omega) hj_y hj_z) gw804 (by decide +kernel) rfl dX4_wear_35 ⟨Nat.le_of_ble_eq_true rfl, Nat.le_of_ble_eq_true rfl⟩ ⟨Nat.le_of_ble_eq_true rfl, Nat.le_of_ble_eq_true rfl⟩ (Nat.le_of_ble_eq_true rfl) (dki ?_)
        refine j_goto C 46 dX4_wear_38 (by decide) ?_
        exact j_ireturn C E rfl dX4_wear_46 (Nat.le_of_ble_eq_true rfl) (Nat.le_of_ble_eq_true rfl) (fK (by rw [f_wear]; first | exact if_pos ⟨b2i_t c10, hy, hz⟩ | exact if_neg (fun z => absurd z.1 (b2i_f c10)) | exact if_neg (fun z => absurd ((in_ok (M := 3) (by decide)).mpr z.2.1) (b2i_f c19)) | exact if_neg (fun z => absurd ((in_ok (M := 5) (by decide)).mpr z.2.2) (b2i_f c28))))
set_option maxRecDepth 100000 in
set_option maxHeartbeats 4000000 in
theorem kX4_rackTold (l : Launch) (D : va_G) (ct : Nat → ClassId) (sa : Nat → Nat) (a : Nat → Nat) (thr : Int32) (σ : St) (wr : va_W) (x y : Int32) (r v : Nat) (hn : sN σ ≤ 8) (hx : x = nI r) (hy : y = nI v) (hr : r < 3) (hv : v < 6) : jM l yX4_rackTold (Cond.code yX4_rackTold cX4_rackTold 5 (Option.some Jvm.ClassFile.FieldType.int) :: GW) (rM 2 0 0 46) D ct sa [.ref (a 0), .int x, .int y] (WM ct a thr σ ++ wr) (dK (some (.int (rtl σ r v))) (WM ct a thr σ ++ wr)) 0 0 := by
  refine jMX.plain (jBody (own := RX4) (by decide) rfl rfl (Nat.le_of_ble_eq_true rfl) ?_)
  intro X C E T0
  refine j_lv (lv1 := [(0, .ref _), (1, .int _), (2, .int _)]) rfl ?_
  subst hy
  subst hx
  rcases (show v = 0 ∨ v = 1 ∨ v = 2 ∨ v = 3 ∨ v = 4 ∨ v = 5 by omega) with rfl | rfl | rfl | rfl | rfl | rfl
  · refine j_iload_n (i := 2) C dX4_rackTold_0 rfl 2 rfl ?_
    refine j_tsIn (tgt := 36) C dX4_rackTold_1 (by decide) (by decide) rfl (by decide) ?_
    refine j_aload_n (i := 0) C dX4_rackTold_36 rfl 0 rfl ?_
    refine j_iload_n (i := 1) C dX4_rackTold_37 rfl 1 rfl ?_
    refine j_iconst (v := nI 0) C dX4_rackTold_38 (by decide) ?_
    refine j_callV (nargs := 2) (As := [_, _]) (Cn := RX4) C (0) rfl rfl rfl gw773 gw775 gw28 gw49 (kX4_ra l D ct sa a thr σ wr _ _ r 0 rfl rfl hr (by decide)) gw776 (by decide +kernel) rfl dX4_rackTold_39 ⟨Nat.le_of_ble_eq_true rfl, Nat.le_of_ble_eq_true rfl⟩ ⟨Nat.le_of_ble_eq_true rfl, Nat.le_of_ble_eq_true rfl⟩ (Nat.le_of_ble_eq_true rfl) (dki ?_)
    exact j_ireturn C E rfl dX4_rackTold_42 (Nat.le_of_ble_eq_true rfl) (Nat.le_of_ble_eq_true rfl) (⟨rfl, rfl⟩)
  · refine j_iload_n (i := 2) C dX4_rackTold_0 rfl 2 rfl ?_
    refine j_tsIn (tgt := 43) C dX4_rackTold_1 (by decide) (by decide) rfl (by decide) ?_
    refine j_aload_n (i := 0) C dX4_rackTold_43 rfl 0 rfl ?_
    refine j_iload_n (i := 1) C dX4_rackTold_44 rfl 1 rfl ?_
    refine j_callV (nargs := 1) (As := [_]) (Cn := RX4) C (0) rfl rfl rfl gw769 gw771 gw27 gw49 (kX4_in l D ct sa _ _ _ _ _ hn) gw772 (by decide +kernel) rfl dX4_rackTold_45 ⟨Nat.le_of_ble_eq_true rfl, Nat.le_of_ble_eq_true rfl⟩ ⟨Nat.le_of_ble_eq_true rfl, Nat.le_of_ble_eq_true rfl⟩ (Nat.le_of_ble_eq_true rfl) (dki ?_)
    exact j_ireturn C E rfl dX4_rackTold_48 (Nat.le_of_ble_eq_true rfl) (Nat.le_of_ble_eq_true rfl) (⟨rfl, rfl⟩)
  · refine j_iload_n (i := 2) C dX4_rackTold_0 rfl 2 rfl ?_
    refine j_tsIn (tgt := 49) C dX4_rackTold_1 (by decide) (by decide) rfl (by decide) ?_
    refine j_aload_n (i := 0) C dX4_rackTold_49 rfl 0 rfl ?_
    refine j_iload_n (i := 1) C dX4_rackTold_50 rfl 1 rfl ?_
    refine j_callV (nargs := 1) (As := [_]) (Cn := RX4) C (0) rfl rfl rfl gw785 gw787 gw29 gw49 (kX4_isOpen l D ct sa a thr σ wr _ r rfl hr) gw788 (by decide +kernel) rfl dX4_rackTold_51 ⟨Nat.le_of_ble_eq_true rfl, Nat.le_of_ble_eq_true rfl⟩ ⟨Nat.le_of_ble_eq_true rfl, Nat.le_of_ble_eq_true rfl⟩ (Nat.le_of_ble_eq_true rfl) (dki ?_)
    refine j_if_eq C 61 dX4_rackTold_54 (by decide) (fun c54 => ?_) (fun c54 => ?_)
    · refine j_iconst (v := nI 0) C dX4_rackTold_61 (by decide) ?_
      exact j_ireturn C E rfl dX4_rackTold_62 (Nat.le_of_ble_eq_true rfl) (Nat.le_of_ble_eq_true rfl) (⟨congrArg (fun z => some (Value.int z)) (by first | exact (b2i_y (b2i_t c54)).symm | exact (b2i_n (b2i_f c54)).symm), rfl⟩)
    · refine j_iconst (v := nI 1) C dX4_rackTold_57 (by decide) ?_
      refine j_goto C 62 dX4_rackTold_58 (by decide) ?_
      exact j_ireturn C E rfl dX4_rackTold_62 (Nat.le_of_ble_eq_true rfl) (Nat.le_of_ble_eq_true rfl) (⟨congrArg (fun z => some (Value.int z)) (by first | exact (b2i_y (b2i_t c54)).symm | exact (b2i_n (b2i_f c54)).symm), rfl⟩)
  · refine j_iload_n (i := 2) C dX4_rackTold_0 rfl 2 rfl ?_
    refine j_tsIn (tgt := 63) C dX4_rackTold_1 (by decide) (by decide) rfl (by decide) ?_
    refine j_iconst (v := nI 0) C dX4_rackTold_63 (by decide) ?_
    refine j_istore_n (lv' := [(3, .int _), (0, .ref _), (1, .int _), (2, .int _)]) C dX4_rackTold_64 rfl (by decide) rfl ?_
    refine j_iconst (v := nI 0) C dX4_rackTold_65 (by decide) ?_
    refine j_istore (lv' := [(4, .int _), (3, .int _), (0, .ref _), (1, .int _), (2, .int _)]) C dX4_rackTold_66 (by decide) rfl ?_
    have L68 : ∀ (d i : Nat) (x3 : Int32) (x4 : Int32), i + d = sN σ → x3 = sumF (fun i => if sR σ (8 * i + 2) = nI r then sR σ (8 * i + 1) else nI 0) i → x4 = nI i → J X (WM ct a thr σ ++ wr) (0) (0) 68 [(0, .ref (a 0)), (1, .int (nI r)), (3, .int x3), (4, .int x4)] [] := by
      intro d
      induction d with
      | zero =>
        intro i x3 x4 hd e_x3 e_x4 
        subst e_x3
        subst e_x4
        have hi : i = sN σ := by omega
        rw [hi]
        refine j_iload C dX4_rackTold_68 3 rfl ?_
        refine j_aload_n (i := 0) C dX4_rackTold_70 rfl 0 rfl ?_
        refine j_get (Cn := RX4) (T := TX4) (N := 7) (ci := 5) C iX4 rfl (0) rfl 1 (by decide) gw678 rfl rfl dX4_rackTold_71 ?_
        refine j_icmp_ge C 108 dX4_rackTold_74 (by decide) (fun c74 => ?_) (fun c74 => by first | exact absurd c74 (by decide) | exact absurd c74 (nI_ge (by omega) (by omega)) | exact absurd (nI_le (by omega) (by omega)) c74 | exact absurd c74 (nI_nlt (by omega) (by omega)) | exact absurd (nI_lt (by omega) (by omega)) c74 | exact absurd c74 (nI_nle0 (by omega) (by omega)))
        refine j_iload_n (i := 3) C dX4_rackTold_108 rfl 2 rfl ?_
        exact j_ireturn C E rfl dX4_rackTold_109 (Nat.le_of_ble_eq_true rfl) (Nat.le_of_ble_eq_true rfl) (⟨rfl, rfl⟩)
      | succ d ih =>
        intro i x3 x4 hd e_x3 e_x4 
        subst e_x3
        subst e_x4
        refine j_iload C dX4_rackTold_68 3 rfl ?_
        refine j_aload_n (i := 0) C dX4_rackTold_70 rfl 0 rfl ?_
        refine j_get (Cn := RX4) (T := TX4) (N := 7) (ci := 5) C iX4 rfl (0) rfl 1 (by decide) gw678 rfl rfl dX4_rackTold_71 ?_
        refine j_icmp_ge C 108 dX4_rackTold_74 (by decide) (fun c74 => by first | exact absurd c74 (by decide) | exact absurd c74 (nI_ge (by omega) (by omega)) | exact absurd (nI_le (by omega) (by omega)) c74 | exact absurd c74 (nI_nlt (by omega) (by omega)) | exact absurd (nI_lt (by omega) (by omega)) c74 | exact absurd c74 (nI_nle0 (by omega) (by omega))) (fun c74 => ?_)
        refine j_iload_n (i := 3) C dX4_rackTold_77 rfl 2 rfl ?_
        refine j_aload_n (i := 0) C dX4_rackTold_78 rfl 0 rfl ?_
        refine j_iload C dX4_rackTold_79 3 rfl ?_
        refine j_iconst (v := nI 2) C dX4_rackTold_81 (by decide) ?_
        refine j_callV (nargs := 2) (As := [_, _]) (Cn := RX4) C (0) rfl rfl rfl gw729 gw731 gw24 gw49 (kX4_lo l D ct sa a thr σ wr _ _ i 2 rfl rfl (by omega) (by decide)) gw732 (by decide +kernel) rfl dX4_rackTold_82 ⟨Nat.le_of_ble_eq_true rfl, Nat.le_of_ble_eq_true rfl⟩ ⟨Nat.le_of_ble_eq_true rfl, Nat.le_of_ble_eq_true rfl⟩ (Nat.le_of_ble_eq_true rfl) (dki ?_)
        refine j_iload_n (i := 1) C dX4_rackTold_85 rfl 1 rfl ?_
        refine j_icmp_ne C 99 dX4_rackTold_86 (by decide) (fun c86 => ?_) (fun c86 => ?_)
        · refine j_iconst (v := nI 0) C dX4_rackTold_99 (by decide) ?_
          refine j_iadd C dX4_rackTold_100 ?_
          refine j_istore_n (lv' := [(3, .int _), (0, .ref _), (1, .int _), (4, .int _)]) C dX4_rackTold_101 rfl (by decide) rfl ?_
          refine j_iinc (z := 3) (lv' := [(4, .int _), (3, .int _), (0, .ref _), (1, .int _)]) C dX4_rackTold_102 rfl rfl (by decide) rfl ?_
          refine j_goto C 68 dX4_rackTold_105 (by decide) ?_
          exact j_lvs [2, 3, 1, 0] rfl (ih (i + 1) _ _ (by omega) (by first | exact congrArg (fun z => sumF (fun i => if sR σ (8 * i + 2) = nI r then sR σ (8 * i + 1) else nI 0) i + z) (if_pos c86).symm | exact congrArg (fun z => sumF (fun i => if sR σ (8 * i + 2) = nI r then sR σ (8 * i + 1) else nI 0) i + z) (if_neg c86).symm) (nI_1 i))
        · refine j_aload_n (i := 0) C dX4_rackTold_89 rfl 0 rfl ?_
          refine j_iload C dX4_rackTold_90 3 rfl ?_
          refine j_iconst (v := nI 1) C dX4_rackTold_92 (by decide) ?_
          refine j_callV (nargs := 2) (As := [_, _]) (Cn := RX4) C (0) rfl rfl rfl gw729 gw731 gw24 gw49 (kX4_lo l D ct sa a thr σ wr _ _ i 1 rfl rfl (by omega) (by decide)) gw732 (by decide +kernel) rfl dX4_rackTold_93 ⟨Nat.le_of_ble_eq_true rfl, Nat.le_of_ble_eq_true rfl⟩ ⟨Nat.le_of_ble_eq_true rfl, Nat.le_of_ble_eq_true rfl⟩ (Nat.le_of_ble_eq_true rfl) (dki ?_)
          refine j_goto C 100 dX4_rackTold_96 (by decide) ?_
          refine j_iadd C dX4_rackTold_100 ?_
          refine j_istore_n (lv' := [(3, .int _), (0, .ref _), (1, .int _), (4, .int _)]) C dX4_rackTold_101 rfl (by decide) rfl ?_
          refine j_iinc (z := 3) (lv' := [(4, .int _), (3, .int _), (0, .ref _), (1, .int _)]) C dX4_rackTold_102 rfl rfl (by decide) rfl ?_
          refine j_goto C 68 dX4_rackTold_105 (by decide) ?_
          exact j_lvs [2, 3, 1, 0] rfl (ih (i + 1) _ _ (by omega) (by first | exact congrArg (fun z => sumF (fun i => if sR σ (8 * i + 2) = nI r then sR σ (8 * i + 1) else nI 0) i + z) (if_pos c86).symm | exact congrArg (fun z => sumF (fun i => if sR σ (8 * i + 2) = nI r then sR σ (8 * i + 1) else nI 0) i + z) (if_neg c86).symm) (nI_1 i))
    exact j_lvs [2, 3, 1, 0] rfl (L68 (sN σ) (0) _ _ (by omega) (rfl) (rfl))
  · refine j_iload_n (i := 2) C dX4_rackTold_0 rfl 2 rfl ?_
    refine j_tsIn (tgt := 110) C dX4_rackTold_1 (by decide) (by decide) rfl (by decide) ?_
    refine j_aload_n (i := 0) C dX4_rackTold_110 rfl 0 rfl ?_
    refine j_iload_n (i := 1) C dX4_rackTold_111 rfl 1 rfl ?_
    refine j_iconst (v := nI 1) C dX4_rackTold_112 (by decide) ?_
    refine j_callV (nargs := 2) (As := [_, _]) (Cn := RX4) C (0) rfl rfl rfl gw773 gw775 gw28 gw49 (kX4_ra l D ct sa a thr σ wr _ _ r 1 rfl rfl hr (by decide)) gw776 (by decide +kernel) rfl dX4_rackTold_113 ⟨Nat.le_of_ble_eq_true rfl, Nat.le_of_ble_eq_true rfl⟩ ⟨Nat.le_of_ble_eq_true rfl, Nat.le_of_ble_eq_true rfl⟩ (Nat.le_of_ble_eq_true rfl) (dki ?_)
    exact j_ireturn C E rfl dX4_rackTold_116 (Nat.le_of_ble_eq_true rfl) (Nat.le_of_ble_eq_true rfl) (⟨rfl, rfl⟩)
  · refine j_iload_n (i := 2) C dX4_rackTold_0 rfl 2 rfl ?_
    refine j_tsOut (tgt := 117) C dX4_rackTold_1 (Or.inr (by decide)) (by decide) ?_
    refine j_aload_n (i := 0) C dX4_rackTold_117 rfl 0 rfl ?_
    refine j_iload_n (i := 1) C dX4_rackTold_118 rfl 1 rfl ?_
    refine j_iconst (v := nI 2) C dX4_rackTold_119 (by decide) ?_
    refine j_callV (nargs := 2) (As := [_, _]) (Cn := RX4) C (0) rfl rfl rfl gw773 gw775 gw28 gw49 (kX4_ra l D ct sa a thr σ wr _ _ r 2 rfl rfl hr (by decide)) gw776 (by decide +kernel) rfl dX4_rackTold_120 ⟨Nat.le_of_ble_eq_true rfl, Nat.le_of_ble_eq_true rfl⟩ ⟨Nat.le_of_ble_eq_true rfl, Nat.le_of_ble_eq_true rfl⟩ (Nat.le_of_ble_eq_true rfl) (dki ?_)
    exact j_ireturn C E rfl dX4_rackTold_123 (Nat.le_of_ble_eq_true rfl) (Nat.le_of_ble_eq_true rfl) (⟨rfl, rfl⟩)
set_option maxRecDepth 100000 in
set_option maxHeartbeats 4000000 in
theorem kX4_rack (l : Launch) (D : va_G) (ct : Nat → ClassId) (sa : Nat → Nat) (a : Nat → Nat) (thr : Int32) (σ : St) (wr : va_W) (x y : Int32) (hi : Inv0 σ) : jM l yX4_rack (Cond.code yX4_rack cX4_rack 3 (Option.some Jvm.ClassFile.FieldType.int) :: GW) (rM 3 0 0 70) D ct sa [.ref (a 0), .int x, .int y] (WM ct a thr σ ++ wr) (fD ct a wr (f_rack σ x y)) 0 0 := by
  refine jMX.plain (jBody (own := RX4) (by decide) rfl rfl (Nat.le_of_ble_eq_true rfl) ?_)
  intro X C E T0
  refine j_lv (lv1 := [(0, .ref _), (1, .int _), (2, .int _)]) rfl ?_
  refine j_aload_n (i := 0) C dX4_rack_0 rfl 0 rfl ?_
  refine j_iconst (v := nI 0) C dX4_rack_1 (by decide) ?_
  refine j_put (Cn := RX4) (T := TX4) (N := 7) (ci := 5) (ws2 := WM ct a (nI 0) σ ++ wr) C iX4 tyX4 tyX4_ok nmX4 rfl (0) rfl 0 (by decide) gw677 rfl rfl rfl rfl rfl (Nat.le_of_ble_eq_true rfl) rfl dX4_rack_2 ?_
  refine j_iload_n (i := 1) C dX4_rack_5 rfl 1 rfl ?_
  refine j_callS (nargs := 1) (As := [_]) C gw766 gw767 gw49 (kX4_isRack l D ct sa _ _) gw768 (by decide +kernel) rfl dX4_rack_6 ⟨Nat.le_of_ble_eq_true rfl, Nat.le_of_ble_eq_true rfl⟩ ⟨Nat.le_of_ble_eq_true rfl, Nat.le_of_ble_eq_true rfl⟩ (Nat.le_of_ble_eq_true rfl) (dki ?_)
  refine j_if_eq C 30 dX4_rack_9 (by decide) (fun c9 => ?_) (fun c9 => ?_)
  · refine j_aload_n (i := 0) C dX4_rack_30 rfl 0 rfl ?_
    refine j_iconst (v := nI 1) C dX4_rack_31 (by decide) ?_
    refine j_callV (nargs := 1) (As := [_]) (Cn := RX4) C (0) rfl rfl rfl gw713 gw715 gw21 gw49 (kX4_fail l D ct sa _ _ _ _ _) gw716 (by decide +kernel) rfl dX4_rack_32 ⟨Nat.le_of_ble_eq_true rfl, Nat.le_of_ble_eq_true rfl⟩ ⟨Nat.le_of_ble_eq_true rfl, Nat.le_of_ble_eq_true rfl⟩ (Nat.le_of_ble_eq_true rfl) (dki ?_)
    exact j_ireturn C E rfl dX4_rack_35 (Nat.le_of_ble_eq_true rfl) (Nat.le_of_ble_eq_true rfl) (fK (by rw [f_rack]; first | exact if_pos ⟨b2i_t c9, hy⟩ | exact if_neg (fun z => absurd z.1 (b2i_f c9)) | exact if_neg (fun z => absurd ((in_ok (M := 5) (by decide)).mpr z.2) (b2i_f c18))))
  · refine j_iload_n (i := 2) C dX4_rack_12 rfl 2 rfl ?_
    refine j_iconst (v := nI 0) C dX4_rack_13 (by decide) ?_
    refine j_iconst (v := nI 5) C dX4_rack_14 (by decide) ?_
    refine j_callS (nargs := 3) (As := [_, _, _]) C gw710 gw711 gw49 (kX4_isIn l D ct sa _ _ _ _) gw712 (by decide +kernel) rfl dX4_rack_15 ⟨Nat.le_of_ble_eq_true rfl, Nat.le_of_ble_eq_true rfl⟩ ⟨Nat.le_of_ble_eq_true rfl, Nat.le_of_ble_eq_true rfl⟩ (Nat.le_of_ble_eq_true rfl) (dki ?_)
    refine j_if_eq C 30 dX4_rack_18 (by decide) (fun c18 => ?_) (fun c18 => ?_)
    · refine j_aload_n (i := 0) C dX4_rack_30 rfl 0 rfl ?_
      refine j_iconst (v := nI 1) C dX4_rack_31 (by decide) ?_
      refine j_callV (nargs := 1) (As := [_]) (Cn := RX4) C (0) rfl rfl rfl gw713 gw715 gw21 gw49 (kX4_fail l D ct sa _ _ _ _ _) gw716 (by decide +kernel) rfl dX4_rack_32 ⟨Nat.le_of_ble_eq_true rfl, Nat.le_of_ble_eq_true rfl⟩ ⟨Nat.le_of_ble_eq_true rfl, Nat.le_of_ble_eq_true rfl⟩ (Nat.le_of_ble_eq_true rfl) (dki ?_)
      exact j_ireturn C E rfl dX4_rack_35 (Nat.le_of_ble_eq_true rfl) (Nat.le_of_ble_eq_true rfl) (fK (by rw [f_rack]; first | exact if_pos ⟨b2i_t c9, hy⟩ | exact if_neg (fun z => absurd z.1 (b2i_f c9)) | exact if_neg (fun z => absurd ((in_ok (M := 5) (by decide)).mpr z.2) (b2i_f c18))))
    · obtain ⟨hj_x, e_x⟩ := okI_ix (b2i_t c9) (by omega)
      have hy := (in_ok (M := 5) (by decide)).mp (b2i_t c18)
      obtain ⟨hj_y, e_y⟩ := okI_ix (hy) (by omega)
      refine j_aload_n (i := 0) C dX4_rack_21 rfl 0 rfl ?_
      refine j_iload_n (i := 1) C dX4_rack_22 rfl 1 rfl ?_
      refine j_iload_n (i := 2) C dX4_rack_23 rfl 2 rfl ?_
      refine j_callV (nargs := 2) (As := [_, _]) (Cn := RX4) C (0) rfl rfl rfl gw813 gw815 gw33 gw49 (kX4_rackTold l D ct sa a (nI 0) σ wr _ _ (ix x) (ix y) hi.1 e_x e_y hj_x hj_y) gw816 (by decide +kernel) rfl dX4_rack_24 ⟨Nat.le_of_ble_eq_true rfl, Nat.le_of_ble_eq_true rfl⟩ ⟨Nat.le_of_ble_eq_true rfl, Nat.le_of_ble_eq_true rfl⟩ (Nat.le_of_ble_eq_true rfl) (dki ?_)
      refine j_goto C 35 dX4_rack_27 (by decide) ?_
      exact j_ireturn C E rfl dX4_rack_35 (Nat.le_of_ble_eq_true rfl) (Nat.le_of_ble_eq_true rfl) (fK (by rw [f_rack]; first | exact if_pos ⟨b2i_t c9, hy⟩ | exact if_neg (fun z => absurd z.1 (b2i_f c9)) | exact if_neg (fun z => absurd ((in_ok (M := 5) (by decide)).mpr z.2) (b2i_f c18))))
set_option maxRecDepth 100000 in
set_option maxHeartbeats 4000000 in
theorem kX4_counted (l : Launch) (D : va_G) (ct : Nat → ClassId) (sa : Nat → Nat) (a : Nat → Nat) (thr : Int32) (σ : St) (wr : va_W) (x : Int32) (v : Nat) (hn : sN σ ≤ 8) (hx : x = nI v) (hv : v < 7) : jM l yX4_counted (Cond.code yX4_counted cX4_counted 7 (Option.some Jvm.ClassFile.FieldType.int) :: GW) (rM 2 0 0 45) D ct sa [.ref (a 0), .int x] (WM ct a thr σ ++ wr) (dK (some (.int (cnd σ v))) (WM ct a thr σ ++ wr)) 0 0 := by
  refine jMX.plain (jBody (own := RX4) (by decide) rfl rfl (Nat.le_of_ble_eq_true rfl) ?_)
  intro X C E T0
  refine j_lv (lv1 := [(0, .ref _), (1, .int _)]) rfl ?_
  subst hx
  rcases (show v = 0 ∨ v = 1 ∨ v = 2 ∨ v = 3 ∨ v = 4 ∨ v = 5 ∨ v = 6 by omega) with rfl | rfl | rfl | rfl | rfl | rfl | rfl
  · refine j_iconst (v := nI 0) C dX4_counted_0 (by decide) ?_
    refine j_istore_n (lv' := [(2, .int _), (0, .ref _), (1, .int _)]) C dX4_counted_1 rfl (by decide) rfl ?_
    refine j_iload_n (i := 1) C dX4_counted_2 rfl 2 rfl ?_
    refine j_tsIn (tgt := 40) C dX4_counted_3 (by decide) (by decide) rfl (by decide) ?_
    refine j_aload_n (i := 0) C dX4_counted_40 rfl 1 rfl ?_
    refine j_get (Cn := RX4) (T := TX4) (N := 7) (ci := 5) C iX4 rfl (0) rfl 2 (by decide) gw679 rfl rfl dX4_counted_41 ?_
    exact j_ireturn C E rfl dX4_counted_44 (Nat.le_of_ble_eq_true rfl) (Nat.le_of_ble_eq_true rfl) (⟨rfl, rfl⟩)
  · refine j_iconst (v := nI 0) C dX4_counted_0 (by decide) ?_
    refine j_istore_n (lv' := [(2, .int _), (0, .ref _), (1, .int _)]) C dX4_counted_1 rfl (by decide) rfl ?_
    refine j_iload_n (i := 1) C dX4_counted_2 rfl 2 rfl ?_
    refine j_tsIn (tgt := 45) C dX4_counted_3 (by decide) (by decide) rfl (by decide) ?_
    refine j_aload_n (i := 0) C dX4_counted_45 rfl 1 rfl ?_
    refine j_get (Cn := RX4) (T := TX4) (N := 7) (ci := 5) C iX4 rfl (0) rfl 1 (by decide) gw678 rfl rfl dX4_counted_46 ?_
    exact j_ireturn C E rfl dX4_counted_49 (Nat.le_of_ble_eq_true rfl) (Nat.le_of_ble_eq_true rfl) (⟨rfl, rfl⟩)
  · refine j_iconst (v := nI 0) C dX4_counted_0 (by decide) ?_
    refine j_istore_n (lv' := [(2, .int _), (0, .ref _), (1, .int _)]) C dX4_counted_1 rfl (by decide) rfl ?_
    refine j_iload_n (i := 1) C dX4_counted_2 rfl 2 rfl ?_
    refine j_tsIn (tgt := 50) C dX4_counted_3 (by decide) (by decide) rfl (by decide) ?_
    refine j_iconst (v := nI 0) C dX4_counted_50 (by decide) ?_
    refine j_istore_n (lv' := [(3, .int _), (2, .int _), (0, .ref _), (1, .int _)]) C dX4_counted_51 rfl (by decide) rfl ?_
    have L52 : ∀ (d i : Nat) (x2 : Int32) (x3 : Int32), i + d = sN σ → x2 = sumF (fun i => sR σ (8 * i + 1)) i → x3 = nI i → J X (WM ct a thr σ ++ wr) (0) (0) 52 [(0, .ref (a 0)), (2, .int x2), (3, .int x3)] [] := by
      intro d
      induction d with
      | zero =>
        intro i x2 x3 hd e_x2 e_x3 
        subst e_x2
        subst e_x3
        have hi : i = sN σ := by omega
        rw [hi]
        refine j_iload_n (i := 3) C dX4_counted_52 rfl 2 rfl ?_
        refine j_aload_n (i := 0) C dX4_counted_53 rfl 0 rfl ?_
        refine j_get (Cn := RX4) (T := TX4) (N := 7) (ci := 5) C iX4 rfl (0) rfl 1 (by decide) gw678 rfl rfl dX4_counted_54 ?_
        refine j_icmp_ge C 75 dX4_counted_57 (by decide) (fun c57 => ?_) (fun c57 => by first | exact absurd c57 (by decide) | exact absurd c57 (nI_ge (by omega) (by omega)) | exact absurd (nI_le (by omega) (by omega)) c57 | exact absurd c57 (nI_nlt (by omega) (by omega)) | exact absurd (nI_lt (by omega) (by omega)) c57 | exact absurd c57 (nI_nle0 (by omega) (by omega)))
        refine j_iload_n (i := 2) C dX4_counted_75 rfl 1 rfl ?_
        exact j_ireturn C E rfl dX4_counted_76 (Nat.le_of_ble_eq_true rfl) (Nat.le_of_ble_eq_true rfl) (⟨rfl, rfl⟩)
      | succ d ih =>
        intro i x2 x3 hd e_x2 e_x3 
        subst e_x2
        subst e_x3
        refine j_iload_n (i := 3) C dX4_counted_52 rfl 2 rfl ?_
        refine j_aload_n (i := 0) C dX4_counted_53 rfl 0 rfl ?_
        refine j_get (Cn := RX4) (T := TX4) (N := 7) (ci := 5) C iX4 rfl (0) rfl 1 (by decide) gw678 rfl rfl dX4_counted_54 ?_
        refine j_icmp_ge C 75 dX4_counted_57 (by decide) (fun c57 => by first | exact absurd c57 (by decide) | exact absurd c57 (nI_ge (by omega) (by omega)) | exact absurd (nI_le (by omega) (by omega)) c57 | exact absurd c57 (nI_nlt (by omega) (by omega)) | exact absurd (nI_lt (by omega) (by omega)) c57 | exact absurd c57 (nI_nle0 (by omega) (by omega))) (fun c57 => ?_)
        refine j_iload_n (i := 2) C dX4_counted_60 rfl 1 rfl ?_
        refine j_aload_n (i := 0) C dX4_counted_61 rfl 0 rfl ?_
        refine j_iload_n (i := 3) C dX4_counted_62 rfl 2 rfl ?_
        refine j_iconst (v := nI 1) C dX4_counted_63 (by decide) ?_
        refine j_callV (nargs := 2) (As := [_, _]) (Cn := RX4) C (0) rfl rfl rfl gw729 gw731 gw24 gw49 (kX4_lo l D ct sa a thr σ wr _ _ i 1 rfl rfl (by omega) (by decide)) gw732 (by decide +kernel) rfl dX4_counted_64 ⟨Nat.le_of_ble_eq_true rfl, Nat.le_of_ble_eq_true rfl⟩ ⟨Nat.le_of_ble_eq_true rfl, Nat.le_of_ble_eq_true rfl⟩ (Nat.le_of_ble_eq_true rfl) (dki ?_)
        refine j_iadd C dX4_counted_67 ?_
        refine j_istore_n (lv' := [(2, .int _), (0, .ref _), (3, .int _)]) C dX4_counted_68 rfl (by decide) rfl ?_
        refine j_iinc (z := 2) (lv' := [(3, .int _), (2, .int _), (0, .ref _)]) C dX4_counted_69 rfl rfl (by decide) rfl ?_
        refine j_goto C 52 dX4_counted_72 (by decide) ?_
        exact j_lvs [2, 1, 0] rfl (ih (i + 1) _ _ (by omega) (rfl) (nI_1 i))
    exact j_lvs [2, 1, 0] rfl (L52 (sN σ) (0) _ _ (by omega) (rfl) (rfl))
  · refine j_iconst (v := nI 0) C dX4_counted_0 (by decide) ?_
    refine j_istore_n (lv' := [(2, .int _), (0, .ref _), (1, .int _)]) C dX4_counted_1 rfl (by decide) rfl ?_
    refine j_iload_n (i := 1) C dX4_counted_2 rfl 2 rfl ?_
    refine j_tsIn (tgt := 77) C dX4_counted_3 (by decide) (by decide) rfl (by decide) ?_
    refine j_iconst (v := nI 0) C dX4_counted_77 (by decide) ?_
    refine j_istore_n (lv' := [(3, .int _), (2, .int _), (0, .ref _), (1, .int _)]) C dX4_counted_78 rfl (by decide) rfl ?_
    have L79 : ∀ (d i : Nat) (x2 : Int32) (x3 : Int32), i + d = sN σ → x2 = sumF (fun i => sR σ (8 * i + 3)) i → x3 = nI i → J X (WM ct a thr σ ++ wr) (0) (0) 79 [(0, .ref (a 0)), (2, .int x2), (3, .int x3)] [] := by
      intro d
      induction d with
      | zero =>
        intro i x2 x3 hd e_x2 e_x3 
        subst e_x2
        subst e_x3
        have hi : i = sN σ := by omega
        rw [hi]
        refine j_iload_n (i := 3) C dX4_counted_79 rfl 2 rfl ?_
        refine j_aload_n (i := 0) C dX4_counted_80 rfl 0 rfl ?_
        refine j_get (Cn := RX4) (T := TX4) (N := 7) (ci := 5) C iX4 rfl (0) rfl 1 (by decide) gw678 rfl rfl dX4_counted_81 ?_
        refine j_icmp_ge C 102 dX4_counted_84 (by decide) (fun c84 => ?_) (fun c84 => by first | exact absurd c84 (by decide) | exact absurd c84 (nI_ge (by omega) (by omega)) | exact absurd (nI_le (by omega) (by omega)) c84 | exact absurd c84 (nI_nlt (by omega) (by omega)) | exact absurd (nI_lt (by omega) (by omega)) c84 | exact absurd c84 (nI_nle0 (by omega) (by omega)))
        refine j_iload_n (i := 2) C dX4_counted_102 rfl 1 rfl ?_
        exact j_ireturn C E rfl dX4_counted_103 (Nat.le_of_ble_eq_true rfl) (Nat.le_of_ble_eq_true rfl) (⟨rfl, rfl⟩)
      | succ d ih =>
        intro i x2 x3 hd e_x2 e_x3 
        subst e_x2
        subst e_x3
        refine j_iload_n (i := 3) C dX4_counted_79 rfl 2 rfl ?_
        refine j_aload_n (i := 0) C dX4_counted_80 rfl 0 rfl ?_
        refine j_get (Cn := RX4) (T := TX4) (N := 7) (ci := 5) C iX4 rfl (0) rfl 1 (by decide) gw678 rfl rfl dX4_counted_81 ?_
        refine j_icmp_ge C 102 dX4_counted_84 (by decide) (fun c84 => by first | exact absurd c84 (by decide) | exact absurd c84 (nI_ge (by omega) (by omega)) | exact absurd (nI_le (by omega) (by omega)) c84 | exact absurd c84 (nI_nlt (by omega) (by omega)) | exact absurd (nI_lt (by omega) (by omega)) c84 | exact absurd c84 (nI_nle0 (by omega) (by omega))) (fun c84 => ?_)
        refine j_iload_n (i := 2) C dX4_counted_87 rfl 1 rfl ?_
        refine j_aload_n (i := 0) C dX4_counted_88 rfl 0 rfl ?_
        refine j_iload_n (i := 3) C dX4_counted_89 rfl 2 rfl ?_
        refine j_iconst (v := nI 3) C dX4_counted_90 (by decide) ?_
        refine j_callV (nargs := 2) (As := [_, _]) (Cn := RX4) C (0) rfl rfl rfl gw729 gw731 gw24 gw49 (kX4_lo l D ct sa a thr σ wr _ _ i 3 rfl rfl (by omega) (by decide)) gw732 (by decide +kernel) rfl dX4_counted_91 ⟨Nat.le_of_ble_eq_true rfl, Nat.le_of_ble_eq_true rfl⟩ ⟨Nat.le_of_ble_eq_true rfl, Nat.le_of_ble_eq_true rfl⟩ (Nat.le_of_ble_eq_true rfl) (dki ?_)
        refine j_iadd C dX4_counted_94 ?_
        refine j_istore_n (lv' := [(2, .int _), (0, .ref _), (3, .int _)]) C dX4_counted_95 rfl (by decide) rfl ?_
        refine j_iinc (z := 2) (lv' := [(3, .int _), (2, .int _), (0, .ref _)]) C dX4_counted_96 rfl rfl (by decide) rfl ?_
        refine j_goto C 79 dX4_counted_99 (by decide) ?_
        exact j_lvs [2, 1, 0] rfl (ih (i + 1) _ _ (by omega) (rfl) (nI_1 i))
    exact j_lvs [2, 1, 0] rfl (L79 (sN σ) (0) _ _ (by omega) (rfl) (rfl))
  · refine j_iconst (v := nI 0) C dX4_counted_0 (by decide) ?_
    refine j_istore_n (lv' := [(2, .int _), (0, .ref _), (1, .int _)]) C dX4_counted_1 rfl (by decide) rfl ?_
    refine j_iload_n (i := 1) C dX4_counted_2 rfl 2 rfl ?_
    refine j_tsIn (tgt := 104) C dX4_counted_3 (by decide) (by decide) rfl (by decide) ?_
    refine j_aload_n (i := 0) C dX4_counted_104 rfl 1 rfl ?_
    refine j_get (Cn := RX4) (T := TX4) (N := 7) (ci := 5) C iX4 rfl (0) rfl 5 (by decide) gw682 rfl rfl dX4_counted_105 ?_
    refine j_astore_n (lv' := [(3, .ref _), (2, .int _), (0, .ref _), (1, .int _)]) C dX4_counted_108 rfl (by decide) rfl ?_
    refine j_aload_n (i := 3) C dX4_counted_109 rfl 0 rfl ?_
    refine j_alen C (2) 0 rfl rfl rfl dX4_counted_110 ?_
    refine j_istore (lv' := [(4, .int _), (3, .ref _), (2, .int _), (0, .ref _), (1, .int _)]) C dX4_counted_111 (by decide) rfl ?_
    refine j_iconst (v := nI 0) C dX4_counted_113 (by decide) ?_
    refine j_istore (lv' := [(5, .int _), (4, .int _), (3, .ref _), (2, .int _), (0, .ref _), (1, .int _)]) C dX4_counted_114 (by decide) rfl ?_
    have L116 : ∀ (d i : Nat) (x2 : Int32) (x5 : Int32), i + d = 192 → x2 = sumF (sW σ) i → x5 = nI i → J X (WM ct a thr σ ++ wr) (0) (0) 116 [(2, .int x2), (3, .ref (a 2)), (4, .int (nI 192)), (5, .int x5)] [] := by
      intro d
      induction d with
      | zero =>
        intro i x2 x5 hd e_x2 e_x5 
        subst e_x2
        subst e_x5
        have hi : i = 192 := by omega
        subst hi
        refine j_iload C dX4_counted_116 3 rfl ?_
        refine j_iload C dX4_counted_118 2 rfl ?_
        refine j_icmp_ge C 140 dX4_counted_120 (by decide) (fun c120 => ?_) (fun c120 => by first | exact absurd c120 (by decide) | exact absurd c120 (nI_ge (by omega) (by omega)) | exact absurd (nI_le (by omega) (by omega)) c120 | exact absurd c120 (nI_nlt (by omega) (by omega)) | exact absurd (nI_lt (by omega) (by omega)) c120 | exact absurd c120 (nI_nle0 (by omega) (by omega)))
        refine j_iload_n (i := 2) C dX4_counted_140 rfl 0 rfl ?_
        exact j_ireturn C E rfl dX4_counted_141 (Nat.le_of_ble_eq_true rfl) (Nat.le_of_ble_eq_true rfl) (⟨rfl, rfl⟩)
      | succ d ih =>
        intro i x2 x5 hd e_x2 e_x5 
        subst e_x2
        subst e_x5
        refine j_iload C dX4_counted_116 3 rfl ?_
        refine j_iload C dX4_counted_118 2 rfl ?_
        refine j_icmp_ge C 140 dX4_counted_120 (by decide) (fun c120 => by first | exact absurd c120 (by decide) | exact absurd c120 (nI_ge (by omega) (by omega)) | exact absurd (nI_le (by omega) (by omega)) c120 | exact absurd c120 (nI_nlt (by omega) (by omega)) | exact absurd (nI_lt (by omega) (by omega)) c120 | exact absurd c120 (nI_nle0 (by omega) (by omega))) (fun c120 => ?_)
        refine j_aload_n (i := 3) C dX4_counted_123 rfl 1 rfl ?_
        refine j_iload C dX4_counted_124 3 rfl ?_
        refine j_iald C (2) rfl (i) rfl (by omega) (by decide) dX4_counted_126 ?_
        refine j_istore (lv' := [(6, .int _), (2, .int _), (3, .ref _), (4, .int _), (5, .int _)]) C dX4_counted_127 (by decide) rfl ?_
        refine j_iload_n (i := 2) C dX4_counted_129 rfl 1 rfl ?_
        refine j_iload C dX4_counted_130 0 rfl ?_
        refine j_iadd C dX4_counted_132 ?_
        refine j_istore_n (lv' := [(2, .int _), (6, .int _), (3, .ref _), (4, .int _), (5, .int _)]) C dX4_counted_133 rfl (by decide) rfl ?_
        refine j_iinc (z := 4) (lv' := [(5, .int _), (2, .int _), (6, .int _), (3, .ref _), (4, .int _)]) C dX4_counted_134 rfl rfl (by decide) rfl ?_
        refine j_goto C 116 dX4_counted_137 (by decide) ?_
        exact j_lvs [1, 3, 4, 0] rfl (ih (i + 1) _ _ (by omega) (rfl) (nI_1 i))
    exact j_lvs [3, 2, 1, 0] rfl (L116 (192) (0) _ _ (by omega) (rfl) (rfl))
  · refine j_iconst (v := nI 0) C dX4_counted_0 (by decide) ?_
    refine j_istore_n (lv' := [(2, .int _), (0, .ref _), (1, .int _)]) C dX4_counted_1 rfl (by decide) rfl ?_
    refine j_iload_n (i := 1) C dX4_counted_2 rfl 2 rfl ?_
    refine j_tsIn (tgt := 142) C dX4_counted_3 (by decide) (by decide) rfl (by decide) ?_
    refine j_aload_n (i := 0) C dX4_counted_142 rfl 1 rfl ?_
    refine j_get (Cn := RX4) (T := TX4) (N := 7) (ci := 5) C iX4 rfl (0) rfl 3 (by decide) gw680 rfl rfl dX4_counted_143 ?_
    exact j_ireturn C E rfl dX4_counted_146 (Nat.le_of_ble_eq_true rfl) (Nat.le_of_ble_eq_true rfl) (⟨rfl, rfl⟩)
  · refine j_iconst (v := nI 0) C dX4_counted_0 (by decide) ?_
    refine j_istore_n (lv' := [(2, .int _), (0, .ref _), (1, .int _)]) C dX4_counted_1 rfl (by decide) rfl ?_
    refine j_iload_n (i := 1) C dX4_counted_2 rfl 2 rfl ?_
    refine j_tsOut (tgt := 147) C dX4_counted_3 (Or.inr (by decide)) (by decide) ?_
    refine j_aload_n (i := 0) C dX4_counted_147 rfl 1 rfl ?_
    refine j_iconst (v := nI 0) C dX4_counted_148 (by decide) ?_
    refine j_callV (nargs := 1) (As := [_]) (Cn := RX4) C (0) rfl rfl rfl gw769 gw771 gw27 gw49 (kX4_in l D ct sa _ _ _ _ _ hn) gw772 (by decide +kernel) rfl dX4_counted_149 ⟨Nat.le_of_ble_eq_true rfl, Nat.le_of_ble_eq_true rfl⟩ ⟨Nat.le_of_ble_eq_true rfl, Nat.le_of_ble_eq_true rfl⟩ (Nat.le_of_ble_eq_true rfl) (dki ?_)
    refine j_aload_n (i := 0) C dX4_counted_152 rfl 1 rfl ?_
    refine j_iconst (v := nI 1) C dX4_counted_153 (by decide) ?_
    refine j_callV (nargs := 1) (As := [_]) (Cn := RX4) C (0) rfl rfl rfl gw769 gw771 gw27 gw49 (kX4_in l D ct sa _ _ _ _ _ hn) gw772 (by decide +kernel) rfl dX4_counted_154 ⟨Nat.le_of_ble_eq_true rfl, Nat.le_of_ble_eq_true rfl⟩ ⟨Nat.le_of_ble_eq_true rfl, Nat.le_of_ble_eq_true rfl⟩ (Nat.le_of_ble_eq_true rfl) (dki ?_)
    refine j_iadd C dX4_counted_157 ?_
    refine j_aload_n (i := 0) C dX4_counted_158 rfl 1 rfl ?_
    refine j_iconst (v := nI 2) C dX4_counted_159 (by decide) ?_
    refine j_callV (nargs := 1) (As := [_]) (Cn := RX4) C (0) rfl rfl rfl gw769 gw771 gw27 gw49 (kX4_in l D ct sa _ _ _ _ _ hn) gw772 (by decide +kernel) rfl dX4_counted_160 ⟨Nat.le_of_ble_eq_true rfl, Nat.le_of_ble_eq_true rfl⟩ ⟨Nat.le_of_ble_eq_true rfl, Nat.le_of_ble_eq_true rfl⟩ (Nat.le_of_ble_eq_true rfl) (dki ?_)
    refine j_iadd C dX4_counted_163 ?_
    exact j_ireturn C E rfl dX4_counted_164 (Nat.le_of_ble_eq_true rfl) (Nat.le_of_ble_eq_true rfl) (⟨rfl, rfl⟩)
set_option maxRecDepth 100000 in
set_option maxHeartbeats 4000000 in
theorem kX4_count (l : Launch) (D : va_G) (ct : Nat → ClassId) (sa : Nat → Nat) (a : Nat → Nat) (thr : Int32) (σ : St) (wr : va_W) (x : Int32) (hi : Inv0 σ) : jM l yX4_count (Cond.code yX4_count cX4_count 2 (Option.some Jvm.ClassFile.FieldType.int) :: GW) (rM 3 0 0 71) D ct sa [.ref (a 0), .int x] (WM ct a thr σ ++ wr) (fD ct a wr (f_count σ x)) 0 0 := by
  refine jMX.plain (jBody (own := RX4) (by decide) rfl rfl (Nat.le_of_ble_eq_true rfl) ?_)
  intro X C E T0
  refine j_lv (lv1 := [(0, .ref _), (1, .int _)]) rfl ?_
  refine j_aload_n (i := 0) C dX4_count_0 rfl 0 rfl ?_
  refine j_iconst (v := nI 0) C dX4_count_1 (by decide) ?_
  refine j_put (Cn := RX4) (T := TX4) (N := 7) (ci := 5) (ws2 := WM ct a (nI 0) σ ++ wr) C iX4 tyX4 tyX4_ok nmX4 rfl (0) rfl 0 (by decide) gw677 rfl rfl rfl rfl rfl (Nat.le_of_ble_eq_true rfl) rfl dX4_count_2 ?_
  refine j_iload_n (i := 1) C dX4_count_5 rfl 1 rfl ?_
  refine j_iconst (v := nI 0) C dX4_count_6 (by decide) ?_
  refine j_bipush (v := nI 6) C dX4_count_7 (by decide) ?_
  refine j_callS (nargs := 3) (As := [_, _, _]) C gw710 gw711 gw49 (kX4_isIn l D ct sa _ _ _ _) gw712 (by decide +kernel) rfl dX4_count_9 ⟨Nat.le_of_ble_eq_true rfl, Nat.le_of_ble_eq_true rfl⟩ ⟨Nat.le_of_ble_eq_true rfl, Nat.le_of_ble_eq_true rfl⟩ (Nat.le_of_ble_eq_true rfl) (dki ?_)
  refine j_if_eq C 23 dX4_count_12 (by decide) (fun c12 => ?_) (fun c12 => ?_)
  · refine j_aload_n (i := 0) C dX4_count_23 rfl 0 rfl ?_
    refine j_iconst (v := nI 1) C dX4_count_24 (by decide) ?_
    refine j_callV (nargs := 1) (As := [_]) (Cn := RX4) C (0) rfl rfl rfl gw713 gw715 gw21 gw49 (kX4_fail l D ct sa _ _ _ _ _) gw716 (by decide +kernel) rfl dX4_count_25 ⟨Nat.le_of_ble_eq_true rfl, Nat.le_of_ble_eq_true rfl⟩ ⟨Nat.le_of_ble_eq_true rfl, Nat.le_of_ble_eq_true rfl⟩ (Nat.le_of_ble_eq_true rfl) (dki ?_)
    exact j_ireturn C E rfl dX4_count_28 (Nat.le_of_ble_eq_true rfl) (Nat.le_of_ble_eq_true rfl) (fK (by rw [f_count]; first | exact if_pos hx | exact if_neg (fun z => absurd ((in_ok (M := 6) (by decide)).mpr z) (b2i_f c12))))
  · have hx := (in_ok (M := 6) (by decide)).mp (b2i_t c12)
    obtain ⟨hj_x, e_x⟩ := okI_ix (hx) (by omega)
    refine j_aload_n (i := 0) C dX4_count_15 rfl 0 rfl ?_
    refine j_iload_n (i := 1) C dX4_count_16 rfl 1 rfl ?_
    refine j_callV (nargs := 1) (As := [_]) (Cn := RX4) C (0) rfl rfl rfl gw821 gw823 gw34 gw49 (kX4_counted l D ct sa a (nI 0) σ wr _ (ix x) hi.1 e_x hj_x) gw824 (by decide +kernel) rfl dX4_count_17 ⟨Nat.le_of_ble_eq_true rfl, Nat.le_of_ble_eq_true rfl⟩ ⟨Nat.le_of_ble_eq_true rfl, Nat.le_of_ble_eq_true rfl⟩ (Nat.le_of_ble_eq_true rfl) (dki ?_)
    refine j_goto C 28 dX4_count_20 (by decide) ?_
    exact j_ireturn C E rfl dX4_count_28 (Nat.le_of_ble_eq_true rfl) (Nat.le_of_ble_eq_true rfl) (fK (by rw [f_count]; first | exact if_pos hx | exact if_neg (fun z => absurd ((in_ok (M := 6) (by decide)).mpr z) (b2i_f c12))))
set_option maxRecDepth 100000 in
set_option maxHeartbeats 4000000 in
theorem kX4_between (l : Launch) (D : va_G) (ct : Nat → ClassId) (sa : Nat → Nat) (ws : va_W) (x y : Int32) : jM l yX4_between (Cond.code yX4_between cX4_between 4 (Option.some Jvm.ClassFile.FieldType.int) :: GW) (rM 2 0 0 39) D ct sa [.int x, .int y] (ws) (dK (some (.int (betF x y))) ws) 0 0 := by
  refine jMX.plain (jBody (own := RX4) (by decide) rfl rfl (Nat.le_of_ble_eq_true rfl) ?_)
  intro X C E T0
  refine j_lv (lv1 := [(0, .int _), (1, .int _)]) rfl ?_
  refine j_iconst (v := nI 0) C dX4_between_0 (by decide) ?_
  refine j_istore_n (lv' := [(2, .int _), (0, .int _), (1, .int _)]) C dX4_between_1 rfl (by decide) rfl ?_
  refine j_iconst (v := nI 0) C dX4_between_2 (by decide) ?_
  refine j_istore_n (lv' := [(3, .int _), (2, .int _), (0, .int _), (1, .int _)]) C dX4_between_3 rfl (by decide) rfl ?_
  have L4 : ∀ (d i : Nat) (x2 : Int32) (x3 : Int32), i + d = 4 → x2 = sumF (fun r => farF (ltF x r) (ltF y r)) i → x3 = nI i → J X (ws) (0) (0) 4 [(0, .int x), (1, .int y), (2, .int x2), (3, .int x3)] [] := by
    intro d
    induction d with
    | zero =>
      intro i x2 x3 hd e_x2 e_x3 
      subst e_x2
      subst e_x3
      have hi : i = 4 := by omega
      subst hi
      refine j_iload_n (i := 3) C dX4_between_4 rfl 3 rfl ?_
      refine j_iconst (v := nI 4) C dX4_between_5 (by decide) ?_
      refine j_icmp_ge C 31 dX4_between_6 (by decide) (fun c6 => ?_) (fun c6 => by first | exact absurd c6 (by decide) | exact absurd c6 (nI_ge (by omega) (by omega)) | exact absurd (nI_le (by omega) (by omega)) c6 | exact absurd c6 (nI_nlt (by omega) (by omega)) | exact absurd (nI_lt (by omega) (by omega)) c6 | exact absurd c6 (nI_nle0 (by omega) (by omega)))
      refine j_iload_n (i := 2) C dX4_between_31 rfl 2 rfl ?_
      exact j_ireturn C E rfl dX4_between_32 (Nat.le_of_ble_eq_true rfl) (Nat.le_of_ble_eq_true rfl) (⟨rfl, rfl⟩)
    | succ d ih =>
      intro i x2 x3 hd e_x2 e_x3 
      subst e_x2
      subst e_x3
      refine j_iload_n (i := 3) C dX4_between_4 rfl 3 rfl ?_
      refine j_iconst (v := nI 4) C dX4_between_5 (by decide) ?_
      refine j_icmp_ge C 31 dX4_between_6 (by decide) (fun c6 => by first | exact absurd c6 (by decide) | exact absurd c6 (nI_ge (by omega) (by omega)) | exact absurd (nI_le (by omega) (by omega)) c6 | exact absurd c6 (nI_nlt (by omega) (by omega)) | exact absurd (nI_lt (by omega) (by omega)) c6 | exact absurd c6 (nI_nle0 (by omega) (by omega))) (fun c6 => ?_)
      refine j_iload_n (i := 2) C dX4_between_9 rfl 2 rfl ?_
      refine j_iload_n (i := 0) C dX4_between_10 rfl 0 rfl ?_
      refine j_iload_n (i := 3) C dX4_between_11 rfl 3 rfl ?_
      refine j_callS (nargs := 2) (As := [_, _]) C gw832 gw833 gw49 (kX4_letter l D ct sa _ _ _ i rfl (by omega)) gw834 (by decide +kernel) rfl dX4_between_12 ⟨Nat.le_of_ble_eq_true rfl, Nat.le_of_ble_eq_true rfl⟩ ⟨Nat.le_of_ble_eq_true rfl, Nat.le_of_ble_eq_true rfl⟩ (Nat.le_of_ble_eq_true rfl) (dki ?_)
      refine j_iload_n (i := 1) C dX4_between_15 rfl 1 rfl ?_
      refine j_iload_n (i := 3) C dX4_between_16 rfl 3 rfl ?_
      refine j_callS (nargs := 2) (As := [_, _]) C gw832 gw833 gw49 (kX4_letter l D ct sa _ _ _ i rfl (by omega)) gw834 (by decide +kernel) rfl dX4_between_17 ⟨Nat.le_of_ble_eq_true rfl, Nat.le_of_ble_eq_true rfl⟩ ⟨Nat.le_of_ble_eq_true rfl, Nat.le_of_ble_eq_true rfl⟩ (Nat.le_of_ble_eq_true rfl) (dki ?_)
      refine j_callS (nargs := 2) (As := [_, _]) C gw733 gw734 gw49 (kX4_far l D ct sa _ _ _) gw735 (by decide +kernel) rfl dX4_between_20 ⟨Nat.le_of_ble_eq_true rfl, Nat.le_of_ble_eq_true rfl⟩ ⟨Nat.le_of_ble_eq_true rfl, Nat.le_of_ble_eq_true rfl⟩ (Nat.le_of_ble_eq_true rfl) (dki ?_)
      refine j_iadd C dX4_between_23 ?_
      refine j_istore_n (lv' := [(2, .int _), (0, .int _), (1, .int _), (3, .int _)]) C dX4_between_24 rfl (by decide) rfl ?_
      refine j_iinc (z := 3) (lv' := [(3, .int _), (2, .int _), (0, .int _), (1, .int _)]) C dX4_between_25 rfl rfl (by decide) rfl ?_
      refine j_goto C 4 dX4_between_28 (by decide) ?_
      exact j_lvs [2, 3, 1, 0] rfl (ih (i + 1) _ _ (by omega) (rfl) (nI_1 i))
  exact j_lvs [2, 3, 1, 0] rfl (L4 (4) (0) _ _ (by omega) (rfl) (rfl))
set_option maxRecDepth 100000 in
set_option maxHeartbeats 4000000 in
theorem kX4_apart (l : Launch) (D : va_G) (ct : Nat → ClassId) (sa : Nat → Nat) (a : Nat → Nat) (thr : Int32) (σ : St) (wr : va_W) (x y : Int32) (hi : Inv0 σ) : jM l yX4_apart (Cond.code yX4_apart cX4_apart 3 (Option.some Jvm.ClassFile.FieldType.int) :: GW) (rM 3 0 0 62) D ct sa [.ref (a 0), .int x, .int y] (WM ct a thr σ ++ wr) (fD ct a wr (f_apart σ x y)) 0 0 := by
  refine jMX.plain (jBody (own := RX4) (by decide) rfl rfl (Nat.le_of_ble_eq_true rfl) ?_)
  intro X C E T0
  refine j_lv (lv1 := [(0, .ref _), (1, .int _), (2, .int _)]) rfl ?_
  refine j_aload_n (i := 0) C dX4_apart_0 rfl 0 rfl ?_
  refine j_iconst (v := nI 0) C dX4_apart_1 (by decide) ?_
  refine j_put (Cn := RX4) (T := TX4) (N := 7) (ci := 5) (ws2 := WM ct a (nI 0) σ ++ wr) C iX4 tyX4 tyX4_ok nmX4 rfl (0) rfl 0 (by decide) gw677 rfl rfl rfl rfl rfl (Nat.le_of_ble_eq_true rfl) rfl dX4_apart_2 ?_
  refine j_iload_n (i := 1) C dX4_apart_5 rfl 1 rfl ?_
  refine j_callS (nargs := 1) (As := [_]) C gw707 gw708 gw49 (kX4_isWord l D ct sa _ _) gw709 (by decide +kernel) rfl dX4_apart_6 ⟨Nat.le_of_ble_eq_true rfl, Nat.le_of_ble_eq_true rfl⟩ ⟨Nat.le_of_ble_eq_true rfl, Nat.le_of_ble_eq_true rfl⟩ (Nat.le_of_ble_eq_true rfl) (dki ?_)
  refine j_if_eq C 27 dX4_apart_9 (by decide) (fun c9 => ?_) (fun c9 => ?_)
  · refine j_aload_n (i := 0) C dX4_apart_27 rfl 0 rfl ?_
    refine j_iconst (v := nI 1) C dX4_apart_28 (by decide) ?_
    refine j_callV (nargs := 1) (As := [_]) (Cn := RX4) C (0) rfl rfl rfl gw713 gw715 gw21 gw49 (kX4_fail l D ct sa _ _ _ _ _) gw716 (by decide +kernel) rfl dX4_apart_29 ⟨Nat.le_of_ble_eq_true rfl, Nat.le_of_ble_eq_true rfl⟩ ⟨Nat.le_of_ble_eq_true rfl, Nat.le_of_ble_eq_true rfl⟩ (Nat.le_of_ble_eq_true rfl) (dki ?_)
    exact j_ireturn C E rfl dX4_apart_32 (Nat.le_of_ble_eq_true rfl) (Nat.le_of_ble_eq_true rfl) (fK (by rw [f_apart]; first | exact if_pos ⟨b2i_t c9, b2i_t c16⟩ | exact if_neg (fun z => absurd z.1 (b2i_f c9)) | exact if_neg (fun z => absurd z.2 (b2i_f c16))))
  · refine j_iload_n (i := 2) C dX4_apart_12 rfl 2 rfl ?_
    refine j_callS (nargs := 1) (As := [_]) C gw707 gw708 gw49 (kX4_isWord l D ct sa _ _) gw709 (by decide +kernel) rfl dX4_apart_13 ⟨Nat.le_of_ble_eq_true rfl, Nat.le_of_ble_eq_true rfl⟩ ⟨Nat.le_of_ble_eq_true rfl, Nat.le_of_ble_eq_true rfl⟩ (Nat.le_of_ble_eq_true rfl) (dki ?_)
    refine j_if_eq C 27 dX4_apart_16 (by decide) (fun c16 => ?_) (fun c16 => ?_)
    · refine j_aload_n (i := 0) C dX4_apart_27 rfl 0 rfl ?_
      refine j_iconst (v := nI 1) C dX4_apart_28 (by decide) ?_
      refine j_callV (nargs := 1) (As := [_]) (Cn := RX4) C (0) rfl rfl rfl gw713 gw715 gw21 gw49 (kX4_fail l D ct sa _ _ _ _ _) gw716 (by decide +kernel) rfl dX4_apart_29 ⟨Nat.le_of_ble_eq_true rfl, Nat.le_of_ble_eq_true rfl⟩ ⟨Nat.le_of_ble_eq_true rfl, Nat.le_of_ble_eq_true rfl⟩ (Nat.le_of_ble_eq_true rfl) (dki ?_)
      exact j_ireturn C E rfl dX4_apart_32 (Nat.le_of_ble_eq_true rfl) (Nat.le_of_ble_eq_true rfl) (fK (by rw [f_apart]; first | exact if_pos ⟨b2i_t c9, b2i_t c16⟩ | exact if_neg (fun z => absurd z.1 (b2i_f c9)) | exact if_neg (fun z => absurd z.2 (b2i_f c16))))
    · refine j_iload_n (i := 1) C dX4_apart_19 rfl 1 rfl ?_
      refine j_iload_n (i := 2) C dX4_apart_20 rfl 2 rfl ?_
      refine j_callS (nargs := 2) (As := [_, _]) C gw829 gw830 gw49 (kX4_between l D ct sa _ _ _) gw831 (by decide +kernel) rfl dX4_apart_21 ⟨Nat.le_of_ble_eq_true rfl, Nat.le_of_ble_eq_true rfl⟩ ⟨Nat.le_of_ble_eq_true rfl, Nat.le_of_ble_eq_true rfl⟩ (Nat.le_of_ble_eq_true rfl) (dki ?_)
      refine j_goto C 32 dX4_apart_24 (by decide) ?_
      exact j_ireturn C E rfl dX4_apart_32 (Nat.le_of_ble_eq_true rfl) (Nat.le_of_ble_eq_true rfl) (fK (by rw [f_apart]; first | exact if_pos ⟨b2i_t c9, b2i_t c16⟩ | exact if_neg (fun z => absurd z.1 (b2i_f c9)) | exact if_neg (fun z => absurd z.2 (b2i_f c16))))
end
section
theorem gwSM : Cond.sameMethod "[I" "java/lang/Object" "clone" "()Ljava/lang/Object;" ∈ GW := gwm 875 (by decide +kernel) (by decide +kernel)
theorem gw323 : Cond.constantLong RX3 205 1471 ∈ GW := gwm 323 (by decide +kernel) (by decide +kernel)
theorem gw324 : Cond.constantLong RX3 207 31 ∈ GW := gwm 324 (by decide +kernel) (by decide +kernel)
theorem gw902 : Cond.constantLong RX4 144 1471 ∈ GW := gwm 902 (by decide +kernel) (by decide +kernel)
theorem gw903 : Cond.constantLong RX4 146 31 ∈ GW := gwm 903 (by decide +kernel) (by decide +kernel)
theorem ra_same {s : State} {cA cB : ClassId} {ty : FieldType} (h1 : va_RA s cA ty) (h2 : va_RA s cB ty) : cA = cB := by
  cases ty with
  | object C =>
    obtain ⟨_, _, _, _, _, h1⟩ := h1
    obtain ⟨_, _, _, _, _, h2⟩ := h2
    exact Option.some.inj (h1.symm.trans h2)
  | _ => exact Option.some.inj (Eq.trans (Eq.symm h1) h2)
theorem tys_last {D : va_G} {ct : Nat → ClassId} {s : State} {cA : ClassId} {ty : FieldType} (t0 : Nat) {c0 : ClassId} (ht : (TY ct)[t0]? = some (c0, ty)) (h : va_K D vwCl (TY ct ++ [(cA, ty)]) s) : cA = c0 := by
  have hl : t0 < (TY ct).length := (List.getElem?_eq_some_iff.mp ht).1
  have h1 := (h.2 t0 (c0, ty) (by rw [List.getElem?_append_left hl]; exact ht)).2
  have h2 := (h.2 (TY ct).length (cA, ty) (by simp)).2
  exact ra_same h2 h1
theorem gA {ws : va_W} {x : Nat × va_E} : (ws ++ [x])[ws.length]? = some x := by simp
theorem sA {ws : va_W} {x y : Nat × va_E} : (ws ++ [x]).set ws.length y = ws ++ [y] := by simp
section J2
variable {X : Ctx} {l : Launch} {D : va_G} {ct : Nat → ClassId} {sa : Nat → Nat} {cc : ByteArray} {nL1 : Nat} {own : String} {R0 : Room} {ws : va_W} {k n pc : Nat} {lv lv' : List (Nat × Value)} {st : List Value}
theorem j_cong {f g : Nat → Int32} {a N q0 : Nat} {cA : ClassId} (he : ws[q0]? = some (a, .inl (cA, N, .inl f))) (hfg : ∀ i, i < N → f i = g i) (kk : J X (ws.set q0 (a, .inl (cA, N, .inl g))) k n pc lv st) : J X ws k n pc lv st := by
  obtain ⟨p, l0, e, R, s, m, args, below, meth, c, D0, ct0, sa0, A, nL, Q⟩ := X
  intro H locs ls hP hD hS hl
  refine kk H locs ls (hP.set hD he ?_ (fun _ _ => rfl)) (hD.set he) hS hl
  have h1 : H[a]? = some (vp_cell cA (N, .inl f)) := hP q0 _ he
  show H[a]? = some (vp_cell cA (N, .inl g))
  rw [h1, vp_cell_i, vp_cell_i]
  have e : (fun j : Fin N => Value.int (f j)) = (fun j : Fin N => Value.int (g j)) := funext fun j => by rw [hfg j.val j.isLt]
  show some ({ cls := cA, slots := Array.ofFn (n := N) fun j => Value.int (f j.val), vm := .none } : Cell) = some ({ cls := cA, slots := Array.ofFn (n := N) fun j => Value.int (g j.val), vm := .none } : Cell)
  rw [e]
theorem j_newaI (C : jC X l D ct sa cc nL1 own R0) {x : Int32} {N : Nat} (hx9 : x = nI N) (hN : N < 2 ^ 20) (hcells : k + 1 ≤ R0.cells) (hslots : n + N ≤ R0.slots) (d : decode cc pc = .ok (.newarray .int, 2)) (kk : ∀ q : Nat, J X (ws ++ [(q, .inl (ct 0, N, .inl (fun _ => nI 0)))]) (k + 1) (n + N) (pc + 2) lv (.ref q :: st)) : J X ws k n pc lv (.int x :: st) := by
  obtain ⟨p, l0, e, R, s, m, args, below, meth, c, D0, ct0, sa0, A, nL, Q⟩ := X
  obtain ⟨hx, hb, hml, ho, hts, hK, hA, hlk, hEX, rfl, rfl, rfl, rfl, rfl, rfl⟩ := C
  intro H locs ls hP hD hS hl
  refine va_newa (atype := .int) (ty := .int) (a0 := (N, .inl (fun _ => nI 0))) hx hb (hts _ gw128) rfl hK hP hD hS hA (fun cA => rfl) (by rw [hx9]; exact nI_pos (by omega)) (by rw [hx9]; exact nI_clamp (by omega)) (by simp only [componentBytes]; omega) hcells hslots d (fun q cA H1 hK1 hP1 hD1 hS1 => ?_)
  obtain rfl := tys_last 0 rfl hK1
  exact kk q H1 locs ls hP1 hD1 hS1 hl
theorem j_newaL (C : jC X l D ct sa cc nL1 own R0) {x : Int32} {N : Nat} (hx9 : x = nI N) (hN : N < 2 ^ 20) (hcells : k + 1 ≤ R0.cells) (hslots : n + N ≤ R0.slots) (d : decode cc pc = .ok (.newarray .long, 2)) (kk : ∀ q : Nat, J X (ws ++ [(q, .inl (ct 4, N, .inr (.inl (fun _ => 0))))]) (k + 1) (n + N) (pc + 2) lv (.ref q :: st)) : J X ws k n pc lv (.int x :: st) := by
  obtain ⟨p, l0, e, R, s, m, args, below, meth, c, D0, ct0, sa0, A, nL, Q⟩ := X
  obtain ⟨hx, hb, hml, ho, hts, hK, hA, hlk, hEX, rfl, rfl, rfl, rfl, rfl, rfl⟩ := C
  intro H locs ls hP hD hS hl
  refine va_newa (atype := .long) (ty := .long) (a0 := (N, .inr (.inl (fun _ => 0)))) hx hb (hts _ gw904) rfl hK hP hD hS hA (fun cA => rfl) (by rw [hx9]; exact nI_pos (by omega)) (by rw [hx9]; exact nI_clamp (by omega)) (by simp only [componentBytes]; omega) hcells hslots d (fun q cA H1 hK1 hP1 hD1 hS1 => ?_)
  obtain rfl := tys_last 4 rfl hK1
  exact kk q H1 locs ls hP1 hD1 hS1 hl
theorem j_clone (C : jC X l D ct sa cc nL1 own R0) {index a N : Nat} {f : Nat → Int32} (w1 : Cond.methodLink own index ⟨"[I", "clone", "()Ljava/lang/Object;"⟩ ∈ GW) (q0 : Nat) (ha : ws[q0]? = some (a, .inl (ct 0, N, .inl f))) (hR : 1 ≤ R0.frames ∧ (st.map fun v => v.category).sum + 14 ≤ R0.locals) (hcells : k + 1 ≤ R0.cells) (hslots : n + N ≤ R0.slots) (d : decode cc pc = .ok (.invokevirtual index, 3)) (kk : ∀ q : Nat, J X (ws ++ [(q, .inl (ct 0, N, .inl f))]) (k + 1) (n + N) (pc + 3) lv (.ref q :: st)) : J X ws k n pc lv (.ref a :: st) := by
  obtain ⟨p, l0, e, R, s, m, args, below, meth, c, D0, ct0, sa0, A, nL, Q⟩ := X
  obtain ⟨hx, hb, hml, ho, hts, hK, hA, hlk, hEX, rfl, rfl, rfl, rfl, rfl, rfl⟩ := C
  intro H locs ls hP hD hS hl
  have hnm : s.vm.findClass "[I" = some (ct0 0) := (hK.2 0 (ct0 0, .int) rfl).2
  refine va_clone hx hb (hml.trans hl.1.symm) ho (hts _ w1) (hts _ gwSM) (hts _ gw876) (hts _ gw877) (hts _ gw878) (hEX.1 _ nw879) hK hP hD hS hA q0 0 ha rfl hnm (fun i v hv => ?_) hR.1 hR.2 hcells hslots d (fun q H1 hK1 hP1 hD1 hS1 => kk q H1 locs ls hP1 hD1 hS1 hl)
  have hv2 : (Array.ofFn (n := N) fun j => Value.int (f j.val))[i]? = some v := hv
  obtain ⟨hi, e⟩ := Array.getElem?_eq_some_iff.mp hv2
  rw [Array.getElem_ofFn] at e
  rw [← e]
  rfl
theorem j_castI (C : jC X l D ct sa cc nL1 own R0) {index a N : Nat} {f : Nat → Int32} (w1 : Cond.classLink own index "[I" ∈ GW) (q0 : Nat) (ha : ws[q0]? = some (a, .inl (ct 0, N, .inl f))) (d : decode cc pc = .ok (.checkcast index, 3)) (kk : J X ws k n (pc + 3) lv (.ref a :: st)) : J X ws k n pc lv (.ref a :: st) := by
  obtain ⟨p, l0, e, R, s, m, args, below, meth, c, D0, ct0, sa0, A, nL, Q⟩ := X
  obtain ⟨hx, hb, hml, ho, hts, hK, hA, hlk, hEX, rfl, rfl, rfl, rfl, rfl, rfl⟩ := C
  intro H locs ls hP hD hS hl
  exact va_castA hx hb ho (hts _ w1) hP q0 ha (hK.2 0 (ct0 0, .int) rfl).2 d (kk H locs ls hP hD hS hl)
theorem j_ldc2 (C : jC X l D ct sa cc nL1 own R0) {index : Nat} {v : Int64} (w : Cond.constantLong own index v ∈ GW) (d : decode cc pc = .ok (.ldc2_w index, 3)) (kk : J X ws k n (pc + 3) lv (.long v :: st)) : J X ws k n pc lv st := by
  obtain ⟨p, l0, e, R, s, m, args, below, meth, c, D0, ct0, sa0, A, nL, Q⟩ := X
  obtain ⟨hx, hb, hml, ho, hts, hK, hA, hlk, hEX, rfl, rfl, rfl, rfl, rfl, rfl⟩ := C
  intro H locs ls hP hD hS hl
  exact lv_ldc2 hx hb ho (hts _ w) d (kk H locs ls hP hD hS hl)
theorem j_dconst0 (C : jC X l D ct sa cc nL1 own R0) (d : decode cc pc = .ok (.dconst 0, 1)) (kk : J X ws k n (pc + 1) lv (.double FP.dconst0 :: st)) : J X ws k n pc lv st := by
  obtain ⟨p, l0, e, R, s, m, args, below, meth, c, D0, ct0, sa0, A, nL, Q⟩ := X
  obtain ⟨hx, hb, hml, ho, hts, hK, hA, hlk, hEX, rfl, rfl, rfl, rfl, rfl, rfl⟩ := C
  intro H locs ls hP hD hS hl
  exact lv_dconst0 hx hb d (kk H locs ls hP hD hS hl)
theorem j_i2d (C : jC X l D ct sa cc nL1 own R0) {x : Int32} (d : decode cc pc = .ok (.i2d, 1)) (kk : J X ws k n (pc + 1) lv (.double (FP.i2d x) :: st)) : J X ws k n pc lv (.int x :: st) := by
  obtain ⟨p, l0, e, R, s, m, args, below, meth, c, D0, ct0, sa0, A, nL, Q⟩ := X
  obtain ⟨hx, hb, hml, ho, hts, hK, hA, hlk, hEX, rfl, rfl, rfl, rfl, rfl, rfl⟩ := C
  intro H locs ls hP hD hS hl
  exact lv_i2d hx hb d (kk H locs ls hP hD hS hl)
theorem j_ddiv (C : jC X l D ct sa cc nL1 own R0) {x y : UInt64} (d : decode cc pc = .ok (.ddiv, 1)) (hne : vf_n64 (FP.ddiv x y)) (kk : J X ws k n (pc + 1) lv (.double (FP.ddiv x y) :: st)) : J X ws k n pc lv (.double y :: .double x :: st) := by
  obtain ⟨p, l0, e, R, s, m, args, below, meth, c, D0, ct0, sa0, A, nL, Q⟩ := X
  obtain ⟨hx, hb, hml, ho, hts, hK, hA, hlk, hEX, rfl, rfl, rfl, rfl, rfl, rfl⟩ := C
  intro H locs ls hP hD hS hl
  exact lv_ddiv hx hb d hne (kk H locs ls hP hD hS hl)
theorem j_dcmp (C : jC X l D ct sa cc nL1 own R0) {x y : UInt64} {op : CmpOp} (d : decode cc pc = .ok (.dcmp op, 1)) (kk : J X ws k n (pc + 1) lv (.int (Op.cmpValue (FP.dcmp x y) op) :: st)) : J X ws k n pc lv (.double y :: .double x :: st) := by
  obtain ⟨p, l0, e, R, s, m, args, below, meth, c, D0, ct0, sa0, A, nL, Q⟩ := X
  obtain ⟨hx, hb, hml, ho, hts, hK, hA, hlk, hEX, rfl, rfl, rfl, rfl, rfl, rfl⟩ := C
  intro H locs ls hP hD hS hl
  exact lv_dcmp hx hb d (kk H locs ls hP hD hS hl)
end J2
end
