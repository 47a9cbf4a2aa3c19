section
-- ===== PART A: goes FIRST, ahead of the names: the tables' words, and 'selects' of the private methods out of them =====
/-- a private method of a class that the tables say can be made, by its rows of tables_1 -/
def lw_okq (q : MethodName × Nat) : Prop := (q.1.cls ≠ "java/lang/invoke/MethodHandle" ∧ q.1.cls ≠ "java/lang/invoke/VarHandle") ∧ Cond.instantiable q.1.cls q.2 ∈ tables_1 ∧ Cond.privateMethod q.1 ∈ tables_1 ∧ Cond.instanceMethod q.1 ∈ tables_1
theorem lw_p0 : lw_okq (⟨"TermReckoner", "putStatus", "(II)I"⟩, 9) := ⟨⟨by decide +kernel, by decide +kernel⟩, List.mem_of_getElem? (i := 14) (by decide +kernel), List.mem_of_getElem? (i := 239) (by decide +kernel), List.mem_of_getElem? (i := 240) (by decide +kernel)⟩
theorem lw_p1 : lw_okq (⟨"TermReckoner", "placeOf", "(LTermReckoner$Registry;II)LTermReckoner$Place;"⟩, 9) := ⟨⟨by decide +kernel, by decide +kernel⟩, List.mem_of_getElem? (i := 14) (by decide +kernel), List.mem_of_getElem? (i := 243) (by decide +kernel), List.mem_of_getElem? (i := 244) (by decide +kernel)⟩
theorem lw_p2 : lw_okq (⟨"TermReckoner", "fileOf", "(LTermReckoner$Registry;I)LTermReckoner$File;"⟩, 9) := ⟨⟨by decide +kernel, by decide +kernel⟩, List.mem_of_getElem? (i := 14) (by decide +kernel), List.mem_of_getElem? (i := 247) (by decide +kernel), List.mem_of_getElem? (i := 248) (by decide +kernel)⟩
theorem lw_p3 : lw_okq (⟨"TermReckoner", "isPerson", "(I)Z"⟩, 9) := ⟨⟨by decide +kernel, by decide +kernel⟩, List.mem_of_getElem? (i := 14) (by decide +kernel), List.mem_of_getElem? (i := 251) (by decide +kernel), List.mem_of_getElem? (i := 252) (by decide +kernel)⟩
theorem lw_p4 : lw_okq (⟨"TermReckoner", "tell", "(LTermReckoner$Entry;)I"⟩, 9) := ⟨⟨by decide +kernel, by decide +kernel⟩, List.mem_of_getElem? (i := 14) (by decide +kernel), List.mem_of_getElem? (i := 313) (by decide +kernel), List.mem_of_getElem? (i := 314) (by decide +kernel)⟩
theorem lw_p5 : lw_okq (⟨"TermReckoner$Registry", "wipe", "()V"⟩, 2) := ⟨⟨by decide +kernel, by decide +kernel⟩, List.mem_of_getElem? (i := 24) (by decide +kernel), List.mem_of_getElem? (i := 321) (by decide +kernel), List.mem_of_getElem? (i := 322) (by decide +kernel)⟩
theorem lw_p6 : lw_okq (⟨"TermReckoner$Registry", "learn", "(LTermReckoner$Entry;)V"⟩, 2) := ⟨⟨by decide +kernel, by decide +kernel⟩, List.mem_of_getElem? (i := 24) (by decide +kernel), List.mem_of_getElem? (i := 338) (by decide +kernel), List.mem_of_getElem? (i := 339) (by decide +kernel)⟩
theorem lw_p7 : lw_okq (⟨"TermReckoner$Registry", "learnOfPlace", "(LTermReckoner$File;LTermReckoner$Entry;)V"⟩, 2) := ⟨⟨by decide +kernel, by decide +kernel⟩, List.mem_of_getElem? (i := 24) (by decide +kernel), List.mem_of_getElem? (i := 365) (by decide +kernel), List.mem_of_getElem? (i := 366) (by decide +kernel)⟩
theorem lw_p8 : lw_okq (⟨"TermReckoner$Ring", "findNext", "(LTermReckoner$File;II)V"⟩, 4) := ⟨⟨by decide +kernel, by decide +kernel⟩, List.mem_of_getElem? (i := 173) (by decide +kernel), List.mem_of_getElem? (i := 395) (by decide +kernel), List.mem_of_getElem? (i := 396) (by decide +kernel)⟩
theorem lw_p9 : lw_okq (⟨"TermReckoner$Ring", "lengthOfLeast", "(I)I"⟩, 4) := ⟨⟨by decide +kernel, by decide +kernel⟩, List.mem_of_getElem? (i := 173) (by decide +kernel), List.mem_of_getElem? (i := 404) (by decide +kernel), List.mem_of_getElem? (i := 405) (by decide +kernel)⟩
theorem lw_p10 : lw_okq (⟨"TermReckoner$Ring", "findLeads", "(II)V"⟩, 4) := ⟨⟨by decide +kernel, by decide +kernel⟩, List.mem_of_getElem? (i := 173) (by decide +kernel), List.mem_of_getElem? (i := 411) (by decide +kernel), List.mem_of_getElem? (i := 412) (by decide +kernel)⟩
theorem lw_p11 : lw_okq (⟨"TermReckoner$Ring", "keep", "(II)V"⟩, 4) := ⟨⟨by decide +kernel, by decide +kernel⟩, List.mem_of_getElem? (i := 173) (by decide +kernel), List.mem_of_getElem? (i := 415) (by decide +kernel), List.mem_of_getElem? (i := 416) (by decide +kernel)⟩
theorem lw_p12 : lw_okq (⟨"TermReckoner$Reckoning", "reckonPlace", "(LTermReckoner$File;LTermReckoner$Place;IZ)V"⟩, 7) := ⟨⟨by decide +kernel, by decide +kernel⟩, List.mem_of_getElem? (i := 120) (by decide +kernel), List.mem_of_getElem? (i := 490) (by decide +kernel), List.mem_of_getElem? (i := 491) (by decide +kernel)⟩
theorem lw_p13 : lw_okq (⟨"TermReckoner$Reckoning", "beginBeside", "(LTermReckoner$Place;)I"⟩, 7) := ⟨⟨by decide +kernel, by decide +kernel⟩, List.mem_of_getElem? (i := 120) (by decide +kernel), List.mem_of_getElem? (i := 494) (by decide +kernel), List.mem_of_getElem? (i := 495) (by decide +kernel)⟩
theorem lw_p14 : lw_okq (⟨"TermReckoner$Reckoning", "beginBehind", "(LTermReckoner$Place;)I"⟩, 7) := ⟨⟨by decide +kernel, by decide +kernel⟩, List.mem_of_getElem? (i := 120) (by decide +kernel), List.mem_of_getElem? (i := 504) (by decide +kernel), List.mem_of_getElem? (i := 505) (by decide +kernel)⟩
theorem lw_p15 : lw_okq (⟨"TermReckoner$Reckoning", "countingIn", "(II)I"⟩, 7) := ⟨⟨by decide +kernel, by decide +kernel⟩, List.mem_of_getElem? (i := 120) (by decide +kernel), List.mem_of_getElem? (i := 572) (by decide +kernel), List.mem_of_getElem? (i := 573) (by decide +kernel)⟩
def lw_privs_1 : List (MethodName × Nat) := [(⟨"TermReckoner", "putStatus", "(II)I"⟩, 9), (⟨"TermReckoner", "placeOf", "(LTermReckoner$Registry;II)LTermReckoner$Place;"⟩, 9), (⟨"TermReckoner", "fileOf", "(LTermReckoner$Registry;I)LTermReckoner$File;"⟩, 9), (⟨"TermReckoner", "isPerson", "(I)Z"⟩, 9), (⟨"TermReckoner", "tell", "(LTermReckoner$Entry;)I"⟩, 9), (⟨"TermReckoner$Registry", "wipe", "()V"⟩, 2), (⟨"TermReckoner$Registry", "learn", "(LTermReckoner$Entry;)V"⟩, 2), (⟨"TermReckoner$Registry", "learnOfPlace", "(LTermReckoner$File;LTermReckoner$Entry;)V"⟩, 2), (⟨"TermReckoner$Ring", "findNext", "(LTermReckoner$File;II)V"⟩, 4), (⟨"TermReckoner$Ring", "lengthOfLeast", "(I)I"⟩, 4), (⟨"TermReckoner$Ring", "findLeads", "(II)V"⟩, 4), (⟨"TermReckoner$Ring", "keep", "(II)V"⟩, 4), (⟨"TermReckoner$Reckoning", "reckonPlace", "(LTermReckoner$File;LTermReckoner$Place;IZ)V"⟩, 7), (⟨"TermReckoner$Reckoning", "beginBeside", "(LTermReckoner$Place;)I"⟩, 7), (⟨"TermReckoner$Reckoning", "beginBehind", "(LTermReckoner$Place;)I"⟩, 7), (⟨"TermReckoner$Reckoning", "countingIn", "(II)I"⟩, 7)]
theorem lw_r1 : ∀ q ∈ lw_privs_1, lw_okq q := List.forall_mem_cons.mpr ⟨lw_p0, List.forall_mem_cons.mpr ⟨lw_p1, List.forall_mem_cons.mpr ⟨lw_p2, List.forall_mem_cons.mpr ⟨lw_p3, List.forall_mem_cons.mpr ⟨lw_p4, List.forall_mem_cons.mpr ⟨lw_p5, List.forall_mem_cons.mpr ⟨lw_p6, List.forall_mem_cons.mpr ⟨lw_p7, List.forall_mem_cons.mpr ⟨lw_p8, List.forall_mem_cons.mpr ⟨lw_p9, List.forall_mem_cons.mpr ⟨lw_p10, List.forall_mem_cons.mpr ⟨lw_p11, List.forall_mem_cons.mpr ⟨lw_p12, List.forall_mem_cons.mpr ⟨lw_p13, List.forall_mem_cons.mpr ⟨lw_p14, List.forall_mem_cons.mpr ⟨lw_p15, fun _ h => absurd h List.not_mem_nil⟩⟩⟩⟩⟩⟩⟩⟩⟩⟩⟩⟩⟩⟩⟩⟩
theorem lw_p16 : lw_okq (⟨"TermReckoner$Reckoning", "dayOfCount", "(II)I"⟩, 7) := ⟨⟨by decide +kernel, by decide +kernel⟩, List.mem_of_getElem? (i := 120) (by decide +kernel), List.mem_of_getElem? (i := 588) (by decide +kernel), List.mem_of_getElem? (i := 589) (by decide +kernel)⟩
theorem lw_p17 : lw_okq (⟨"TermReckoner", "known", "()LTermReckoner$Registry;"⟩, 9) := ⟨⟨by decide +kernel, by decide +kernel⟩, List.mem_of_getElem? (i := 14) (by decide +kernel), List.mem_of_getElem? (i := 616) (by decide +kernel), List.mem_of_getElem? (i := 617) (by decide +kernel)⟩
theorem lw_p18 : lw_okq (⟨"TermReckoner", "dayAsked", "()I"⟩, 9) := ⟨⟨by decide +kernel, by decide +kernel⟩, List.mem_of_getElem? (i := 14) (by decide +kernel), List.mem_of_getElem? (i := 620) (by decide +kernel), List.mem_of_getElem? (i := 621) (by decide +kernel)⟩
theorem lw_p19 : lw_okq (⟨"TermReckoner", "reckonOrder", "(IIZ)Z"⟩, 9) := ⟨⟨by decide +kernel, by decide +kernel⟩, List.mem_of_getElem? (i := 14) (by decide +kernel), List.mem_of_getElem? (i := 631) (by decide +kernel), List.mem_of_getElem? (i := 632) (by decide +kernel)⟩
theorem lw_p20 : lw_okq (⟨"TermReckonerModel", "room", "(II)I"⟩, 33) := ⟨⟨by decide +kernel, by decide +kernel⟩, List.mem_of_getElem? (i := 753) (by decide +kernel), List.mem_of_getElem? (i := 877) (by decide +kernel), List.mem_of_getElem? (i := 878) (by decide +kernel)⟩
theorem lw_p21 : lw_okq (⟨"TermReckonerModel", "isPerson", "(I)Z"⟩, 33) := ⟨⟨by decide +kernel, by decide +kernel⟩, List.mem_of_getElem? (i := 753) (by decide +kernel), List.mem_of_getElem? (i := 881) (by decide +kernel), List.mem_of_getElem? (i := 882) (by decide +kernel)⟩
theorem lw_p22 : lw_okq (⟨"TermReckonerModel", "tellAgain", "(II)V"⟩, 33) := ⟨⟨by decide +kernel, by decide +kernel⟩, List.mem_of_getElem? (i := 753) (by decide +kernel), List.mem_of_getElem? (i := 888) (by decide +kernel), List.mem_of_getElem? (i := 889) (by decide +kernel)⟩
theorem lw_p23 : lw_okq (⟨"TermReckonerModel", "begin", "()V"⟩, 33) := ⟨⟨by decide +kernel, by decide +kernel⟩, List.mem_of_getElem? (i := 753) (by decide +kernel), List.mem_of_getElem? (i := 892) (by decide +kernel), List.mem_of_getElem? (i := 893) (by decide +kernel)⟩
theorem lw_p24 : lw_okq (⟨"TermReckonerModel", "again", "(II)V"⟩, 33) := ⟨⟨by decide +kernel, by decide +kernel⟩, List.mem_of_getElem? (i := 753) (by decide +kernel), List.mem_of_getElem? (i := 896) (by decide +kernel), List.mem_of_getElem? (i := 897) (by decide +kernel)⟩
theorem lw_p25 : lw_okq (⟨"TermReckonerModel", "months", "(IIII)V"⟩, 33) := ⟨⟨by decide +kernel, by decide +kernel⟩, List.mem_of_getElem? (i := 753) (by decide +kernel), List.mem_of_getElem? (i := 900) (by decide +kernel), List.mem_of_getElem? (i := 901) (by decide +kernel)⟩
theorem lw_p26 : lw_okq (⟨"TermReckonerModel", "comes", "(IIIIIII)I"⟩, 33) := ⟨⟨by decide +kernel, by decide +kernel⟩, List.mem_of_getElem? (i := 753) (by decide +kernel), List.mem_of_getElem? (i := 904) (by decide +kernel), List.mem_of_getElem? (i := 905) (by decide +kernel)⟩
theorem lw_p27 : lw_okq (⟨"TermReckonerModel", "isRing", "(I)Z"⟩, 33) := ⟨⟨by decide +kernel, by decide +kernel⟩, List.mem_of_getElem? (i := 753) (by decide +kernel), List.mem_of_getElem? (i := 922) (by decide +kernel), List.mem_of_getElem? (i := 923) (by decide +kernel)⟩
theorem lw_p28 : lw_okq (⟨"TermReckonerModel", "names", "(II)Z"⟩, 33) := ⟨⟨by decide +kernel, by decide +kernel⟩, List.mem_of_getElem? (i := 753) (by decide +kernel), List.mem_of_getElem? (i := 926) (by decide +kernel), List.mem_of_getElem? (i := 927) (by decide +kernel)⟩
theorem lw_p29 : lw_okq (⟨"TermReckonerModel", "runs", "(I)Z"⟩, 33) := ⟨⟨by decide +kernel, by decide +kernel⟩, List.mem_of_getElem? (i := 753) (by decide +kernel), List.mem_of_getElem? (i := 930) (by decide +kernel), List.mem_of_getElem? (i := 931) (by decide +kernel)⟩
theorem lw_p30 : lw_okq (⟨"TermReckonerModel", "isBetter", "(I)V"⟩, 33) := ⟨⟨by decide +kernel, by decide +kernel⟩, List.mem_of_getElem? (i := 753) (by decide +kernel), List.mem_of_getElem? (i := 934) (by decide +kernel), List.mem_of_getElem? (i := 935) (by decide +kernel)⟩
theorem lw_p31 : lw_okq (⟨"TermReckonerModel", "isRuled", "(I)Z"⟩, 33) := ⟨⟨by decide +kernel, by decide +kernel⟩, List.mem_of_getElem? (i := 753) (by decide +kernel), List.mem_of_getElem? (i := 969) (by decide +kernel), List.mem_of_getElem? (i := 970) (by decide +kernel)⟩
def lw_privs_2 : List (MethodName × Nat) := [(⟨"TermReckoner$Reckoning", "dayOfCount", "(II)I"⟩, 7), (⟨"TermReckoner", "known", "()LTermReckoner$Registry;"⟩, 9), (⟨"TermReckoner", "dayAsked", "()I"⟩, 9), (⟨"TermReckoner", "reckonOrder", "(IIZ)Z"⟩, 9), (⟨"TermReckonerModel", "room", "(II)I"⟩, 33), (⟨"TermReckonerModel", "isPerson", "(I)Z"⟩, 33), (⟨"TermReckonerModel", "tellAgain", "(II)V"⟩, 33), (⟨"TermReckonerModel", "begin", "()V"⟩, 33), (⟨"TermReckonerModel", "again", "(II)V"⟩, 33), (⟨"TermReckonerModel", "months", "(IIII)V"⟩, 33), (⟨"TermReckonerModel", "comes", "(IIIIIII)I"⟩, 33), (⟨"TermReckonerModel", "isRing", "(I)Z"⟩, 33), (⟨"TermReckonerModel", "names", "(II)Z"⟩, 33), (⟨"TermReckonerModel", "runs", "(I)Z"⟩, 33), (⟨"TermReckonerModel", "isBetter", "(I)V"⟩, 33), (⟨"TermReckonerModel", "isRuled", "(I)Z"⟩, 33)]
theorem lw_r2 : ∀ q ∈ lw_privs_2, lw_okq q := List.forall_mem_cons.mpr ⟨lw_p16, List.forall_mem_cons.mpr ⟨lw_p17, List.forall_mem_cons.mpr ⟨lw_p18, List.forall_mem_cons.mpr ⟨lw_p19, List.forall_mem_cons.mpr ⟨lw_p20, List.forall_mem_cons.mpr ⟨lw_p21, List.forall_mem_cons.mpr ⟨lw_p22, List.forall_mem_cons.mpr ⟨lw_p23, List.forall_mem_cons.mpr ⟨lw_p24, List.forall_mem_cons.mpr ⟨lw_p25, List.forall_mem_cons.mpr ⟨lw_p26, List.forall_mem_cons.mpr ⟨lw_p27, List.forall_mem_cons.mpr ⟨lw_p28, List.forall_mem_cons.mpr ⟨lw_p29, List.forall_mem_cons.mpr ⟨lw_p30, List.forall_mem_cons.mpr ⟨lw_p31, fun _ h => absurd h List.not_mem_nil⟩⟩⟩⟩⟩⟩⟩⟩⟩⟩⟩⟩⟩⟩⟩⟩
theorem lw_p32 : lw_okq (⟨"TermReckonerModel", "isLive", "(I)Z"⟩, 33) := ⟨⟨by decide +kernel, by decide +kernel⟩, List.mem_of_getElem? (i := 753) (by decide +kernel), List.mem_of_getElem? (i := 973) (by decide +kernel), List.mem_of_getElem? (i := 974) (by decide +kernel)⟩
theorem lw_p33 : lw_okq (⟨"TermReckonerModel", "reckon", "(IIZ)V"⟩, 33) := ⟨⟨by decide +kernel, by decide +kernel⟩, List.mem_of_getElem? (i := 753) (by decide +kernel), List.mem_of_getElem? (i := 981) (by decide +kernel), List.mem_of_getElem? (i := 982) (by decide +kernel)⟩
theorem lw_p34 : lw_okq (⟨"TermReckonerModel", "isReady", "(I)Z"⟩, 33) := ⟨⟨by decide +kernel, by decide +kernel⟩, List.mem_of_getElem? (i := 753) (by decide +kernel), List.mem_of_getElem? (i := 985) (by decide +kernel), List.mem_of_getElem? (i := 986) (by decide +kernel)⟩
theorem lw_p35 : lw_okq (⟨"TermReckonerModel", "goThrough", "(IIZ)V"⟩, 33) := ⟨⟨by decide +kernel, by decide +kernel⟩, List.mem_of_getElem? (i := 753) (by decide +kernel), List.mem_of_getElem? (i := 989) (by decide +kernel), List.mem_of_getElem? (i := 990) (by decide +kernel)⟩
theorem lw_p36 : lw_okq (⟨"TermReckonerModel", "beginning", "(I)I"⟩, 33) := ⟨⟨by decide +kernel, by decide +kernel⟩, List.mem_of_getElem? (i := 753) (by decide +kernel), List.mem_of_getElem? (i := 993) (by decide +kernel), List.mem_of_getElem? (i := 994) (by decide +kernel)⟩
theorem lw_p37 : lw_okq (⟨"TermReckonerModel", "has", "(III)I"⟩, 33) := ⟨⟨by decide +kernel, by decide +kernel⟩, List.mem_of_getElem? (i := 753) (by decide +kernel), List.mem_of_getElem? (i := 1000) (by decide +kernel), List.mem_of_getElem? (i := 1001) (by decide +kernel)⟩
theorem lw_p38 : lw_okq (⟨"TermReckonerModel", "isHeld", "(IIZ)Z"⟩, 33) := ⟨⟨by decide +kernel, by decide +kernel⟩, List.mem_of_getElem? (i := 753) (by decide +kernel), List.mem_of_getElem? (i := 1004) (by decide +kernel), List.mem_of_getElem? (i := 1005) (by decide +kernel)⟩
theorem lw_p39 : lw_okq (⟨"TermReckonerModel", "watchedNow", "(I)I"⟩, 33) := ⟨⟨by decide +kernel, by decide +kernel⟩, List.mem_of_getElem? (i := 753) (by decide +kernel), List.mem_of_getElem? (i := 1012) (by decide +kernel), List.mem_of_getElem? (i := 1013) (by decide +kernel)⟩
theorem lw_p40 : lw_okq (⟨"TermReckonerModel", "fullNow", "()I"⟩, 33) := ⟨⟨by decide +kernel, by decide +kernel⟩, List.mem_of_getElem? (i := 753) (by decide +kernel), List.mem_of_getElem? (i := 1020) (by decide +kernel), List.mem_of_getElem? (i := 1021) (by decide +kernel)⟩
theorem lw_p41 : lw_okq (⟨"TermReckonerModel", "isThere", "(II)Z"⟩, 33) := ⟨⟨by decide +kernel, by decide +kernel⟩, List.mem_of_getElem? (i := 753) (by decide +kernel), List.mem_of_getElem? (i := 1028) (by decide +kernel), List.mem_of_getElem? (i := 1029) (by decide +kernel)⟩
theorem lw_p42 : lw_okq (⟨"TermReckonerModel", "known", "()I"⟩, 33) := ⟨⟨by decide +kernel, by decide +kernel⟩, List.mem_of_getElem? (i := 753) (by decide +kernel), List.mem_of_getElem? (i := 1032) (by decide +kernel), List.mem_of_getElem? (i := 1033) (by decide +kernel)⟩
theorem lw_p43 : lw_okq (⟨"TermReckonerModel", "isOrder", "(IIZ)Z"⟩, 33) := ⟨⟨by decide +kernel, by decide +kernel⟩, List.mem_of_getElem? (i := 753) (by decide +kernel), List.mem_of_getElem? (i := 1040) (by decide +kernel), List.mem_of_getElem? (i := 1041) (by decide +kernel)⟩
def lw_privs_3 : List (MethodName × Nat) := [(⟨"TermReckonerModel", "isLive", "(I)Z"⟩, 33), (⟨"TermReckonerModel", "reckon", "(IIZ)V"⟩, 33), (⟨"TermReckonerModel", "isReady", "(I)Z"⟩, 33), (⟨"TermReckonerModel", "goThrough", "(IIZ)V"⟩, 33), (⟨"TermReckonerModel", "beginning", "(I)I"⟩, 33), (⟨"TermReckonerModel", "has", "(III)I"⟩, 33), (⟨"TermReckonerModel", "isHeld", "(IIZ)Z"⟩, 33), (⟨"TermReckonerModel", "watchedNow", "(I)I"⟩, 33), (⟨"TermReckonerModel", "fullNow", "()I"⟩, 33), (⟨"TermReckonerModel", "isThere", "(II)Z"⟩, 33), (⟨"TermReckonerModel", "known", "()I"⟩, 33), (⟨"TermReckonerModel", "isOrder", "(IIZ)Z"⟩, 33)]
theorem lw_r3 : ∀ q ∈ lw_privs_3, lw_okq q := List.forall_mem_cons.mpr ⟨lw_p32, List.forall_mem_cons.mpr ⟨lw_p33, List.forall_mem_cons.mpr ⟨lw_p34, List.forall_mem_cons.mpr ⟨lw_p35, List.forall_mem_cons.mpr ⟨lw_p36, List.forall_mem_cons.mpr ⟨lw_p37, List.forall_mem_cons.mpr ⟨lw_p38, List.forall_mem_cons.mpr ⟨lw_p39, List.forall_mem_cons.mpr ⟨lw_p40, List.forall_mem_cons.mpr ⟨lw_p41, List.forall_mem_cons.mpr ⟨lw_p42, List.forall_mem_cons.mpr ⟨lw_p43, fun _ h => absurd h List.not_mem_nil⟩⟩⟩⟩⟩⟩⟩⟩⟩⟩⟩⟩
def lw_privs : List (MethodName × Nat) := lw_privs_1 ++ (lw_privs_2 ++ (lw_privs_3))
def lw_tbl : List Cond := k2_sels lw_privs ++ tables_1
theorem lw_privs_ok : ∀ q ∈ lw_privs, lw_okq q := by
  show ∀ q ∈ lw_privs_1 ++ (lw_privs_2 ++ (lw_privs_3)), lw_okq q
  exact List.forall_mem_append.mpr ⟨lw_r1, List.forall_mem_append.mpr ⟨lw_r2, lw_r3⟩⟩
-- ===== end of PART A; then your names; then what follows =====
end
section
def RX0 : String := "TermReckoner$Entry"
def TX0 : u_T := fun k => match k with
  | 0 => ("TermReckoner$Entry", "today", "I", true)
  | 1 => ("TermReckoner$Entry", "call", "I", true)
  | 2 => ("TermReckoner$Entry", "a", "I", true)
  | 3 => ("TermReckoner$Entry", "b", "I", true)
  | 4 => ("TermReckoner$Entry", "c", "I", false)
  | 5 => ("TermReckoner$Entry", "d", "I", false)
  | 6 => ("TermReckoner$Entry", "e", "I", false)
  | 7 => ("TermReckoner$Entry", "f", "I", false)
  | _ => ("TermReckoner$Entry", "need", "I", false)
def tyX0 : Nat → FieldType := fun k => match k with
  | 0 => .int
  | 1 => .int
  | 2 => .int
  | 3 => .int
  | 4 => .int
  | 5 => .int
  | 6 => .int
  | 7 => .int
  | _ => .int
theorem nmX0 : ∀ a, a < 9 → ∀ b, b < 9 → a ≠ b → (TX0 a).2.1 ≠ (TX0 b).2.1 := by decide +kernel
theorem tyX0_ok : ∀ k, k < 9 → parseFieldDescriptor (TX0 k).2.2.1 = some (tyX0 k) := by decide +kernel
abbrev cX0_init : ByteArray := prog_2_method_1_code
def yX0_init : MethodName := ⟨RX0, "<init>", "(IIII)V"⟩
abbrev cX0_number : ByteArray := prog_2_method_2_code
def yX0_number : MethodName := ⟨RX0, "number", "(I)I"⟩
def RX1 : String := "TermReckoner$File"
def TX1 : u_T := fun k => match k with
  | 0 => ("TermReckoner$File", "places", "[LTermReckoner$Place;", true)
  | 1 => ("TermReckoner$File", "shapes", "[I", true)
  | 2 => ("TermReckoner$File", "lengths", "[I", true)
  | 3 => ("TermReckoner$File", "told", "[I", true)
  | _ => ("TermReckoner$File", "granted", "I", false)
def tyX1 : Nat → FieldType := fun k => match k with
  | 0 => .array (.object "TermReckoner$Place")
  | 1 => .array .int
  | 2 => .array .int
  | 3 => .array .int
  | _ => .int
theorem nmX1 : ∀ a, a < 5 → ∀ b, b < 5 → a ≠ b → (TX1 a).2.1 ≠ (TX1 b).2.1 := by decide +kernel
theorem tyX1_ok : ∀ k, k < 5 → parseFieldDescriptor (TX1 k).2.2.1 = some (tyX1 k) := by decide +kernel
abbrev cX1_init : ByteArray := prog_3_method_1_code
def yX1_init : MethodName := ⟨RX1, "<init>", "()V"⟩
abbrev cX1_wipe : ByteArray := prog_3_method_2_code
def yX1_wipe : MethodName := ⟨RX1, "wipe", "()V"⟩
abbrev cX1_at : ByteArray := prog_3_method_3_code
def yX1_at : MethodName := ⟨RX1, "at", "(I)LTermReckoner$Place;"⟩
abbrev cX1_isRow : ByteArray := prog_3_method_4_code
def yX1_isRow : MethodName := ⟨RX1, "isRow", "(I)Z"⟩
abbrev cX1_fitsRow : ByteArray := prog_3_method_5_code
def yX1_fitsRow : MethodName := ⟨RX1, "fitsRow", "(II)Z"⟩
abbrev cX1_rowLength : ByteArray := prog_3_method_6_code
def yX1_rowLength : MethodName := ⟨RX1, "rowLength", "(I)I"⟩
abbrev cX1_isOpen : ByteArray := prog_3_method_7_code
def yX1_isOpen : MethodName := ⟨RX1, "isOpen", "(I)Z"⟩
abbrev cX1_heldDays : ByteArray := prog_3_method_8_code
def yX1_heldDays : MethodName := ⟨RX1, "heldDays", "(IZ)I"⟩
abbrev cX1_isHeld : ByteArray := prog_3_method_9_code
def yX1_isHeld : MethodName := ⟨RX1, "isHeld", "(IZ)Z"⟩
abbrev cX1_isToldHeld : ByteArray := prog_3_method_10_code
def yX1_isToldHeld : MethodName := ⟨RX1, "isToldHeld", "(I)Z"⟩
abbrev cX1_leastOf : ByteArray := prog_3_method_11_code
def yX1_leastOf : MethodName := ⟨RX1, "leastOf", "(III)I"⟩
abbrev cX1_setRow : ByteArray := prog_3_method_12_code
def yX1_setRow : MethodName := ⟨RX1, "setRow", "(IZI)V"⟩
abbrev cX1_setDay : ByteArray := prog_3_method_13_code
def yX1_setDay : MethodName := ⟨RX1, "setDay", "(IIZ)V"⟩
abbrev cX1_setTorn : ByteArray := prog_3_method_14_code
def yX1_setTorn : MethodName := ⟨RX1, "setTorn", "(I)V"⟩
abbrev cX1_copyRow : ByteArray := prog_3_method_15_code
def yX1_copyRow : MethodName := ⟨RX1, "copyRow", "(LTermReckoner$File;II)V"⟩
def RX2 : String := "TermReckoner$Place"
def TX2 : u_T := fun k => match k with
  | 0 => ("TermReckoner$Place", "kind", "I", false)
  | 1 => ("TermReckoner$Place", "from", "I", false)
  | 2 => ("TermReckoner$Place", "to", "I", false)
  | 3 => ("TermReckoner$Place", "need", "I", false)
  | 4 => ("TermReckoner$Place", "set", "I", false)
  | 5 => ("TermReckoner$Place", "quashedBy", "I", false)
  | 6 => ("TermReckoner$Place", "every", "I", false)
  | 7 => ("TermReckoner$Place", "left", "I", false)
  | _ => ("TermReckoner$Place", "given", "I", false)
def tyX2 : Nat → FieldType := fun k => match k with
  | 0 => .int
  | 1 => .int
  | 2 => .int
  | 3 => .int
  | 4 => .int
  | 5 => .int
  | 6 => .int
  | 7 => .int
  | _ => .int
theorem nmX2 : ∀ a, a < 9 → ∀ b, b < 9 → a ≠ b → (TX2 a).2.1 ≠ (TX2 b).2.1 := by decide +kernel
theorem tyX2_ok : ∀ k, k < 9 → parseFieldDescriptor (TX2 k).2.2.1 = some (tyX2 k) := by decide +kernel
abbrev cX2_init : ByteArray := prog_4_method_1_code
def yX2_init : MethodName := ⟨RX2, "<init>", "()V"⟩
abbrev cX2_wipe : ByteArray := prog_4_method_2_code
def yX2_wipe : MethodName := ⟨RX2, "wipe", "()V"⟩
abbrev cX2_runs : ByteArray := prog_4_method_3_code
def yX2_runs : MethodName := ⟨RX2, "runs", "()Z"⟩
abbrev cX2_isQuashed : ByteArray := prog_4_method_4_code
def yX2_isQuashed : MethodName := ⟨RX2, "isQuashed", "()Z"⟩
abbrev cX2_stands : ByteArray := prog_4_method_5_code
def yX2_stands : MethodName := ⟨RX2, "stands", "()Z"⟩
abbrev cX2_mayHaveRule : ByteArray := prog_4_method_6_code
def yX2_mayHaveRule : MethodName := ⟨RX2, "mayHaveRule", "()Z"⟩
abbrev cX2_isFor : ByteArray := prog_4_method_7_code
def yX2_isFor : MethodName := ⟨RX2, "isFor", "(II)Z"⟩
abbrev cX2_mostTaken : ByteArray := prog_4_method_8_code
def yX2_mostTaken : MethodName := ⟨RX2, "mostTaken", "()I"⟩
def RX3 : String := "TermReckoner$Reckoning"
def TX3 : u_T := fun k => match k with
  | 0 => ("TermReckoner$Reckoning", "beginDays", "[I", true)
  | 1 => ("TermReckoner$Reckoning", "endDays", "[I", true)
  | 2 => ("TermReckoner$Reckoning", "counting", "[I", true)
  | 3 => ("TermReckoner$Reckoning", "stayed", "[I", true)
  | 4 => ("TermReckoner$Reckoning", "credited", "[I", true)
  | 5 => ("TermReckoner$Reckoning", "tally", "LTermReckoner$Tally;", true)
  | _ => ("TermReckoner$Reckoning", "standing", "I", false)
def tyX3 : Nat → FieldType := fun k => match k with
  | 0 => .array .int
  | 1 => .array .int
  | 2 => .array .int
  | 3 => .array .int
  | 4 => .array .int
  | 5 => .object "TermReckoner$Tally"
  | _ => .int
theorem nmX3 : ∀ a, a < 7 → ∀ b, b < 7 → a ≠ b → (TX3 a).2.1 ≠ (TX3 b).2.1 := by decide +kernel
theorem tyX3_ok : ∀ k, k < 7 → parseFieldDescriptor (TX3 k).2.2.1 = some (tyX3 k) := by decide +kernel
abbrev cX3_init : ByteArray := prog_5_method_1_code
def yX3_init : MethodName := ⟨RX3, "<init>", "()V"⟩
abbrev cX3_beginOf : ByteArray := prog_5_method_2_code
def yX3_beginOf : MethodName := ⟨RX3, "beginOf", "(I)I"⟩
abbrev cX3_endOf : ByteArray := prog_5_method_3_code
def yX3_endOf : MethodName := ⟨RX3, "endOf", "(I)I"⟩
abbrev cX3_reckon : ByteArray := prog_5_method_4_code
def yX3_reckon : MethodName := ⟨RX3, "reckon", "(LTermReckoner$File;Z)V"⟩
abbrev cX3_reckonPlace : ByteArray := prog_5_method_5_code
def yX3_reckonPlace : MethodName := ⟨RX3, "reckonPlace", "(LTermReckoner$File;LTermReckoner$Place;IZ)V"⟩
abbrev cX3_beginBehind : ByteArray := prog_5_method_6_code
def yX3_beginBehind : MethodName := ⟨RX3, "beginBehind", "(LTermReckoner$Place;)I"⟩
abbrev cX3_beginBeside : ByteArray := prog_5_method_7_code
def yX3_beginBeside : MethodName := ⟨RX3, "beginBeside", "(LTermReckoner$Place;)I"⟩
abbrev cX3_findSpans : ByteArray := prog_5_method_8_code
def yX3_findSpans : MethodName := ⟨RX3, "findSpans", "(LTermReckoner$File;II[I)V"⟩
abbrev cX3_addSpan : ByteArray := prog_5_method_9_code
def yX3_addSpan : MethodName := ⟨RX3, "addSpan", "(LTermReckoner$Place;[I)V"⟩
abbrev cX3_countingIn : ByteArray := prog_5_method_10_code
def yX3_countingIn : MethodName := ⟨RX3, "countingIn", "(II)I"⟩
abbrev cX3_doesCount : ByteArray := prog_5_method_11_code
def yX3_doesCount : MethodName := ⟨RX3, "doesCount", "(II)Z"⟩
abbrev cX3_countedUpTo : ByteArray := prog_5_method_12_code
def yX3_countedUpTo : MethodName := ⟨RX3, "countedUpTo", "(II)I"⟩
abbrev cX3_takenUpTo : ByteArray := prog_5_method_13_code
def yX3_takenUpTo : MethodName := ⟨RX3, "takenUpTo", "(LTermReckoner$Place;II)I"⟩
abbrev cX3_fullDay : ByteArray := prog_5_method_14_code
def yX3_fullDay : MethodName := ⟨RX3, "fullDay", "()I"⟩
abbrev cX3_watchedDay : ByteArray := prog_5_method_15_code
def yX3_watchedDay : MethodName := ⟨RX3, "watchedDay", "(LTermReckoner$File;I)I"⟩
abbrev cX3_dayOfCount : ByteArray := prog_5_method_16_code
def yX3_dayOfCount : MethodName := ⟨RX3, "dayOfCount", "(II)I"⟩
abbrev cX3_dayOfBit : ByteArray := prog_5_method_17_code
def yX3_dayOfBit : MethodName := ⟨RX3, "dayOfBit", "(II)I"⟩
def RX4 : String := "TermReckoner$Registry"
def TX4 : u_T := fun k => match k with
  | 0 => ("TermReckoner$Registry", "files", "[LTermReckoner$File;", true)
  | _ => ("TermReckoner$Registry", "learned", "I", false)
def tyX4 : Nat → FieldType := fun k => match k with
  | 0 => .array (.object "TermReckoner$File")
  | _ => .int
theorem nmX4 : ∀ a, a < 2 → ∀ b, b < 2 → a ≠ b → (TX4 a).2.1 ≠ (TX4 b).2.1 := by decide +kernel
theorem tyX4_ok : ∀ k, k < 2 → parseFieldDescriptor (TX4 k).2.2.1 = some (tyX4 k) := by decide +kernel
abbrev cX4_init : ByteArray := prog_6_method_1_code
def yX4_init : MethodName := ⟨RX4, "<init>", "()V"⟩
abbrev cX4_fileOf : ByteArray := prog_6_method_2_code
def yX4_fileOf : MethodName := ⟨RX4, "fileOf", "(I)LTermReckoner$File;"⟩
abbrev cX4_learnUpTo : ByteArray := prog_6_method_3_code
def yX4_learnUpTo : MethodName := ⟨RX4, "learnUpTo", "([LTermReckoner$Entry;I)V"⟩
abbrev cX4_wipe : ByteArray := prog_6_method_4_code
def yX4_wipe : MethodName := ⟨RX4, "wipe", "()V"⟩
abbrev cX4_learn : ByteArray := prog_6_method_5_code
def yX4_learn : MethodName := ⟨RX4, "learn", "(LTermReckoner$Entry;)V"⟩
abbrev cX4_learnOfPlace : ByteArray := prog_6_method_6_code
def yX4_learnOfPlace : MethodName := ⟨RX4, "learnOfPlace", "(LTermReckoner$File;LTermReckoner$Entry;)V"⟩
abbrev cX4_putTerm : ByteArray := prog_6_method_7_code
def yX4_putTerm : MethodName := ⟨RX4, "putTerm", "(LTermReckoner$Place;II)V"⟩
abbrev cX4_markQuashed : ByteArray := prog_6_method_8_code
def yX4_markQuashed : MethodName := ⟨RX4, "markQuashed", "(LTermReckoner$Place;I)V"⟩
def RX5 : String := "TermReckoner$Ring"
def TX5 : u_T := fun k => match k with
  | 0 => ("TermReckoner$Ring", "places", "[I", true)
  | 1 => ("TermReckoner$Ring", "size", "I", false)
  | 2 => ("TermReckoner$Ring", "next", "[I", true)
  | _ => ("TermReckoner$Ring", "leads", "[I", true)
def tyX5 : Nat → FieldType := fun k => match k with
  | 0 => .array .int
  | 1 => .int
  | 2 => .array .int
  | _ => .array .int
theorem nmX5 : ∀ a, a < 4 → ∀ b, b < 4 → a ≠ b → (TX5 a).2.1 ≠ (TX5 b).2.1 := by decide +kernel
theorem tyX5_ok : ∀ k, k < 4 → parseFieldDescriptor (TX5 k).2.2.1 = some (tyX5 k) := by decide +kernel
abbrev cX5_init : ByteArray := prog_7_method_1_code
def yX5_init : MethodName := ⟨RX5, "<init>", "()V"⟩
abbrev cX5_placeAt : ByteArray := prog_7_method_2_code
def yX5_placeAt : MethodName := ⟨RX5, "placeAt", "(I)I"⟩
abbrev cX5_closes : ByteArray := prog_7_method_3_code
def yX5_closes : MethodName := ⟨RX5, "closes", "(LTermReckoner$File;II)Z"⟩
abbrev cX5_findNext : ByteArray := prog_7_method_4_code
def yX5_findNext : MethodName := ⟨RX5, "findNext", "(LTermReckoner$File;II)V"⟩
abbrev cX5_lengthOfLeast : ByteArray := prog_7_method_5_code
def yX5_lengthOfLeast : MethodName := ⟨RX5, "lengthOfLeast", "(I)I"⟩
abbrev cX5_findLeads : ByteArray := prog_7_method_6_code
def yX5_findLeads : MethodName := ⟨RX5, "findLeads", "(II)V"⟩
abbrev cX5_keep : ByteArray := prog_7_method_7_code
def yX5_keep : MethodName := ⟨RX5, "keep", "(II)V"⟩
def RX6 : String := "TermReckoner$Tally"
def TX6 : u_T := fun k => match k with
  | 0 => ("TermReckoner$Tally", "every", "I", false)
  | 1 => ("TermReckoner$Tally", "mostTaken", "I", false)
  | 2 => ("TermReckoner$Tally", "given", "I", false)
  | 3 => ("TermReckoner$Tally", "counted", "I", false)
  | 4 => ("TermReckoner$Tally", "closed", "I", false)
  | _ => ("TermReckoner$Tally", "row", "I", false)
def tyX6 : Nat → FieldType := fun k => match k with
  | 0 => .int
  | 1 => .int
  | 2 => .int
  | 3 => .int
  | 4 => .int
  | _ => .int
theorem nmX6 : ∀ a, a < 6 → ∀ b, b < 6 → a ≠ b → (TX6 a).2.1 ≠ (TX6 b).2.1 := by decide +kernel
theorem tyX6_ok : ∀ k, k < 6 → parseFieldDescriptor (TX6 k).2.2.1 = some (tyX6 k) := by decide +kernel
abbrev cX6_init : ByteArray := prog_8_method_1_code
def yX6_init : MethodName := ⟨RX6, "<init>", "()V"⟩
abbrev cX6_start : ByteArray := prog_8_method_2_code
def yX6_start : MethodName := ⟨RX6, "start", "(LTermReckoner$Place;)V"⟩
abbrev cX6_takenWith : ByteArray := prog_8_method_3_code
def yX6_takenWith : MethodName := ⟨RX6, "takenWith", "(I)I"⟩
abbrev cX6_reachedWith : ByteArray := prog_8_method_4_code
def yX6_reachedWith : MethodName := ⟨RX6, "reachedWith", "(I)I"⟩
abbrev cX6_addDays : ByteArray := prog_8_method_5_code
def yX6_addDays : MethodName := ⟨RX6, "addDays", "(I)V"⟩
abbrev cX6_breakRow : ByteArray := prog_8_method_6_code
def yX6_breakRow : MethodName := ⟨RX6, "breakRow", "()V"⟩
abbrev cX6_addMonth : ByteArray := prog_8_method_7_code
def yX6_addMonth : MethodName := ⟨RX6, "addMonth", "(II)I"⟩
def RX7 : String := "TermReckoner"
def TX7 : u_T := fun k => match k with
  | 0 => ("TermReckoner", "log", "[LTermReckoner$Entry;", true)
  | 1 => ("TermReckoner", "entries", "I", false)
  | 2 => ("TermReckoner", "persons", "I", false)
  | 3 => ("TermReckoner", "today", "I", false)
  | 4 => ("TermReckoner", "asked", "I", false)
  | 5 => ("TermReckoner", "now", "LTermReckoner$Registry;", true)
  | 6 => ("TermReckoner", "then", "LTermReckoner$Registry;", true)
  | 7 => ("TermReckoner", "reckoning", "LTermReckoner$Reckoning;", true)
  | _ => ("TermReckoner", "found", "LTermReckoner$Ring;", true)
def tyX7 : Nat → FieldType := fun k => match k with
  | 0 => .array (.object "TermReckoner$Entry")
  | 1 => .int
  | 2 => .int
  | 3 => .int
  | 4 => .int
  | 5 => .object "TermReckoner$Registry"
  | 6 => .object "TermReckoner$Registry"
  | 7 => .object "TermReckoner$Reckoning"
  | _ => .object "TermReckoner$Ring"
theorem nmX7 : ∀ a, a < 9 → ∀ b, b < 9 → a ≠ b → (TX7 a).2.1 ≠ (TX7 b).2.1 := by decide +kernel
theorem tyX7_ok : ∀ k, k < 9 → parseFieldDescriptor (TX7 k).2.2.1 = some (tyX7 k) := by decide +kernel
abbrev cX7_init : ByteArray := prog_1_method_1_code
def yX7_init : MethodName := ⟨RX7, "<init>", "()V"⟩
abbrev cX7_person : ByteArray := prog_1_method_2_code
def yX7_person : MethodName := ⟨RX7, "person", "()I"⟩
abbrev cX7_today : ByteArray := prog_1_method_3_code
def yX7_today : MethodName := ⟨RX7, "today", "(I)Z"⟩
abbrev cX7_as : ByteArray := prog_1_method_4_code
def yX7_as : MethodName := ⟨RX7, "as", "(I)I"⟩
abbrev cX7_letter : ByteArray := prog_1_method_5_code
def yX7_letter : MethodName := ⟨RX7, "letter", "(II)I"⟩
abbrev cX7_term : ByteArray := prog_1_method_6_code
def yX7_term : MethodName := ⟨RX7, "term", "(IIII)I"⟩
abbrev cX7_waits : ByteArray := prog_1_method_7_code
def yX7_waits : MethodName := ⟨RX7, "waits", "(IIIIII)I"⟩
abbrev cX7_stay : ByteArray := prog_1_method_8_code
def yX7_stay : MethodName := ⟨RX7, "stay", "(IIIIII)I"⟩
abbrev cX7_quash : ByteArray := prog_1_method_9_code
def yX7_quash : MethodName := ⟨RX7, "quash", "(III)I"⟩
abbrev cX7_month : ByteArray := prog_1_method_10_code
def yX7_month : MethodName := ⟨RX7, "month", "(IIZI)I"⟩
abbrev cX7_held : ByteArray := prog_1_method_11_code
def yX7_held : MethodName := ⟨RX7, "held", "(IIII)I"⟩
abbrev cX7_tear : ByteArray := prog_1_method_12_code
def yX7_tear : MethodName := ⟨RX7, "tear", "(II)I"⟩
abbrev cX7_copy : ByteArray := prog_1_method_13_code
def yX7_copy : MethodName := ⟨RX7, "copy", "(IIII)I"⟩
abbrev cX7_off : ByteArray := prog_1_method_14_code
def yX7_off : MethodName := ⟨RX7, "off", "(IIII)I"⟩
abbrev cX7_back : ByteArray := prog_1_method_15_code
def yX7_back : MethodName := ⟨RX7, "back", "(III)I"⟩
abbrev cX7_grant : ByteArray := prog_1_method_16_code
def yX7_grant : MethodName := ⟨RX7, "grant", "(II)I"⟩
abbrev cX7_recall : ByteArray := prog_1_method_17_code
def yX7_recall : MethodName := ⟨RX7, "recall", "(IIII)I"⟩
abbrev cX7_kind : ByteArray := prog_1_method_18_code
def yX7_kind : MethodName := ⟨RX7, "kind", "(II)I"⟩
abbrev cX7_begins : ByteArray := prog_1_method_19_code
def yX7_begins : MethodName := ⟨RX7, "begins", "(IIZ)I"⟩
abbrev cX7_ends : ByteArray := prog_1_method_20_code
def yX7_ends : MethodName := ⟨RX7, "ends", "(IIZ)I"⟩
abbrev cX7_counted : ByteArray := prog_1_method_21_code
def yX7_counted : MethodName := ⟨RX7, "counted", "(IIIZ)I"⟩
abbrev cX7_taken : ByteArray := prog_1_method_22_code
def yX7_taken : MethodName := ⟨RX7, "taken", "(III)I"⟩
abbrev cX7_why : ByteArray := prog_1_method_23_code
def yX7_why : MethodName := ⟨RX7, "why", "(III)I"⟩
abbrev cX7_by : ByteArray := prog_1_method_24_code
def yX7_by : MethodName := ⟨RX7, "by", "(III)I"⟩
abbrev cX7_full : ByteArray := prog_1_method_25_code
def yX7_full : MethodName := ⟨RX7, "full", "(IZ)I"⟩
abbrev cX7_watched : ByteArray := prog_1_method_26_code
def yX7_watched : MethodName := ⟨RX7, "watched", "(IIZ)I"⟩
abbrev cX7_open : ByteArray := prog_1_method_27_code
def yX7_open : MethodName := ⟨RX7, "open", "(II)I"⟩
abbrev cX7_over : ByteArray := prog_1_method_28_code
def yX7_over : MethodName := ⟨RX7, "over", "(I)I"⟩
abbrev cX7_ring : ByteArray := prog_1_method_29_code
def yX7_ring : MethodName := ⟨RX7, "ring", "(I)I"⟩
abbrev cX7_check : ByteArray := prog_1_method_30_code
def yX7_check : MethodName := ⟨RX7, "check", "(IIII)I"⟩
abbrev cX7_image : ByteArray := prog_1_method_31_code
def yX7_image : MethodName := ⟨RX7, "image", "(II)I"⟩
abbrev cX7_take : ByteArray := prog_1_method_32_code
def yX7_take : MethodName := ⟨RX7, "take", "(IIIIIIII)I"⟩
abbrev cX7_count : ByteArray := prog_1_method_33_code
def yX7_count : MethodName := ⟨RX7, "count", "(I)I"⟩
abbrev cX7_isDay : ByteArray := prog_1_method_34_code
def yX7_isDay : MethodName := ⟨RX7, "isDay", "(I)Z"⟩
abbrev cX7_isMonth : ByteArray := prog_1_method_35_code
def yX7_isMonth : MethodName := ⟨RX7, "isMonth", "(I)Z"⟩
abbrev cX7_isPlace : ByteArray := prog_1_method_36_code
def yX7_isPlace : MethodName := ⟨RX7, "isPlace", "(I)Z"⟩
abbrev cX7_isNeed : ByteArray := prog_1_method_37_code
def yX7_isNeed : MethodName := ⟨RX7, "isNeed", "(I)Z"⟩
abbrev cX7_isSet : ByteArray := prog_1_method_38_code
def yX7_isSet : MethodName := ⟨RX7, "isSet", "(I)Z"⟩
abbrev cX7_names : ByteArray := prog_1_method_39_code
def yX7_names : MethodName := ⟨RX7, "names", "(II)Z"⟩
abbrev cX7_part : ByteArray := prog_1_method_40_code
def yX7_part : MethodName := ⟨RX7, "part", "(II)I"⟩
abbrev cX7_dayOrNone : ByteArray := prog_1_method_41_code
def yX7_dayOrNone : MethodName := ⟨RX7, "dayOrNone", "(I)I"⟩
abbrev cX7_bitsFrom : ByteArray := prog_1_method_42_code
def yX7_bitsFrom : MethodName := ⟨RX7, "bitsFrom", "(I)I"⟩
abbrev cX7_bitsUpTo : ByteArray := prog_1_method_43_code
def yX7_bitsUpTo : MethodName := ⟨RX7, "bitsUpTo", "(I)I"⟩
abbrev cX7_isPerson : ByteArray := prog_1_method_44_code
def yX7_isPerson : MethodName := ⟨RX7, "isPerson", "(I)Z"⟩
abbrev cX7_fileOf : ByteArray := prog_1_method_45_code
def yX7_fileOf : MethodName := ⟨RX7, "fileOf", "(LTermReckoner$Registry;I)LTermReckoner$File;"⟩
abbrev cX7_placeOf : ByteArray := prog_1_method_46_code
def yX7_placeOf : MethodName := ⟨RX7, "placeOf", "(LTermReckoner$Registry;II)LTermReckoner$Place;"⟩
abbrev cX7_putStatus : ByteArray := prog_1_method_47_code
def yX7_putStatus : MethodName := ⟨RX7, "putStatus", "(II)I"⟩
abbrev cX7_tell : ByteArray := prog_1_method_48_code
def yX7_tell : MethodName := ⟨RX7, "tell", "(LTermReckoner$Entry;)I"⟩
abbrev cX7_dayAsked : ByteArray := prog_1_method_49_code
def yX7_dayAsked : MethodName := ⟨RX7, "dayAsked", "()I"⟩
abbrev cX7_known : ByteArray := prog_1_method_50_code
def yX7_known : MethodName := ⟨RX7, "known", "()LTermReckoner$Registry;"⟩
abbrev cX7_isBehind : ByteArray := prog_1_method_51_code
def yX7_isBehind : MethodName := ⟨RX7, "isBehind", "(LTermReckoner$Entry;I)Z"⟩
abbrev cX7_reckonOrder : ByteArray := prog_1_method_52_code
def yX7_reckonOrder : MethodName := ⟨RX7, "reckonOrder", "(IIZ)Z"⟩
def RX8 : String := "TermReckonerModel"
def TX8 : u_T := fun k => match k with
  | 0 => ("TermReckonerModel", "today", "I", false)
  | 1 => ("TermReckonerModel", "asked", "I", false)
  | 2 => ("TermReckonerModel", "persons", "I", false)
  | 3 => ("TermReckonerModel", "entry", "[I", true)
  | 4 => ("TermReckonerModel", "recalled", "[I", true)
  | 5 => ("TermReckonerModel", "entries", "I", false)
  | 6 => ("TermReckonerModel", "kind", "[I", true)
  | 7 => ("TermReckonerModel", "from", "[I", true)
  | 8 => ("TermReckonerModel", "to", "[I", true)
  | 9 => ("TermReckonerModel", "need", "[I", true)
  | 10 => ("TermReckonerModel", "set", "[I", true)
  | 11 => ("TermReckonerModel", "ruleIn", "[I", true)
  | 12 => ("TermReckonerModel", "ruleLeft", "[I", true)
  | 13 => ("TermReckonerModel", "given", "[I", true)
  | 14 => ("TermReckonerModel", "quashedBy", "[I", true)
  | 15 => ("TermReckonerModel", "grant", "I", false)
  | 16 => ("TermReckonerModel", "month", "[I", true)
  | 17 => ("TermReckonerModel", "isWide", "[Z", true)
  | 18 => ("TermReckonerModel", "rowSize", "[I", true)
  | 19 => ("TermReckonerModel", "row", "[I", true)
  | 20 => ("TermReckonerModel", "isDone", "[Z", true)
  | 21 => ("TermReckonerModel", "beginOf", "[I", true)
  | 22 => ("TermReckonerModel", "endOf", "[I", true)
  | 23 => ("TermReckonerModel", "counts", "[Z", true)
  | 24 => ("TermReckonerModel", "countedTo", "[I", true)
  | 25 => ("TermReckonerModel", "takenTo", "[I", true)
  | 26 => ("TermReckonerModel", "way", "[I", true)
  | 27 => ("TermReckonerModel", "next", "[I", true)
  | 28 => ("TermReckonerModel", "turned", "[I", true)
  | 29 => ("TermReckonerModel", "best", "[I", true)
  | 30 => ("TermReckonerModel", "bestSize", "I", false)
  | 31 => ("TermReckonerModel", "ring", "[I", true)
  | _ => ("TermReckonerModel", "ringSize", "I", false)
def tyX8 : Nat → FieldType := fun k => match k with
  | 0 => .int
  | 1 => .int
  | 2 => .int
  | 3 => .array .int
  | 4 => .array .int
  | 5 => .int
  | 6 => .array .int
  | 7 => .array .int
  | 8 => .array .int
  | 9 => .array .int
  | 10 => .array .int
  | 11 => .array .int
  | 12 => .array .int
  | 13 => .array .int
  | 14 => .array .int
  | 15 => .int
  | 16 => .array .int
  | 17 => .array .boolean
  | 18 => .array .int
  | 19 => .array .int
  | 20 => .array .boolean
  | 21 => .array .int
  | 22 => .array .int
  | 23 => .array .boolean
  | 24 => .array .int
  | 25 => .array .int
  | 26 => .array .int
  | 27 => .array .int
  | 28 => .array .int
  | 29 => .array .int
  | 30 => .int
  | 31 => .array .int
  | _ => .int
theorem nmX8 : ∀ a, a < 33 → ∀ b, b < 33 → a ≠ b → (TX8 a).2.1 ≠ (TX8 b).2.1 := by decide +kernel
theorem tyX8_ok : ∀ k, k < 33 → parseFieldDescriptor (TX8 k).2.2.1 = some (tyX8 k) := by decide +kernel
abbrev cX8_init : ByteArray := prog_10_method_1_code
def yX8_init : MethodName := ⟨RX8, "<init>", "()V"⟩
abbrev cX8_person : ByteArray := prog_10_method_2_code
def yX8_person : MethodName := ⟨RX8, "person", "()I"⟩
abbrev cX8_today : ByteArray := prog_10_method_3_code
def yX8_today : MethodName := ⟨RX8, "today", "(I)Z"⟩
abbrev cX8_as : ByteArray := prog_10_method_4_code
def yX8_as : MethodName := ⟨RX8, "as", "(I)I"⟩
abbrev cX8_known : ByteArray := prog_10_method_5_code
def yX8_known : MethodName := ⟨RX8, "known", "()I"⟩
abbrev cX8_begin : ByteArray := prog_10_method_6_code
def yX8_begin : MethodName := ⟨RX8, "begin", "()V"⟩
abbrev cX8_tellAgain : ByteArray := prog_10_method_7_code
def yX8_tellAgain : MethodName := ⟨RX8, "tellAgain", "(II)V"⟩
abbrev cX8_again : ByteArray := prog_10_method_8_code
def yX8_again : MethodName := ⟨RX8, "again", "(II)V"⟩
abbrev cX8_months : ByteArray := prog_10_method_9_code
def yX8_months : MethodName := ⟨RX8, "months", "(IIII)V"⟩
abbrev cX8_runs : ByteArray := prog_10_method_10_code
def yX8_runs : MethodName := ⟨RX8, "runs", "(I)Z"⟩
abbrev cX8_isLive : ByteArray := prog_10_method_11_code
def yX8_isLive : MethodName := ⟨RX8, "isLive", "(I)Z"⟩
abbrev cX8_isHeld : ByteArray := prog_10_method_12_code
def yX8_isHeld : MethodName := ⟨RX8, "isHeld", "(IIZ)Z"⟩
abbrev cX8_has : ByteArray := prog_10_method_13_code
def yX8_has : MethodName := ⟨RX8, "has", "(III)I"⟩
abbrev cX8_thousandths : ByteArray := prog_10_method_14_code
def yX8_thousandths : MethodName := ⟨RX8, "thousandths", "(II)I"⟩
abbrev cX8_isReady : ByteArray := prog_10_method_15_code
def yX8_isReady : MethodName := ⟨RX8, "isReady", "(I)Z"⟩
abbrev cX8_beginning : ByteArray := prog_10_method_16_code
def yX8_beginning : MethodName := ⟨RX8, "beginning", "(I)I"⟩
abbrev cX8_goThrough : ByteArray := prog_10_method_17_code
def yX8_goThrough : MethodName := ⟨RX8, "goThrough", "(IIZ)V"⟩
abbrev cX8_reckon : ByteArray := prog_10_method_18_code
def yX8_reckon : MethodName := ⟨RX8, "reckon", "(IIZ)V"⟩
abbrev cX8_fullNow : ByteArray := prog_10_method_19_code
def yX8_fullNow : MethodName := ⟨RX8, "fullNow", "()I"⟩
abbrev cX8_watchedNow : ByteArray := prog_10_method_20_code
def yX8_watchedNow : MethodName := ⟨RX8, "watchedNow", "(I)I"⟩
abbrev cX8_isPlace : ByteArray := prog_10_method_21_code
def yX8_isPlace : MethodName := ⟨RX8, "isPlace", "(I)Z"⟩
abbrev cX8_isPerson : ByteArray := prog_10_method_22_code
def yX8_isPerson : MethodName := ⟨RX8, "isPerson", "(I)Z"⟩
abbrev cX8_isDay : ByteArray := prog_10_method_23_code
def yX8_isDay : MethodName := ⟨RX8, "isDay", "(I)Z"⟩
abbrev cX8_isMonth : ByteArray := prog_10_method_24_code
def yX8_isMonth : MethodName := ⟨RX8, "isMonth", "(I)Z"⟩
abbrev cX8_comes : ByteArray := prog_10_method_25_code
def yX8_comes : MethodName := ⟨RX8, "comes", "(IIIIIII)I"⟩
abbrev cX8_room : ByteArray := prog_10_method_26_code
def yX8_room : MethodName := ⟨RX8, "room", "(II)I"⟩
abbrev cX8_letter : ByteArray := prog_10_method_27_code
def yX8_letter : MethodName := ⟨RX8, "letter", "(II)I"⟩
abbrev cX8_isTerm : ByteArray := prog_10_method_28_code
def yX8_isTerm : MethodName := ⟨RX8, "isTerm", "(II)Z"⟩
abbrev cX8_term : ByteArray := prog_10_method_29_code
def yX8_term : MethodName := ⟨RX8, "term", "(IIII)I"⟩
abbrev cX8_names : ByteArray := prog_10_method_30_code
def yX8_names : MethodName := ⟨RX8, "names", "(II)Z"⟩
abbrev cX8_isRing : ByteArray := prog_10_method_31_code
def yX8_isRing : MethodName := ⟨RX8, "isRing", "(I)Z"⟩
abbrev cX8_isBetter : ByteArray := prog_10_method_32_code
def yX8_isBetter : MethodName := ⟨RX8, "isBetter", "(I)V"⟩
abbrev cX8_waits : ByteArray := prog_10_method_33_code
def yX8_waits : MethodName := ⟨RX8, "waits", "(IIIIII)I"⟩
abbrev cX8_stay : ByteArray := prog_10_method_34_code
def yX8_stay : MethodName := ⟨RX8, "stay", "(IIIIII)I"⟩
abbrev cX8_quash : ByteArray := prog_10_method_35_code
def yX8_quash : MethodName := ⟨RX8, "quash", "(III)I"⟩
abbrev cX8_month : ByteArray := prog_10_method_36_code
def yX8_month : MethodName := ⟨RX8, "month", "(IIZI)I"⟩
abbrev cX8_held : ByteArray := prog_10_method_37_code
def yX8_held : MethodName := ⟨RX8, "held", "(IIII)I"⟩
abbrev cX8_tear : ByteArray := prog_10_method_38_code
def yX8_tear : MethodName := ⟨RX8, "tear", "(II)I"⟩
abbrev cX8_copy : ByteArray := prog_10_method_39_code
def yX8_copy : MethodName := ⟨RX8, "copy", "(IIII)I"⟩
abbrev cX8_isRuled : ByteArray := prog_10_method_40_code
def yX8_isRuled : MethodName := ⟨RX8, "isRuled", "(I)Z"⟩
abbrev cX8_off : ByteArray := prog_10_method_41_code
def yX8_off : MethodName := ⟨RX8, "off", "(IIII)I"⟩
abbrev cX8_back : ByteArray := prog_10_method_42_code
def yX8_back : MethodName := ⟨RX8, "back", "(III)I"⟩
abbrev cX8_grant : ByteArray := prog_10_method_43_code
def yX8_grant : MethodName := ⟨RX8, "grant", "(II)I"⟩
abbrev cX8_recall : ByteArray := prog_10_method_44_code
def yX8_recall : MethodName := ⟨RX8, "recall", "(IIII)I"⟩
abbrev cX8_isThere : ByteArray := prog_10_method_45_code
def yX8_isThere : MethodName := ⟨RX8, "isThere", "(II)Z"⟩
abbrev cX8_kind : ByteArray := prog_10_method_46_code
def yX8_kind : MethodName := ⟨RX8, "kind", "(II)I"⟩
abbrev cX8_isOrder : ByteArray := prog_10_method_47_code
def yX8_isOrder : MethodName := ⟨RX8, "isOrder", "(IIZ)Z"⟩
abbrev cX8_begins : ByteArray := prog_10_method_48_code
def yX8_begins : MethodName := ⟨RX8, "begins", "(IIZ)I"⟩
abbrev cX8_ends : ByteArray := prog_10_method_49_code
def yX8_ends : MethodName := ⟨RX8, "ends", "(IIZ)I"⟩
abbrev cX8_counted : ByteArray := prog_10_method_50_code
def yX8_counted : MethodName := ⟨RX8, "counted", "(IIIZ)I"⟩
abbrev cX8_taken : ByteArray := prog_10_method_51_code
def yX8_taken : MethodName := ⟨RX8, "taken", "(III)I"⟩
abbrev cX8_why : ByteArray := prog_10_method_52_code
def yX8_why : MethodName := ⟨RX8, "why", "(III)I"⟩
abbrev cX8_by : ByteArray := prog_10_method_53_code
def yX8_by : MethodName := ⟨RX8, "by", "(III)I"⟩
abbrev cX8_full : ByteArray := prog_10_method_54_code
def yX8_full : MethodName := ⟨RX8, "full", "(IZ)I"⟩
abbrev cX8_watched : ByteArray := prog_10_method_55_code
def yX8_watched : MethodName := ⟨RX8, "watched", "(IIZ)I"⟩
abbrev cX8_open : ByteArray := prog_10_method_56_code
def yX8_open : MethodName := ⟨RX8, "open", "(II)I"⟩
abbrev cX8_over : ByteArray := prog_10_method_57_code
def yX8_over : MethodName := ⟨RX8, "over", "(I)I"⟩
abbrev cX8_ring : ByteArray := prog_10_method_58_code
def yX8_ring : MethodName := ⟨RX8, "ring", "(I)I"⟩
abbrev cX8_check : ByteArray := prog_10_method_59_code
def yX8_check : MethodName := ⟨RX8, "check", "(IIII)I"⟩
abbrev cX8_image : ByteArray := prog_10_method_60_code
def yX8_image : MethodName := ⟨RX8, "image", "(II)I"⟩
abbrev cX8_take : ByteArray := prog_10_method_61_code
def yX8_take : MethodName := ⟨RX8, "take", "(IIIIIIII)I"⟩
abbrev cX8_count : ByteArray := prog_10_method_62_code
def yX8_count : MethodName := ⟨RX8, "count", "(I)I"⟩
def RJ6 : String := "java/lang/Integer"
abbrev cJ6_numberOfTrailingZeros_0f7a4 : ByteArray := prog_11_method_48_code
def yJ6_numberOfTrailingZeros_0f7a4 : MethodName := ⟨RJ6, "numberOfTrailingZeros", "(I)I"⟩
abbrev cJ6_bitCount_0f7a4 : ByteArray := prog_11_method_49_code
def yJ6_bitCount_0f7a4 : MethodName := ⟨RJ6, "bitCount", "(I)I"⟩
def RJ9 : String := "java/lang/Math"
abbrev cJ9_max_7cf53 : ByteArray := prog_12_method_65_code
def yJ9_max_7cf53 : MethodName := ⟨RJ9, "max", "(II)I"⟩
abbrev cJ9_min_7cf53 : ByteArray := prog_12_method_69_code
def yJ9_min_7cf53 : MethodName := ⟨RJ9, "min", "(II)I"⟩
def RJ7 : String := "java/util/Arrays"
abbrev cJ7_fill_53178 : ByteArray := prog_13_method_103_code
def yJ7_fill_53178 : MethodName := ⟨RJ7, "fill", "([II)V"⟩
def RL : String := "TermReckonerLaw"
abbrev cL_law : ByteArray := code
def yL_law : MethodName := ⟨RL, "law", "([I)Z"⟩
abbrev vwCl : List vw_C := [(RX0, TX0, 9), (RX1, TX1, 5), (RX2, TX2, 9), (RX3, TX3, 7), (RX4, TX4, 2), (RX5, TX5, 4), (RX6, TX6, 6), (RX7, TX7, 9), (RX8, TX8, 33)]
end
section
theorem dX0_init_0 : decode cX0_init 0 = .ok (.aload_n 0, 1) := by decide +kernel
theorem dX0_init_1 : decode cX0_init 1 = .ok (.invokespecial 3, 3) := by decide +kernel
theorem dX0_init_4 : decode cX0_init 4 = .ok (.aload_n 0, 1) := by decide +kernel
theorem dX0_init_5 : decode cX0_init 5 = .ok (.iconst 0, 1) := by decide +kernel
theorem dX0_init_6 : decode cX0_init 6 = .ok (.putfield 9, 3) := by decide +kernel
theorem dX0_init_9 : decode cX0_init 9 = .ok (.aload_n 0, 1) := by decide +kernel
theorem dX0_init_10 : decode cX0_init 10 = .ok (.iconst 0, 1) := by decide +kernel
theorem dX0_init_11 : decode cX0_init 11 = .ok (.putfield 15, 3) := by decide +kernel
theorem dX0_init_14 : decode cX0_init 14 = .ok (.aload_n 0, 1) := by decide +kernel
theorem dX0_init_15 : decode cX0_init 15 = .ok (.iconst 0, 1) := by decide +kernel
theorem dX0_init_16 : decode cX0_init 16 = .ok (.putfield 18, 3) := by decide +kernel
theorem dX0_init_19 : decode cX0_init 19 = .ok (.aload_n 0, 1) := by decide +kernel
theorem dX0_init_20 : decode cX0_init 20 = .ok (.iconst 0, 1) := by decide +kernel
theorem dX0_init_21 : decode cX0_init 21 = .ok (.putfield 21, 3) := by decide +kernel
theorem dX0_init_24 : decode cX0_init 24 = .ok (.aload_n 0, 1) := by decide +kernel
theorem dX0_init_25 : decode cX0_init 25 = .ok (.iconst 0, 1) := by decide +kernel
theorem dX0_init_26 : decode cX0_init 26 = .ok (.putfield 24, 3) := by decide +kernel
theorem dX0_init_29 : decode cX0_init 29 = .ok (.aload_n 0, 1) := by decide +kernel
theorem dX0_init_30 : decode cX0_init 30 = .ok (.iload_n 1, 1) := by decide +kernel
theorem dX0_init_31 : decode cX0_init 31 = .ok (.putfield 27, 3) := by decide +kernel
theorem dX0_init_34 : decode cX0_init 34 = .ok (.aload_n 0, 1) := by decide +kernel
theorem dX0_init_35 : decode cX0_init 35 = .ok (.iload_n 2, 1) := by decide +kernel
theorem dX0_init_36 : decode cX0_init 36 = .ok (.putfield 30, 3) := by decide +kernel
theorem dX0_init_39 : decode cX0_init 39 = .ok (.aload_n 0, 1) := by decide +kernel
theorem dX0_init_40 : decode cX0_init 40 = .ok (.iload_n 3, 1) := by decide +kernel
theorem dX0_init_41 : decode cX0_init 41 = .ok (.putfield 33, 3) := by decide +kernel
theorem dX0_init_44 : decode cX0_init 44 = .ok (.aload_n 0, 1) := by decide +kernel
theorem dX0_init_45 : decode cX0_init 45 = .ok (.iload 4, 2) := by decide +kernel
theorem dX0_init_47 : decode cX0_init 47 = .ok (.putfield 36, 3) := by decide +kernel
theorem dX0_init_50 : decode cX0_init 50 = .ok (.return_, 1) := by decide +kernel
theorem dX0_number_0 : decode cX0_number 0 = .ok (.iload_n 1, 1) := by decide +kernel
theorem dX0_number_1 : decode cX0_number 1 = .ok (.tableswitch 87 0 7 #[47, 52, 57, 62, 67, 72, 77, 82], 47) := by decide +kernel
theorem dX0_number_48 : decode cX0_number 48 = .ok (.aload_n 0, 1) := by decide +kernel
theorem dX0_number_49 : decode cX0_number 49 = .ok (.getfield 27, 3) := by decide +kernel
theorem dX0_number_52 : decode cX0_number 52 = .ok (.ireturn, 1) := by decide +kernel
theorem dX0_number_53 : decode cX0_number 53 = .ok (.aload_n 0, 1) := by decide +kernel
theorem dX0_number_54 : decode cX0_number 54 = .ok (.getfield 30, 3) := by decide +kernel
theorem dX0_number_57 : decode cX0_number 57 = .ok (.ireturn, 1) := by decide +kernel
theorem dX0_number_58 : decode cX0_number 58 = .ok (.aload_n 0, 1) := by decide +kernel
theorem dX0_number_59 : decode cX0_number 59 = .ok (.getfield 33, 3) := by decide +kernel
theorem dX0_number_62 : decode cX0_number 62 = .ok (.ireturn, 1) := by decide +kernel
theorem dX0_number_63 : decode cX0_number 63 = .ok (.aload_n 0, 1) := by decide +kernel
theorem dX0_number_64 : decode cX0_number 64 = .ok (.getfield 36, 3) := by decide +kernel
theorem dX0_number_67 : decode cX0_number 67 = .ok (.ireturn, 1) := by decide +kernel
theorem dX0_number_68 : decode cX0_number 68 = .ok (.aload_n 0, 1) := by decide +kernel
theorem dX0_number_69 : decode cX0_number 69 = .ok (.getfield 9, 3) := by decide +kernel
theorem dX0_number_72 : decode cX0_number 72 = .ok (.ireturn, 1) := by decide +kernel
theorem dX0_number_73 : decode cX0_number 73 = .ok (.aload_n 0, 1) := by decide +kernel
theorem dX0_number_74 : decode cX0_number 74 = .ok (.getfield 15, 3) := by decide +kernel
theorem dX0_number_77 : decode cX0_number 77 = .ok (.ireturn, 1) := by decide +kernel
theorem dX0_number_78 : decode cX0_number 78 = .ok (.aload_n 0, 1) := by decide +kernel
theorem dX0_number_79 : decode cX0_number 79 = .ok (.getfield 18, 3) := by decide +kernel
theorem dX0_number_82 : decode cX0_number 82 = .ok (.ireturn, 1) := by decide +kernel
theorem dX0_number_83 : decode cX0_number 83 = .ok (.aload_n 0, 1) := by decide +kernel
theorem dX0_number_84 : decode cX0_number 84 = .ok (.getfield 21, 3) := by decide +kernel
theorem dX0_number_87 : decode cX0_number 87 = .ok (.ireturn, 1) := by decide +kernel
theorem dX0_number_88 : decode cX0_number 88 = .ok (.iconst (-1), 1) := by decide +kernel
theorem dX0_number_89 : decode cX0_number 89 = .ok (.ireturn, 1) := by decide +kernel
theorem dX1_init_0 : decode cX1_init 0 = .ok (.aload_n 0, 1) := by decide +kernel
theorem dX1_init_1 : decode cX1_init 1 = .ok (.invokespecial 3, 3) := by decide +kernel
theorem dX1_init_4 : decode cX1_init 4 = .ok (.aload_n 0, 1) := by decide +kernel
theorem dX1_init_5 : decode cX1_init 5 = .ok (.bipush 12, 2) := by decide +kernel
theorem dX1_init_7 : decode cX1_init 7 = .ok (.anewarray 9, 3) := by decide +kernel
theorem dX1_init_10 : decode cX1_init 10 = .ok (.putfield 11, 3) := by decide +kernel
theorem dX1_init_13 : decode cX1_init 13 = .ok (.aload_n 0, 1) := by decide +kernel
theorem dX1_init_14 : decode cX1_init 14 = .ok (.bipush 120, 2) := by decide +kernel
theorem dX1_init_16 : decode cX1_init 16 = .ok (.newarray .int, 2) := by decide +kernel
theorem dX1_init_18 : decode cX1_init 18 = .ok (.putfield 17, 3) := by decide +kernel
theorem dX1_init_21 : decode cX1_init 21 = .ok (.aload_n 0, 1) := by decide +kernel
theorem dX1_init_22 : decode cX1_init 22 = .ok (.bipush 120, 2) := by decide +kernel
theorem dX1_init_24 : decode cX1_init 24 = .ok (.newarray .int, 2) := by decide +kernel
theorem dX1_init_26 : decode cX1_init 26 = .ok (.putfield 21, 3) := by decide +kernel
theorem dX1_init_29 : decode cX1_init 29 = .ok (.aload_n 0, 1) := by decide +kernel
theorem dX1_init_30 : decode cX1_init 30 = .ok (.bipush 120, 2) := by decide +kernel
theorem dX1_init_32 : decode cX1_init 32 = .ok (.newarray .int, 2) := by decide +kernel
theorem dX1_init_34 : decode cX1_init 34 = .ok (.putfield 24, 3) := by decide +kernel
theorem dX1_init_37 : decode cX1_init 37 = .ok (.aload_n 0, 1) := by decide +kernel
theorem dX1_init_38 : decode cX1_init 38 = .ok (.iconst (-1), 1) := by decide +kernel
theorem dX1_init_39 : decode cX1_init 39 = .ok (.putfield 27, 3) := by decide +kernel
theorem dX1_init_42 : decode cX1_init 42 = .ok (.iconst 0, 1) := by decide +kernel
theorem dX1_init_43 : decode cX1_init 43 = .ok (.istore_n 1, 1) := by decide +kernel
theorem dX1_init_44 : decode cX1_init 44 = .ok (.iload_n 1, 1) := by decide +kernel
theorem dX1_init_45 : decode cX1_init 45 = .ok (.bipush 12, 2) := by decide +kernel
theorem dX1_init_47 : decode cX1_init 47 = .ok (.if_icmp .ge 22, 3) := by decide +kernel
theorem dX1_init_50 : decode cX1_init 50 = .ok (.aload_n 0, 1) := by decide +kernel
theorem dX1_init_51 : decode cX1_init 51 = .ok (.getfield 11, 3) := by decide +kernel
theorem dX1_init_54 : decode cX1_init 54 = .ok (.iload_n 1, 1) := by decide +kernel
theorem dX1_init_55 : decode cX1_init 55 = .ok (.new 9, 3) := by decide +kernel
theorem dX1_init_58 : decode cX1_init 58 = .ok (.dup, 1) := by decide +kernel
theorem dX1_init_59 : decode cX1_init 59 = .ok (.invokespecial 31, 3) := by decide +kernel
theorem dX1_init_62 : decode cX1_init 62 = .ok (.aastore, 1) := by decide +kernel
theorem dX1_init_63 : decode cX1_init 63 = .ok (.iinc 1 1, 3) := by decide +kernel
theorem dX1_init_66 : decode cX1_init 66 = .ok (.goto (-22), 3) := by decide +kernel
theorem dX1_init_69 : decode cX1_init 69 = .ok (.return_, 1) := by decide +kernel
theorem dX1_wipe_0 : decode cX1_wipe 0 = .ok (.iconst 0, 1) := by decide +kernel
theorem dX1_wipe_1 : decode cX1_wipe 1 = .ok (.istore_n 1, 1) := by decide +kernel
theorem dX1_wipe_2 : decode cX1_wipe 2 = .ok (.iload_n 1, 1) := by decide +kernel
theorem dX1_wipe_3 : decode cX1_wipe 3 = .ok (.bipush 12, 2) := by decide +kernel
theorem dX1_wipe_5 : decode cX1_wipe 5 = .ok (.if_icmp .ge 23, 3) := by decide +kernel
theorem dX1_wipe_8 : decode cX1_wipe 8 = .ok (.aload_n 0, 1) := by decide +kernel
theorem dX1_wipe_9 : decode cX1_wipe 9 = .ok (.iload_n 1, 1) := by decide +kernel
theorem dX1_wipe_10 : decode cX1_wipe 10 = .ok (.invokevirtual 32, 3) := by decide +kernel
theorem dX1_wipe_13 : decode cX1_wipe 13 = .ok (.astore_n 2, 1) := by decide +kernel
theorem dX1_wipe_14 : decode cX1_wipe 14 = .ok (.aload_n 2, 1) := by decide +kernel
theorem dX1_wipe_15 : decode cX1_wipe 15 = .ok (.ifnull 7, 3) := by decide +kernel
theorem dX1_wipe_18 : decode cX1_wipe 18 = .ok (.aload_n 2, 1) := by decide +kernel
theorem dX1_wipe_19 : decode cX1_wipe 19 = .ok (.invokevirtual 36, 3) := by decide +kernel
theorem dX1_wipe_22 : decode cX1_wipe 22 = .ok (.iinc 1 1, 3) := by decide +kernel
theorem dX1_wipe_25 : decode cX1_wipe 25 = .ok (.goto (-23), 3) := by decide +kernel
theorem dX1_wipe_28 : decode cX1_wipe 28 = .ok (.aload_n 0, 1) := by decide +kernel
theorem dX1_wipe_29 : decode cX1_wipe 29 = .ok (.getfield 17, 3) := by decide +kernel
theorem dX1_wipe_32 : decode cX1_wipe 32 = .ok (.iconst 0, 1) := by decide +kernel
theorem dX1_wipe_33 : decode cX1_wipe 33 = .ok (.invokestatic 39, 3) := by decide +kernel
theorem dX1_wipe_36 : decode cX1_wipe 36 = .ok (.aload_n 0, 1) := by decide +kernel
theorem dX1_wipe_37 : decode cX1_wipe 37 = .ok (.getfield 21, 3) := by decide +kernel
theorem dX1_wipe_40 : decode cX1_wipe 40 = .ok (.iconst 0, 1) := by decide +kernel
theorem dX1_wipe_41 : decode cX1_wipe 41 = .ok (.invokestatic 39, 3) := by decide +kernel
theorem dX1_wipe_44 : decode cX1_wipe 44 = .ok (.aload_n 0, 1) := by decide +kernel
theorem dX1_wipe_45 : decode cX1_wipe 45 = .ok (.getfield 24, 3) := by decide +kernel
theorem dX1_wipe_48 : decode cX1_wipe 48 = .ok (.iconst 0, 1) := by decide +kernel
theorem dX1_wipe_49 : decode cX1_wipe 49 = .ok (.invokestatic 39, 3) := by decide +kernel
theorem dX1_wipe_52 : decode cX1_wipe 52 = .ok (.aload_n 0, 1) := by decide +kernel
theorem dX1_wipe_53 : decode cX1_wipe 53 = .ok (.iconst (-1), 1) := by decide +kernel
theorem dX1_wipe_54 : decode cX1_wipe 54 = .ok (.putfield 27, 3) := by decide +kernel
theorem dX1_wipe_57 : decode cX1_wipe 57 = .ok (.return_, 1) := by decide +kernel
theorem dX1_at_0 : decode cX1_at 0 = .ok (.iload_n 1, 1) := by decide +kernel
theorem dX1_at_1 : decode cX1_at 1 = .ok (.invokestatic 45, 3) := by decide +kernel
theorem dX1_at_4 : decode cX1_at 4 = .ok (.ifCond .eq 12, 3) := by decide +kernel
theorem dX1_at_7 : decode cX1_at 7 = .ok (.aload_n 0, 1) := by decide +kernel
theorem dX1_at_8 : decode cX1_at 8 = .ok (.getfield 11, 3) := by decide +kernel
theorem dX1_at_11 : decode cX1_at 11 = .ok (.iload_n 1, 1) := by decide +kernel
theorem dX1_at_12 : decode cX1_at 12 = .ok (.aaload, 1) := by decide +kernel
theorem dX1_at_13 : decode cX1_at 13 = .ok (.goto 4, 3) := by decide +kernel
theorem dX1_at_16 : decode cX1_at 16 = .ok (.aconst_null, 1) := by decide +kernel
theorem dX1_at_17 : decode cX1_at 17 = .ok (.areturn, 1) := by decide +kernel
theorem dX1_isRow_0 : decode cX1_isRow 0 = .ok (.iload_n 1, 1) := by decide +kernel
theorem dX1_isRow_1 : decode cX1_isRow 1 = .ok (.invokestatic 49, 3) := by decide +kernel
theorem dX1_isRow_4 : decode cX1_isRow 4 = .ok (.ifCond .eq 27, 3) := by decide +kernel
theorem dX1_isRow_7 : decode cX1_isRow 7 = .ok (.aload_n 0, 1) := by decide +kernel
theorem dX1_isRow_8 : decode cX1_isRow 8 = .ok (.getfield 17, 3) := by decide +kernel
theorem dX1_isRow_11 : decode cX1_isRow 11 = .ok (.iload_n 1, 1) := by decide +kernel
theorem dX1_isRow_12 : decode cX1_isRow 12 = .ok (.iaload, 1) := by decide +kernel
theorem dX1_isRow_13 : decode cX1_isRow 13 = .ok (.iconst 1, 1) := by decide +kernel
theorem dX1_isRow_14 : decode cX1_isRow 14 = .ok (.if_icmp .eq 13, 3) := by decide +kernel
theorem dX1_isRow_17 : decode cX1_isRow 17 = .ok (.aload_n 0, 1) := by decide +kernel
theorem dX1_isRow_18 : decode cX1_isRow 18 = .ok (.getfield 17, 3) := by decide +kernel
theorem dX1_isRow_21 : decode cX1_isRow 21 = .ok (.iload_n 1, 1) := by decide +kernel
theorem dX1_isRow_22 : decode cX1_isRow 22 = .ok (.iaload, 1) := by decide +kernel
theorem dX1_isRow_23 : decode cX1_isRow 23 = .ok (.iconst 2, 1) := by decide +kernel
theorem dX1_isRow_24 : decode cX1_isRow 24 = .ok (.if_icmp .ne 7, 3) := by decide +kernel
theorem dX1_isRow_27 : decode cX1_isRow 27 = .ok (.iconst 1, 1) := by decide +kernel
theorem dX1_isRow_28 : decode cX1_isRow 28 = .ok (.goto 4, 3) := by decide +kernel
theorem dX1_isRow_31 : decode cX1_isRow 31 = .ok (.iconst 0, 1) := by decide +kernel
theorem dX1_isRow_32 : decode cX1_isRow 32 = .ok (.ireturn, 1) := by decide +kernel
theorem dX1_fitsRow_0 : decode cX1_fitsRow 0 = .ok (.iload_n 1, 1) := by decide +kernel
theorem dX1_fitsRow_1 : decode cX1_fitsRow 1 = .ok (.invokestatic 49, 3) := by decide +kernel
theorem dX1_fitsRow_4 : decode cX1_fitsRow 4 = .ok (.ifCond .eq 33, 3) := by decide +kernel
theorem dX1_fitsRow_7 : decode cX1_fitsRow 7 = .ok (.aload_n 0, 1) := by decide +kernel
theorem dX1_fitsRow_8 : decode cX1_fitsRow 8 = .ok (.getfield 17, 3) := by decide +kernel
theorem dX1_fitsRow_11 : decode cX1_fitsRow 11 = .ok (.iload_n 1, 1) := by decide +kernel
theorem dX1_fitsRow_12 : decode cX1_fitsRow 12 = .ok (.iaload, 1) := by decide +kernel
theorem dX1_fitsRow_13 : decode cX1_fitsRow 13 = .ok (.iconst 2, 1) := by decide +kernel
theorem dX1_fitsRow_14 : decode cX1_fitsRow 14 = .ok (.if_icmp .ne 23, 3) := by decide +kernel
theorem dX1_fitsRow_17 : decode cX1_fitsRow 17 = .ok (.iload_n 2, 1) := by decide +kernel
theorem dX1_fitsRow_18 : decode cX1_fitsRow 18 = .ok (.sipush (-32768), 3) := by decide +kernel
theorem dX1_fitsRow_21 : decode cX1_fitsRow 21 = .ok (.if_icmp .lt 14, 3) := by decide +kernel
theorem dX1_fitsRow_24 : decode cX1_fitsRow 24 = .ok (.iload_n 2, 1) := by decide +kernel
theorem dX1_fitsRow_25 : decode cX1_fitsRow 25 = .ok (.sipush 32767, 3) := by decide +kernel
theorem dX1_fitsRow_28 : decode cX1_fitsRow 28 = .ok (.if_icmp .gt 7, 3) := by decide +kernel
theorem dX1_fitsRow_31 : decode cX1_fitsRow 31 = .ok (.iconst 1, 1) := by decide +kernel
theorem dX1_fitsRow_32 : decode cX1_fitsRow 32 = .ok (.goto 4, 3) := by decide +kernel
theorem dX1_fitsRow_35 : decode cX1_fitsRow 35 = .ok (.iconst 0, 1) := by decide +kernel
theorem dX1_fitsRow_36 : decode cX1_fitsRow 36 = .ok (.ireturn, 1) := by decide +kernel
theorem dX1_fitsRow_37 : decode cX1_fitsRow 37 = .ok (.iload_n 2, 1) := by decide +kernel
theorem dX1_fitsRow_38 : decode cX1_fitsRow 38 = .ok (.bipush (-128), 2) := by decide +kernel
theorem dX1_fitsRow_40 : decode cX1_fitsRow 40 = .ok (.if_icmp .lt 13, 3) := by decide +kernel
theorem dX1_fitsRow_43 : decode cX1_fitsRow 43 = .ok (.iload_n 2, 1) := by decide +kernel
theorem dX1_fitsRow_44 : decode cX1_fitsRow 44 = .ok (.bipush 127, 2) := by decide +kernel
theorem dX1_fitsRow_46 : decode cX1_fitsRow 46 = .ok (.if_icmp .gt 7, 3) := by decide +kernel
theorem dX1_fitsRow_49 : decode cX1_fitsRow 49 = .ok (.iconst 1, 1) := by decide +kernel
theorem dX1_fitsRow_50 : decode cX1_fitsRow 50 = .ok (.goto 4, 3) := by decide +kernel
theorem dX1_fitsRow_53 : decode cX1_fitsRow 53 = .ok (.iconst 0, 1) := by decide +kernel
theorem dX1_fitsRow_54 : decode cX1_fitsRow 54 = .ok (.ireturn, 1) := by decide +kernel
theorem dX1_rowLength_0 : decode cX1_rowLength 0 = .ok (.iload_n 1, 1) := by decide +kernel
theorem dX1_rowLength_1 : decode cX1_rowLength 1 = .ok (.invokestatic 49, 3) := by decide +kernel
theorem dX1_rowLength_4 : decode cX1_rowLength 4 = .ok (.ifCond .eq 12, 3) := by decide +kernel
theorem dX1_rowLength_7 : decode cX1_rowLength 7 = .ok (.aload_n 0, 1) := by decide +kernel
theorem dX1_rowLength_8 : decode cX1_rowLength 8 = .ok (.getfield 21, 3) := by decide +kernel
theorem dX1_rowLength_11 : decode cX1_rowLength 11 = .ok (.iload_n 1, 1) := by decide +kernel
theorem dX1_rowLength_12 : decode cX1_rowLength 12 = .ok (.iaload, 1) := by decide +kernel
theorem dX1_rowLength_13 : decode cX1_rowLength 13 = .ok (.goto 4, 3) := by decide +kernel
theorem dX1_rowLength_16 : decode cX1_rowLength 16 = .ok (.iconst 0, 1) := by decide +kernel
theorem dX1_rowLength_17 : decode cX1_rowLength 17 = .ok (.ireturn, 1) := by decide +kernel
theorem dX1_isOpen_0 : decode cX1_isOpen 0 = .ok (.iload_n 1, 1) := by decide +kernel
theorem dX1_isOpen_1 : decode cX1_isOpen 1 = .ok (.invokestatic 49, 3) := by decide +kernel
theorem dX1_isOpen_4 : decode cX1_isOpen 4 = .ok (.ifCond .ne 5, 3) := by decide +kernel
theorem dX1_isOpen_7 : decode cX1_isOpen 7 = .ok (.iconst 0, 1) := by decide +kernel
theorem dX1_isOpen_8 : decode cX1_isOpen 8 = .ok (.ireturn, 1) := by decide +kernel
theorem dX1_isOpen_9 : decode cX1_isOpen 9 = .ok (.aload_n 0, 1) := by decide +kernel
theorem dX1_isOpen_10 : decode cX1_isOpen 10 = .ok (.getfield 17, 3) := by decide +kernel
theorem dX1_isOpen_13 : decode cX1_isOpen 13 = .ok (.iload_n 1, 1) := by decide +kernel
theorem dX1_isOpen_14 : decode cX1_isOpen 14 = .ok (.iaload, 1) := by decide +kernel
theorem dX1_isOpen_15 : decode cX1_isOpen 15 = .ok (.iconst 3, 1) := by decide +kernel
theorem dX1_isOpen_16 : decode cX1_isOpen 16 = .ok (.if_icmp .eq 22, 3) := by decide +kernel
theorem dX1_isOpen_19 : decode cX1_isOpen 19 = .ok (.aload_n 0, 1) := by decide +kernel
theorem dX1_isOpen_20 : decode cX1_isOpen 20 = .ok (.iload_n 1, 1) := by decide +kernel
theorem dX1_isOpen_21 : decode cX1_isOpen 21 = .ok (.invokevirtual 52, 3) := by decide +kernel
theorem dX1_isOpen_24 : decode cX1_isOpen 24 = .ok (.ifCond .eq 18, 3) := by decide +kernel
theorem dX1_isOpen_27 : decode cX1_isOpen 27 = .ok (.aload_n 0, 1) := by decide +kernel
theorem dX1_isOpen_28 : decode cX1_isOpen 28 = .ok (.getfield 21, 3) := by decide +kernel
theorem dX1_isOpen_31 : decode cX1_isOpen 31 = .ok (.iload_n 1, 1) := by decide +kernel
theorem dX1_isOpen_32 : decode cX1_isOpen 32 = .ok (.iaload, 1) := by decide +kernel
theorem dX1_isOpen_33 : decode cX1_isOpen 33 = .ok (.bipush 30, 2) := by decide +kernel
theorem dX1_isOpen_35 : decode cX1_isOpen 35 = .ok (.if_icmp .ge 7, 3) := by decide +kernel
theorem dX1_isOpen_38 : decode cX1_isOpen 38 = .ok (.iconst 1, 1) := by decide +kernel
theorem dX1_isOpen_39 : decode cX1_isOpen 39 = .ok (.goto 4, 3) := by decide +kernel
theorem dX1_isOpen_42 : decode cX1_isOpen 42 = .ok (.iconst 0, 1) := by decide +kernel
theorem dX1_isOpen_43 : decode cX1_isOpen 43 = .ok (.ireturn, 1) := by decide +kernel
theorem dX1_heldDays_0 : decode cX1_heldDays 0 = .ok (.aload_n 0, 1) := by decide +kernel
theorem dX1_heldDays_1 : decode cX1_heldDays 1 = .ok (.iload_n 1, 1) := by decide +kernel
theorem dX1_heldDays_2 : decode cX1_heldDays 2 = .ok (.invokevirtual 55, 3) := by decide +kernel
theorem dX1_heldDays_5 : decode cX1_heldDays 5 = .ok (.ifCond .eq 14, 3) := by decide +kernel
theorem dX1_heldDays_8 : decode cX1_heldDays 8 = .ok (.iload_n 2, 1) := by decide +kernel
theorem dX1_heldDays_9 : decode cX1_heldDays 9 = .ok (.ifCond .eq 7, 3) := by decide +kernel
theorem dX1_heldDays_12 : decode cX1_heldDays 12 = .ok (.iconst 0, 1) := by decide +kernel
theorem dX1_heldDays_13 : decode cX1_heldDays 13 = .ok (.goto 5, 3) := by decide +kernel
theorem dX1_heldDays_16 : decode cX1_heldDays 16 = .ok (.ldc 58, 2) := by decide +kernel
theorem dX1_heldDays_18 : decode cX1_heldDays 18 = .ok (.ireturn, 1) := by decide +kernel
theorem dX1_heldDays_19 : decode cX1_heldDays 19 = .ok (.aload_n 0, 1) := by decide +kernel
theorem dX1_heldDays_20 : decode cX1_heldDays 20 = .ok (.iload_n 1, 1) := by decide +kernel
theorem dX1_heldDays_21 : decode cX1_heldDays 21 = .ok (.invokevirtual 52, 3) := by decide +kernel
theorem dX1_heldDays_24 : decode cX1_heldDays 24 = .ok (.ifCond .eq 12, 3) := by decide +kernel
theorem dX1_heldDays_27 : decode cX1_heldDays 27 = .ok (.aload_n 0, 1) := by decide +kernel
theorem dX1_heldDays_28 : decode cX1_heldDays 28 = .ok (.getfield 24, 3) := by decide +kernel
theorem dX1_heldDays_31 : decode cX1_heldDays 31 = .ok (.iload_n 1, 1) := by decide +kernel
theorem dX1_heldDays_32 : decode cX1_heldDays 32 = .ok (.iaload, 1) := by decide +kernel
theorem dX1_heldDays_33 : decode cX1_heldDays 33 = .ok (.goto 5, 3) := by decide +kernel
theorem dX1_heldDays_36 : decode cX1_heldDays 36 = .ok (.ldc 58, 2) := by decide +kernel
theorem dX1_heldDays_38 : decode cX1_heldDays 38 = .ok (.ireturn, 1) := by decide +kernel
theorem dX1_isHeld_0 : decode cX1_isHeld 0 = .ok (.iload_n 1, 1) := by decide +kernel
theorem dX1_isHeld_1 : decode cX1_isHeld 1 = .ok (.invokestatic 59, 3) := by decide +kernel
theorem dX1_isHeld_4 : decode cX1_isHeld 4 = .ok (.ifCond .eq 26, 3) := by decide +kernel
theorem dX1_isHeld_7 : decode cX1_isHeld 7 = .ok (.aload_n 0, 1) := by decide +kernel
theorem dX1_isHeld_8 : decode cX1_isHeld 8 = .ok (.iload_n 1, 1) := by decide +kernel
theorem dX1_isHeld_9 : decode cX1_isHeld 9 = .ok (.bipush 30, 2) := by decide +kernel
theorem dX1_isHeld_11 : decode cX1_isHeld 11 = .ok (.idiv, 1) := by decide +kernel
theorem dX1_isHeld_12 : decode cX1_isHeld 12 = .ok (.iload_n 2, 1) := by decide +kernel
theorem dX1_isHeld_13 : decode cX1_isHeld 13 = .ok (.invokevirtual 62, 3) := by decide +kernel
theorem dX1_isHeld_16 : decode cX1_isHeld 16 = .ok (.iload_n 1, 1) := by decide +kernel
theorem dX1_isHeld_17 : decode cX1_isHeld 17 = .ok (.bipush 30, 2) := by decide +kernel
theorem dX1_isHeld_19 : decode cX1_isHeld 19 = .ok (.irem, 1) := by decide +kernel
theorem dX1_isHeld_20 : decode cX1_isHeld 20 = .ok (.ishr, 1) := by decide +kernel
theorem dX1_isHeld_21 : decode cX1_isHeld 21 = .ok (.iconst 1, 1) := by decide +kernel
theorem dX1_isHeld_22 : decode cX1_isHeld 22 = .ok (.iand, 1) := by decide +kernel
theorem dX1_isHeld_23 : decode cX1_isHeld 23 = .ok (.ifCond .eq 7, 3) := by decide +kernel
theorem dX1_isHeld_26 : decode cX1_isHeld 26 = .ok (.iconst 1, 1) := by decide +kernel
theorem dX1_isHeld_27 : decode cX1_isHeld 27 = .ok (.goto 4, 3) := by decide +kernel
theorem dX1_isHeld_30 : decode cX1_isHeld 30 = .ok (.iconst 0, 1) := by decide +kernel
theorem dX1_isHeld_31 : decode cX1_isHeld 31 = .ok (.ireturn, 1) := by decide +kernel
theorem dX1_isToldHeld_0 : decode cX1_isToldHeld 0 = .ok (.iload_n 1, 1) := by decide +kernel
theorem dX1_isToldHeld_1 : decode cX1_isToldHeld 1 = .ok (.bipush 30, 2) := by decide +kernel
theorem dX1_isToldHeld_3 : decode cX1_isToldHeld 3 = .ok (.idiv, 1) := by decide +kernel
theorem dX1_isToldHeld_4 : decode cX1_isToldHeld 4 = .ok (.istore_n 2, 1) := by decide +kernel
theorem dX1_isToldHeld_5 : decode cX1_isToldHeld 5 = .ok (.iload_n 1, 1) := by decide +kernel
theorem dX1_isToldHeld_6 : decode cX1_isToldHeld 6 = .ok (.invokestatic 59, 3) := by decide +kernel
theorem dX1_isToldHeld_9 : decode cX1_isToldHeld 9 = .ok (.ifCond .eq 32, 3) := by decide +kernel
theorem dX1_isToldHeld_12 : decode cX1_isToldHeld 12 = .ok (.aload_n 0, 1) := by decide +kernel
theorem dX1_isToldHeld_13 : decode cX1_isToldHeld 13 = .ok (.iload_n 2, 1) := by decide +kernel
theorem dX1_isToldHeld_14 : decode cX1_isToldHeld 14 = .ok (.invokevirtual 52, 3) := by decide +kernel
theorem dX1_isToldHeld_17 : decode cX1_isToldHeld 17 = .ok (.ifCond .eq 24, 3) := by decide +kernel
theorem dX1_isToldHeld_20 : decode cX1_isToldHeld 20 = .ok (.aload_n 0, 1) := by decide +kernel
theorem dX1_isToldHeld_21 : decode cX1_isToldHeld 21 = .ok (.iload_n 2, 1) := by decide +kernel
theorem dX1_isToldHeld_22 : decode cX1_isToldHeld 22 = .ok (.invokevirtual 55, 3) := by decide +kernel
theorem dX1_isToldHeld_25 : decode cX1_isToldHeld 25 = .ok (.ifCond .ne 16, 3) := by decide +kernel
theorem dX1_isToldHeld_28 : decode cX1_isToldHeld 28 = .ok (.aload_n 0, 1) := by decide +kernel
theorem dX1_isToldHeld_29 : decode cX1_isToldHeld 29 = .ok (.iload_n 1, 1) := by decide +kernel
theorem dX1_isToldHeld_30 : decode cX1_isToldHeld 30 = .ok (.iconst 0, 1) := by decide +kernel
theorem dX1_isToldHeld_31 : decode cX1_isToldHeld 31 = .ok (.invokevirtual 66, 3) := by decide +kernel
theorem dX1_isToldHeld_34 : decode cX1_isToldHeld 34 = .ok (.ifCond .eq 7, 3) := by decide +kernel
theorem dX1_isToldHeld_37 : decode cX1_isToldHeld 37 = .ok (.iconst 1, 1) := by decide +kernel
theorem dX1_isToldHeld_38 : decode cX1_isToldHeld 38 = .ok (.goto 4, 3) := by decide +kernel
theorem dX1_isToldHeld_41 : decode cX1_isToldHeld 41 = .ok (.iconst 0, 1) := by decide +kernel
theorem dX1_isToldHeld_42 : decode cX1_isToldHeld 42 = .ok (.ireturn, 1) := by decide +kernel
theorem dX1_leastOf_0 : decode cX1_leastOf 0 = .ok (.iconst 0, 1) := by decide +kernel
theorem dX1_leastOf_1 : decode cX1_leastOf 1 = .ok (.istore 4, 2) := by decide +kernel
theorem dX1_leastOf_3 : decode cX1_leastOf 3 = .ok (.iload 4, 2) := by decide +kernel
theorem dX1_leastOf_5 : decode cX1_leastOf 5 = .ok (.bipush 12, 2) := by decide +kernel
theorem dX1_leastOf_7 : decode cX1_leastOf 7 = .ok (.if_icmp .ge 53, 3) := by decide +kernel
theorem dX1_leastOf_10 : decode cX1_leastOf 10 = .ok (.aload_n 0, 1) := by decide +kernel
theorem dX1_leastOf_11 : decode cX1_leastOf 11 = .ok (.iload 4, 2) := by decide +kernel
theorem dX1_leastOf_13 : decode cX1_leastOf 13 = .ok (.invokevirtual 32, 3) := by decide +kernel
theorem dX1_leastOf_16 : decode cX1_leastOf 16 = .ok (.astore 5, 2) := by decide +kernel
theorem dX1_leastOf_18 : decode cX1_leastOf 18 = .ok (.aload 5, 2) := by decide +kernel
theorem dX1_leastOf_20 : decode cX1_leastOf 20 = .ok (.ifnull 34, 3) := by decide +kernel
theorem dX1_leastOf_23 : decode cX1_leastOf 23 = .ok (.aload 5, 2) := by decide +kernel
theorem dX1_leastOf_25 : decode cX1_leastOf 25 = .ok (.iload_n 1, 1) := by decide +kernel
theorem dX1_leastOf_26 : decode cX1_leastOf 26 = .ok (.iload_n 2, 1) := by decide +kernel
theorem dX1_leastOf_27 : decode cX1_leastOf 27 = .ok (.invokevirtual 70, 3) := by decide +kernel
theorem dX1_leastOf_30 : decode cX1_leastOf 30 = .ok (.ifCond .eq 24, 3) := by decide +kernel
theorem dX1_leastOf_33 : decode cX1_leastOf 33 = .ok (.aload 5, 2) := by decide +kernel
theorem dX1_leastOf_35 : decode cX1_leastOf 35 = .ok (.getfield 74, 3) := by decide +kernel
theorem dX1_leastOf_38 : decode cX1_leastOf 38 = .ok (.iload_n 3, 1) := by decide +kernel
theorem dX1_leastOf_39 : decode cX1_leastOf 39 = .ok (.if_icmp .gt 15, 3) := by decide +kernel
theorem dX1_leastOf_42 : decode cX1_leastOf 42 = .ok (.iload_n 3, 1) := by decide +kernel
theorem dX1_leastOf_43 : decode cX1_leastOf 43 = .ok (.aload 5, 2) := by decide +kernel
theorem dX1_leastOf_45 : decode cX1_leastOf 45 = .ok (.getfield 77, 3) := by decide +kernel
theorem dX1_leastOf_48 : decode cX1_leastOf 48 = .ok (.if_icmp .gt 6, 3) := by decide +kernel
theorem dX1_leastOf_51 : decode cX1_leastOf 51 = .ok (.iload 4, 2) := by decide +kernel
theorem dX1_leastOf_53 : decode cX1_leastOf 53 = .ok (.ireturn, 1) := by decide +kernel
theorem dX1_leastOf_54 : decode cX1_leastOf 54 = .ok (.iinc 4 1, 3) := by decide +kernel
theorem dX1_leastOf_57 : decode cX1_leastOf 57 = .ok (.goto (-54), 3) := by decide +kernel
theorem dX1_leastOf_60 : decode cX1_leastOf 60 = .ok (.iconst (-1), 1) := by decide +kernel
theorem dX1_leastOf_61 : decode cX1_leastOf 61 = .ok (.ireturn, 1) := by decide +kernel
theorem dX1_setRow_0 : decode cX1_setRow 0 = .ok (.iload_n 1, 1) := by decide +kernel
theorem dX1_setRow_1 : decode cX1_setRow 1 = .ok (.invokestatic 49, 3) := by decide +kernel
theorem dX1_setRow_4 : decode cX1_setRow 4 = .ok (.ifCond .eq 37, 3) := by decide +kernel
theorem dX1_setRow_7 : decode cX1_setRow 7 = .ok (.aload_n 0, 1) := by decide +kernel
theorem dX1_setRow_8 : decode cX1_setRow 8 = .ok (.getfield 17, 3) := by decide +kernel
theorem dX1_setRow_11 : decode cX1_setRow 11 = .ok (.iload_n 1, 1) := by decide +kernel
theorem dX1_setRow_12 : decode cX1_setRow 12 = .ok (.iload_n 2, 1) := by decide +kernel
theorem dX1_setRow_13 : decode cX1_setRow 13 = .ok (.ifCond .eq 7, 3) := by decide +kernel
theorem dX1_setRow_16 : decode cX1_setRow 16 = .ok (.iconst 2, 1) := by decide +kernel
theorem dX1_setRow_17 : decode cX1_setRow 17 = .ok (.goto 4, 3) := by decide +kernel
theorem dX1_setRow_20 : decode cX1_setRow 20 = .ok (.iconst 1, 1) := by decide +kernel
theorem dX1_setRow_21 : decode cX1_setRow 21 = .ok (.iastore, 1) := by decide +kernel
theorem dX1_setRow_22 : decode cX1_setRow 22 = .ok (.aload_n 0, 1) := by decide +kernel
theorem dX1_setRow_23 : decode cX1_setRow 23 = .ok (.getfield 21, 3) := by decide +kernel
theorem dX1_setRow_26 : decode cX1_setRow 26 = .ok (.iload_n 1, 1) := by decide +kernel
theorem dX1_setRow_27 : decode cX1_setRow 27 = .ok (.iload_n 3, 1) := by decide +kernel
theorem dX1_setRow_28 : decode cX1_setRow 28 = .ok (.iastore, 1) := by decide +kernel
theorem dX1_setRow_29 : decode cX1_setRow 29 = .ok (.aload_n 0, 1) := by decide +kernel
theorem dX1_setRow_30 : decode cX1_setRow 30 = .ok (.getfield 24, 3) := by decide +kernel
theorem dX1_setRow_33 : decode cX1_setRow 33 = .ok (.iload_n 1, 1) := by decide +kernel
theorem dX1_setRow_34 : decode cX1_setRow 34 = .ok (.iload_n 3, 1) := by decide +kernel
theorem dX1_setRow_35 : decode cX1_setRow 35 = .ok (.iconst 1, 1) := by decide +kernel
theorem dX1_setRow_36 : decode cX1_setRow 36 = .ok (.isub, 1) := by decide +kernel
theorem dX1_setRow_37 : decode cX1_setRow 37 = .ok (.invokestatic 80, 3) := by decide +kernel
theorem dX1_setRow_40 : decode cX1_setRow 40 = .ok (.iastore, 1) := by decide +kernel
theorem dX1_setRow_41 : decode cX1_setRow 41 = .ok (.return_, 1) := by decide +kernel
theorem dX1_setDay_0 : decode cX1_setDay 0 = .ok (.iload_n 1, 1) := by decide +kernel
theorem dX1_setDay_1 : decode cX1_setDay 1 = .ok (.invokestatic 49, 3) := by decide +kernel
theorem dX1_setDay_4 : decode cX1_setDay 4 = .ok (.ifCond .eq 48, 3) := by decide +kernel
theorem dX1_setDay_7 : decode cX1_setDay 7 = .ok (.iload_n 2, 1) := by decide +kernel
theorem dX1_setDay_8 : decode cX1_setDay 8 = .ok (.ifCond .lt 44, 3) := by decide +kernel
theorem dX1_setDay_11 : decode cX1_setDay 11 = .ok (.iload_n 2, 1) := by decide +kernel
theorem dX1_setDay_12 : decode cX1_setDay 12 = .ok (.bipush 30, 2) := by decide +kernel
theorem dX1_setDay_14 : decode cX1_setDay 14 = .ok (.if_icmp .ge 38, 3) := by decide +kernel
theorem dX1_setDay_17 : decode cX1_setDay 17 = .ok (.aload_n 0, 1) := by decide +kernel
theorem dX1_setDay_18 : decode cX1_setDay 18 = .ok (.getfield 24, 3) := by decide +kernel
theorem dX1_setDay_21 : decode cX1_setDay 21 = .ok (.iload_n 1, 1) := by decide +kernel
theorem dX1_setDay_22 : decode cX1_setDay 22 = .ok (.iload_n 3, 1) := by decide +kernel
theorem dX1_setDay_23 : decode cX1_setDay 23 = .ok (.ifCond .eq 16, 3) := by decide +kernel
theorem dX1_setDay_26 : decode cX1_setDay 26 = .ok (.aload_n 0, 1) := by decide +kernel
theorem dX1_setDay_27 : decode cX1_setDay 27 = .ok (.getfield 24, 3) := by decide +kernel
theorem dX1_setDay_30 : decode cX1_setDay 30 = .ok (.iload_n 1, 1) := by decide +kernel
theorem dX1_setDay_31 : decode cX1_setDay 31 = .ok (.iaload, 1) := by decide +kernel
theorem dX1_setDay_32 : decode cX1_setDay 32 = .ok (.iconst 1, 1) := by decide +kernel
theorem dX1_setDay_33 : decode cX1_setDay 33 = .ok (.iload_n 2, 1) := by decide +kernel
theorem dX1_setDay_34 : decode cX1_setDay 34 = .ok (.ishl, 1) := by decide +kernel
theorem dX1_setDay_35 : decode cX1_setDay 35 = .ok (.ior, 1) := by decide +kernel
theorem dX1_setDay_36 : decode cX1_setDay 36 = .ok (.goto 15, 3) := by decide +kernel
theorem dX1_setDay_39 : decode cX1_setDay 39 = .ok (.aload_n 0, 1) := by decide +kernel
theorem dX1_setDay_40 : decode cX1_setDay 40 = .ok (.getfield 24, 3) := by decide +kernel
theorem dX1_setDay_43 : decode cX1_setDay 43 = .ok (.iload_n 1, 1) := by decide +kernel
theorem dX1_setDay_44 : decode cX1_setDay 44 = .ok (.iaload, 1) := by decide +kernel
theorem dX1_setDay_45 : decode cX1_setDay 45 = .ok (.iconst 1, 1) := by decide +kernel
theorem dX1_setDay_46 : decode cX1_setDay 46 = .ok (.iload_n 2, 1) := by decide +kernel
theorem dX1_setDay_47 : decode cX1_setDay 47 = .ok (.ishl, 1) := by decide +kernel
theorem dX1_setDay_48 : decode cX1_setDay 48 = .ok (.iconst (-1), 1) := by decide +kernel
theorem dX1_setDay_49 : decode cX1_setDay 49 = .ok (.ixor, 1) := by decide +kernel
theorem dX1_setDay_50 : decode cX1_setDay 50 = .ok (.iand, 1) := by decide +kernel
theorem dX1_setDay_51 : decode cX1_setDay 51 = .ok (.iastore, 1) := by decide +kernel
theorem dX1_setDay_52 : decode cX1_setDay 52 = .ok (.return_, 1) := by decide +kernel
theorem dX1_setTorn_0 : decode cX1_setTorn 0 = .ok (.iload_n 1, 1) := by decide +kernel
theorem dX1_setTorn_1 : decode cX1_setTorn 1 = .ok (.invokestatic 49, 3) := by decide +kernel
theorem dX1_setTorn_4 : decode cX1_setTorn 4 = .ok (.ifCond .eq 10, 3) := by decide +kernel
theorem dX1_setTorn_7 : decode cX1_setTorn 7 = .ok (.aload_n 0, 1) := by decide +kernel
theorem dX1_setTorn_8 : decode cX1_setTorn 8 = .ok (.getfield 17, 3) := by decide +kernel
theorem dX1_setTorn_11 : decode cX1_setTorn 11 = .ok (.iload_n 1, 1) := by decide +kernel
theorem dX1_setTorn_12 : decode cX1_setTorn 12 = .ok (.iconst 3, 1) := by decide +kernel
theorem dX1_setTorn_13 : decode cX1_setTorn 13 = .ok (.iastore, 1) := by decide +kernel
theorem dX1_setTorn_14 : decode cX1_setTorn 14 = .ok (.return_, 1) := by decide +kernel
theorem dX1_copyRow_0 : decode cX1_copyRow 0 = .ok (.iload_n 2, 1) := by decide +kernel
theorem dX1_copyRow_1 : decode cX1_copyRow 1 = .ok (.invokestatic 49, 3) := by decide +kernel
theorem dX1_copyRow_4 : decode cX1_copyRow 4 = .ok (.ifCond .eq 46, 3) := by decide +kernel
theorem dX1_copyRow_7 : decode cX1_copyRow 7 = .ok (.iload_n 3, 1) := by decide +kernel
theorem dX1_copyRow_8 : decode cX1_copyRow 8 = .ok (.invokestatic 49, 3) := by decide +kernel
theorem dX1_copyRow_11 : decode cX1_copyRow 11 = .ok (.ifCond .eq 39, 3) := by decide +kernel
theorem dX1_copyRow_14 : decode cX1_copyRow 14 = .ok (.aload_n 0, 1) := by decide +kernel
theorem dX1_copyRow_15 : decode cX1_copyRow 15 = .ok (.getfield 17, 3) := by decide +kernel
theorem dX1_copyRow_18 : decode cX1_copyRow 18 = .ok (.iload_n 3, 1) := by decide +kernel
theorem dX1_copyRow_19 : decode cX1_copyRow 19 = .ok (.aload_n 1, 1) := by decide +kernel
theorem dX1_copyRow_20 : decode cX1_copyRow 20 = .ok (.getfield 17, 3) := by decide +kernel
theorem dX1_copyRow_23 : decode cX1_copyRow 23 = .ok (.iload_n 2, 1) := by decide +kernel
theorem dX1_copyRow_24 : decode cX1_copyRow 24 = .ok (.iaload, 1) := by decide +kernel
theorem dX1_copyRow_25 : decode cX1_copyRow 25 = .ok (.iastore, 1) := by decide +kernel
theorem dX1_copyRow_26 : decode cX1_copyRow 26 = .ok (.aload_n 0, 1) := by decide +kernel
theorem dX1_copyRow_27 : decode cX1_copyRow 27 = .ok (.getfield 21, 3) := by decide +kernel
theorem dX1_copyRow_30 : decode cX1_copyRow 30 = .ok (.iload_n 3, 1) := by decide +kernel
theorem dX1_copyRow_31 : decode cX1_copyRow 31 = .ok (.aload_n 1, 1) := by decide +kernel
theorem dX1_copyRow_32 : decode cX1_copyRow 32 = .ok (.getfield 21, 3) := by decide +kernel
theorem dX1_copyRow_35 : decode cX1_copyRow 35 = .ok (.iload_n 2, 1) := by decide +kernel
theorem dX1_copyRow_36 : decode cX1_copyRow 36 = .ok (.iaload, 1) := by decide +kernel
theorem dX1_copyRow_37 : decode cX1_copyRow 37 = .ok (.iastore, 1) := by decide +kernel
theorem dX1_copyRow_38 : decode cX1_copyRow 38 = .ok (.aload_n 0, 1) := by decide +kernel
theorem dX1_copyRow_39 : decode cX1_copyRow 39 = .ok (.getfield 24, 3) := by decide +kernel
theorem dX1_copyRow_42 : decode cX1_copyRow 42 = .ok (.iload_n 3, 1) := by decide +kernel
theorem dX1_copyRow_43 : decode cX1_copyRow 43 = .ok (.aload_n 1, 1) := by decide +kernel
theorem dX1_copyRow_44 : decode cX1_copyRow 44 = .ok (.getfield 24, 3) := by decide +kernel
theorem dX1_copyRow_47 : decode cX1_copyRow 47 = .ok (.iload_n 2, 1) := by decide +kernel
theorem dX1_copyRow_48 : decode cX1_copyRow 48 = .ok (.iaload, 1) := by decide +kernel
theorem dX1_copyRow_49 : decode cX1_copyRow 49 = .ok (.iastore, 1) := by decide +kernel
theorem dX1_copyRow_50 : decode cX1_copyRow 50 = .ok (.return_, 1) := by decide +kernel
theorem dX2_init_0 : decode cX2_init 0 = .ok (.aload_n 0, 1) := by decide +kernel
theorem dX2_init_1 : decode cX2_init 1 = .ok (.invokespecial 3, 3) := by decide +kernel
theorem dX2_init_4 : decode cX2_init 4 = .ok (.aload_n 0, 1) := by decide +kernel
theorem dX2_init_5 : decode cX2_init 5 = .ok (.iconst 0, 1) := by decide +kernel
theorem dX2_init_6 : decode cX2_init 6 = .ok (.putfield 9, 3) := by decide +kernel
theorem dX2_init_9 : decode cX2_init 9 = .ok (.aload_n 0, 1) := by decide +kernel
theorem dX2_init_10 : decode cX2_init 10 = .ok (.iconst 0, 1) := by decide +kernel
theorem dX2_init_11 : decode cX2_init 11 = .ok (.putfield 15, 3) := by decide +kernel
theorem dX2_init_14 : decode cX2_init 14 = .ok (.aload_n 0, 1) := by decide +kernel
theorem dX2_init_15 : decode cX2_init 15 = .ok (.iconst 0, 1) := by decide +kernel
theorem dX2_init_16 : decode cX2_init 16 = .ok (.putfield 18, 3) := by decide +kernel
theorem dX2_init_19 : decode cX2_init 19 = .ok (.aload_n 0, 1) := by decide +kernel
theorem dX2_init_20 : decode cX2_init 20 = .ok (.iconst 0, 1) := by decide +kernel
theorem dX2_init_21 : decode cX2_init 21 = .ok (.putfield 21, 3) := by decide +kernel
theorem dX2_init_24 : decode cX2_init 24 = .ok (.aload_n 0, 1) := by decide +kernel
theorem dX2_init_25 : decode cX2_init 25 = .ok (.iconst 0, 1) := by decide +kernel
theorem dX2_init_26 : decode cX2_init 26 = .ok (.putfield 24, 3) := by decide +kernel
theorem dX2_init_29 : decode cX2_init 29 = .ok (.aload_n 0, 1) := by decide +kernel
theorem dX2_init_30 : decode cX2_init 30 = .ok (.iconst (-1), 1) := by decide +kernel
theorem dX2_init_31 : decode cX2_init 31 = .ok (.putfield 27, 3) := by decide +kernel
theorem dX2_init_34 : decode cX2_init 34 = .ok (.aload_n 0, 1) := by decide +kernel
theorem dX2_init_35 : decode cX2_init 35 = .ok (.iconst 0, 1) := by decide +kernel
theorem dX2_init_36 : decode cX2_init 36 = .ok (.putfield 30, 3) := by decide +kernel
theorem dX2_init_39 : decode cX2_init 39 = .ok (.aload_n 0, 1) := by decide +kernel
theorem dX2_init_40 : decode cX2_init 40 = .ok (.iconst 0, 1) := by decide +kernel
theorem dX2_init_41 : decode cX2_init 41 = .ok (.putfield 33, 3) := by decide +kernel
theorem dX2_init_44 : decode cX2_init 44 = .ok (.aload_n 0, 1) := by decide +kernel
theorem dX2_init_45 : decode cX2_init 45 = .ok (.iconst 0, 1) := by decide +kernel
theorem dX2_init_46 : decode cX2_init 46 = .ok (.putfield 36, 3) := by decide +kernel
theorem dX2_init_49 : decode cX2_init 49 = .ok (.return_, 1) := by decide +kernel
theorem dX2_wipe_0 : decode cX2_wipe 0 = .ok (.aload_n 0, 1) := by decide +kernel
theorem dX2_wipe_1 : decode cX2_wipe 1 = .ok (.iconst 0, 1) := by decide +kernel
theorem dX2_wipe_2 : decode cX2_wipe 2 = .ok (.putfield 9, 3) := by decide +kernel
theorem dX2_wipe_5 : decode cX2_wipe 5 = .ok (.aload_n 0, 1) := by decide +kernel
theorem dX2_wipe_6 : decode cX2_wipe 6 = .ok (.iconst 0, 1) := by decide +kernel
theorem dX2_wipe_7 : decode cX2_wipe 7 = .ok (.putfield 15, 3) := by decide +kernel
theorem dX2_wipe_10 : decode cX2_wipe 10 = .ok (.aload_n 0, 1) := by decide +kernel
theorem dX2_wipe_11 : decode cX2_wipe 11 = .ok (.iconst 0, 1) := by decide +kernel
theorem dX2_wipe_12 : decode cX2_wipe 12 = .ok (.putfield 18, 3) := by decide +kernel
theorem dX2_wipe_15 : decode cX2_wipe 15 = .ok (.aload_n 0, 1) := by decide +kernel
theorem dX2_wipe_16 : decode cX2_wipe 16 = .ok (.iconst 0, 1) := by decide +kernel
theorem dX2_wipe_17 : decode cX2_wipe 17 = .ok (.putfield 21, 3) := by decide +kernel
theorem dX2_wipe_20 : decode cX2_wipe 20 = .ok (.aload_n 0, 1) := by decide +kernel
theorem dX2_wipe_21 : decode cX2_wipe 21 = .ok (.iconst 0, 1) := by decide +kernel
theorem dX2_wipe_22 : decode cX2_wipe 22 = .ok (.putfield 24, 3) := by decide +kernel
theorem dX2_wipe_25 : decode cX2_wipe 25 = .ok (.aload_n 0, 1) := by decide +kernel
theorem dX2_wipe_26 : decode cX2_wipe 26 = .ok (.iconst (-1), 1) := by decide +kernel
theorem dX2_wipe_27 : decode cX2_wipe 27 = .ok (.putfield 27, 3) := by decide +kernel
theorem dX2_wipe_30 : decode cX2_wipe 30 = .ok (.aload_n 0, 1) := by decide +kernel
theorem dX2_wipe_31 : decode cX2_wipe 31 = .ok (.iconst 0, 1) := by decide +kernel
theorem dX2_wipe_32 : decode cX2_wipe 32 = .ok (.putfield 30, 3) := by decide +kernel
theorem dX2_wipe_35 : decode cX2_wipe 35 = .ok (.aload_n 0, 1) := by decide +kernel
theorem dX2_wipe_36 : decode cX2_wipe 36 = .ok (.iconst 0, 1) := by decide +kernel
theorem dX2_wipe_37 : decode cX2_wipe 37 = .ok (.putfield 33, 3) := by decide +kernel
theorem dX2_wipe_40 : decode cX2_wipe 40 = .ok (.aload_n 0, 1) := by decide +kernel
theorem dX2_wipe_41 : decode cX2_wipe 41 = .ok (.iconst 0, 1) := by decide +kernel
theorem dX2_wipe_42 : decode cX2_wipe 42 = .ok (.putfield 36, 3) := by decide +kernel
theorem dX2_wipe_45 : decode cX2_wipe 45 = .ok (.return_, 1) := by decide +kernel
theorem dX2_runs_0 : decode cX2_runs 0 = .ok (.aload_n 0, 1) := by decide +kernel
theorem dX2_runs_1 : decode cX2_runs 1 = .ok (.getfield 9, 3) := by decide +kernel
theorem dX2_runs_4 : decode cX2_runs 4 = .ok (.iconst 2, 1) := by decide +kernel
theorem dX2_runs_5 : decode cX2_runs 5 = .ok (.if_icmp .lt 15, 3) := by decide +kernel
theorem dX2_runs_8 : decode cX2_runs 8 = .ok (.aload_n 0, 1) := by decide +kernel
theorem dX2_runs_9 : decode cX2_runs 9 = .ok (.getfield 9, 3) := by decide +kernel
theorem dX2_runs_12 : decode cX2_runs 12 = .ok (.iconst 5, 1) := by decide +kernel
theorem dX2_runs_13 : decode cX2_runs 13 = .ok (.if_icmp .gt 7, 3) := by decide +kernel
theorem dX2_runs_16 : decode cX2_runs 16 = .ok (.iconst 1, 1) := by decide +kernel
theorem dX2_runs_17 : decode cX2_runs 17 = .ok (.goto 4, 3) := by decide +kernel
theorem dX2_runs_20 : decode cX2_runs 20 = .ok (.iconst 0, 1) := by decide +kernel
theorem dX2_runs_21 : decode cX2_runs 21 = .ok (.ireturn, 1) := by decide +kernel
theorem dX2_isQuashed_0 : decode cX2_isQuashed 0 = .ok (.aload_n 0, 1) := by decide +kernel
theorem dX2_isQuashed_1 : decode cX2_isQuashed 1 = .ok (.getfield 27, 3) := by decide +kernel
theorem dX2_isQuashed_4 : decode cX2_isQuashed 4 = .ok (.iconst (-1), 1) := by decide +kernel
theorem dX2_isQuashed_5 : decode cX2_isQuashed 5 = .ok (.if_icmp .eq 7, 3) := by decide +kernel
theorem dX2_isQuashed_8 : decode cX2_isQuashed 8 = .ok (.iconst 1, 1) := by decide +kernel
theorem dX2_isQuashed_9 : decode cX2_isQuashed 9 = .ok (.goto 4, 3) := by decide +kernel
theorem dX2_isQuashed_12 : decode cX2_isQuashed 12 = .ok (.iconst 0, 1) := by decide +kernel
theorem dX2_isQuashed_13 : decode cX2_isQuashed 13 = .ok (.ireturn, 1) := by decide +kernel
theorem dX2_stands_0 : decode cX2_stands 0 = .ok (.aload_n 0, 1) := by decide +kernel
theorem dX2_stands_1 : decode cX2_stands 1 = .ok (.invokevirtual 39, 3) := by decide +kernel
theorem dX2_stands_4 : decode cX2_stands 4 = .ok (.ifCond .eq 14, 3) := by decide +kernel
theorem dX2_stands_7 : decode cX2_stands 7 = .ok (.aload_n 0, 1) := by decide +kernel
theorem dX2_stands_8 : decode cX2_stands 8 = .ok (.invokevirtual 43, 3) := by decide +kernel
theorem dX2_stands_11 : decode cX2_stands 11 = .ok (.ifCond .ne 7, 3) := by decide +kernel
theorem dX2_stands_14 : decode cX2_stands 14 = .ok (.iconst 1, 1) := by decide +kernel
theorem dX2_stands_15 : decode cX2_stands 15 = .ok (.goto 4, 3) := by decide +kernel
theorem dX2_stands_18 : decode cX2_stands 18 = .ok (.iconst 0, 1) := by decide +kernel
theorem dX2_stands_19 : decode cX2_stands 19 = .ok (.ireturn, 1) := by decide +kernel
theorem dX2_mayHaveRule_0 : decode cX2_mayHaveRule 0 = .ok (.aload_n 0, 1) := by decide +kernel
theorem dX2_mayHaveRule_1 : decode cX2_mayHaveRule 1 = .ok (.invokevirtual 46, 3) := by decide +kernel
theorem dX2_mayHaveRule_4 : decode cX2_mayHaveRule 4 = .ok (.ifCond .eq 15, 3) := by decide +kernel
theorem dX2_mayHaveRule_7 : decode cX2_mayHaveRule 7 = .ok (.aload_n 0, 1) := by decide +kernel
theorem dX2_mayHaveRule_8 : decode cX2_mayHaveRule 8 = .ok (.getfield 9, 3) := by decide +kernel
theorem dX2_mayHaveRule_11 : decode cX2_mayHaveRule 11 = .ok (.iconst 5, 1) := by decide +kernel
theorem dX2_mayHaveRule_12 : decode cX2_mayHaveRule 12 = .ok (.if_icmp .eq 7, 3) := by decide +kernel
theorem dX2_mayHaveRule_15 : decode cX2_mayHaveRule 15 = .ok (.iconst 1, 1) := by decide +kernel
theorem dX2_mayHaveRule_16 : decode cX2_mayHaveRule 16 = .ok (.goto 4, 3) := by decide +kernel
theorem dX2_mayHaveRule_19 : decode cX2_mayHaveRule 19 = .ok (.iconst 0, 1) := by decide +kernel
theorem dX2_mayHaveRule_20 : decode cX2_mayHaveRule 20 = .ok (.ireturn, 1) := by decide +kernel
theorem dX2_isFor_0 : decode cX2_isFor 0 = .ok (.aload_n 0, 1) := by decide +kernel
theorem dX2_isFor_1 : decode cX2_isFor 1 = .ok (.getfield 9, 3) := by decide +kernel
theorem dX2_isFor_4 : decode cX2_isFor 4 = .ok (.iload_n 1, 1) := by decide +kernel
theorem dX2_isFor_5 : decode cX2_isFor 5 = .ok (.if_icmp .ne 25, 3) := by decide +kernel
theorem dX2_isFor_8 : decode cX2_isFor 8 = .ok (.aload_n 0, 1) := by decide +kernel
theorem dX2_isFor_9 : decode cX2_isFor 9 = .ok (.invokevirtual 43, 3) := by decide +kernel
theorem dX2_isFor_12 : decode cX2_isFor 12 = .ok (.ifCond .ne 18, 3) := by decide +kernel
theorem dX2_isFor_15 : decode cX2_isFor 15 = .ok (.aload_n 0, 1) := by decide +kernel
theorem dX2_isFor_16 : decode cX2_isFor 16 = .ok (.getfield 24, 3) := by decide +kernel
theorem dX2_isFor_19 : decode cX2_isFor 19 = .ok (.iload_n 2, 1) := by decide +kernel
theorem dX2_isFor_20 : decode cX2_isFor 20 = .ok (.invokestatic 49, 3) := by decide +kernel
theorem dX2_isFor_23 : decode cX2_isFor 23 = .ok (.ifCond .eq 7, 3) := by decide +kernel
theorem dX2_isFor_26 : decode cX2_isFor 26 = .ok (.iconst 1, 1) := by decide +kernel
theorem dX2_isFor_27 : decode cX2_isFor 27 = .ok (.goto 4, 3) := by decide +kernel
theorem dX2_isFor_30 : decode cX2_isFor 30 = .ok (.iconst 0, 1) := by decide +kernel
theorem dX2_isFor_31 : decode cX2_isFor 31 = .ok (.ireturn, 1) := by decide +kernel
theorem dX2_mostTaken_0 : decode cX2_mostTaken 0 = .ok (.aload_n 0, 1) := by decide +kernel
theorem dX2_mostTaken_1 : decode cX2_mostTaken 1 = .ok (.getfield 21, 3) := by decide +kernel
theorem dX2_mostTaken_4 : decode cX2_mostTaken 4 = .ok (.aload_n 0, 1) := by decide +kernel
theorem dX2_mostTaken_5 : decode cX2_mostTaken 5 = .ok (.getfield 21, 3) := by decide +kernel
theorem dX2_mostTaken_8 : decode cX2_mostTaken 8 = .ok (.aload_n 0, 1) := by decide +kernel
theorem dX2_mostTaken_9 : decode cX2_mostTaken 9 = .ok (.getfield 33, 3) := by decide +kernel
theorem dX2_mostTaken_12 : decode cX2_mostTaken 12 = .ok (.invokestatic 53, 3) := by decide +kernel
theorem dX2_mostTaken_15 : decode cX2_mostTaken 15 = .ok (.isub, 1) := by decide +kernel
theorem dX2_mostTaken_16 : decode cX2_mostTaken 16 = .ok (.ireturn, 1) := by decide +kernel
theorem dX3_init_0 : decode cX3_init 0 = .ok (.aload_n 0, 1) := by decide +kernel
theorem dX3_init_1 : decode cX3_init 1 = .ok (.invokespecial 3, 3) := by decide +kernel
theorem dX3_init_4 : decode cX3_init 4 = .ok (.aload_n 0, 1) := by decide +kernel
theorem dX3_init_5 : decode cX3_init 5 = .ok (.bipush 12, 2) := by decide +kernel
theorem dX3_init_7 : decode cX3_init 7 = .ok (.newarray .int, 2) := by decide +kernel
theorem dX3_init_9 : decode cX3_init 9 = .ok (.putfield 9, 3) := by decide +kernel
theorem dX3_init_12 : decode cX3_init 12 = .ok (.aload_n 0, 1) := by decide +kernel
theorem dX3_init_13 : decode cX3_init 13 = .ok (.bipush 12, 2) := by decide +kernel
theorem dX3_init_15 : decode cX3_init 15 = .ok (.newarray .int, 2) := by decide +kernel
theorem dX3_init_17 : decode cX3_init 17 = .ok (.putfield 15, 3) := by decide +kernel
theorem dX3_init_20 : decode cX3_init 20 = .ok (.aload_n 0, 1) := by decide +kernel
theorem dX3_init_21 : decode cX3_init 21 = .ok (.sipush 1440, 3) := by decide +kernel
theorem dX3_init_24 : decode cX3_init 24 = .ok (.newarray .int, 2) := by decide +kernel
theorem dX3_init_26 : decode cX3_init 26 = .ok (.putfield 18, 3) := by decide +kernel
theorem dX3_init_29 : decode cX3_init 29 = .ok (.aload_n 0, 1) := by decide +kernel
theorem dX3_init_30 : decode cX3_init 30 = .ok (.bipush 120, 2) := by decide +kernel
theorem dX3_init_32 : decode cX3_init 32 = .ok (.newarray .int, 2) := by decide +kernel
theorem dX3_init_34 : decode cX3_init 34 = .ok (.putfield 21, 3) := by decide +kernel
theorem dX3_init_37 : decode cX3_init 37 = .ok (.aload_n 0, 1) := by decide +kernel
theorem dX3_init_38 : decode cX3_init 38 = .ok (.bipush 120, 2) := by decide +kernel
theorem dX3_init_40 : decode cX3_init 40 = .ok (.newarray .int, 2) := by decide +kernel
theorem dX3_init_42 : decode cX3_init 42 = .ok (.putfield 24, 3) := by decide +kernel
theorem dX3_init_45 : decode cX3_init 45 = .ok (.aload_n 0, 1) := by decide +kernel
theorem dX3_init_46 : decode cX3_init 46 = .ok (.new 27, 3) := by decide +kernel
theorem dX3_init_49 : decode cX3_init 49 = .ok (.dup, 1) := by decide +kernel
theorem dX3_init_50 : decode cX3_init 50 = .ok (.invokespecial 29, 3) := by decide +kernel
theorem dX3_init_53 : decode cX3_init 53 = .ok (.putfield 30, 3) := by decide +kernel
theorem dX3_init_56 : decode cX3_init 56 = .ok (.aload_n 0, 1) := by decide +kernel
theorem dX3_init_57 : decode cX3_init 57 = .ok (.iconst 0, 1) := by decide +kernel
theorem dX3_init_58 : decode cX3_init 58 = .ok (.putfield 34, 3) := by decide +kernel
theorem dX3_init_61 : decode cX3_init 61 = .ok (.return_, 1) := by decide +kernel
theorem dX3_beginOf_0 : decode cX3_beginOf 0 = .ok (.iload_n 1, 1) := by decide +kernel
theorem dX3_beginOf_1 : decode cX3_beginOf 1 = .ok (.invokestatic 38, 3) := by decide +kernel
theorem dX3_beginOf_4 : decode cX3_beginOf 4 = .ok (.ifCond .eq 12, 3) := by decide +kernel
theorem dX3_beginOf_7 : decode cX3_beginOf 7 = .ok (.aload_n 0, 1) := by decide +kernel
theorem dX3_beginOf_8 : decode cX3_beginOf 8 = .ok (.getfield 9, 3) := by decide +kernel
theorem dX3_beginOf_11 : decode cX3_beginOf 11 = .ok (.iload_n 1, 1) := by decide +kernel
theorem dX3_beginOf_12 : decode cX3_beginOf 12 = .ok (.iaload, 1) := by decide +kernel
theorem dX3_beginOf_13 : decode cX3_beginOf 13 = .ok (.goto 5, 3) := by decide +kernel
theorem dX3_beginOf_16 : decode cX3_beginOf 16 = .ok (.ldc 42, 2) := by decide +kernel
theorem dX3_beginOf_18 : decode cX3_beginOf 18 = .ok (.ireturn, 1) := by decide +kernel
theorem dX3_endOf_0 : decode cX3_endOf 0 = .ok (.iload_n 1, 1) := by decide +kernel
theorem dX3_endOf_1 : decode cX3_endOf 1 = .ok (.invokestatic 38, 3) := by decide +kernel
theorem dX3_endOf_4 : decode cX3_endOf 4 = .ok (.ifCond .eq 12, 3) := by decide +kernel
theorem dX3_endOf_7 : decode cX3_endOf 7 = .ok (.aload_n 0, 1) := by decide +kernel
theorem dX3_endOf_8 : decode cX3_endOf 8 = .ok (.getfield 15, 3) := by decide +kernel
theorem dX3_endOf_11 : decode cX3_endOf 11 = .ok (.iload_n 1, 1) := by decide +kernel
theorem dX3_endOf_12 : decode cX3_endOf 12 = .ok (.iaload, 1) := by decide +kernel
theorem dX3_endOf_13 : decode cX3_endOf 13 = .ok (.goto 5, 3) := by decide +kernel
theorem dX3_endOf_16 : decode cX3_endOf 16 = .ok (.ldc 42, 2) := by decide +kernel
theorem dX3_endOf_18 : decode cX3_endOf 18 = .ok (.ireturn, 1) := by decide +kernel
theorem dX3_reckon_0 : decode cX3_reckon 0 = .ok (.aload_n 0, 1) := by decide +kernel
theorem dX3_reckon_1 : decode cX3_reckon 1 = .ok (.iconst 0, 1) := by decide +kernel
theorem dX3_reckon_2 : decode cX3_reckon 2 = .ok (.putfield 34, 3) := by decide +kernel
theorem dX3_reckon_5 : decode cX3_reckon 5 = .ok (.iconst 0, 1) := by decide +kernel
theorem dX3_reckon_6 : decode cX3_reckon 6 = .ok (.istore_n 3, 1) := by decide +kernel
theorem dX3_reckon_7 : decode cX3_reckon 7 = .ok (.iload_n 3, 1) := by decide +kernel
theorem dX3_reckon_8 : decode cX3_reckon 8 = .ok (.bipush 12, 2) := by decide +kernel
theorem dX3_reckon_10 : decode cX3_reckon 10 = .ok (.if_icmp .ge 57, 3) := by decide +kernel
theorem dX3_reckon_13 : decode cX3_reckon 13 = .ok (.aload_n 0, 1) := by decide +kernel
theorem dX3_reckon_14 : decode cX3_reckon 14 = .ok (.getfield 9, 3) := by decide +kernel
theorem dX3_reckon_17 : decode cX3_reckon 17 = .ok (.iload_n 3, 1) := by decide +kernel
theorem dX3_reckon_18 : decode cX3_reckon 18 = .ok (.ldc 42, 2) := by decide +kernel
theorem dX3_reckon_20 : decode cX3_reckon 20 = .ok (.iastore, 1) := by decide +kernel
theorem dX3_reckon_21 : decode cX3_reckon 21 = .ok (.aload_n 0, 1) := by decide +kernel
theorem dX3_reckon_22 : decode cX3_reckon 22 = .ok (.getfield 15, 3) := by decide +kernel
theorem dX3_reckon_25 : decode cX3_reckon 25 = .ok (.iload_n 3, 1) := by decide +kernel
theorem dX3_reckon_26 : decode cX3_reckon 26 = .ok (.ldc 42, 2) := by decide +kernel
theorem dX3_reckon_28 : decode cX3_reckon 28 = .ok (.iastore, 1) := by decide +kernel
theorem dX3_reckon_29 : decode cX3_reckon 29 = .ok (.aload_n 1, 1) := by decide +kernel
theorem dX3_reckon_30 : decode cX3_reckon 30 = .ok (.iload_n 3, 1) := by decide +kernel
theorem dX3_reckon_31 : decode cX3_reckon 31 = .ok (.invokevirtual 43, 3) := by decide +kernel
theorem dX3_reckon_34 : decode cX3_reckon 34 = .ok (.astore 4, 2) := by decide +kernel
theorem dX3_reckon_36 : decode cX3_reckon 36 = .ok (.aload 4, 2) := by decide +kernel
theorem dX3_reckon_38 : decode cX3_reckon 38 = .ok (.ifnull 23, 3) := by decide +kernel
theorem dX3_reckon_41 : decode cX3_reckon 41 = .ok (.aload 4, 2) := by decide +kernel
theorem dX3_reckon_43 : decode cX3_reckon 43 = .ok (.invokevirtual 49, 3) := by decide +kernel
theorem dX3_reckon_46 : decode cX3_reckon 46 = .ok (.ifCond .eq 15, 3) := by decide +kernel
theorem dX3_reckon_49 : decode cX3_reckon 49 = .ok (.aload_n 0, 1) := by decide +kernel
theorem dX3_reckon_50 : decode cX3_reckon 50 = .ok (.dup, 1) := by decide +kernel
theorem dX3_reckon_51 : decode cX3_reckon 51 = .ok (.getfield 34, 3) := by decide +kernel
theorem dX3_reckon_54 : decode cX3_reckon 54 = .ok (.iconst 1, 1) := by decide +kernel
theorem dX3_reckon_55 : decode cX3_reckon 55 = .ok (.iload_n 3, 1) := by decide +kernel
theorem dX3_reckon_56 : decode cX3_reckon 56 = .ok (.ishl, 1) := by decide +kernel
theorem dX3_reckon_57 : decode cX3_reckon 57 = .ok (.ior, 1) := by decide +kernel
theorem dX3_reckon_58 : decode cX3_reckon 58 = .ok (.putfield 34, 3) := by decide +kernel
theorem dX3_reckon_61 : decode cX3_reckon 61 = .ok (.iinc 3 1, 3) := by decide +kernel
theorem dX3_reckon_64 : decode cX3_reckon 64 = .ok (.goto (-57), 3) := by decide +kernel
theorem dX3_reckon_67 : decode cX3_reckon 67 = .ok (.aload_n 0, 1) := by decide +kernel
theorem dX3_reckon_68 : decode cX3_reckon 68 = .ok (.getfield 34, 3) := by decide +kernel
theorem dX3_reckon_71 : decode cX3_reckon 71 = .ok (.istore_n 3, 1) := by decide +kernel
theorem dX3_reckon_72 : decode cX3_reckon 72 = .ok (.iconst 0, 1) := by decide +kernel
theorem dX3_reckon_73 : decode cX3_reckon 73 = .ok (.istore 4, 2) := by decide +kernel
theorem dX3_reckon_75 : decode cX3_reckon 75 = .ok (.iload 4, 2) := by decide +kernel
theorem dX3_reckon_77 : decode cX3_reckon 77 = .ok (.bipush 12, 2) := by decide +kernel
theorem dX3_reckon_79 : decode cX3_reckon 79 = .ok (.if_icmp .ge 80, 3) := by decide +kernel
theorem dX3_reckon_82 : decode cX3_reckon 82 = .ok (.iload_n 3, 1) := by decide +kernel
theorem dX3_reckon_83 : decode cX3_reckon 83 = .ok (.ifCond .eq 76, 3) := by decide +kernel
theorem dX3_reckon_86 : decode cX3_reckon 86 = .ok (.iconst 0, 1) := by decide +kernel
theorem dX3_reckon_87 : decode cX3_reckon 87 = .ok (.istore 5, 2) := by decide +kernel
theorem dX3_reckon_89 : decode cX3_reckon 89 = .ok (.iload 5, 2) := by decide +kernel
theorem dX3_reckon_91 : decode cX3_reckon 91 = .ok (.bipush 12, 2) := by decide +kernel
theorem dX3_reckon_93 : decode cX3_reckon 93 = .ok (.if_icmp .ge 60, 3) := by decide +kernel
theorem dX3_reckon_96 : decode cX3_reckon 96 = .ok (.aload_n 1, 1) := by decide +kernel
theorem dX3_reckon_97 : decode cX3_reckon 97 = .ok (.iload 5, 2) := by decide +kernel
theorem dX3_reckon_99 : decode cX3_reckon 99 = .ok (.invokevirtual 43, 3) := by decide +kernel
theorem dX3_reckon_102 : decode cX3_reckon 102 = .ok (.astore 6, 2) := by decide +kernel
theorem dX3_reckon_104 : decode cX3_reckon 104 = .ok (.aload 6, 2) := by decide +kernel
theorem dX3_reckon_106 : decode cX3_reckon 106 = .ok (.ifnull 41, 3) := by decide +kernel
theorem dX3_reckon_109 : decode cX3_reckon 109 = .ok (.iload_n 3, 1) := by decide +kernel
theorem dX3_reckon_110 : decode cX3_reckon 110 = .ok (.iload 5, 2) := by decide +kernel
theorem dX3_reckon_112 : decode cX3_reckon 112 = .ok (.invokestatic 55, 3) := by decide +kernel
theorem dX3_reckon_115 : decode cX3_reckon 115 = .ok (.ifCond .eq 32, 3) := by decide +kernel
theorem dX3_reckon_118 : decode cX3_reckon 118 = .ok (.aload 6, 2) := by decide +kernel
theorem dX3_reckon_120 : decode cX3_reckon 120 = .ok (.getfield 59, 3) := by decide +kernel
theorem dX3_reckon_123 : decode cX3_reckon 123 = .ok (.iload_n 3, 1) := by decide +kernel
theorem dX3_reckon_124 : decode cX3_reckon 124 = .ok (.iand, 1) := by decide +kernel
theorem dX3_reckon_125 : decode cX3_reckon 125 = .ok (.ifCond .ne 22, 3) := by decide +kernel
theorem dX3_reckon_128 : decode cX3_reckon 128 = .ok (.aload_n 0, 1) := by decide +kernel
theorem dX3_reckon_129 : decode cX3_reckon 129 = .ok (.aload_n 1, 1) := by decide +kernel
theorem dX3_reckon_130 : decode cX3_reckon 130 = .ok (.aload 6, 2) := by decide +kernel
theorem dX3_reckon_132 : decode cX3_reckon 132 = .ok (.iload 5, 2) := by decide +kernel
theorem dX3_reckon_134 : decode cX3_reckon 134 = .ok (.iload_n 2, 1) := by decide +kernel
theorem dX3_reckon_135 : decode cX3_reckon 135 = .ok (.invokevirtual 62, 3) := by decide +kernel
theorem dX3_reckon_138 : decode cX3_reckon 138 = .ok (.iload_n 3, 1) := by decide +kernel
theorem dX3_reckon_139 : decode cX3_reckon 139 = .ok (.iconst 1, 1) := by decide +kernel
theorem dX3_reckon_140 : decode cX3_reckon 140 = .ok (.iload 5, 2) := by decide +kernel
theorem dX3_reckon_142 : decode cX3_reckon 142 = .ok (.ishl, 1) := by decide +kernel
theorem dX3_reckon_143 : decode cX3_reckon 143 = .ok (.iconst (-1), 1) := by decide +kernel
theorem dX3_reckon_144 : decode cX3_reckon 144 = .ok (.ixor, 1) := by decide +kernel
theorem dX3_reckon_145 : decode cX3_reckon 145 = .ok (.iand, 1) := by decide +kernel
theorem dX3_reckon_146 : decode cX3_reckon 146 = .ok (.istore_n 3, 1) := by decide +kernel
theorem dX3_reckon_147 : decode cX3_reckon 147 = .ok (.iinc 5 1, 3) := by decide +kernel
theorem dX3_reckon_150 : decode cX3_reckon 150 = .ok (.goto (-61), 3) := by decide +kernel
theorem dX3_reckon_153 : decode cX3_reckon 153 = .ok (.iinc 4 1, 3) := by decide +kernel
theorem dX3_reckon_156 : decode cX3_reckon 156 = .ok (.goto (-81), 3) := by decide +kernel
theorem dX3_reckon_159 : decode cX3_reckon 159 = .ok (.return_, 1) := by decide +kernel
theorem dX3_reckonPlace_0 : decode cX3_reckonPlace 0 = .ok (.aload_n 2, 1) := by decide +kernel
theorem dX3_reckonPlace_1 : decode cX3_reckonPlace 1 = .ok (.getfield 66, 3) := by decide +kernel
theorem dX3_reckonPlace_4 : decode cX3_reckonPlace 4 = .ok (.iconst 4, 1) := by decide +kernel
theorem dX3_reckonPlace_5 : decode cX3_reckonPlace 5 = .ok (.if_icmp .ne 11, 3) := by decide +kernel
theorem dX3_reckonPlace_8 : decode cX3_reckonPlace 8 = .ok (.aload_n 0, 1) := by decide +kernel
theorem dX3_reckonPlace_9 : decode cX3_reckonPlace 9 = .ok (.aload_n 2, 1) := by decide +kernel
theorem dX3_reckonPlace_10 : decode cX3_reckonPlace 10 = .ok (.invokevirtual 69, 3) := by decide +kernel
theorem dX3_reckonPlace_13 : decode cX3_reckonPlace 13 = .ok (.goto 8, 3) := by decide +kernel
theorem dX3_reckonPlace_16 : decode cX3_reckonPlace 16 = .ok (.aload_n 0, 1) := by decide +kernel
theorem dX3_reckonPlace_17 : decode cX3_reckonPlace 17 = .ok (.aload_n 2, 1) := by decide +kernel
theorem dX3_reckonPlace_18 : decode cX3_reckonPlace 18 = .ok (.invokevirtual 73, 3) := by decide +kernel
theorem dX3_reckonPlace_21 : decode cX3_reckonPlace 21 = .ok (.istore 5, 2) := by decide +kernel
theorem dX3_reckonPlace_23 : decode cX3_reckonPlace 23 = .ok (.iload 5, 2) := by decide +kernel
theorem dX3_reckonPlace_25 : decode cX3_reckonPlace 25 = .ok (.sipush 3600, 3) := by decide +kernel
theorem dX3_reckonPlace_28 : decode cX3_reckonPlace 28 = .ok (.if_icmp .lt 7, 3) := by decide +kernel
theorem dX3_reckonPlace_31 : decode cX3_reckonPlace 31 = .ok (.ldc 42, 2) := by decide +kernel
theorem dX3_reckonPlace_33 : decode cX3_reckonPlace 33 = .ok (.istore 5, 2) := by decide +kernel
theorem dX3_reckonPlace_35 : decode cX3_reckonPlace 35 = .ok (.aload_n 1, 1) := by decide +kernel
theorem dX3_reckonPlace_36 : decode cX3_reckonPlace 36 = .ok (.bipush 6, 2) := by decide +kernel
theorem dX3_reckonPlace_38 : decode cX3_reckonPlace 38 = .ok (.iload_n 3, 1) := by decide +kernel
theorem dX3_reckonPlace_39 : decode cX3_reckonPlace 39 = .ok (.aload_n 0, 1) := by decide +kernel
theorem dX3_reckonPlace_40 : decode cX3_reckonPlace 40 = .ok (.getfield 21, 3) := by decide +kernel
theorem dX3_reckonPlace_43 : decode cX3_reckonPlace 43 = .ok (.invokestatic 76, 3) := by decide +kernel
theorem dX3_reckonPlace_46 : decode cX3_reckonPlace 46 = .ok (.aload_n 1, 1) := by decide +kernel
theorem dX3_reckonPlace_47 : decode cX3_reckonPlace 47 = .ok (.bipush 7, 2) := by decide +kernel
theorem dX3_reckonPlace_49 : decode cX3_reckonPlace 49 = .ok (.iload_n 3, 1) := by decide +kernel
theorem dX3_reckonPlace_50 : decode cX3_reckonPlace 50 = .ok (.aload_n 0, 1) := by decide +kernel
theorem dX3_reckonPlace_51 : decode cX3_reckonPlace 51 = .ok (.getfield 24, 3) := by decide +kernel
theorem dX3_reckonPlace_54 : decode cX3_reckonPlace 54 = .ok (.invokestatic 76, 3) := by decide +kernel
theorem dX3_reckonPlace_57 : decode cX3_reckonPlace 57 = .ok (.aload_n 0, 1) := by decide +kernel
theorem dX3_reckonPlace_58 : decode cX3_reckonPlace 58 = .ok (.getfield 30, 3) := by decide +kernel
theorem dX3_reckonPlace_61 : decode cX3_reckonPlace 61 = .ok (.aload_n 2, 1) := by decide +kernel
theorem dX3_reckonPlace_62 : decode cX3_reckonPlace 62 = .ok (.invokevirtual 80, 3) := by decide +kernel
theorem dX3_reckonPlace_65 : decode cX3_reckonPlace 65 = .ok (.aload_n 2, 1) := by decide +kernel
theorem dX3_reckonPlace_66 : decode cX3_reckonPlace 66 = .ok (.getfield 66, 3) := by decide +kernel
theorem dX3_reckonPlace_69 : decode cX3_reckonPlace 69 = .ok (.iconst 5, 1) := by decide +kernel
theorem dX3_reckonPlace_70 : decode cX3_reckonPlace 70 = .ok (.if_icmp .ne 8, 3) := by decide +kernel
theorem dX3_reckonPlace_73 : decode cX3_reckonPlace 73 = .ok (.ldc 42, 2) := by decide +kernel
theorem dX3_reckonPlace_75 : decode cX3_reckonPlace 75 = .ok (.goto 7, 3) := by decide +kernel
theorem dX3_reckonPlace_78 : decode cX3_reckonPlace 78 = .ok (.aload_n 2, 1) := by decide +kernel
theorem dX3_reckonPlace_79 : decode cX3_reckonPlace 79 = .ok (.getfield 84, 3) := by decide +kernel
theorem dX3_reckonPlace_82 : decode cX3_reckonPlace 82 = .ok (.istore 6, 2) := by decide +kernel
theorem dX3_reckonPlace_84 : decode cX3_reckonPlace 84 = .ok (.ldc 42, 2) := by decide +kernel
theorem dX3_reckonPlace_86 : decode cX3_reckonPlace 86 = .ok (.istore 7, 2) := by decide +kernel
theorem dX3_reckonPlace_88 : decode cX3_reckonPlace 88 = .ok (.iconst 0, 1) := by decide +kernel
theorem dX3_reckonPlace_89 : decode cX3_reckonPlace 89 = .ok (.istore 8, 2) := by decide +kernel
theorem dX3_reckonPlace_91 : decode cX3_reckonPlace 91 = .ok (.iload 8, 2) := by decide +kernel
theorem dX3_reckonPlace_93 : decode cX3_reckonPlace 93 = .ok (.bipush 120, 2) := by decide +kernel
theorem dX3_reckonPlace_95 : decode cX3_reckonPlace 95 = .ok (.if_icmp .ge 116, 3) := by decide +kernel
theorem dX3_reckonPlace_98 : decode cX3_reckonPlace 98 = .ok (.iload 8, 2) := by decide +kernel
theorem dX3_reckonPlace_100 : decode cX3_reckonPlace 100 = .ok (.bipush 30, 2) := by decide +kernel
theorem dX3_reckonPlace_102 : decode cX3_reckonPlace 102 = .ok (.imul, 1) := by decide +kernel
theorem dX3_reckonPlace_103 : decode cX3_reckonPlace 103 = .ok (.istore 9, 2) := by decide +kernel
theorem dX3_reckonPlace_105 : decode cX3_reckonPlace 105 = .ok (.aload_n 0, 1) := by decide +kernel
theorem dX3_reckonPlace_106 : decode cX3_reckonPlace 106 = .ok (.getfield 24, 3) := by decide +kernel
theorem dX3_reckonPlace_109 : decode cX3_reckonPlace 109 = .ok (.iload 8, 2) := by decide +kernel
theorem dX3_reckonPlace_111 : decode cX3_reckonPlace 111 = .ok (.iaload, 1) := by decide +kernel
theorem dX3_reckonPlace_112 : decode cX3_reckonPlace 112 = .ok (.aload_n 1, 1) := by decide +kernel
theorem dX3_reckonPlace_113 : decode cX3_reckonPlace 113 = .ok (.iload 8, 2) := by decide +kernel
theorem dX3_reckonPlace_115 : decode cX3_reckonPlace 115 = .ok (.iload 4, 2) := by decide +kernel
theorem dX3_reckonPlace_117 : decode cX3_reckonPlace 117 = .ok (.invokevirtual 87, 3) := by decide +kernel
theorem dX3_reckonPlace_120 : decode cX3_reckonPlace 120 = .ok (.iload 5, 2) := by decide +kernel
theorem dX3_reckonPlace_122 : decode cX3_reckonPlace 122 = .ok (.iload 9, 2) := by decide +kernel
theorem dX3_reckonPlace_124 : decode cX3_reckonPlace 124 = .ok (.isub, 1) := by decide +kernel
theorem dX3_reckonPlace_125 : decode cX3_reckonPlace 125 = .ok (.invokestatic 91, 3) := by decide +kernel
theorem dX3_reckonPlace_128 : decode cX3_reckonPlace 128 = .ok (.iand, 1) := by decide +kernel
theorem dX3_reckonPlace_129 : decode cX3_reckonPlace 129 = .ok (.ior, 1) := by decide +kernel
theorem dX3_reckonPlace_130 : decode cX3_reckonPlace 130 = .ok (.aload_n 0, 1) := by decide +kernel
theorem dX3_reckonPlace_131 : decode cX3_reckonPlace 131 = .ok (.getfield 21, 3) := by decide +kernel
theorem dX3_reckonPlace_134 : decode cX3_reckonPlace 134 = .ok (.iload 8, 2) := by decide +kernel
theorem dX3_reckonPlace_136 : decode cX3_reckonPlace 136 = .ok (.iaload, 1) := by decide +kernel
theorem dX3_reckonPlace_137 : decode cX3_reckonPlace 137 = .ok (.iconst (-1), 1) := by decide +kernel
theorem dX3_reckonPlace_138 : decode cX3_reckonPlace 138 = .ok (.ixor, 1) := by decide +kernel
theorem dX3_reckonPlace_139 : decode cX3_reckonPlace 139 = .ok (.iand, 1) := by decide +kernel
theorem dX3_reckonPlace_140 : decode cX3_reckonPlace 140 = .ok (.istore 10, 2) := by decide +kernel
theorem dX3_reckonPlace_142 : decode cX3_reckonPlace 142 = .ok (.iload 7, 2) := by decide +kernel
theorem dX3_reckonPlace_144 : decode cX3_reckonPlace 144 = .ok (.ldc 42, 2) := by decide +kernel
theorem dX3_reckonPlace_146 : decode cX3_reckonPlace 146 = .ok (.if_icmp .eq 9, 3) := by decide +kernel
theorem dX3_reckonPlace_149 : decode cX3_reckonPlace 149 = .ok (.iconst 0, 1) := by decide +kernel
theorem dX3_reckonPlace_150 : decode cX3_reckonPlace 150 = .ok (.istore 10, 2) := by decide +kernel
theorem dX3_reckonPlace_152 : decode cX3_reckonPlace 152 = .ok (.goto 39, 3) := by decide +kernel
theorem dX3_reckonPlace_155 : decode cX3_reckonPlace 155 = .ok (.aload_n 0, 1) := by decide +kernel
theorem dX3_reckonPlace_156 : decode cX3_reckonPlace 156 = .ok (.getfield 30, 3) := by decide +kernel
theorem dX3_reckonPlace_159 : decode cX3_reckonPlace 159 = .ok (.iload 10, 2) := by decide +kernel
theorem dX3_reckonPlace_161 : decode cX3_reckonPlace 161 = .ok (.iload 6, 2) := by decide +kernel
theorem dX3_reckonPlace_163 : decode cX3_reckonPlace 163 = .ok (.invokevirtual 95, 3) := by decide +kernel
theorem dX3_reckonPlace_166 : decode cX3_reckonPlace 166 = .ok (.istore 11, 2) := by decide +kernel
theorem dX3_reckonPlace_168 : decode cX3_reckonPlace 168 = .ok (.iload 11, 2) := by decide +kernel
theorem dX3_reckonPlace_170 : decode cX3_reckonPlace 170 = .ok (.iconst (-1), 1) := by decide +kernel
theorem dX3_reckonPlace_171 : decode cX3_reckonPlace 171 = .ok (.if_icmp .eq 20, 3) := by decide +kernel
theorem dX3_reckonPlace_174 : decode cX3_reckonPlace 174 = .ok (.iload 9, 2) := by decide +kernel
theorem dX3_reckonPlace_176 : decode cX3_reckonPlace 176 = .ok (.iload 11, 2) := by decide +kernel
theorem dX3_reckonPlace_178 : decode cX3_reckonPlace 178 = .ok (.iadd, 1) := by decide +kernel
theorem dX3_reckonPlace_179 : decode cX3_reckonPlace 179 = .ok (.istore 7, 2) := by decide +kernel
theorem dX3_reckonPlace_181 : decode cX3_reckonPlace 181 = .ok (.iload 10, 2) := by decide +kernel
theorem dX3_reckonPlace_183 : decode cX3_reckonPlace 183 = .ok (.iload 11, 2) := by decide +kernel
theorem dX3_reckonPlace_185 : decode cX3_reckonPlace 185 = .ok (.invokestatic 99, 3) := by decide +kernel
theorem dX3_reckonPlace_188 : decode cX3_reckonPlace 188 = .ok (.iand, 1) := by decide +kernel
theorem dX3_reckonPlace_189 : decode cX3_reckonPlace 189 = .ok (.istore 10, 2) := by decide +kernel
theorem dX3_reckonPlace_191 : decode cX3_reckonPlace 191 = .ok (.aload_n 0, 1) := by decide +kernel
theorem dX3_reckonPlace_192 : decode cX3_reckonPlace 192 = .ok (.getfield 18, 3) := by decide +kernel
theorem dX3_reckonPlace_195 : decode cX3_reckonPlace 195 = .ok (.iload_n 3, 1) := by decide +kernel
theorem dX3_reckonPlace_196 : decode cX3_reckonPlace 196 = .ok (.bipush 120, 2) := by decide +kernel
theorem dX3_reckonPlace_198 : decode cX3_reckonPlace 198 = .ok (.imul, 1) := by decide +kernel
theorem dX3_reckonPlace_199 : decode cX3_reckonPlace 199 = .ok (.iload 8, 2) := by decide +kernel
theorem dX3_reckonPlace_201 : decode cX3_reckonPlace 201 = .ok (.iadd, 1) := by decide +kernel
theorem dX3_reckonPlace_202 : decode cX3_reckonPlace 202 = .ok (.iload 10, 2) := by decide +kernel
theorem dX3_reckonPlace_204 : decode cX3_reckonPlace 204 = .ok (.iastore, 1) := by decide +kernel
theorem dX3_reckonPlace_205 : decode cX3_reckonPlace 205 = .ok (.iinc 8 1, 3) := by decide +kernel
theorem dX3_reckonPlace_208 : decode cX3_reckonPlace 208 = .ok (.goto (-117), 3) := by decide +kernel
theorem dX3_reckonPlace_211 : decode cX3_reckonPlace 211 = .ok (.aload_n 0, 1) := by decide +kernel
theorem dX3_reckonPlace_212 : decode cX3_reckonPlace 212 = .ok (.getfield 9, 3) := by decide +kernel
theorem dX3_reckonPlace_215 : decode cX3_reckonPlace 215 = .ok (.iload_n 3, 1) := by decide +kernel
theorem dX3_reckonPlace_216 : decode cX3_reckonPlace 216 = .ok (.iload 5, 2) := by decide +kernel
theorem dX3_reckonPlace_218 : decode cX3_reckonPlace 218 = .ok (.iastore, 1) := by decide +kernel
theorem dX3_reckonPlace_219 : decode cX3_reckonPlace 219 = .ok (.aload_n 0, 1) := by decide +kernel
theorem dX3_reckonPlace_220 : decode cX3_reckonPlace 220 = .ok (.getfield 15, 3) := by decide +kernel
theorem dX3_reckonPlace_223 : decode cX3_reckonPlace 223 = .ok (.iload_n 3, 1) := by decide +kernel
theorem dX3_reckonPlace_224 : decode cX3_reckonPlace 224 = .ok (.iload 7, 2) := by decide +kernel
theorem dX3_reckonPlace_226 : decode cX3_reckonPlace 226 = .ok (.iastore, 1) := by decide +kernel
theorem dX3_reckonPlace_227 : decode cX3_reckonPlace 227 = .ok (.return_, 1) := by decide +kernel
theorem dX3_beginBehind_0 : decode cX3_beginBehind 0 = .ok (.aload_n 1, 1) := by decide +kernel
theorem dX3_beginBehind_1 : decode cX3_beginBehind 1 = .ok (.getfield 102, 3) := by decide +kernel
theorem dX3_beginBehind_4 : decode cX3_beginBehind 4 = .ok (.istore_n 2, 1) := by decide +kernel
theorem dX3_beginBehind_5 : decode cX3_beginBehind 5 = .ok (.iconst 0, 1) := by decide +kernel
theorem dX3_beginBehind_6 : decode cX3_beginBehind 6 = .ok (.istore_n 3, 1) := by decide +kernel
theorem dX3_beginBehind_7 : decode cX3_beginBehind 7 = .ok (.iload_n 3, 1) := by decide +kernel
theorem dX3_beginBehind_8 : decode cX3_beginBehind 8 = .ok (.bipush 12, 2) := by decide +kernel
theorem dX3_beginBehind_10 : decode cX3_beginBehind 10 = .ok (.if_icmp .ge 38, 3) := by decide +kernel
theorem dX3_beginBehind_13 : decode cX3_beginBehind 13 = .ok (.aload_n 1, 1) := by decide +kernel
theorem dX3_beginBehind_14 : decode cX3_beginBehind 14 = .ok (.getfield 59, 3) := by decide +kernel
theorem dX3_beginBehind_17 : decode cX3_beginBehind 17 = .ok (.aload_n 0, 1) := by decide +kernel
theorem dX3_beginBehind_18 : decode cX3_beginBehind 18 = .ok (.getfield 34, 3) := by decide +kernel
theorem dX3_beginBehind_21 : decode cX3_beginBehind 21 = .ok (.iand, 1) := by decide +kernel
theorem dX3_beginBehind_22 : decode cX3_beginBehind 22 = .ok (.iload_n 3, 1) := by decide +kernel
theorem dX3_beginBehind_23 : decode cX3_beginBehind 23 = .ok (.invokestatic 55, 3) := by decide +kernel
theorem dX3_beginBehind_26 : decode cX3_beginBehind 26 = .ok (.ifCond .eq 16, 3) := by decide +kernel
theorem dX3_beginBehind_29 : decode cX3_beginBehind 29 = .ok (.iload_n 2, 1) := by decide +kernel
theorem dX3_beginBehind_30 : decode cX3_beginBehind 30 = .ok (.aload_n 0, 1) := by decide +kernel
theorem dX3_beginBehind_31 : decode cX3_beginBehind 31 = .ok (.getfield 15, 3) := by decide +kernel
theorem dX3_beginBehind_34 : decode cX3_beginBehind 34 = .ok (.iload_n 3, 1) := by decide +kernel
theorem dX3_beginBehind_35 : decode cX3_beginBehind 35 = .ok (.iaload, 1) := by decide +kernel
theorem dX3_beginBehind_36 : decode cX3_beginBehind 36 = .ok (.iconst 1, 1) := by decide +kernel
theorem dX3_beginBehind_37 : decode cX3_beginBehind 37 = .ok (.iadd, 1) := by decide +kernel
theorem dX3_beginBehind_38 : decode cX3_beginBehind 38 = .ok (.invokestatic 105, 3) := by decide +kernel
theorem dX3_beginBehind_41 : decode cX3_beginBehind 41 = .ok (.istore_n 2, 1) := by decide +kernel
theorem dX3_beginBehind_42 : decode cX3_beginBehind 42 = .ok (.iinc 3 1, 3) := by decide +kernel
theorem dX3_beginBehind_45 : decode cX3_beginBehind 45 = .ok (.goto (-38), 3) := by decide +kernel
theorem dX3_beginBehind_48 : decode cX3_beginBehind 48 = .ok (.iload_n 2, 1) := by decide +kernel
theorem dX3_beginBehind_49 : decode cX3_beginBehind 49 = .ok (.ireturn, 1) := by decide +kernel
theorem dX3_beginBeside_0 : decode cX3_beginBeside 0 = .ok (.aload_n 1, 1) := by decide +kernel
theorem dX3_beginBeside_1 : decode cX3_beginBeside 1 = .ok (.getfield 59, 3) := by decide +kernel
theorem dX3_beginBeside_4 : decode cX3_beginBeside 4 = .ok (.aload_n 0, 1) := by decide +kernel
theorem dX3_beginBeside_5 : decode cX3_beginBeside 5 = .ok (.getfield 34, 3) := by decide +kernel
theorem dX3_beginBeside_8 : decode cX3_beginBeside 8 = .ok (.iand, 1) := by decide +kernel
theorem dX3_beginBeside_9 : decode cX3_beginBeside 9 = .ok (.istore_n 2, 1) := by decide +kernel
theorem dX3_beginBeside_10 : decode cX3_beginBeside 10 = .ok (.iload_n 2, 1) := by decide +kernel
theorem dX3_beginBeside_11 : decode cX3_beginBeside 11 = .ok (.ifCond .ne 8, 3) := by decide +kernel
theorem dX3_beginBeside_14 : decode cX3_beginBeside 14 = .ok (.aload_n 1, 1) := by decide +kernel
theorem dX3_beginBeside_15 : decode cX3_beginBeside 15 = .ok (.getfield 102, 3) := by decide +kernel
theorem dX3_beginBeside_18 : decode cX3_beginBeside 18 = .ok (.ireturn, 1) := by decide +kernel
theorem dX3_beginBeside_19 : decode cX3_beginBeside 19 = .ok (.ldc 42, 2) := by decide +kernel
theorem dX3_beginBeside_21 : decode cX3_beginBeside 21 = .ok (.istore_n 3, 1) := by decide +kernel
theorem dX3_beginBeside_22 : decode cX3_beginBeside 22 = .ok (.iconst 0, 1) := by decide +kernel
theorem dX3_beginBeside_23 : decode cX3_beginBeside 23 = .ok (.istore 4, 2) := by decide +kernel
theorem dX3_beginBeside_25 : decode cX3_beginBeside 25 = .ok (.iload 4, 2) := by decide +kernel
theorem dX3_beginBeside_27 : decode cX3_beginBeside 27 = .ok (.bipush 12, 2) := by decide +kernel
theorem dX3_beginBeside_29 : decode cX3_beginBeside 29 = .ok (.if_icmp .ge 30, 3) := by decide +kernel
theorem dX3_beginBeside_32 : decode cX3_beginBeside 32 = .ok (.iload_n 2, 1) := by decide +kernel
theorem dX3_beginBeside_33 : decode cX3_beginBeside 33 = .ok (.iload 4, 2) := by decide +kernel
theorem dX3_beginBeside_35 : decode cX3_beginBeside 35 = .ok (.invokestatic 55, 3) := by decide +kernel
theorem dX3_beginBeside_38 : decode cX3_beginBeside 38 = .ok (.ifCond .eq 15, 3) := by decide +kernel
theorem dX3_beginBeside_41 : decode cX3_beginBeside 41 = .ok (.iload_n 3, 1) := by decide +kernel
theorem dX3_beginBeside_42 : decode cX3_beginBeside 42 = .ok (.aload_n 0, 1) := by decide +kernel
theorem dX3_beginBeside_43 : decode cX3_beginBeside 43 = .ok (.getfield 9, 3) := by decide +kernel
theorem dX3_beginBeside_46 : decode cX3_beginBeside 46 = .ok (.iload 4, 2) := by decide +kernel
theorem dX3_beginBeside_48 : decode cX3_beginBeside 48 = .ok (.iaload, 1) := by decide +kernel
theorem dX3_beginBeside_49 : decode cX3_beginBeside 49 = .ok (.invokestatic 110, 3) := by decide +kernel
theorem dX3_beginBeside_52 : decode cX3_beginBeside 52 = .ok (.istore_n 3, 1) := by decide +kernel
theorem dX3_beginBeside_53 : decode cX3_beginBeside 53 = .ok (.iinc 4 1, 3) := by decide +kernel
theorem dX3_beginBeside_56 : decode cX3_beginBeside 56 = .ok (.goto (-31), 3) := by decide +kernel
theorem dX3_beginBeside_59 : decode cX3_beginBeside 59 = .ok (.aload_n 1, 1) := by decide +kernel
theorem dX3_beginBeside_60 : decode cX3_beginBeside 60 = .ok (.getfield 102, 3) := by decide +kernel
theorem dX3_beginBeside_63 : decode cX3_beginBeside 63 = .ok (.iload_n 3, 1) := by decide +kernel
theorem dX3_beginBeside_64 : decode cX3_beginBeside 64 = .ok (.invokestatic 105, 3) := by decide +kernel
theorem dX3_beginBeside_67 : decode cX3_beginBeside 67 = .ok (.ireturn, 1) := by decide +kernel
theorem dX3_findSpans_0 : decode cX3_findSpans 0 = .ok (.aload_n 3, 1) := by decide +kernel
theorem dX3_findSpans_1 : decode cX3_findSpans 1 = .ok (.iconst 0, 1) := by decide +kernel
theorem dX3_findSpans_2 : decode cX3_findSpans 2 = .ok (.invokestatic 113, 3) := by decide +kernel
theorem dX3_findSpans_5 : decode cX3_findSpans 5 = .ok (.iconst 0, 1) := by decide +kernel
theorem dX3_findSpans_6 : decode cX3_findSpans 6 = .ok (.istore 4, 2) := by decide +kernel
theorem dX3_findSpans_8 : decode cX3_findSpans 8 = .ok (.iload 4, 2) := by decide +kernel
theorem dX3_findSpans_10 : decode cX3_findSpans 10 = .ok (.bipush 12, 2) := by decide +kernel
theorem dX3_findSpans_12 : decode cX3_findSpans 12 = .ok (.if_icmp .ge 38, 3) := by decide +kernel
theorem dX3_findSpans_15 : decode cX3_findSpans 15 = .ok (.aload_n 0, 1) := by decide +kernel
theorem dX3_findSpans_16 : decode cX3_findSpans 16 = .ok (.iload 4, 2) := by decide +kernel
theorem dX3_findSpans_18 : decode cX3_findSpans 18 = .ok (.invokevirtual 43, 3) := by decide +kernel
theorem dX3_findSpans_21 : decode cX3_findSpans 21 = .ok (.astore 5, 2) := by decide +kernel
theorem dX3_findSpans_23 : decode cX3_findSpans 23 = .ok (.aload 5, 2) := by decide +kernel
theorem dX3_findSpans_25 : decode cX3_findSpans 25 = .ok (.ifnull 19, 3) := by decide +kernel
theorem dX3_findSpans_28 : decode cX3_findSpans 28 = .ok (.aload 5, 2) := by decide +kernel
theorem dX3_findSpans_30 : decode cX3_findSpans 30 = .ok (.iload_n 1, 1) := by decide +kernel
theorem dX3_findSpans_31 : decode cX3_findSpans 31 = .ok (.iload_n 2, 1) := by decide +kernel
theorem dX3_findSpans_32 : decode cX3_findSpans 32 = .ok (.invokevirtual 119, 3) := by decide +kernel
theorem dX3_findSpans_35 : decode cX3_findSpans 35 = .ok (.ifCond .eq 9, 3) := by decide +kernel
theorem dX3_findSpans_38 : decode cX3_findSpans 38 = .ok (.aload 5, 2) := by decide +kernel
theorem dX3_findSpans_40 : decode cX3_findSpans 40 = .ok (.aload_n 3, 1) := by decide +kernel
theorem dX3_findSpans_41 : decode cX3_findSpans 41 = .ok (.invokestatic 122, 3) := by decide +kernel
theorem dX3_findSpans_44 : decode cX3_findSpans 44 = .ok (.iinc 4 1, 3) := by decide +kernel
theorem dX3_findSpans_47 : decode cX3_findSpans 47 = .ok (.goto (-39), 3) := by decide +kernel
theorem dX3_findSpans_50 : decode cX3_findSpans 50 = .ok (.return_, 1) := by decide +kernel
theorem dX3_addSpan_0 : decode cX3_addSpan 0 = .ok (.aload_n 0, 1) := by decide +kernel
theorem dX3_addSpan_1 : decode cX3_addSpan 1 = .ok (.getfield 126, 3) := by decide +kernel
theorem dX3_addSpan_4 : decode cX3_addSpan 4 = .ok (.bipush 30, 2) := by decide +kernel
theorem dX3_addSpan_6 : decode cX3_addSpan 6 = .ok (.idiv, 1) := by decide +kernel
theorem dX3_addSpan_7 : decode cX3_addSpan 7 = .ok (.aload_n 1, 1) := by decide +kernel
theorem dX3_addSpan_8 : decode cX3_addSpan 8 = .ok (.arraylength, 1) := by decide +kernel
theorem dX3_addSpan_9 : decode cX3_addSpan 9 = .ok (.iconst 1, 1) := by decide +kernel
theorem dX3_addSpan_10 : decode cX3_addSpan 10 = .ok (.isub, 1) := by decide +kernel
theorem dX3_addSpan_11 : decode cX3_addSpan 11 = .ok (.invokestatic 110, 3) := by decide +kernel
theorem dX3_addSpan_14 : decode cX3_addSpan 14 = .ok (.istore_n 2, 1) := by decide +kernel
theorem dX3_addSpan_15 : decode cX3_addSpan 15 = .ok (.iconst 0, 1) := by decide +kernel
theorem dX3_addSpan_16 : decode cX3_addSpan 16 = .ok (.aload_n 0, 1) := by decide +kernel
theorem dX3_addSpan_17 : decode cX3_addSpan 17 = .ok (.getfield 102, 3) := by decide +kernel
theorem dX3_addSpan_20 : decode cX3_addSpan 20 = .ok (.bipush 30, 2) := by decide +kernel
theorem dX3_addSpan_22 : decode cX3_addSpan 22 = .ok (.idiv, 1) := by decide +kernel
theorem dX3_addSpan_23 : decode cX3_addSpan 23 = .ok (.invokestatic 105, 3) := by decide +kernel
theorem dX3_addSpan_26 : decode cX3_addSpan 26 = .ok (.istore_n 3, 1) := by decide +kernel
theorem dX3_addSpan_27 : decode cX3_addSpan 27 = .ok (.iload_n 3, 1) := by decide +kernel
theorem dX3_addSpan_28 : decode cX3_addSpan 28 = .ok (.iload_n 2, 1) := by decide +kernel
theorem dX3_addSpan_29 : decode cX3_addSpan 29 = .ok (.if_icmp .gt 42, 3) := by decide +kernel
theorem dX3_addSpan_32 : decode cX3_addSpan 32 = .ok (.iload_n 3, 1) := by decide +kernel
theorem dX3_addSpan_33 : decode cX3_addSpan 33 = .ok (.bipush 30, 2) := by decide +kernel
theorem dX3_addSpan_35 : decode cX3_addSpan 35 = .ok (.imul, 1) := by decide +kernel
theorem dX3_addSpan_36 : decode cX3_addSpan 36 = .ok (.istore 4, 2) := by decide +kernel
theorem dX3_addSpan_38 : decode cX3_addSpan 38 = .ok (.aload_n 1, 1) := by decide +kernel
theorem dX3_addSpan_39 : decode cX3_addSpan 39 = .ok (.iload_n 3, 1) := by decide +kernel
theorem dX3_addSpan_40 : decode cX3_addSpan 40 = .ok (.dup2, 1) := by decide +kernel
theorem dX3_addSpan_41 : decode cX3_addSpan 41 = .ok (.iaload, 1) := by decide +kernel
theorem dX3_addSpan_42 : decode cX3_addSpan 42 = .ok (.aload_n 0, 1) := by decide +kernel
theorem dX3_addSpan_43 : decode cX3_addSpan 43 = .ok (.getfield 102, 3) := by decide +kernel
theorem dX3_addSpan_46 : decode cX3_addSpan 46 = .ok (.iload 4, 2) := by decide +kernel
theorem dX3_addSpan_48 : decode cX3_addSpan 48 = .ok (.isub, 1) := by decide +kernel
theorem dX3_addSpan_49 : decode cX3_addSpan 49 = .ok (.invokestatic 91, 3) := by decide +kernel
theorem dX3_addSpan_52 : decode cX3_addSpan 52 = .ok (.aload_n 0, 1) := by decide +kernel
theorem dX3_addSpan_53 : decode cX3_addSpan 53 = .ok (.getfield 126, 3) := by decide +kernel
theorem dX3_addSpan_56 : decode cX3_addSpan 56 = .ok (.iload 4, 2) := by decide +kernel
theorem dX3_addSpan_58 : decode cX3_addSpan 58 = .ok (.isub, 1) := by decide +kernel
theorem dX3_addSpan_59 : decode cX3_addSpan 59 = .ok (.invokestatic 99, 3) := by decide +kernel
theorem dX3_addSpan_62 : decode cX3_addSpan 62 = .ok (.iand, 1) := by decide +kernel
theorem dX3_addSpan_63 : decode cX3_addSpan 63 = .ok (.ior, 1) := by decide +kernel
theorem dX3_addSpan_64 : decode cX3_addSpan 64 = .ok (.iastore, 1) := by decide +kernel
theorem dX3_addSpan_65 : decode cX3_addSpan 65 = .ok (.iinc 3 1, 3) := by decide +kernel
theorem dX3_addSpan_68 : decode cX3_addSpan 68 = .ok (.goto (-41), 3) := by decide +kernel
theorem dX3_addSpan_71 : decode cX3_addSpan 71 = .ok (.return_, 1) := by decide +kernel
theorem dX3_countingIn_0 : decode cX3_countingIn 0 = .ok (.iload_n 1, 1) := by decide +kernel
theorem dX3_countingIn_1 : decode cX3_countingIn 1 = .ok (.invokestatic 38, 3) := by decide +kernel
theorem dX3_countingIn_4 : decode cX3_countingIn 4 = .ok (.ifCond .eq 25, 3) := by decide +kernel
theorem dX3_countingIn_7 : decode cX3_countingIn 7 = .ok (.aload_n 0, 1) := by decide +kernel
theorem dX3_countingIn_8 : decode cX3_countingIn 8 = .ok (.getfield 34, 3) := by decide +kernel
theorem dX3_countingIn_11 : decode cX3_countingIn 11 = .ok (.iload_n 1, 1) := by decide +kernel
theorem dX3_countingIn_12 : decode cX3_countingIn 12 = .ok (.invokestatic 55, 3) := by decide +kernel
theorem dX3_countingIn_15 : decode cX3_countingIn 15 = .ok (.ifCond .eq 14, 3) := by decide +kernel
theorem dX3_countingIn_18 : decode cX3_countingIn 18 = .ok (.iload_n 2, 1) := by decide +kernel
theorem dX3_countingIn_19 : decode cX3_countingIn 19 = .ok (.invokestatic 129, 3) := by decide +kernel
theorem dX3_countingIn_22 : decode cX3_countingIn 22 = .ok (.ifCond .eq 7, 3) := by decide +kernel
theorem dX3_countingIn_25 : decode cX3_countingIn 25 = .ok (.iconst 1, 1) := by decide +kernel
theorem dX3_countingIn_26 : decode cX3_countingIn 26 = .ok (.goto 4, 3) := by decide +kernel
theorem dX3_countingIn_29 : decode cX3_countingIn 29 = .ok (.iconst 0, 1) := by decide +kernel
theorem dX3_countingIn_30 : decode cX3_countingIn 30 = .ok (.istore_n 3, 1) := by decide +kernel
theorem dX3_countingIn_31 : decode cX3_countingIn 31 = .ok (.iload_n 3, 1) := by decide +kernel
theorem dX3_countingIn_32 : decode cX3_countingIn 32 = .ok (.ifCond .eq 17, 3) := by decide +kernel
theorem dX3_countingIn_35 : decode cX3_countingIn 35 = .ok (.aload_n 0, 1) := by decide +kernel
theorem dX3_countingIn_36 : decode cX3_countingIn 36 = .ok (.getfield 18, 3) := by decide +kernel
theorem dX3_countingIn_39 : decode cX3_countingIn 39 = .ok (.iload_n 1, 1) := by decide +kernel
theorem dX3_countingIn_40 : decode cX3_countingIn 40 = .ok (.bipush 120, 2) := by decide +kernel
theorem dX3_countingIn_42 : decode cX3_countingIn 42 = .ok (.imul, 1) := by decide +kernel
theorem dX3_countingIn_43 : decode cX3_countingIn 43 = .ok (.iload_n 2, 1) := by decide +kernel
theorem dX3_countingIn_44 : decode cX3_countingIn 44 = .ok (.iadd, 1) := by decide +kernel
theorem dX3_countingIn_45 : decode cX3_countingIn 45 = .ok (.iaload, 1) := by decide +kernel
theorem dX3_countingIn_46 : decode cX3_countingIn 46 = .ok (.goto 4, 3) := by decide +kernel
theorem dX3_countingIn_49 : decode cX3_countingIn 49 = .ok (.iconst 0, 1) := by decide +kernel
theorem dX3_countingIn_50 : decode cX3_countingIn 50 = .ok (.ireturn, 1) := by decide +kernel
theorem dX3_doesCount_0 : decode cX3_doesCount 0 = .ok (.iload_n 2, 1) := by decide +kernel
theorem dX3_doesCount_1 : decode cX3_doesCount 1 = .ok (.invokestatic 132, 3) := by decide +kernel
theorem dX3_doesCount_4 : decode cX3_doesCount 4 = .ok (.ifCond .eq 26, 3) := by decide +kernel
theorem dX3_doesCount_7 : decode cX3_doesCount 7 = .ok (.aload_n 0, 1) := by decide +kernel
theorem dX3_doesCount_8 : decode cX3_doesCount 8 = .ok (.iload_n 1, 1) := by decide +kernel
theorem dX3_doesCount_9 : decode cX3_doesCount 9 = .ok (.iload_n 2, 1) := by decide +kernel
theorem dX3_doesCount_10 : decode cX3_doesCount 10 = .ok (.bipush 30, 2) := by decide +kernel
theorem dX3_doesCount_12 : decode cX3_doesCount 12 = .ok (.idiv, 1) := by decide +kernel
theorem dX3_doesCount_13 : decode cX3_doesCount 13 = .ok (.invokevirtual 135, 3) := by decide +kernel
theorem dX3_doesCount_16 : decode cX3_doesCount 16 = .ok (.iload_n 2, 1) := by decide +kernel
theorem dX3_doesCount_17 : decode cX3_doesCount 17 = .ok (.bipush 30, 2) := by decide +kernel
theorem dX3_doesCount_19 : decode cX3_doesCount 19 = .ok (.irem, 1) := by decide +kernel
theorem dX3_doesCount_20 : decode cX3_doesCount 20 = .ok (.ishr, 1) := by decide +kernel
theorem dX3_doesCount_21 : decode cX3_doesCount 21 = .ok (.iconst 1, 1) := by decide +kernel
theorem dX3_doesCount_22 : decode cX3_doesCount 22 = .ok (.iand, 1) := by decide +kernel
theorem dX3_doesCount_23 : decode cX3_doesCount 23 = .ok (.ifCond .eq 7, 3) := by decide +kernel
theorem dX3_doesCount_26 : decode cX3_doesCount 26 = .ok (.iconst 1, 1) := by decide +kernel
theorem dX3_doesCount_27 : decode cX3_doesCount 27 = .ok (.goto 4, 3) := by decide +kernel
theorem dX3_doesCount_30 : decode cX3_doesCount 30 = .ok (.iconst 0, 1) := by decide +kernel
theorem dX3_doesCount_31 : decode cX3_doesCount 31 = .ok (.ireturn, 1) := by decide +kernel
theorem dX3_countedUpTo_0 : decode cX3_countedUpTo 0 = .ok (.iconst 0, 1) := by decide +kernel
theorem dX3_countedUpTo_1 : decode cX3_countedUpTo 1 = .ok (.istore_n 3, 1) := by decide +kernel
theorem dX3_countedUpTo_2 : decode cX3_countedUpTo 2 = .ok (.iconst 0, 1) := by decide +kernel
theorem dX3_countedUpTo_3 : decode cX3_countedUpTo 3 = .ok (.istore 4, 2) := by decide +kernel
theorem dX3_countedUpTo_5 : decode cX3_countedUpTo 5 = .ok (.iload 4, 2) := by decide +kernel
theorem dX3_countedUpTo_7 : decode cX3_countedUpTo 7 = .ok (.bipush 120, 2) := by decide +kernel
theorem dX3_countedUpTo_9 : decode cX3_countedUpTo 9 = .ok (.if_icmp .ge 37, 3) := by decide +kernel
theorem dX3_countedUpTo_12 : decode cX3_countedUpTo 12 = .ok (.aload_n 0, 1) := by decide +kernel
theorem dX3_countedUpTo_13 : decode cX3_countedUpTo 13 = .ok (.iload_n 1, 1) := by decide +kernel
theorem dX3_countedUpTo_14 : decode cX3_countedUpTo 14 = .ok (.iload 4, 2) := by decide +kernel
theorem dX3_countedUpTo_16 : decode cX3_countedUpTo 16 = .ok (.invokevirtual 135, 3) := by decide +kernel
theorem dX3_countedUpTo_19 : decode cX3_countedUpTo 19 = .ok (.iload_n 2, 1) := by decide +kernel
theorem dX3_countedUpTo_20 : decode cX3_countedUpTo 20 = .ok (.iload 4, 2) := by decide +kernel
theorem dX3_countedUpTo_22 : decode cX3_countedUpTo 22 = .ok (.bipush 30, 2) := by decide +kernel
theorem dX3_countedUpTo_24 : decode cX3_countedUpTo 24 = .ok (.imul, 1) := by decide +kernel
theorem dX3_countedUpTo_25 : decode cX3_countedUpTo 25 = .ok (.isub, 1) := by decide +kernel
theorem dX3_countedUpTo_26 : decode cX3_countedUpTo 26 = .ok (.invokestatic 99, 3) := by decide +kernel
theorem dX3_countedUpTo_29 : decode cX3_countedUpTo 29 = .ok (.iand, 1) := by decide +kernel
theorem dX3_countedUpTo_30 : decode cX3_countedUpTo 30 = .ok (.istore 5, 2) := by decide +kernel
theorem dX3_countedUpTo_32 : decode cX3_countedUpTo 32 = .ok (.iload_n 3, 1) := by decide +kernel
theorem dX3_countedUpTo_33 : decode cX3_countedUpTo 33 = .ok (.iload 5, 2) := by decide +kernel
theorem dX3_countedUpTo_35 : decode cX3_countedUpTo 35 = .ok (.invokestatic 138, 3) := by decide +kernel
theorem dX3_countedUpTo_38 : decode cX3_countedUpTo 38 = .ok (.iadd, 1) := by decide +kernel
theorem dX3_countedUpTo_39 : decode cX3_countedUpTo 39 = .ok (.istore_n 3, 1) := by decide +kernel
theorem dX3_countedUpTo_40 : decode cX3_countedUpTo 40 = .ok (.iinc 4 1, 3) := by decide +kernel
theorem dX3_countedUpTo_43 : decode cX3_countedUpTo 43 = .ok (.goto (-38), 3) := by decide +kernel
theorem dX3_countedUpTo_46 : decode cX3_countedUpTo 46 = .ok (.iload_n 3, 1) := by decide +kernel
theorem dX3_countedUpTo_47 : decode cX3_countedUpTo 47 = .ok (.ireturn, 1) := by decide +kernel
theorem dX3_takenUpTo_0 : decode cX3_takenUpTo 0 = .ok (.aload_n 1, 1) := by decide +kernel
theorem dX3_takenUpTo_1 : decode cX3_takenUpTo 1 = .ok (.ifnonnull 5, 3) := by decide +kernel
theorem dX3_takenUpTo_4 : decode cX3_takenUpTo 4 = .ok (.iconst 0, 1) := by decide +kernel
theorem dX3_takenUpTo_5 : decode cX3_takenUpTo 5 = .ok (.ireturn, 1) := by decide +kernel
theorem dX3_takenUpTo_6 : decode cX3_takenUpTo 6 = .ok (.aload_n 0, 1) := by decide +kernel
theorem dX3_takenUpTo_7 : decode cX3_takenUpTo 7 = .ok (.getfield 30, 3) := by decide +kernel
theorem dX3_takenUpTo_10 : decode cX3_takenUpTo 10 = .ok (.aload_n 1, 1) := by decide +kernel
theorem dX3_takenUpTo_11 : decode cX3_takenUpTo 11 = .ok (.invokevirtual 80, 3) := by decide +kernel
theorem dX3_takenUpTo_14 : decode cX3_takenUpTo 14 = .ok (.iconst 0, 1) := by decide +kernel
theorem dX3_takenUpTo_15 : decode cX3_takenUpTo 15 = .ok (.istore 4, 2) := by decide +kernel
theorem dX3_takenUpTo_17 : decode cX3_takenUpTo 17 = .ok (.iload 4, 2) := by decide +kernel
theorem dX3_takenUpTo_19 : decode cX3_takenUpTo 19 = .ok (.bipush 120, 2) := by decide +kernel
theorem dX3_takenUpTo_21 : decode cX3_takenUpTo 21 = .ok (.if_icmp .ge 41, 3) := by decide +kernel
theorem dX3_takenUpTo_24 : decode cX3_takenUpTo 24 = .ok (.aload_n 0, 1) := by decide +kernel
theorem dX3_takenUpTo_25 : decode cX3_takenUpTo 25 = .ok (.iload_n 2, 1) := by decide +kernel
theorem dX3_takenUpTo_26 : decode cX3_takenUpTo 26 = .ok (.iload 4, 2) := by decide +kernel
theorem dX3_takenUpTo_28 : decode cX3_takenUpTo 28 = .ok (.invokevirtual 135, 3) := by decide +kernel
theorem dX3_takenUpTo_31 : decode cX3_takenUpTo 31 = .ok (.iload_n 3, 1) := by decide +kernel
theorem dX3_takenUpTo_32 : decode cX3_takenUpTo 32 = .ok (.iload 4, 2) := by decide +kernel
theorem dX3_takenUpTo_34 : decode cX3_takenUpTo 34 = .ok (.bipush 30, 2) := by decide +kernel
theorem dX3_takenUpTo_36 : decode cX3_takenUpTo 36 = .ok (.imul, 1) := by decide +kernel
theorem dX3_takenUpTo_37 : decode cX3_takenUpTo 37 = .ok (.isub, 1) := by decide +kernel
theorem dX3_takenUpTo_38 : decode cX3_takenUpTo 38 = .ok (.invokestatic 99, 3) := by decide +kernel
theorem dX3_takenUpTo_41 : decode cX3_takenUpTo 41 = .ok (.iand, 1) := by decide +kernel
theorem dX3_takenUpTo_42 : decode cX3_takenUpTo 42 = .ok (.istore 5, 2) := by decide +kernel
theorem dX3_takenUpTo_44 : decode cX3_takenUpTo 44 = .ok (.aload_n 0, 1) := by decide +kernel
theorem dX3_takenUpTo_45 : decode cX3_takenUpTo 45 = .ok (.getfield 30, 3) := by decide +kernel
theorem dX3_takenUpTo_48 : decode cX3_takenUpTo 48 = .ok (.iload 5, 2) := by decide +kernel
theorem dX3_takenUpTo_50 : decode cX3_takenUpTo 50 = .ok (.ldc 42, 2) := by decide +kernel
theorem dX3_takenUpTo_52 : decode cX3_takenUpTo 52 = .ok (.invokevirtual 95, 3) := by decide +kernel
theorem dX3_takenUpTo_55 : decode cX3_takenUpTo 55 = .ok (.pop, 1) := by decide +kernel
theorem dX3_takenUpTo_56 : decode cX3_takenUpTo 56 = .ok (.iinc 4 1, 3) := by decide +kernel
theorem dX3_takenUpTo_59 : decode cX3_takenUpTo 59 = .ok (.goto (-42), 3) := by decide +kernel
theorem dX3_takenUpTo_62 : decode cX3_takenUpTo 62 = .ok (.aload_n 0, 1) := by decide +kernel
theorem dX3_takenUpTo_63 : decode cX3_takenUpTo 63 = .ok (.getfield 30, 3) := by decide +kernel
theorem dX3_takenUpTo_66 : decode cX3_takenUpTo 66 = .ok (.iconst 0, 1) := by decide +kernel
theorem dX3_takenUpTo_67 : decode cX3_takenUpTo 67 = .ok (.invokevirtual 143, 3) := by decide +kernel
theorem dX3_takenUpTo_70 : decode cX3_takenUpTo 70 = .ok (.ireturn, 1) := by decide +kernel
theorem dX3_fullDay_0 : decode cX3_fullDay 0 = .ok (.iconst 0, 1) := by decide +kernel
theorem dX3_fullDay_1 : decode cX3_fullDay 1 = .ok (.istore_n 1, 1) := by decide +kernel
theorem dX3_fullDay_2 : decode cX3_fullDay 2 = .ok (.iconst 0, 1) := by decide +kernel
theorem dX3_fullDay_3 : decode cX3_fullDay 3 = .ok (.istore_n 2, 1) := by decide +kernel
theorem dX3_fullDay_4 : decode cX3_fullDay 4 = .ok (.iload_n 2, 1) := by decide +kernel
theorem dX3_fullDay_5 : decode cX3_fullDay 5 = .ok (.bipush 12, 2) := by decide +kernel
theorem dX3_fullDay_7 : decode cX3_fullDay 7 = .ok (.if_icmp .ge 33, 3) := by decide +kernel
theorem dX3_fullDay_10 : decode cX3_fullDay 10 = .ok (.aload_n 0, 1) := by decide +kernel
theorem dX3_fullDay_11 : decode cX3_fullDay 11 = .ok (.getfield 34, 3) := by decide +kernel
theorem dX3_fullDay_14 : decode cX3_fullDay 14 = .ok (.iload_n 2, 1) := by decide +kernel
theorem dX3_fullDay_15 : decode cX3_fullDay 15 = .ok (.invokestatic 55, 3) := by decide +kernel
theorem dX3_fullDay_18 : decode cX3_fullDay 18 = .ok (.ifCond .eq 16, 3) := by decide +kernel
theorem dX3_fullDay_21 : decode cX3_fullDay 21 = .ok (.iload_n 1, 1) := by decide +kernel
theorem dX3_fullDay_22 : decode cX3_fullDay 22 = .ok (.aload_n 0, 1) := by decide +kernel
theorem dX3_fullDay_23 : decode cX3_fullDay 23 = .ok (.getfield 15, 3) := by decide +kernel
theorem dX3_fullDay_26 : decode cX3_fullDay 26 = .ok (.iload_n 2, 1) := by decide +kernel
theorem dX3_fullDay_27 : decode cX3_fullDay 27 = .ok (.iaload, 1) := by decide +kernel
theorem dX3_fullDay_28 : decode cX3_fullDay 28 = .ok (.iconst 1, 1) := by decide +kernel
theorem dX3_fullDay_29 : decode cX3_fullDay 29 = .ok (.iadd, 1) := by decide +kernel
theorem dX3_fullDay_30 : decode cX3_fullDay 30 = .ok (.invokestatic 105, 3) := by decide +kernel
theorem dX3_fullDay_33 : decode cX3_fullDay 33 = .ok (.istore_n 1, 1) := by decide +kernel
theorem dX3_fullDay_34 : decode cX3_fullDay 34 = .ok (.iinc 2 1, 3) := by decide +kernel
theorem dX3_fullDay_37 : decode cX3_fullDay 37 = .ok (.goto (-33), 3) := by decide +kernel
theorem dX3_fullDay_40 : decode cX3_fullDay 40 = .ok (.iload_n 1, 1) := by decide +kernel
theorem dX3_fullDay_41 : decode cX3_fullDay 41 = .ok (.sipush 3600, 3) := by decide +kernel
theorem dX3_fullDay_44 : decode cX3_fullDay 44 = .ok (.if_icmp .gt 7, 3) := by decide +kernel
theorem dX3_fullDay_47 : decode cX3_fullDay 47 = .ok (.iload_n 1, 1) := by decide +kernel
theorem dX3_fullDay_48 : decode cX3_fullDay 48 = .ok (.goto 5, 3) := by decide +kernel
theorem dX3_fullDay_51 : decode cX3_fullDay 51 = .ok (.ldc 42, 2) := by decide +kernel
theorem dX3_fullDay_53 : decode cX3_fullDay 53 = .ok (.ireturn, 1) := by decide +kernel
theorem dX3_watchedDay_0 : decode cX3_watchedDay 0 = .ok (.iconst 0, 1) := by decide +kernel
theorem dX3_watchedDay_1 : decode cX3_watchedDay 1 = .ok (.istore_n 3, 1) := by decide +kernel
theorem dX3_watchedDay_2 : decode cX3_watchedDay 2 = .ok (.iconst 0, 1) := by decide +kernel
theorem dX3_watchedDay_3 : decode cX3_watchedDay 3 = .ok (.istore 4, 2) := by decide +kernel
theorem dX3_watchedDay_5 : decode cX3_watchedDay 5 = .ok (.iload 4, 2) := by decide +kernel
theorem dX3_watchedDay_7 : decode cX3_watchedDay 7 = .ok (.bipush 12, 2) := by decide +kernel
theorem dX3_watchedDay_9 : decode cX3_watchedDay 9 = .ok (.if_icmp .ge 85, 3) := by decide +kernel
theorem dX3_watchedDay_12 : decode cX3_watchedDay 12 = .ok (.aload_n 1, 1) := by decide +kernel
theorem dX3_watchedDay_13 : decode cX3_watchedDay 13 = .ok (.iload 4, 2) := by decide +kernel
theorem dX3_watchedDay_15 : decode cX3_watchedDay 15 = .ok (.invokevirtual 43, 3) := by decide +kernel
theorem dX3_watchedDay_18 : decode cX3_watchedDay 18 = .ok (.astore 5, 2) := by decide +kernel
theorem dX3_watchedDay_20 : decode cX3_watchedDay 20 = .ok (.aload 5, 2) := by decide +kernel
theorem dX3_watchedDay_22 : decode cX3_watchedDay 22 = .ok (.ifnull 66, 3) := by decide +kernel
theorem dX3_watchedDay_25 : decode cX3_watchedDay 25 = .ok (.aload_n 0, 1) := by decide +kernel
theorem dX3_watchedDay_26 : decode cX3_watchedDay 26 = .ok (.getfield 34, 3) := by decide +kernel
theorem dX3_watchedDay_29 : decode cX3_watchedDay 29 = .ok (.iload 4, 2) := by decide +kernel
theorem dX3_watchedDay_31 : decode cX3_watchedDay 31 = .ok (.invokestatic 55, 3) := by decide +kernel
theorem dX3_watchedDay_34 : decode cX3_watchedDay 34 = .ok (.ifCond .eq 54, 3) := by decide +kernel
theorem dX3_watchedDay_37 : decode cX3_watchedDay 37 = .ok (.aload 5, 2) := by decide +kernel
theorem dX3_watchedDay_39 : decode cX3_watchedDay 39 = .ok (.getfield 66, 3) := by decide +kernel
theorem dX3_watchedDay_42 : decode cX3_watchedDay 42 = .ok (.iconst 5, 1) := by decide +kernel
theorem dX3_watchedDay_43 : decode cX3_watchedDay 43 = .ok (.if_icmp .ne 11, 3) := by decide +kernel
theorem dX3_watchedDay_46 : decode cX3_watchedDay 46 = .ok (.aload 5, 2) := by decide +kernel
theorem dX3_watchedDay_48 : decode cX3_watchedDay 48 = .ok (.getfield 84, 3) := by decide +kernel
theorem dX3_watchedDay_51 : decode cX3_watchedDay 51 = .ok (.goto 12, 3) := by decide +kernel
theorem dX3_watchedDay_54 : decode cX3_watchedDay 54 = .ok (.aload 5, 2) := by decide +kernel
theorem dX3_watchedDay_56 : decode cX3_watchedDay 56 = .ok (.getfield 84, 3) := by decide +kernel
theorem dX3_watchedDay_59 : decode cX3_watchedDay 59 = .ok (.iload_n 2, 1) := by decide +kernel
theorem dX3_watchedDay_60 : decode cX3_watchedDay 60 = .ok (.invokestatic 146, 3) := by decide +kernel
theorem dX3_watchedDay_63 : decode cX3_watchedDay 63 = .ok (.istore 6, 2) := by decide +kernel
theorem dX3_watchedDay_65 : decode cX3_watchedDay 65 = .ok (.iload_n 3, 1) := by decide +kernel
theorem dX3_watchedDay_66 : decode cX3_watchedDay 66 = .ok (.aload_n 0, 1) := by decide +kernel
theorem dX3_watchedDay_67 : decode cX3_watchedDay 67 = .ok (.iload 4, 2) := by decide +kernel
theorem dX3_watchedDay_69 : decode cX3_watchedDay 69 = .ok (.iload 6, 2) := by decide +kernel
theorem dX3_watchedDay_71 : decode cX3_watchedDay 71 = .ok (.invokevirtual 149, 3) := by decide +kernel
theorem dX3_watchedDay_74 : decode cX3_watchedDay 74 = .ok (.aload_n 0, 1) := by decide +kernel
theorem dX3_watchedDay_75 : decode cX3_watchedDay 75 = .ok (.getfield 15, 3) := by decide +kernel
theorem dX3_watchedDay_78 : decode cX3_watchedDay 78 = .ok (.iload 4, 2) := by decide +kernel
theorem dX3_watchedDay_80 : decode cX3_watchedDay 80 = .ok (.iaload, 1) := by decide +kernel
theorem dX3_watchedDay_81 : decode cX3_watchedDay 81 = .ok (.invokestatic 110, 3) := by decide +kernel
theorem dX3_watchedDay_84 : decode cX3_watchedDay 84 = .ok (.invokestatic 105, 3) := by decide +kernel
theorem dX3_watchedDay_87 : decode cX3_watchedDay 87 = .ok (.istore_n 3, 1) := by decide +kernel
theorem dX3_watchedDay_88 : decode cX3_watchedDay 88 = .ok (.iinc 4 1, 3) := by decide +kernel
theorem dX3_watchedDay_91 : decode cX3_watchedDay 91 = .ok (.goto (-86), 3) := by decide +kernel
theorem dX3_watchedDay_94 : decode cX3_watchedDay 94 = .ok (.iload_n 3, 1) := by decide +kernel
theorem dX3_watchedDay_95 : decode cX3_watchedDay 95 = .ok (.ireturn, 1) := by decide +kernel
theorem dX3_dayOfCount_0 : decode cX3_dayOfCount 0 = .ok (.iload_n 2, 1) := by decide +kernel
theorem dX3_dayOfCount_1 : decode cX3_dayOfCount 1 = .ok (.istore_n 3, 1) := by decide +kernel
theorem dX3_dayOfCount_2 : decode cX3_dayOfCount 2 = .ok (.iload_n 3, 1) := by decide +kernel
theorem dX3_dayOfCount_3 : decode cX3_dayOfCount 3 = .ok (.ifCond .gt 5, 3) := by decide +kernel
theorem dX3_dayOfCount_6 : decode cX3_dayOfCount 6 = .ok (.iconst 0, 1) := by decide +kernel
theorem dX3_dayOfCount_7 : decode cX3_dayOfCount 7 = .ok (.ireturn, 1) := by decide +kernel
theorem dX3_dayOfCount_8 : decode cX3_dayOfCount 8 = .ok (.iconst 0, 1) := by decide +kernel
theorem dX3_dayOfCount_9 : decode cX3_dayOfCount 9 = .ok (.istore 4, 2) := by decide +kernel
theorem dX3_dayOfCount_11 : decode cX3_dayOfCount 11 = .ok (.iload 4, 2) := by decide +kernel
theorem dX3_dayOfCount_13 : decode cX3_dayOfCount 13 = .ok (.bipush 120, 2) := by decide +kernel
theorem dX3_dayOfCount_15 : decode cX3_dayOfCount 15 = .ok (.if_icmp .ge 49, 3) := by decide +kernel
theorem dX3_dayOfCount_18 : decode cX3_dayOfCount 18 = .ok (.aload_n 0, 1) := by decide +kernel
theorem dX3_dayOfCount_19 : decode cX3_dayOfCount 19 = .ok (.iload_n 1, 1) := by decide +kernel
theorem dX3_dayOfCount_20 : decode cX3_dayOfCount 20 = .ok (.iload 4, 2) := by decide +kernel
theorem dX3_dayOfCount_22 : decode cX3_dayOfCount 22 = .ok (.invokevirtual 135, 3) := by decide +kernel
theorem dX3_dayOfCount_25 : decode cX3_dayOfCount 25 = .ok (.istore 5, 2) := by decide +kernel
theorem dX3_dayOfCount_27 : decode cX3_dayOfCount 27 = .ok (.iload 5, 2) := by decide +kernel
theorem dX3_dayOfCount_29 : decode cX3_dayOfCount 29 = .ok (.invokestatic 138, 3) := by decide +kernel
theorem dX3_dayOfCount_32 : decode cX3_dayOfCount 32 = .ok (.istore 6, 2) := by decide +kernel
theorem dX3_dayOfCount_34 : decode cX3_dayOfCount 34 = .ok (.iload 6, 2) := by decide +kernel
theorem dX3_dayOfCount_36 : decode cX3_dayOfCount 36 = .ok (.iload_n 3, 1) := by decide +kernel
theorem dX3_dayOfCount_37 : decode cX3_dayOfCount 37 = .ok (.if_icmp .lt 16, 3) := by decide +kernel
theorem dX3_dayOfCount_40 : decode cX3_dayOfCount 40 = .ok (.iload 4, 2) := by decide +kernel
theorem dX3_dayOfCount_42 : decode cX3_dayOfCount 42 = .ok (.bipush 30, 2) := by decide +kernel
theorem dX3_dayOfCount_44 : decode cX3_dayOfCount 44 = .ok (.imul, 1) := by decide +kernel
theorem dX3_dayOfCount_45 : decode cX3_dayOfCount 45 = .ok (.iload 5, 2) := by decide +kernel
theorem dX3_dayOfCount_47 : decode cX3_dayOfCount 47 = .ok (.iload_n 3, 1) := by decide +kernel
theorem dX3_dayOfCount_48 : decode cX3_dayOfCount 48 = .ok (.invokestatic 152, 3) := by decide +kernel
theorem dX3_dayOfCount_51 : decode cX3_dayOfCount 51 = .ok (.iadd, 1) := by decide +kernel
theorem dX3_dayOfCount_52 : decode cX3_dayOfCount 52 = .ok (.ireturn, 1) := by decide +kernel
theorem dX3_dayOfCount_53 : decode cX3_dayOfCount 53 = .ok (.iload_n 3, 1) := by decide +kernel
theorem dX3_dayOfCount_54 : decode cX3_dayOfCount 54 = .ok (.iload 6, 2) := by decide +kernel
theorem dX3_dayOfCount_56 : decode cX3_dayOfCount 56 = .ok (.isub, 1) := by decide +kernel
theorem dX3_dayOfCount_57 : decode cX3_dayOfCount 57 = .ok (.istore_n 3, 1) := by decide +kernel
theorem dX3_dayOfCount_58 : decode cX3_dayOfCount 58 = .ok (.iinc 4 1, 3) := by decide +kernel
theorem dX3_dayOfCount_61 : decode cX3_dayOfCount 61 = .ok (.goto (-50), 3) := by decide +kernel
theorem dX3_dayOfCount_64 : decode cX3_dayOfCount 64 = .ok (.ldc 42, 2) := by decide +kernel
theorem dX3_dayOfCount_66 : decode cX3_dayOfCount 66 = .ok (.ireturn, 1) := by decide +kernel
theorem dX3_dayOfBit_0 : decode cX3_dayOfBit 0 = .ok (.iconst 0, 1) := by decide +kernel
theorem dX3_dayOfBit_1 : decode cX3_dayOfBit 1 = .ok (.istore_n 2, 1) := by decide +kernel
theorem dX3_dayOfBit_2 : decode cX3_dayOfBit 2 = .ok (.iconst 0, 1) := by decide +kernel
theorem dX3_dayOfBit_3 : decode cX3_dayOfBit 3 = .ok (.istore_n 3, 1) := by decide +kernel
theorem dX3_dayOfBit_4 : decode cX3_dayOfBit 4 = .ok (.iload_n 3, 1) := by decide +kernel
theorem dX3_dayOfBit_5 : decode cX3_dayOfBit 5 = .ok (.bipush 30, 2) := by decide +kernel
theorem dX3_dayOfBit_7 : decode cX3_dayOfBit 7 = .ok (.if_icmp .ge 24, 3) := by decide +kernel
theorem dX3_dayOfBit_10 : decode cX3_dayOfBit 10 = .ok (.iload_n 2, 1) := by decide +kernel
theorem dX3_dayOfBit_11 : decode cX3_dayOfBit 11 = .ok (.iload_n 0, 1) := by decide +kernel
theorem dX3_dayOfBit_12 : decode cX3_dayOfBit 12 = .ok (.iload_n 3, 1) := by decide +kernel
theorem dX3_dayOfBit_13 : decode cX3_dayOfBit 13 = .ok (.ishr, 1) := by decide +kernel
theorem dX3_dayOfBit_14 : decode cX3_dayOfBit 14 = .ok (.iconst 1, 1) := by decide +kernel
theorem dX3_dayOfBit_15 : decode cX3_dayOfBit 15 = .ok (.iand, 1) := by decide +kernel
theorem dX3_dayOfBit_16 : decode cX3_dayOfBit 16 = .ok (.iadd, 1) := by decide +kernel
theorem dX3_dayOfBit_17 : decode cX3_dayOfBit 17 = .ok (.istore_n 2, 1) := by decide +kernel
theorem dX3_dayOfBit_18 : decode cX3_dayOfBit 18 = .ok (.iload_n 2, 1) := by decide +kernel
theorem dX3_dayOfBit_19 : decode cX3_dayOfBit 19 = .ok (.iload_n 1, 1) := by decide +kernel
theorem dX3_dayOfBit_20 : decode cX3_dayOfBit 20 = .ok (.if_icmp .ne 5, 3) := by decide +kernel
theorem dX3_dayOfBit_23 : decode cX3_dayOfBit 23 = .ok (.iload_n 3, 1) := by decide +kernel
theorem dX3_dayOfBit_24 : decode cX3_dayOfBit 24 = .ok (.ireturn, 1) := by decide +kernel
theorem dX3_dayOfBit_25 : decode cX3_dayOfBit 25 = .ok (.iinc 3 1, 3) := by decide +kernel
theorem dX3_dayOfBit_28 : decode cX3_dayOfBit 28 = .ok (.goto (-24), 3) := by decide +kernel
theorem dX3_dayOfBit_31 : decode cX3_dayOfBit 31 = .ok (.bipush 30, 2) := by decide +kernel
theorem dX3_dayOfBit_33 : decode cX3_dayOfBit 33 = .ok (.ireturn, 1) := by decide +kernel
theorem dX4_init_0 : decode cX4_init 0 = .ok (.aload_n 0, 1) := by decide +kernel
theorem dX4_init_1 : decode cX4_init 1 = .ok (.invokespecial 3, 3) := by decide +kernel
theorem dX4_init_4 : decode cX4_init 4 = .ok (.aload_n 0, 1) := by decide +kernel
theorem dX4_init_5 : decode cX4_init 5 = .ok (.bipush 6, 2) := by decide +kernel
theorem dX4_init_7 : decode cX4_init 7 = .ok (.anewarray 9, 3) := by decide +kernel
theorem dX4_init_10 : decode cX4_init 10 = .ok (.putfield 11, 3) := by decide +kernel
theorem dX4_init_13 : decode cX4_init 13 = .ok (.aload_n 0, 1) := by decide +kernel
theorem dX4_init_14 : decode cX4_init 14 = .ok (.iconst 0, 1) := by decide +kernel
theorem dX4_init_15 : decode cX4_init 15 = .ok (.putfield 17, 3) := by decide +kernel
theorem dX4_init_18 : decode cX4_init 18 = .ok (.iconst 0, 1) := by decide +kernel
theorem dX4_init_19 : decode cX4_init 19 = .ok (.istore_n 1, 1) := by decide +kernel
theorem dX4_init_20 : decode cX4_init 20 = .ok (.iload_n 1, 1) := by decide +kernel
theorem dX4_init_21 : decode cX4_init 21 = .ok (.bipush 6, 2) := by decide +kernel
theorem dX4_init_23 : decode cX4_init 23 = .ok (.if_icmp .ge 22, 3) := by decide +kernel
theorem dX4_init_26 : decode cX4_init 26 = .ok (.aload_n 0, 1) := by decide +kernel
theorem dX4_init_27 : decode cX4_init 27 = .ok (.getfield 11, 3) := by decide +kernel
theorem dX4_init_30 : decode cX4_init 30 = .ok (.iload_n 1, 1) := by decide +kernel
theorem dX4_init_31 : decode cX4_init 31 = .ok (.new 9, 3) := by decide +kernel
theorem dX4_init_34 : decode cX4_init 34 = .ok (.dup, 1) := by decide +kernel
theorem dX4_init_35 : decode cX4_init 35 = .ok (.invokespecial 21, 3) := by decide +kernel
theorem dX4_init_38 : decode cX4_init 38 = .ok (.aastore, 1) := by decide +kernel
theorem dX4_init_39 : decode cX4_init 39 = .ok (.iinc 1 1, 3) := by decide +kernel
theorem dX4_init_42 : decode cX4_init 42 = .ok (.goto (-22), 3) := by decide +kernel
theorem dX4_init_45 : decode cX4_init 45 = .ok (.return_, 1) := by decide +kernel
theorem dX4_fileOf_0 : decode cX4_fileOf 0 = .ok (.iload_n 1, 1) := by decide +kernel
theorem dX4_fileOf_1 : decode cX4_fileOf 1 = .ok (.ifCond .lt 18, 3) := by decide +kernel
theorem dX4_fileOf_4 : decode cX4_fileOf 4 = .ok (.iload_n 1, 1) := by decide +kernel
theorem dX4_fileOf_5 : decode cX4_fileOf 5 = .ok (.bipush 6, 2) := by decide +kernel
theorem dX4_fileOf_7 : decode cX4_fileOf 7 = .ok (.if_icmp .ge 12, 3) := by decide +kernel
theorem dX4_fileOf_10 : decode cX4_fileOf 10 = .ok (.aload_n 0, 1) := by decide +kernel
theorem dX4_fileOf_11 : decode cX4_fileOf 11 = .ok (.getfield 11, 3) := by decide +kernel
theorem dX4_fileOf_14 : decode cX4_fileOf 14 = .ok (.iload_n 1, 1) := by decide +kernel
theorem dX4_fileOf_15 : decode cX4_fileOf 15 = .ok (.aaload, 1) := by decide +kernel
theorem dX4_fileOf_16 : decode cX4_fileOf 16 = .ok (.goto 4, 3) := by decide +kernel
theorem dX4_fileOf_19 : decode cX4_fileOf 19 = .ok (.aconst_null, 1) := by decide +kernel
theorem dX4_fileOf_20 : decode cX4_fileOf 20 = .ok (.areturn, 1) := by decide +kernel
theorem dX4_learnUpTo_0 : decode cX4_learnUpTo 0 = .ok (.aload_n 0, 1) := by decide +kernel
theorem dX4_learnUpTo_1 : decode cX4_learnUpTo 1 = .ok (.getfield 17, 3) := by decide +kernel
theorem dX4_learnUpTo_4 : decode cX4_learnUpTo 4 = .ok (.iload_n 2, 1) := by decide +kernel
theorem dX4_learnUpTo_5 : decode cX4_learnUpTo 5 = .ok (.if_icmp .le 7, 3) := by decide +kernel
theorem dX4_learnUpTo_8 : decode cX4_learnUpTo 8 = .ok (.aload_n 0, 1) := by decide +kernel
theorem dX4_learnUpTo_9 : decode cX4_learnUpTo 9 = .ok (.invokevirtual 22, 3) := by decide +kernel
theorem dX4_learnUpTo_12 : decode cX4_learnUpTo 12 = .ok (.aload_n 0, 1) := by decide +kernel
theorem dX4_learnUpTo_13 : decode cX4_learnUpTo 13 = .ok (.getfield 17, 3) := by decide +kernel
theorem dX4_learnUpTo_16 : decode cX4_learnUpTo 16 = .ok (.istore_n 3, 1) := by decide +kernel
theorem dX4_learnUpTo_17 : decode cX4_learnUpTo 17 = .ok (.iload_n 3, 1) := by decide +kernel
theorem dX4_learnUpTo_18 : decode cX4_learnUpTo 18 = .ok (.iload_n 2, 1) := by decide +kernel
theorem dX4_learnUpTo_19 : decode cX4_learnUpTo 19 = .ok (.if_icmp .ge 28, 3) := by decide +kernel
theorem dX4_learnUpTo_22 : decode cX4_learnUpTo 22 = .ok (.iload_n 3, 1) := by decide +kernel
theorem dX4_learnUpTo_23 : decode cX4_learnUpTo 23 = .ok (.aload_n 1, 1) := by decide +kernel
theorem dX4_learnUpTo_24 : decode cX4_learnUpTo 24 = .ok (.arraylength, 1) := by decide +kernel
theorem dX4_learnUpTo_25 : decode cX4_learnUpTo 25 = .ok (.if_icmp .ge 22, 3) := by decide +kernel
theorem dX4_learnUpTo_28 : decode cX4_learnUpTo 28 = .ok (.aload_n 1, 1) := by decide +kernel
theorem dX4_learnUpTo_29 : decode cX4_learnUpTo 29 = .ok (.iload_n 3, 1) := by decide +kernel
theorem dX4_learnUpTo_30 : decode cX4_learnUpTo 30 = .ok (.aaload, 1) := by decide +kernel
theorem dX4_learnUpTo_31 : decode cX4_learnUpTo 31 = .ok (.ifnull 10, 3) := by decide +kernel
theorem dX4_learnUpTo_34 : decode cX4_learnUpTo 34 = .ok (.aload_n 0, 1) := by decide +kernel
theorem dX4_learnUpTo_35 : decode cX4_learnUpTo 35 = .ok (.aload_n 1, 1) := by decide +kernel
theorem dX4_learnUpTo_36 : decode cX4_learnUpTo 36 = .ok (.iload_n 3, 1) := by decide +kernel
theorem dX4_learnUpTo_37 : decode cX4_learnUpTo 37 = .ok (.aaload, 1) := by decide +kernel
theorem dX4_learnUpTo_38 : decode cX4_learnUpTo 38 = .ok (.invokevirtual 25, 3) := by decide +kernel
theorem dX4_learnUpTo_41 : decode cX4_learnUpTo 41 = .ok (.iinc 3 1, 3) := by decide +kernel
theorem dX4_learnUpTo_44 : decode cX4_learnUpTo 44 = .ok (.goto (-27), 3) := by decide +kernel
theorem dX4_learnUpTo_47 : decode cX4_learnUpTo 47 = .ok (.aload_n 0, 1) := by decide +kernel
theorem dX4_learnUpTo_48 : decode cX4_learnUpTo 48 = .ok (.iload_n 2, 1) := by decide +kernel
theorem dX4_learnUpTo_49 : decode cX4_learnUpTo 49 = .ok (.putfield 17, 3) := by decide +kernel
theorem dX4_learnUpTo_52 : decode cX4_learnUpTo 52 = .ok (.return_, 1) := by decide +kernel
theorem dX4_wipe_0 : decode cX4_wipe 0 = .ok (.iconst 0, 1) := by decide +kernel
theorem dX4_wipe_1 : decode cX4_wipe 1 = .ok (.istore_n 1, 1) := by decide +kernel
theorem dX4_wipe_2 : decode cX4_wipe 2 = .ok (.iload_n 1, 1) := by decide +kernel
theorem dX4_wipe_3 : decode cX4_wipe 3 = .ok (.bipush 6, 2) := by decide +kernel
theorem dX4_wipe_5 : decode cX4_wipe 5 = .ok (.if_icmp .ge 23, 3) := by decide +kernel
theorem dX4_wipe_8 : decode cX4_wipe 8 = .ok (.aload_n 0, 1) := by decide +kernel
theorem dX4_wipe_9 : decode cX4_wipe 9 = .ok (.iload_n 1, 1) := by decide +kernel
theorem dX4_wipe_10 : decode cX4_wipe 10 = .ok (.invokevirtual 29, 3) := by decide +kernel
theorem dX4_wipe_13 : decode cX4_wipe 13 = .ok (.astore_n 2, 1) := by decide +kernel
theorem dX4_wipe_14 : decode cX4_wipe 14 = .ok (.aload_n 2, 1) := by decide +kernel
theorem dX4_wipe_15 : decode cX4_wipe 15 = .ok (.ifnull 7, 3) := by decide +kernel
theorem dX4_wipe_18 : decode cX4_wipe 18 = .ok (.aload_n 2, 1) := by decide +kernel
theorem dX4_wipe_19 : decode cX4_wipe 19 = .ok (.invokevirtual 33, 3) := by decide +kernel
theorem dX4_wipe_22 : decode cX4_wipe 22 = .ok (.iinc 1 1, 3) := by decide +kernel
theorem dX4_wipe_25 : decode cX4_wipe 25 = .ok (.goto (-23), 3) := by decide +kernel
theorem dX4_wipe_28 : decode cX4_wipe 28 = .ok (.aload_n 0, 1) := by decide +kernel
theorem dX4_wipe_29 : decode cX4_wipe 29 = .ok (.iconst 0, 1) := by decide +kernel
theorem dX4_wipe_30 : decode cX4_wipe 30 = .ok (.putfield 17, 3) := by decide +kernel
theorem dX4_wipe_33 : decode cX4_wipe 33 = .ok (.return_, 1) := by decide +kernel
theorem dX4_learn_0 : decode cX4_learn 0 = .ok (.aload_n 0, 1) := by decide +kernel
theorem dX4_learn_1 : decode cX4_learn 1 = .ok (.aload_n 1, 1) := by decide +kernel
theorem dX4_learn_2 : decode cX4_learn 2 = .ok (.getfield 34, 3) := by decide +kernel
theorem dX4_learn_5 : decode cX4_learn 5 = .ok (.invokevirtual 29, 3) := by decide +kernel
theorem dX4_learn_8 : decode cX4_learn 8 = .ok (.astore_n 2, 1) := by decide +kernel
theorem dX4_learn_9 : decode cX4_learn 9 = .ok (.aload_n 2, 1) := by decide +kernel
theorem dX4_learn_10 : decode cX4_learn 10 = .ok (.ifnonnull 4, 3) := by decide +kernel
theorem dX4_learn_13 : decode cX4_learn 13 = .ok (.return_, 1) := by decide +kernel
theorem dX4_learn_14 : decode cX4_learn 14 = .ok (.aload_n 1, 1) := by decide +kernel
theorem dX4_learn_15 : decode cX4_learn 15 = .ok (.getfield 39, 3) := by decide +kernel
theorem dX4_learn_18 : decode cX4_learn 18 = .ok (.tableswitch 147 5 11 #[42, 69, 96, 107, 147, 147, 136], 42) := by decide +kernel
theorem dX4_learn_60 : decode cX4_learn 60 = .ok (.aload_n 2, 1) := by decide +kernel
theorem dX4_learn_61 : decode cX4_learn 61 = .ok (.aload_n 1, 1) := by decide +kernel
theorem dX4_learn_62 : decode cX4_learn 62 = .ok (.getfield 42, 3) := by decide +kernel
theorem dX4_learn_65 : decode cX4_learn 65 = .ok (.aload_n 1, 1) := by decide +kernel
theorem dX4_learn_66 : decode cX4_learn 66 = .ok (.getfield 45, 3) := by decide +kernel
theorem dX4_learn_69 : decode cX4_learn 69 = .ok (.ifCond .eq 7, 3) := by decide +kernel
theorem dX4_learn_72 : decode cX4_learn 72 = .ok (.iconst 1, 1) := by decide +kernel
theorem dX4_learn_73 : decode cX4_learn 73 = .ok (.goto 4, 3) := by decide +kernel
theorem dX4_learn_76 : decode cX4_learn 76 = .ok (.iconst 0, 1) := by decide +kernel
theorem dX4_learn_77 : decode cX4_learn 77 = .ok (.aload_n 1, 1) := by decide +kernel
theorem dX4_learn_78 : decode cX4_learn 78 = .ok (.getfield 48, 3) := by decide +kernel
theorem dX4_learn_81 : decode cX4_learn 81 = .ok (.invokevirtual 51, 3) := by decide +kernel
theorem dX4_learn_84 : decode cX4_learn 84 = .ok (.goto 87, 3) := by decide +kernel
theorem dX4_learn_87 : decode cX4_learn 87 = .ok (.aload_n 2, 1) := by decide +kernel
theorem dX4_learn_88 : decode cX4_learn 88 = .ok (.aload_n 1, 1) := by decide +kernel
theorem dX4_learn_89 : decode cX4_learn 89 = .ok (.getfield 42, 3) := by decide +kernel
theorem dX4_learn_92 : decode cX4_learn 92 = .ok (.aload_n 1, 1) := by decide +kernel
theorem dX4_learn_93 : decode cX4_learn 93 = .ok (.getfield 45, 3) := by decide +kernel
theorem dX4_learn_96 : decode cX4_learn 96 = .ok (.aload_n 1, 1) := by decide +kernel
theorem dX4_learn_97 : decode cX4_learn 97 = .ok (.getfield 48, 3) := by decide +kernel
theorem dX4_learn_100 : decode cX4_learn 100 = .ok (.ifCond .eq 7, 3) := by decide +kernel
theorem dX4_learn_103 : decode cX4_learn 103 = .ok (.iconst 1, 1) := by decide +kernel
theorem dX4_learn_104 : decode cX4_learn 104 = .ok (.goto 4, 3) := by decide +kernel
theorem dX4_learn_107 : decode cX4_learn 107 = .ok (.iconst 0, 1) := by decide +kernel
theorem dX4_learn_108 : decode cX4_learn 108 = .ok (.invokevirtual 55, 3) := by decide +kernel
theorem dX4_learn_111 : decode cX4_learn 111 = .ok (.goto 60, 3) := by decide +kernel
theorem dX4_learn_114 : decode cX4_learn 114 = .ok (.aload_n 2, 1) := by decide +kernel
theorem dX4_learn_115 : decode cX4_learn 115 = .ok (.aload_n 1, 1) := by decide +kernel
theorem dX4_learn_116 : decode cX4_learn 116 = .ok (.getfield 42, 3) := by decide +kernel
theorem dX4_learn_119 : decode cX4_learn 119 = .ok (.invokevirtual 59, 3) := by decide +kernel
theorem dX4_learn_122 : decode cX4_learn 122 = .ok (.goto 49, 3) := by decide +kernel
theorem dX4_learn_125 : decode cX4_learn 125 = .ok (.aload_n 0, 1) := by decide +kernel
theorem dX4_learn_126 : decode cX4_learn 126 = .ok (.aload_n 1, 1) := by decide +kernel
theorem dX4_learn_127 : decode cX4_learn 127 = .ok (.getfield 45, 3) := by decide +kernel
theorem dX4_learn_130 : decode cX4_learn 130 = .ok (.invokevirtual 29, 3) := by decide +kernel
theorem dX4_learn_133 : decode cX4_learn 133 = .ok (.astore_n 3, 1) := by decide +kernel
theorem dX4_learn_134 : decode cX4_learn 134 = .ok (.aload_n 3, 1) := by decide +kernel
theorem dX4_learn_135 : decode cX4_learn 135 = .ok (.ifnull 36, 3) := by decide +kernel
theorem dX4_learn_138 : decode cX4_learn 138 = .ok (.aload_n 3, 1) := by decide +kernel
theorem dX4_learn_139 : decode cX4_learn 139 = .ok (.aload_n 2, 1) := by decide +kernel
theorem dX4_learn_140 : decode cX4_learn 140 = .ok (.aload_n 1, 1) := by decide +kernel
theorem dX4_learn_141 : decode cX4_learn 141 = .ok (.getfield 42, 3) := by decide +kernel
theorem dX4_learn_144 : decode cX4_learn 144 = .ok (.aload_n 1, 1) := by decide +kernel
theorem dX4_learn_145 : decode cX4_learn 145 = .ok (.getfield 48, 3) := by decide +kernel
theorem dX4_learn_148 : decode cX4_learn 148 = .ok (.invokevirtual 63, 3) := by decide +kernel
theorem dX4_learn_151 : decode cX4_learn 151 = .ok (.goto 20, 3) := by decide +kernel
theorem dX4_learn_154 : decode cX4_learn 154 = .ok (.aload_n 2, 1) := by decide +kernel
theorem dX4_learn_155 : decode cX4_learn 155 = .ok (.aload_n 1, 1) := by decide +kernel
theorem dX4_learn_156 : decode cX4_learn 156 = .ok (.getfield 42, 3) := by decide +kernel
theorem dX4_learn_159 : decode cX4_learn 159 = .ok (.putfield 67, 3) := by decide +kernel
theorem dX4_learn_162 : decode cX4_learn 162 = .ok (.goto 9, 3) := by decide +kernel
theorem dX4_learn_165 : decode cX4_learn 165 = .ok (.aload_n 0, 1) := by decide +kernel
theorem dX4_learn_166 : decode cX4_learn 166 = .ok (.aload_n 2, 1) := by decide +kernel
theorem dX4_learn_167 : decode cX4_learn 167 = .ok (.aload_n 1, 1) := by decide +kernel
theorem dX4_learn_168 : decode cX4_learn 168 = .ok (.invokevirtual 70, 3) := by decide +kernel
theorem dX4_learn_171 : decode cX4_learn 171 = .ok (.return_, 1) := by decide +kernel
theorem dX4_learnOfPlace_0 : decode cX4_learnOfPlace 0 = .ok (.aload_n 1, 1) := by decide +kernel
theorem dX4_learnOfPlace_1 : decode cX4_learnOfPlace 1 = .ok (.aload_n 2, 1) := by decide +kernel
theorem dX4_learnOfPlace_2 : decode cX4_learnOfPlace 2 = .ok (.getfield 42, 3) := by decide +kernel
theorem dX4_learnOfPlace_5 : decode cX4_learnOfPlace 5 = .ok (.invokevirtual 74, 3) := by decide +kernel
theorem dX4_learnOfPlace_8 : decode cX4_learnOfPlace 8 = .ok (.astore_n 3, 1) := by decide +kernel
theorem dX4_learnOfPlace_9 : decode cX4_learnOfPlace 9 = .ok (.aload_n 3, 1) := by decide +kernel
theorem dX4_learnOfPlace_10 : decode cX4_learnOfPlace 10 = .ok (.ifnonnull 4, 3) := by decide +kernel
theorem dX4_learnOfPlace_13 : decode cX4_learnOfPlace 13 = .ok (.return_, 1) := by decide +kernel
theorem dX4_learnOfPlace_14 : decode cX4_learnOfPlace 14 = .ok (.aload_n 2, 1) := by decide +kernel
theorem dX4_learnOfPlace_15 : decode cX4_learnOfPlace 15 = .ok (.getfield 39, 3) := by decide +kernel
theorem dX4_learnOfPlace_18 : decode cX4_learnOfPlace 18 = .ok (.tableswitch 233 0 12 #[66, 74, 104, 139, 174, 233, 233, 233, 233, 198, 217, 233, 89], 66) := by decide +kernel
theorem dX4_learnOfPlace_84 : decode cX4_learnOfPlace 84 = .ok (.aload_n 3, 1) := by decide +kernel
theorem dX4_learnOfPlace_85 : decode cX4_learnOfPlace 85 = .ok (.iconst 1, 1) := by decide +kernel
theorem dX4_learnOfPlace_86 : decode cX4_learnOfPlace 86 = .ok (.putfield 78, 3) := by decide +kernel
theorem dX4_learnOfPlace_89 : decode cX4_learnOfPlace 89 = .ok (.goto 162, 3) := by decide +kernel
theorem dX4_learnOfPlace_92 : decode cX4_learnOfPlace 92 = .ok (.aload_n 3, 1) := by decide +kernel
theorem dX4_learnOfPlace_93 : decode cX4_learnOfPlace 93 = .ok (.aload_n 2, 1) := by decide +kernel
theorem dX4_learnOfPlace_94 : decode cX4_learnOfPlace 94 = .ok (.getfield 45, 3) := by decide +kernel
theorem dX4_learnOfPlace_97 : decode cX4_learnOfPlace 97 = .ok (.aload_n 2, 1) := by decide +kernel
theorem dX4_learnOfPlace_98 : decode cX4_learnOfPlace 98 = .ok (.getfield 48, 3) := by decide +kernel
theorem dX4_learnOfPlace_101 : decode cX4_learnOfPlace 101 = .ok (.invokestatic 83, 3) := by decide +kernel
theorem dX4_learnOfPlace_104 : decode cX4_learnOfPlace 104 = .ok (.goto 147, 3) := by decide +kernel
theorem dX4_learnOfPlace_107 : decode cX4_learnOfPlace 107 = .ok (.aload_n 3, 1) := by decide +kernel
theorem dX4_learnOfPlace_108 : decode cX4_learnOfPlace 108 = .ok (.aload_n 2, 1) := by decide +kernel
theorem dX4_learnOfPlace_109 : decode cX4_learnOfPlace 109 = .ok (.getfield 45, 3) := by decide +kernel
theorem dX4_learnOfPlace_112 : decode cX4_learnOfPlace 112 = .ok (.aload_n 2, 1) := by decide +kernel
theorem dX4_learnOfPlace_113 : decode cX4_learnOfPlace 113 = .ok (.getfield 87, 3) := by decide +kernel
theorem dX4_learnOfPlace_116 : decode cX4_learnOfPlace 116 = .ok (.invokestatic 83, 3) := by decide +kernel
theorem dX4_learnOfPlace_119 : decode cX4_learnOfPlace 119 = .ok (.goto 132, 3) := by decide +kernel
theorem dX4_learnOfPlace_122 : decode cX4_learnOfPlace 122 = .ok (.aload_n 3, 1) := by decide +kernel
theorem dX4_learnOfPlace_123 : decode cX4_learnOfPlace 123 = .ok (.aload_n 2, 1) := by decide +kernel
theorem dX4_learnOfPlace_124 : decode cX4_learnOfPlace 124 = .ok (.getfield 45, 3) := by decide +kernel
theorem dX4_learnOfPlace_127 : decode cX4_learnOfPlace 127 = .ok (.putfield 78, 3) := by decide +kernel
theorem dX4_learnOfPlace_130 : decode cX4_learnOfPlace 130 = .ok (.aload_n 3, 1) := by decide +kernel
theorem dX4_learnOfPlace_131 : decode cX4_learnOfPlace 131 = .ok (.aload_n 2, 1) := by decide +kernel
theorem dX4_learnOfPlace_132 : decode cX4_learnOfPlace 132 = .ok (.getfield 48, 3) := by decide +kernel
theorem dX4_learnOfPlace_135 : decode cX4_learnOfPlace 135 = .ok (.putfield 90, 3) := by decide +kernel
theorem dX4_learnOfPlace_138 : decode cX4_learnOfPlace 138 = .ok (.aload_n 3, 1) := by decide +kernel
theorem dX4_learnOfPlace_139 : decode cX4_learnOfPlace 139 = .ok (.aload_n 2, 1) := by decide +kernel
theorem dX4_learnOfPlace_140 : decode cX4_learnOfPlace 140 = .ok (.getfield 93, 3) := by decide +kernel
theorem dX4_learnOfPlace_143 : decode cX4_learnOfPlace 143 = .ok (.putfield 96, 3) := by decide +kernel
theorem dX4_learnOfPlace_146 : decode cX4_learnOfPlace 146 = .ok (.aload_n 3, 1) := by decide +kernel
theorem dX4_learnOfPlace_147 : decode cX4_learnOfPlace 147 = .ok (.aload_n 2, 1) := by decide +kernel
theorem dX4_learnOfPlace_148 : decode cX4_learnOfPlace 148 = .ok (.getfield 97, 3) := by decide +kernel
theorem dX4_learnOfPlace_151 : decode cX4_learnOfPlace 151 = .ok (.putfield 100, 3) := by decide +kernel
theorem dX4_learnOfPlace_154 : decode cX4_learnOfPlace 154 = .ok (.goto 97, 3) := by decide +kernel
theorem dX4_learnOfPlace_157 : decode cX4_learnOfPlace 157 = .ok (.aload_n 3, 1) := by decide +kernel
theorem dX4_learnOfPlace_158 : decode cX4_learnOfPlace 158 = .ok (.aload_n 2, 1) := by decide +kernel
theorem dX4_learnOfPlace_159 : decode cX4_learnOfPlace 159 = .ok (.getfield 45, 3) := by decide +kernel
theorem dX4_learnOfPlace_162 : decode cX4_learnOfPlace 162 = .ok (.putfield 78, 3) := by decide +kernel
theorem dX4_learnOfPlace_165 : decode cX4_learnOfPlace 165 = .ok (.aload_n 3, 1) := by decide +kernel
theorem dX4_learnOfPlace_166 : decode cX4_learnOfPlace 166 = .ok (.aload_n 2, 1) := by decide +kernel
theorem dX4_learnOfPlace_167 : decode cX4_learnOfPlace 167 = .ok (.getfield 48, 3) := by decide +kernel
theorem dX4_learnOfPlace_170 : decode cX4_learnOfPlace 170 = .ok (.putfield 90, 3) := by decide +kernel
theorem dX4_learnOfPlace_173 : decode cX4_learnOfPlace 173 = .ok (.aload_n 3, 1) := by decide +kernel
theorem dX4_learnOfPlace_174 : decode cX4_learnOfPlace 174 = .ok (.aload_n 2, 1) := by decide +kernel
theorem dX4_learnOfPlace_175 : decode cX4_learnOfPlace 175 = .ok (.getfield 93, 3) := by decide +kernel
theorem dX4_learnOfPlace_178 : decode cX4_learnOfPlace 178 = .ok (.putfield 103, 3) := by decide +kernel
theorem dX4_learnOfPlace_181 : decode cX4_learnOfPlace 181 = .ok (.aload_n 3, 1) := by decide +kernel
theorem dX4_learnOfPlace_182 : decode cX4_learnOfPlace 182 = .ok (.aload_n 2, 1) := by decide +kernel
theorem dX4_learnOfPlace_183 : decode cX4_learnOfPlace 183 = .ok (.getfield 97, 3) := by decide +kernel
theorem dX4_learnOfPlace_186 : decode cX4_learnOfPlace 186 = .ok (.putfield 100, 3) := by decide +kernel
theorem dX4_learnOfPlace_189 : decode cX4_learnOfPlace 189 = .ok (.goto 62, 3) := by decide +kernel
theorem dX4_learnOfPlace_192 : decode cX4_learnOfPlace 192 = .ok (.aload_n 3, 1) := by decide +kernel
theorem dX4_learnOfPlace_193 : decode cX4_learnOfPlace 193 = .ok (.bipush 8, 2) := by decide +kernel
theorem dX4_learnOfPlace_195 : decode cX4_learnOfPlace 195 = .ok (.putfield 78, 3) := by decide +kernel
theorem dX4_learnOfPlace_198 : decode cX4_learnOfPlace 198 = .ok (.aload_n 1, 1) := by decide +kernel
theorem dX4_learnOfPlace_199 : decode cX4_learnOfPlace 199 = .ok (.aload_n 2, 1) := by decide +kernel
theorem dX4_learnOfPlace_200 : decode cX4_learnOfPlace 200 = .ok (.getfield 45, 3) := by decide +kernel
theorem dX4_learnOfPlace_203 : decode cX4_learnOfPlace 203 = .ok (.invokevirtual 74, 3) := by decide +kernel
theorem dX4_learnOfPlace_206 : decode cX4_learnOfPlace 206 = .ok (.aload_n 2, 1) := by decide +kernel
theorem dX4_learnOfPlace_207 : decode cX4_learnOfPlace 207 = .ok (.getfield 42, 3) := by decide +kernel
theorem dX4_learnOfPlace_210 : decode cX4_learnOfPlace 210 = .ok (.invokestatic 106, 3) := by decide +kernel
theorem dX4_learnOfPlace_213 : decode cX4_learnOfPlace 213 = .ok (.goto 38, 3) := by decide +kernel
theorem dX4_learnOfPlace_216 : decode cX4_learnOfPlace 216 = .ok (.aload_n 3, 1) := by decide +kernel
theorem dX4_learnOfPlace_217 : decode cX4_learnOfPlace 217 = .ok (.aload_n 2, 1) := by decide +kernel
theorem dX4_learnOfPlace_218 : decode cX4_learnOfPlace 218 = .ok (.getfield 45, 3) := by decide +kernel
theorem dX4_learnOfPlace_221 : decode cX4_learnOfPlace 221 = .ok (.putfield 110, 3) := by decide +kernel
theorem dX4_learnOfPlace_224 : decode cX4_learnOfPlace 224 = .ok (.aload_n 3, 1) := by decide +kernel
theorem dX4_learnOfPlace_225 : decode cX4_learnOfPlace 225 = .ok (.aload_n 2, 1) := by decide +kernel
theorem dX4_learnOfPlace_226 : decode cX4_learnOfPlace 226 = .ok (.getfield 48, 3) := by decide +kernel
theorem dX4_learnOfPlace_229 : decode cX4_learnOfPlace 229 = .ok (.putfield 113, 3) := by decide +kernel
theorem dX4_learnOfPlace_232 : decode cX4_learnOfPlace 232 = .ok (.goto 19, 3) := by decide +kernel
theorem dX4_learnOfPlace_235 : decode cX4_learnOfPlace 235 = .ok (.aload_n 3, 1) := by decide +kernel
theorem dX4_learnOfPlace_236 : decode cX4_learnOfPlace 236 = .ok (.dup, 1) := by decide +kernel
theorem dX4_learnOfPlace_237 : decode cX4_learnOfPlace 237 = .ok (.getfield 116, 3) := by decide +kernel
theorem dX4_learnOfPlace_240 : decode cX4_learnOfPlace 240 = .ok (.aload_n 2, 1) := by decide +kernel
theorem dX4_learnOfPlace_241 : decode cX4_learnOfPlace 241 = .ok (.getfield 45, 3) := by decide +kernel
theorem dX4_learnOfPlace_244 : decode cX4_learnOfPlace 244 = .ok (.iadd, 1) := by decide +kernel
theorem dX4_learnOfPlace_245 : decode cX4_learnOfPlace 245 = .ok (.putfield 116, 3) := by decide +kernel
theorem dX4_learnOfPlace_248 : decode cX4_learnOfPlace 248 = .ok (.goto 3, 3) := by decide +kernel
theorem dX4_learnOfPlace_251 : decode cX4_learnOfPlace 251 = .ok (.return_, 1) := by decide +kernel
theorem dX4_putTerm_0 : decode cX4_putTerm 0 = .ok (.aload_n 0, 1) := by decide +kernel
theorem dX4_putTerm_1 : decode cX4_putTerm 1 = .ok (.iconst 2, 1) := by decide +kernel
theorem dX4_putTerm_2 : decode cX4_putTerm 2 = .ok (.putfield 78, 3) := by decide +kernel
theorem dX4_putTerm_5 : decode cX4_putTerm 5 = .ok (.aload_n 0, 1) := by decide +kernel
theorem dX4_putTerm_6 : decode cX4_putTerm 6 = .ok (.iload_n 1, 1) := by decide +kernel
theorem dX4_putTerm_7 : decode cX4_putTerm 7 = .ok (.putfield 90, 3) := by decide +kernel
theorem dX4_putTerm_10 : decode cX4_putTerm 10 = .ok (.aload_n 0, 1) := by decide +kernel
theorem dX4_putTerm_11 : decode cX4_putTerm 11 = .ok (.iload_n 2, 1) := by decide +kernel
theorem dX4_putTerm_12 : decode cX4_putTerm 12 = .ok (.putfield 96, 3) := by decide +kernel
theorem dX4_putTerm_15 : decode cX4_putTerm 15 = .ok (.return_, 1) := by decide +kernel
theorem dX4_markQuashed_0 : decode cX4_markQuashed 0 = .ok (.aload_n 0, 1) := by decide +kernel
theorem dX4_markQuashed_1 : decode cX4_markQuashed 1 = .ok (.ifnull 8, 3) := by decide +kernel
theorem dX4_markQuashed_4 : decode cX4_markQuashed 4 = .ok (.aload_n 0, 1) := by decide +kernel
theorem dX4_markQuashed_5 : decode cX4_markQuashed 5 = .ok (.iload_n 1, 1) := by decide +kernel
theorem dX4_markQuashed_6 : decode cX4_markQuashed 6 = .ok (.putfield 119, 3) := by decide +kernel
theorem dX4_markQuashed_9 : decode cX4_markQuashed 9 = .ok (.return_, 1) := by decide +kernel
theorem dX5_init_0 : decode cX5_init 0 = .ok (.aload_n 0, 1) := by decide +kernel
theorem dX5_init_1 : decode cX5_init 1 = .ok (.invokespecial 3, 3) := by decide +kernel
theorem dX5_init_4 : decode cX5_init 4 = .ok (.aload_n 0, 1) := by decide +kernel
theorem dX5_init_5 : decode cX5_init 5 = .ok (.bipush 12, 2) := by decide +kernel
theorem dX5_init_7 : decode cX5_init 7 = .ok (.newarray .int, 2) := by decide +kernel
theorem dX5_init_9 : decode cX5_init 9 = .ok (.putfield 9, 3) := by decide +kernel
theorem dX5_init_12 : decode cX5_init 12 = .ok (.aload_n 0, 1) := by decide +kernel
theorem dX5_init_13 : decode cX5_init 13 = .ok (.iconst 0, 1) := by decide +kernel
theorem dX5_init_14 : decode cX5_init 14 = .ok (.putfield 15, 3) := by decide +kernel
theorem dX5_init_17 : decode cX5_init 17 = .ok (.aload_n 0, 1) := by decide +kernel
theorem dX5_init_18 : decode cX5_init 18 = .ok (.bipush 12, 2) := by decide +kernel
theorem dX5_init_20 : decode cX5_init 20 = .ok (.newarray .int, 2) := by decide +kernel
theorem dX5_init_22 : decode cX5_init 22 = .ok (.putfield 19, 3) := by decide +kernel
theorem dX5_init_25 : decode cX5_init 25 = .ok (.aload_n 0, 1) := by decide +kernel
theorem dX5_init_26 : decode cX5_init 26 = .ok (.bipush 13, 2) := by decide +kernel
theorem dX5_init_28 : decode cX5_init 28 = .ok (.newarray .int, 2) := by decide +kernel
theorem dX5_init_30 : decode cX5_init 30 = .ok (.putfield 22, 3) := by decide +kernel
theorem dX5_init_33 : decode cX5_init 33 = .ok (.return_, 1) := by decide +kernel
theorem dX5_placeAt_0 : decode cX5_placeAt 0 = .ok (.iload_n 1, 1) := by decide +kernel
theorem dX5_placeAt_1 : decode cX5_placeAt 1 = .ok (.ifCond .lt 26, 3) := by decide +kernel
theorem dX5_placeAt_4 : decode cX5_placeAt 4 = .ok (.iload_n 1, 1) := by decide +kernel
theorem dX5_placeAt_5 : decode cX5_placeAt 5 = .ok (.aload_n 0, 1) := by decide +kernel
theorem dX5_placeAt_6 : decode cX5_placeAt 6 = .ok (.getfield 15, 3) := by decide +kernel
theorem dX5_placeAt_9 : decode cX5_placeAt 9 = .ok (.if_icmp .ge 18, 3) := by decide +kernel
theorem dX5_placeAt_12 : decode cX5_placeAt 12 = .ok (.iload_n 1, 1) := by decide +kernel
theorem dX5_placeAt_13 : decode cX5_placeAt 13 = .ok (.bipush 12, 2) := by decide +kernel
theorem dX5_placeAt_15 : decode cX5_placeAt 15 = .ok (.if_icmp .ge 12, 3) := by decide +kernel
theorem dX5_placeAt_18 : decode cX5_placeAt 18 = .ok (.aload_n 0, 1) := by decide +kernel
theorem dX5_placeAt_19 : decode cX5_placeAt 19 = .ok (.getfield 9, 3) := by decide +kernel
theorem dX5_placeAt_22 : decode cX5_placeAt 22 = .ok (.iload_n 1, 1) := by decide +kernel
theorem dX5_placeAt_23 : decode cX5_placeAt 23 = .ok (.iaload, 1) := by decide +kernel
theorem dX5_placeAt_24 : decode cX5_placeAt 24 = .ok (.goto 4, 3) := by decide +kernel
theorem dX5_placeAt_27 : decode cX5_placeAt 27 = .ok (.iconst (-1), 1) := by decide +kernel
theorem dX5_placeAt_28 : decode cX5_placeAt 28 = .ok (.ireturn, 1) := by decide +kernel
theorem dX5_closes_0 : decode cX5_closes 0 = .ok (.aload_n 1, 1) := by decide +kernel
theorem dX5_closes_1 : decode cX5_closes 1 = .ok (.ifnull 10, 3) := by decide +kernel
theorem dX5_closes_4 : decode cX5_closes 4 = .ok (.iload_n 2, 1) := by decide +kernel
theorem dX5_closes_5 : decode cX5_closes 5 = .ok (.invokestatic 25, 3) := by decide +kernel
theorem dX5_closes_8 : decode cX5_closes 8 = .ok (.ifCond .ne 5, 3) := by decide +kernel
theorem dX5_closes_11 : decode cX5_closes 11 = .ok (.iconst 0, 1) := by decide +kernel
theorem dX5_closes_12 : decode cX5_closes 12 = .ok (.ireturn, 1) := by decide +kernel
theorem dX5_closes_13 : decode cX5_closes 13 = .ok (.aload_n 0, 1) := by decide +kernel
theorem dX5_closes_14 : decode cX5_closes 14 = .ok (.aload_n 1, 1) := by decide +kernel
theorem dX5_closes_15 : decode cX5_closes 15 = .ok (.iload_n 2, 1) := by decide +kernel
theorem dX5_closes_16 : decode cX5_closes 16 = .ok (.iload_n 3, 1) := by decide +kernel
theorem dX5_closes_17 : decode cX5_closes 17 = .ok (.invokevirtual 29, 3) := by decide +kernel
theorem dX5_closes_20 : decode cX5_closes 20 = .ok (.aload_n 0, 1) := by decide +kernel
theorem dX5_closes_21 : decode cX5_closes 21 = .ok (.iload_n 2, 1) := by decide +kernel
theorem dX5_closes_22 : decode cX5_closes 22 = .ok (.invokevirtual 33, 3) := by decide +kernel
theorem dX5_closes_25 : decode cX5_closes 25 = .ok (.istore 4, 2) := by decide +kernel
theorem dX5_closes_27 : decode cX5_closes 27 = .ok (.iload 4, 2) := by decide +kernel
theorem dX5_closes_29 : decode cX5_closes 29 = .ok (.ifCond .ne 5, 3) := by decide +kernel
theorem dX5_closes_32 : decode cX5_closes 32 = .ok (.iconst 0, 1) := by decide +kernel
theorem dX5_closes_33 : decode cX5_closes 33 = .ok (.ireturn, 1) := by decide +kernel
theorem dX5_closes_34 : decode cX5_closes 34 = .ok (.iconst 0, 1) := by decide +kernel
theorem dX5_closes_35 : decode cX5_closes 35 = .ok (.istore 5, 2) := by decide +kernel
theorem dX5_closes_37 : decode cX5_closes 37 = .ok (.iload 5, 2) := by decide +kernel
theorem dX5_closes_39 : decode cX5_closes 39 = .ok (.bipush 12, 2) := by decide +kernel
theorem dX5_closes_41 : decode cX5_closes 41 = .ok (.if_icmp .ge 42, 3) := by decide +kernel
theorem dX5_closes_44 : decode cX5_closes 44 = .ok (.aload_n 0, 1) := by decide +kernel
theorem dX5_closes_45 : decode cX5_closes 45 = .ok (.iload 5, 2) := by decide +kernel
theorem dX5_closes_47 : decode cX5_closes 47 = .ok (.iload 4, 2) := by decide +kernel
theorem dX5_closes_49 : decode cX5_closes 49 = .ok (.invokevirtual 37, 3) := by decide +kernel
theorem dX5_closes_52 : decode cX5_closes 52 = .ok (.aload_n 0, 1) := by decide +kernel
theorem dX5_closes_53 : decode cX5_closes 53 = .ok (.getfield 22, 3) := by decide +kernel
theorem dX5_closes_56 : decode cX5_closes 56 = .ok (.iload 4, 2) := by decide +kernel
theorem dX5_closes_58 : decode cX5_closes 58 = .ok (.iaload, 1) := by decide +kernel
theorem dX5_closes_59 : decode cX5_closes 59 = .ok (.iload 5, 2) := by decide +kernel
theorem dX5_closes_61 : decode cX5_closes 61 = .ok (.invokestatic 41, 3) := by decide +kernel
theorem dX5_closes_64 : decode cX5_closes 64 = .ok (.ifCond .eq 13, 3) := by decide +kernel
theorem dX5_closes_67 : decode cX5_closes 67 = .ok (.aload_n 0, 1) := by decide +kernel
theorem dX5_closes_68 : decode cX5_closes 68 = .ok (.iload 5, 2) := by decide +kernel
theorem dX5_closes_70 : decode cX5_closes 70 = .ok (.iload 4, 2) := by decide +kernel
theorem dX5_closes_72 : decode cX5_closes 72 = .ok (.invokevirtual 45, 3) := by decide +kernel
theorem dX5_closes_75 : decode cX5_closes 75 = .ok (.iconst 1, 1) := by decide +kernel
theorem dX5_closes_76 : decode cX5_closes 76 = .ok (.ireturn, 1) := by decide +kernel
theorem dX5_closes_77 : decode cX5_closes 77 = .ok (.iinc 5 1, 3) := by decide +kernel
theorem dX5_closes_80 : decode cX5_closes 80 = .ok (.goto (-43), 3) := by decide +kernel
theorem dX5_closes_83 : decode cX5_closes 83 = .ok (.iconst 0, 1) := by decide +kernel
theorem dX5_closes_84 : decode cX5_closes 84 = .ok (.ireturn, 1) := by decide +kernel
theorem dX5_findNext_0 : decode cX5_findNext 0 = .ok (.iconst 0, 1) := by decide +kernel
theorem dX5_findNext_1 : decode cX5_findNext 1 = .ok (.istore 4, 2) := by decide +kernel
theorem dX5_findNext_3 : decode cX5_findNext 3 = .ok (.iload 4, 2) := by decide +kernel
theorem dX5_findNext_5 : decode cX5_findNext 5 = .ok (.bipush 12, 2) := by decide +kernel
theorem dX5_findNext_7 : decode cX5_findNext 7 = .ok (.if_icmp .ge 46, 3) := by decide +kernel
theorem dX5_findNext_10 : decode cX5_findNext 10 = .ok (.aload_n 1, 1) := by decide +kernel
theorem dX5_findNext_11 : decode cX5_findNext 11 = .ok (.iload 4, 2) := by decide +kernel
theorem dX5_findNext_13 : decode cX5_findNext 13 = .ok (.invokevirtual 48, 3) := by decide +kernel
theorem dX5_findNext_16 : decode cX5_findNext 16 = .ok (.astore 5, 2) := by decide +kernel
theorem dX5_findNext_18 : decode cX5_findNext 18 = .ok (.aload_n 0, 1) := by decide +kernel
theorem dX5_findNext_19 : decode cX5_findNext 19 = .ok (.getfield 19, 3) := by decide +kernel
theorem dX5_findNext_22 : decode cX5_findNext 22 = .ok (.iload 4, 2) := by decide +kernel
theorem dX5_findNext_24 : decode cX5_findNext 24 = .ok (.aload 5, 2) := by decide +kernel
theorem dX5_findNext_26 : decode cX5_findNext 26 = .ok (.ifnull 19, 3) := by decide +kernel
theorem dX5_findNext_29 : decode cX5_findNext 29 = .ok (.aload 5, 2) := by decide +kernel
theorem dX5_findNext_31 : decode cX5_findNext 31 = .ok (.invokevirtual 54, 3) := by decide +kernel
theorem dX5_findNext_34 : decode cX5_findNext 34 = .ok (.ifCond .eq 11, 3) := by decide +kernel
theorem dX5_findNext_37 : decode cX5_findNext 37 = .ok (.aload 5, 2) := by decide +kernel
theorem dX5_findNext_39 : decode cX5_findNext 39 = .ok (.getfield 60, 3) := by decide +kernel
theorem dX5_findNext_42 : decode cX5_findNext 42 = .ok (.goto 4, 3) := by decide +kernel
theorem dX5_findNext_45 : decode cX5_findNext 45 = .ok (.iconst 0, 1) := by decide +kernel
theorem dX5_findNext_46 : decode cX5_findNext 46 = .ok (.iastore, 1) := by decide +kernel
theorem dX5_findNext_47 : decode cX5_findNext 47 = .ok (.iinc 4 1, 3) := by decide +kernel
theorem dX5_findNext_50 : decode cX5_findNext 50 = .ok (.goto (-47), 3) := by decide +kernel
theorem dX5_findNext_53 : decode cX5_findNext 53 = .ok (.aload_n 0, 1) := by decide +kernel
theorem dX5_findNext_54 : decode cX5_findNext 54 = .ok (.getfield 19, 3) := by decide +kernel
theorem dX5_findNext_57 : decode cX5_findNext 57 = .ok (.iload_n 2, 1) := by decide +kernel
theorem dX5_findNext_58 : decode cX5_findNext 58 = .ok (.iload_n 3, 1) := by decide +kernel
theorem dX5_findNext_59 : decode cX5_findNext 59 = .ok (.iastore, 1) := by decide +kernel
theorem dX5_findNext_60 : decode cX5_findNext 60 = .ok (.return_, 1) := by decide +kernel
theorem dX5_lengthOfLeast_0 : decode cX5_lengthOfLeast 0 = .ok (.iconst 1, 1) := by decide +kernel
theorem dX5_lengthOfLeast_1 : decode cX5_lengthOfLeast 1 = .ok (.iload_n 1, 1) := by decide +kernel
theorem dX5_lengthOfLeast_2 : decode cX5_lengthOfLeast 2 = .ok (.ishl, 1) := by decide +kernel
theorem dX5_lengthOfLeast_3 : decode cX5_lengthOfLeast 3 = .ok (.istore_n 2, 1) := by decide +kernel
theorem dX5_lengthOfLeast_4 : decode cX5_lengthOfLeast 4 = .ok (.iconst 1, 1) := by decide +kernel
theorem dX5_lengthOfLeast_5 : decode cX5_lengthOfLeast 5 = .ok (.istore_n 3, 1) := by decide +kernel
theorem dX5_lengthOfLeast_6 : decode cX5_lengthOfLeast 6 = .ok (.iload_n 3, 1) := by decide +kernel
theorem dX5_lengthOfLeast_7 : decode cX5_lengthOfLeast 7 = .ok (.bipush 12, 2) := by decide +kernel
theorem dX5_lengthOfLeast_9 : decode cX5_lengthOfLeast 9 = .ok (.if_icmp .gt 63, 3) := by decide +kernel
theorem dX5_lengthOfLeast_12 : decode cX5_lengthOfLeast 12 = .ok (.iconst 0, 1) := by decide +kernel
theorem dX5_lengthOfLeast_13 : decode cX5_lengthOfLeast 13 = .ok (.istore 4, 2) := by decide +kernel
theorem dX5_lengthOfLeast_15 : decode cX5_lengthOfLeast 15 = .ok (.iconst 0, 1) := by decide +kernel
theorem dX5_lengthOfLeast_16 : decode cX5_lengthOfLeast 16 = .ok (.istore 5, 2) := by decide +kernel
theorem dX5_lengthOfLeast_18 : decode cX5_lengthOfLeast 18 = .ok (.iload 5, 2) := by decide +kernel
theorem dX5_lengthOfLeast_20 : decode cX5_lengthOfLeast 20 = .ok (.bipush 12, 2) := by decide +kernel
theorem dX5_lengthOfLeast_22 : decode cX5_lengthOfLeast 22 = .ok (.if_icmp .ge 30, 3) := by decide +kernel
theorem dX5_lengthOfLeast_25 : decode cX5_lengthOfLeast 25 = .ok (.iload_n 2, 1) := by decide +kernel
theorem dX5_lengthOfLeast_26 : decode cX5_lengthOfLeast 26 = .ok (.iload 5, 2) := by decide +kernel
theorem dX5_lengthOfLeast_28 : decode cX5_lengthOfLeast 28 = .ok (.invokestatic 41, 3) := by decide +kernel
theorem dX5_lengthOfLeast_31 : decode cX5_lengthOfLeast 31 = .ok (.ifCond .eq 15, 3) := by decide +kernel
theorem dX5_lengthOfLeast_34 : decode cX5_lengthOfLeast 34 = .ok (.iload 4, 2) := by decide +kernel
theorem dX5_lengthOfLeast_36 : decode cX5_lengthOfLeast 36 = .ok (.aload_n 0, 1) := by decide +kernel
theorem dX5_lengthOfLeast_37 : decode cX5_lengthOfLeast 37 = .ok (.getfield 19, 3) := by decide +kernel
theorem dX5_lengthOfLeast_40 : decode cX5_lengthOfLeast 40 = .ok (.iload 5, 2) := by decide +kernel
theorem dX5_lengthOfLeast_42 : decode cX5_lengthOfLeast 42 = .ok (.iaload, 1) := by decide +kernel
theorem dX5_lengthOfLeast_43 : decode cX5_lengthOfLeast 43 = .ok (.ior, 1) := by decide +kernel
theorem dX5_lengthOfLeast_44 : decode cX5_lengthOfLeast 44 = .ok (.istore 4, 2) := by decide +kernel
theorem dX5_lengthOfLeast_46 : decode cX5_lengthOfLeast 46 = .ok (.iinc 5 1, 3) := by decide +kernel
theorem dX5_lengthOfLeast_49 : decode cX5_lengthOfLeast 49 = .ok (.goto (-31), 3) := by decide +kernel
theorem dX5_lengthOfLeast_52 : decode cX5_lengthOfLeast 52 = .ok (.iload 4, 2) := by decide +kernel
theorem dX5_lengthOfLeast_54 : decode cX5_lengthOfLeast 54 = .ok (.iload_n 1, 1) := by decide +kernel
theorem dX5_lengthOfLeast_55 : decode cX5_lengthOfLeast 55 = .ok (.invokestatic 41, 3) := by decide +kernel
theorem dX5_lengthOfLeast_58 : decode cX5_lengthOfLeast 58 = .ok (.ifCond .eq 5, 3) := by decide +kernel
theorem dX5_lengthOfLeast_61 : decode cX5_lengthOfLeast 61 = .ok (.iload_n 3, 1) := by decide +kernel
theorem dX5_lengthOfLeast_62 : decode cX5_lengthOfLeast 62 = .ok (.ireturn, 1) := by decide +kernel
theorem dX5_lengthOfLeast_63 : decode cX5_lengthOfLeast 63 = .ok (.iload 4, 2) := by decide +kernel
theorem dX5_lengthOfLeast_65 : decode cX5_lengthOfLeast 65 = .ok (.istore_n 2, 1) := by decide +kernel
theorem dX5_lengthOfLeast_66 : decode cX5_lengthOfLeast 66 = .ok (.iinc 3 1, 3) := by decide +kernel
theorem dX5_lengthOfLeast_69 : decode cX5_lengthOfLeast 69 = .ok (.goto (-63), 3) := by decide +kernel
theorem dX5_lengthOfLeast_72 : decode cX5_lengthOfLeast 72 = .ok (.iconst 0, 1) := by decide +kernel
theorem dX5_lengthOfLeast_73 : decode cX5_lengthOfLeast 73 = .ok (.ireturn, 1) := by decide +kernel
theorem dX5_findLeads_0 : decode cX5_findLeads 0 = .ok (.aload_n 0, 1) := by decide +kernel
theorem dX5_findLeads_1 : decode cX5_findLeads 1 = .ok (.getfield 22, 3) := by decide +kernel
theorem dX5_findLeads_4 : decode cX5_findLeads 4 = .ok (.iconst 0, 1) := by decide +kernel
theorem dX5_findLeads_5 : decode cX5_findLeads 5 = .ok (.iconst 1, 1) := by decide +kernel
theorem dX5_findLeads_6 : decode cX5_findLeads 6 = .ok (.iload_n 1, 1) := by decide +kernel
theorem dX5_findLeads_7 : decode cX5_findLeads 7 = .ok (.ishl, 1) := by decide +kernel
theorem dX5_findLeads_8 : decode cX5_findLeads 8 = .ok (.iastore, 1) := by decide +kernel
theorem dX5_findLeads_9 : decode cX5_findLeads 9 = .ok (.iconst 1, 1) := by decide +kernel
theorem dX5_findLeads_10 : decode cX5_findLeads 10 = .ok (.istore_n 3, 1) := by decide +kernel
theorem dX5_findLeads_11 : decode cX5_findLeads 11 = .ok (.iload_n 3, 1) := by decide +kernel
theorem dX5_findLeads_12 : decode cX5_findLeads 12 = .ok (.iload_n 2, 1) := by decide +kernel
theorem dX5_findLeads_13 : decode cX5_findLeads 13 = .ok (.if_icmp .gt 70, 3) := by decide +kernel
theorem dX5_findLeads_16 : decode cX5_findLeads 16 = .ok (.iload_n 3, 1) := by decide +kernel
theorem dX5_findLeads_17 : decode cX5_findLeads 17 = .ok (.bipush 12, 2) := by decide +kernel
theorem dX5_findLeads_19 : decode cX5_findLeads 19 = .ok (.if_icmp .gt 64, 3) := by decide +kernel
theorem dX5_findLeads_22 : decode cX5_findLeads 22 = .ok (.aload_n 0, 1) := by decide +kernel
theorem dX5_findLeads_23 : decode cX5_findLeads 23 = .ok (.getfield 22, 3) := by decide +kernel
theorem dX5_findLeads_26 : decode cX5_findLeads 26 = .ok (.iload_n 3, 1) := by decide +kernel
theorem dX5_findLeads_27 : decode cX5_findLeads 27 = .ok (.iconst 0, 1) := by decide +kernel
theorem dX5_findLeads_28 : decode cX5_findLeads 28 = .ok (.iastore, 1) := by decide +kernel
theorem dX5_findLeads_29 : decode cX5_findLeads 29 = .ok (.iconst 0, 1) := by decide +kernel
theorem dX5_findLeads_30 : decode cX5_findLeads 30 = .ok (.istore 4, 2) := by decide +kernel
theorem dX5_findLeads_32 : decode cX5_findLeads 32 = .ok (.iload 4, 2) := by decide +kernel
theorem dX5_findLeads_34 : decode cX5_findLeads 34 = .ok (.bipush 12, 2) := by decide +kernel
theorem dX5_findLeads_36 : decode cX5_findLeads 36 = .ok (.if_icmp .ge 41, 3) := by decide +kernel
theorem dX5_findLeads_39 : decode cX5_findLeads 39 = .ok (.aload_n 0, 1) := by decide +kernel
theorem dX5_findLeads_40 : decode cX5_findLeads 40 = .ok (.getfield 19, 3) := by decide +kernel
theorem dX5_findLeads_43 : decode cX5_findLeads 43 = .ok (.iload 4, 2) := by decide +kernel
theorem dX5_findLeads_45 : decode cX5_findLeads 45 = .ok (.iaload, 1) := by decide +kernel
theorem dX5_findLeads_46 : decode cX5_findLeads 46 = .ok (.aload_n 0, 1) := by decide +kernel
theorem dX5_findLeads_47 : decode cX5_findLeads 47 = .ok (.getfield 22, 3) := by decide +kernel
theorem dX5_findLeads_50 : decode cX5_findLeads 50 = .ok (.iload_n 3, 1) := by decide +kernel
theorem dX5_findLeads_51 : decode cX5_findLeads 51 = .ok (.iconst 1, 1) := by decide +kernel
theorem dX5_findLeads_52 : decode cX5_findLeads 52 = .ok (.isub, 1) := by decide +kernel
theorem dX5_findLeads_53 : decode cX5_findLeads 53 = .ok (.iaload, 1) := by decide +kernel
theorem dX5_findLeads_54 : decode cX5_findLeads 54 = .ok (.iand, 1) := by decide +kernel
theorem dX5_findLeads_55 : decode cX5_findLeads 55 = .ok (.ifCond .eq 16, 3) := by decide +kernel
theorem dX5_findLeads_58 : decode cX5_findLeads 58 = .ok (.aload_n 0, 1) := by decide +kernel
theorem dX5_findLeads_59 : decode cX5_findLeads 59 = .ok (.getfield 22, 3) := by decide +kernel
theorem dX5_findLeads_62 : decode cX5_findLeads 62 = .ok (.iload_n 3, 1) := by decide +kernel
theorem dX5_findLeads_63 : decode cX5_findLeads 63 = .ok (.dup2, 1) := by decide +kernel
theorem dX5_findLeads_64 : decode cX5_findLeads 64 = .ok (.iaload, 1) := by decide +kernel
theorem dX5_findLeads_65 : decode cX5_findLeads 65 = .ok (.iconst 1, 1) := by decide +kernel
theorem dX5_findLeads_66 : decode cX5_findLeads 66 = .ok (.iload 4, 2) := by decide +kernel
theorem dX5_findLeads_68 : decode cX5_findLeads 68 = .ok (.ishl, 1) := by decide +kernel
theorem dX5_findLeads_69 : decode cX5_findLeads 69 = .ok (.ior, 1) := by decide +kernel
theorem dX5_findLeads_70 : decode cX5_findLeads 70 = .ok (.iastore, 1) := by decide +kernel
theorem dX5_findLeads_71 : decode cX5_findLeads 71 = .ok (.iinc 4 1, 3) := by decide +kernel
theorem dX5_findLeads_74 : decode cX5_findLeads 74 = .ok (.goto (-42), 3) := by decide +kernel
theorem dX5_findLeads_77 : decode cX5_findLeads 77 = .ok (.iinc 3 1, 3) := by decide +kernel
theorem dX5_findLeads_80 : decode cX5_findLeads 80 = .ok (.goto (-69), 3) := by decide +kernel
theorem dX5_findLeads_83 : decode cX5_findLeads 83 = .ok (.return_, 1) := by decide +kernel
theorem dX5_keep_0 : decode cX5_keep 0 = .ok (.iload_n 1, 1) := by decide +kernel
theorem dX5_keep_1 : decode cX5_keep 1 = .ok (.istore_n 3, 1) := by decide +kernel
theorem dX5_keep_2 : decode cX5_keep 2 = .ok (.aload_n 0, 1) := by decide +kernel
theorem dX5_keep_3 : decode cX5_keep 3 = .ok (.iconst 0, 1) := by decide +kernel
theorem dX5_keep_4 : decode cX5_keep 4 = .ok (.putfield 15, 3) := by decide +kernel
theorem dX5_keep_7 : decode cX5_keep 7 = .ok (.iload_n 2, 1) := by decide +kernel
theorem dX5_keep_8 : decode cX5_keep 8 = .ok (.iconst 1, 1) := by decide +kernel
theorem dX5_keep_9 : decode cX5_keep 9 = .ok (.isub, 1) := by decide +kernel
theorem dX5_keep_10 : decode cX5_keep 10 = .ok (.istore 4, 2) := by decide +kernel
theorem dX5_keep_12 : decode cX5_keep 12 = .ok (.iload 4, 2) := by decide +kernel
theorem dX5_keep_14 : decode cX5_keep 14 = .ok (.ifCond .lt 61, 3) := by decide +kernel
theorem dX5_keep_17 : decode cX5_keep 17 = .ok (.iload 4, 2) := by decide +kernel
theorem dX5_keep_19 : decode cX5_keep 19 = .ok (.bipush 12, 2) := by decide +kernel
theorem dX5_keep_21 : decode cX5_keep 21 = .ok (.if_icmp .ge 54, 3) := by decide +kernel
theorem dX5_keep_24 : decode cX5_keep 24 = .ok (.iload_n 3, 1) := by decide +kernel
theorem dX5_keep_25 : decode cX5_keep 25 = .ok (.invokestatic 25, 3) := by decide +kernel
theorem dX5_keep_28 : decode cX5_keep 28 = .ok (.ifCond .eq 47, 3) := by decide +kernel
theorem dX5_keep_31 : decode cX5_keep 31 = .ok (.aload_n 0, 1) := by decide +kernel
theorem dX5_keep_32 : decode cX5_keep 32 = .ok (.getfield 9, 3) := by decide +kernel
theorem dX5_keep_35 : decode cX5_keep 35 = .ok (.aload_n 0, 1) := by decide +kernel
theorem dX5_keep_36 : decode cX5_keep 36 = .ok (.getfield 15, 3) := by decide +kernel
theorem dX5_keep_39 : decode cX5_keep 39 = .ok (.iload_n 3, 1) := by decide +kernel
theorem dX5_keep_40 : decode cX5_keep 40 = .ok (.iastore, 1) := by decide +kernel
theorem dX5_keep_41 : decode cX5_keep 41 = .ok (.aload_n 0, 1) := by decide +kernel
theorem dX5_keep_42 : decode cX5_keep 42 = .ok (.dup, 1) := by decide +kernel
theorem dX5_keep_43 : decode cX5_keep 43 = .ok (.getfield 15, 3) := by decide +kernel
theorem dX5_keep_46 : decode cX5_keep 46 = .ok (.iconst 1, 1) := by decide +kernel
theorem dX5_keep_47 : decode cX5_keep 47 = .ok (.iadd, 1) := by decide +kernel
theorem dX5_keep_48 : decode cX5_keep 48 = .ok (.putfield 15, 3) := by decide +kernel
theorem dX5_keep_51 : decode cX5_keep 51 = .ok (.aload_n 0, 1) := by decide +kernel
theorem dX5_keep_52 : decode cX5_keep 52 = .ok (.getfield 19, 3) := by decide +kernel
theorem dX5_keep_55 : decode cX5_keep 55 = .ok (.iload_n 3, 1) := by decide +kernel
theorem dX5_keep_56 : decode cX5_keep 56 = .ok (.iaload, 1) := by decide +kernel
theorem dX5_keep_57 : decode cX5_keep 57 = .ok (.aload_n 0, 1) := by decide +kernel
theorem dX5_keep_58 : decode cX5_keep 58 = .ok (.getfield 22, 3) := by decide +kernel
theorem dX5_keep_61 : decode cX5_keep 61 = .ok (.iload 4, 2) := by decide +kernel
theorem dX5_keep_63 : decode cX5_keep 63 = .ok (.iaload, 1) := by decide +kernel
theorem dX5_keep_64 : decode cX5_keep 64 = .ok (.iand, 1) := by decide +kernel
theorem dX5_keep_65 : decode cX5_keep 65 = .ok (.invokestatic 63, 3) := by decide +kernel
theorem dX5_keep_68 : decode cX5_keep 68 = .ok (.istore_n 3, 1) := by decide +kernel
theorem dX5_keep_69 : decode cX5_keep 69 = .ok (.iinc 4 (-1), 3) := by decide +kernel
theorem dX5_keep_72 : decode cX5_keep 72 = .ok (.goto (-60), 3) := by decide +kernel
theorem dX5_keep_75 : decode cX5_keep 75 = .ok (.return_, 1) := by decide +kernel
theorem dX6_init_0 : decode cX6_init 0 = .ok (.aload_n 0, 1) := by decide +kernel
theorem dX6_init_1 : decode cX6_init 1 = .ok (.invokespecial 3, 3) := by decide +kernel
theorem dX6_init_4 : decode cX6_init 4 = .ok (.aload_n 0, 1) := by decide +kernel
theorem dX6_init_5 : decode cX6_init 5 = .ok (.iconst 0, 1) := by decide +kernel
theorem dX6_init_6 : decode cX6_init 6 = .ok (.putfield 9, 3) := by decide +kernel
theorem dX6_init_9 : decode cX6_init 9 = .ok (.aload_n 0, 1) := by decide +kernel
theorem dX6_init_10 : decode cX6_init 10 = .ok (.iconst 0, 1) := by decide +kernel
theorem dX6_init_11 : decode cX6_init 11 = .ok (.putfield 15, 3) := by decide +kernel
theorem dX6_init_14 : decode cX6_init 14 = .ok (.aload_n 0, 1) := by decide +kernel
theorem dX6_init_15 : decode cX6_init 15 = .ok (.iconst 0, 1) := by decide +kernel
theorem dX6_init_16 : decode cX6_init 16 = .ok (.putfield 18, 3) := by decide +kernel
theorem dX6_init_19 : decode cX6_init 19 = .ok (.aload_n 0, 1) := by decide +kernel
theorem dX6_init_20 : decode cX6_init 20 = .ok (.iconst 0, 1) := by decide +kernel
theorem dX6_init_21 : decode cX6_init 21 = .ok (.putfield 21, 3) := by decide +kernel
theorem dX6_init_24 : decode cX6_init 24 = .ok (.aload_n 0, 1) := by decide +kernel
theorem dX6_init_25 : decode cX6_init 25 = .ok (.iconst 0, 1) := by decide +kernel
theorem dX6_init_26 : decode cX6_init 26 = .ok (.putfield 24, 3) := by decide +kernel
theorem dX6_init_29 : decode cX6_init 29 = .ok (.aload_n 0, 1) := by decide +kernel
theorem dX6_init_30 : decode cX6_init 30 = .ok (.iconst 0, 1) := by decide +kernel
theorem dX6_init_31 : decode cX6_init 31 = .ok (.putfield 27, 3) := by decide +kernel
theorem dX6_init_34 : decode cX6_init 34 = .ok (.return_, 1) := by decide +kernel
theorem dX6_start_0 : decode cX6_start 0 = .ok (.aload_n 0, 1) := by decide +kernel
theorem dX6_start_1 : decode cX6_start 1 = .ok (.aload_n 1, 1) := by decide +kernel
theorem dX6_start_2 : decode cX6_start 2 = .ok (.getfield 30, 3) := by decide +kernel
theorem dX6_start_5 : decode cX6_start 5 = .ok (.putfield 9, 3) := by decide +kernel
theorem dX6_start_8 : decode cX6_start 8 = .ok (.aload_n 0, 1) := by decide +kernel
theorem dX6_start_9 : decode cX6_start 9 = .ok (.aload_n 1, 1) := by decide +kernel
theorem dX6_start_10 : decode cX6_start 10 = .ok (.invokevirtual 33, 3) := by decide +kernel
theorem dX6_start_13 : decode cX6_start 13 = .ok (.putfield 15, 3) := by decide +kernel
theorem dX6_start_16 : decode cX6_start 16 = .ok (.aload_n 0, 1) := by decide +kernel
theorem dX6_start_17 : decode cX6_start 17 = .ok (.aload_n 1, 1) := by decide +kernel
theorem dX6_start_18 : decode cX6_start 18 = .ok (.getfield 36, 3) := by decide +kernel
theorem dX6_start_21 : decode cX6_start 21 = .ok (.putfield 18, 3) := by decide +kernel
theorem dX6_start_24 : decode cX6_start 24 = .ok (.aload_n 0, 1) := by decide +kernel
theorem dX6_start_25 : decode cX6_start 25 = .ok (.iconst 0, 1) := by decide +kernel
theorem dX6_start_26 : decode cX6_start 26 = .ok (.putfield 21, 3) := by decide +kernel
theorem dX6_start_29 : decode cX6_start 29 = .ok (.aload_n 0, 1) := by decide +kernel
theorem dX6_start_30 : decode cX6_start 30 = .ok (.iconst 0, 1) := by decide +kernel
theorem dX6_start_31 : decode cX6_start 31 = .ok (.putfield 24, 3) := by decide +kernel
theorem dX6_start_34 : decode cX6_start 34 = .ok (.aload_n 0, 1) := by decide +kernel
theorem dX6_start_35 : decode cX6_start 35 = .ok (.iconst 0, 1) := by decide +kernel
theorem dX6_start_36 : decode cX6_start 36 = .ok (.putfield 27, 3) := by decide +kernel
theorem dX6_start_39 : decode cX6_start 39 = .ok (.return_, 1) := by decide +kernel
theorem dX6_takenWith_0 : decode cX6_takenWith 0 = .ok (.aload_n 0, 1) := by decide +kernel
theorem dX6_takenWith_1 : decode cX6_takenWith 1 = .ok (.getfield 9, 3) := by decide +kernel
theorem dX6_takenWith_4 : decode cX6_takenWith 4 = .ok (.ifCond .le 29, 3) := by decide +kernel
theorem dX6_takenWith_7 : decode cX6_takenWith 7 = .ok (.aload_n 0, 1) := by decide +kernel
theorem dX6_takenWith_8 : decode cX6_takenWith 8 = .ok (.getfield 15, 3) := by decide +kernel
theorem dX6_takenWith_11 : decode cX6_takenWith 11 = .ok (.aload_n 0, 1) := by decide +kernel
theorem dX6_takenWith_12 : decode cX6_takenWith 12 = .ok (.getfield 24, 3) := by decide +kernel
theorem dX6_takenWith_15 : decode cX6_takenWith 15 = .ok (.aload_n 0, 1) := by decide +kernel
theorem dX6_takenWith_16 : decode cX6_takenWith 16 = .ok (.getfield 27, 3) := by decide +kernel
theorem dX6_takenWith_19 : decode cX6_takenWith 19 = .ok (.iload_n 1, 1) := by decide +kernel
theorem dX6_takenWith_20 : decode cX6_takenWith 20 = .ok (.iadd, 1) := by decide +kernel
theorem dX6_takenWith_21 : decode cX6_takenWith 21 = .ok (.aload_n 0, 1) := by decide +kernel
theorem dX6_takenWith_22 : decode cX6_takenWith 22 = .ok (.getfield 9, 3) := by decide +kernel
theorem dX6_takenWith_25 : decode cX6_takenWith 25 = .ok (.idiv, 1) := by decide +kernel
theorem dX6_takenWith_26 : decode cX6_takenWith 26 = .ok (.iadd, 1) := by decide +kernel
theorem dX6_takenWith_27 : decode cX6_takenWith 27 = .ok (.invokestatic 37, 3) := by decide +kernel
theorem dX6_takenWith_30 : decode cX6_takenWith 30 = .ok (.goto 4, 3) := by decide +kernel
theorem dX6_takenWith_33 : decode cX6_takenWith 33 = .ok (.iconst 0, 1) := by decide +kernel
theorem dX6_takenWith_34 : decode cX6_takenWith 34 = .ok (.ireturn, 1) := by decide +kernel
theorem dX6_reachedWith_0 : decode cX6_reachedWith 0 = .ok (.aload_n 0, 1) := by decide +kernel
theorem dX6_reachedWith_1 : decode cX6_reachedWith 1 = .ok (.getfield 21, 3) := by decide +kernel
theorem dX6_reachedWith_4 : decode cX6_reachedWith 4 = .ok (.iload_n 1, 1) := by decide +kernel
theorem dX6_reachedWith_5 : decode cX6_reachedWith 5 = .ok (.iadd, 1) := by decide +kernel
theorem dX6_reachedWith_6 : decode cX6_reachedWith 6 = .ok (.iconst 0, 1) := by decide +kernel
theorem dX6_reachedWith_7 : decode cX6_reachedWith 7 = .ok (.aload_n 0, 1) := by decide +kernel
theorem dX6_reachedWith_8 : decode cX6_reachedWith 8 = .ok (.iload_n 1, 1) := by decide +kernel
theorem dX6_reachedWith_9 : decode cX6_reachedWith 9 = .ok (.invokevirtual 43, 3) := by decide +kernel
theorem dX6_reachedWith_12 : decode cX6_reachedWith 12 = .ok (.aload_n 0, 1) := by decide +kernel
theorem dX6_reachedWith_13 : decode cX6_reachedWith 13 = .ok (.getfield 18, 3) := by decide +kernel
theorem dX6_reachedWith_16 : decode cX6_reachedWith 16 = .ok (.isub, 1) := by decide +kernel
theorem dX6_reachedWith_17 : decode cX6_reachedWith 17 = .ok (.invokestatic 47, 3) := by decide +kernel
theorem dX6_reachedWith_20 : decode cX6_reachedWith 20 = .ok (.iadd, 1) := by decide +kernel
theorem dX6_reachedWith_21 : decode cX6_reachedWith 21 = .ok (.ireturn, 1) := by decide +kernel
theorem dX6_addDays_0 : decode cX6_addDays 0 = .ok (.aload_n 0, 1) := by decide +kernel
theorem dX6_addDays_1 : decode cX6_addDays 1 = .ok (.dup, 1) := by decide +kernel
theorem dX6_addDays_2 : decode cX6_addDays 2 = .ok (.getfield 21, 3) := by decide +kernel
theorem dX6_addDays_5 : decode cX6_addDays 5 = .ok (.iload_n 1, 1) := by decide +kernel
theorem dX6_addDays_6 : decode cX6_addDays 6 = .ok (.iadd, 1) := by decide +kernel
theorem dX6_addDays_7 : decode cX6_addDays 7 = .ok (.putfield 21, 3) := by decide +kernel
theorem dX6_addDays_10 : decode cX6_addDays 10 = .ok (.aload_n 0, 1) := by decide +kernel
theorem dX6_addDays_11 : decode cX6_addDays 11 = .ok (.dup, 1) := by decide +kernel
theorem dX6_addDays_12 : decode cX6_addDays 12 = .ok (.getfield 27, 3) := by decide +kernel
theorem dX6_addDays_15 : decode cX6_addDays 15 = .ok (.iload_n 1, 1) := by decide +kernel
theorem dX6_addDays_16 : decode cX6_addDays 16 = .ok (.iadd, 1) := by decide +kernel
theorem dX6_addDays_17 : decode cX6_addDays 17 = .ok (.putfield 27, 3) := by decide +kernel
theorem dX6_addDays_20 : decode cX6_addDays 20 = .ok (.return_, 1) := by decide +kernel
theorem dX6_breakRow_0 : decode cX6_breakRow 0 = .ok (.aload_n 0, 1) := by decide +kernel
theorem dX6_breakRow_1 : decode cX6_breakRow 1 = .ok (.getfield 9, 3) := by decide +kernel
theorem dX6_breakRow_4 : decode cX6_breakRow 4 = .ok (.ifCond .le 21, 3) := by decide +kernel
theorem dX6_breakRow_7 : decode cX6_breakRow 7 = .ok (.aload_n 0, 1) := by decide +kernel
theorem dX6_breakRow_8 : decode cX6_breakRow 8 = .ok (.dup, 1) := by decide +kernel
theorem dX6_breakRow_9 : decode cX6_breakRow 9 = .ok (.getfield 24, 3) := by decide +kernel
theorem dX6_breakRow_12 : decode cX6_breakRow 12 = .ok (.aload_n 0, 1) := by decide +kernel
theorem dX6_breakRow_13 : decode cX6_breakRow 13 = .ok (.getfield 27, 3) := by decide +kernel
theorem dX6_breakRow_16 : decode cX6_breakRow 16 = .ok (.aload_n 0, 1) := by decide +kernel
theorem dX6_breakRow_17 : decode cX6_breakRow 17 = .ok (.getfield 9, 3) := by decide +kernel
theorem dX6_breakRow_20 : decode cX6_breakRow 20 = .ok (.idiv, 1) := by decide +kernel
theorem dX6_breakRow_21 : decode cX6_breakRow 21 = .ok (.iadd, 1) := by decide +kernel
theorem dX6_breakRow_22 : decode cX6_breakRow 22 = .ok (.putfield 24, 3) := by decide +kernel
theorem dX6_breakRow_25 : decode cX6_breakRow 25 = .ok (.aload_n 0, 1) := by decide +kernel
theorem dX6_breakRow_26 : decode cX6_breakRow 26 = .ok (.iconst 0, 1) := by decide +kernel
theorem dX6_breakRow_27 : decode cX6_breakRow 27 = .ok (.putfield 27, 3) := by decide +kernel
theorem dX6_breakRow_30 : decode cX6_breakRow 30 = .ok (.return_, 1) := by decide +kernel
theorem dX6_addMonth_0 : decode cX6_addMonth 0 = .ok (.iload_n 1, 1) := by decide +kernel
theorem dX6_addMonth_1 : decode cX6_addMonth 1 = .ok (.ifCond .ne 9, 3) := by decide +kernel
theorem dX6_addMonth_4 : decode cX6_addMonth 4 = .ok (.aload_n 0, 1) := by decide +kernel
theorem dX6_addMonth_5 : decode cX6_addMonth 5 = .ok (.invokevirtual 50, 3) := by decide +kernel
theorem dX6_addMonth_8 : decode cX6_addMonth 8 = .ok (.iconst (-1), 1) := by decide +kernel
theorem dX6_addMonth_9 : decode cX6_addMonth 9 = .ok (.ireturn, 1) := by decide +kernel
theorem dX6_addMonth_10 : decode cX6_addMonth 10 = .ok (.iload_n 1, 1) := by decide +kernel
theorem dX6_addMonth_11 : decode cX6_addMonth 11 = .ok (.ldc 53, 2) := by decide +kernel
theorem dX6_addMonth_13 : decode cX6_addMonth 13 = .ok (.if_icmp .ne 21, 3) := by decide +kernel
theorem dX6_addMonth_16 : decode cX6_addMonth 16 = .ok (.aload_n 0, 1) := by decide +kernel
theorem dX6_addMonth_17 : decode cX6_addMonth 17 = .ok (.bipush 30, 2) := by decide +kernel
theorem dX6_addMonth_19 : decode cX6_addMonth 19 = .ok (.invokevirtual 54, 3) := by decide +kernel
theorem dX6_addMonth_22 : decode cX6_addMonth 22 = .ok (.iload_n 2, 1) := by decide +kernel
theorem dX6_addMonth_23 : decode cX6_addMonth 23 = .ok (.if_icmp .ge 11, 3) := by decide +kernel
theorem dX6_addMonth_26 : decode cX6_addMonth 26 = .ok (.aload_n 0, 1) := by decide +kernel
theorem dX6_addMonth_27 : decode cX6_addMonth 27 = .ok (.bipush 30, 2) := by decide +kernel
theorem dX6_addMonth_29 : decode cX6_addMonth 29 = .ok (.invokevirtual 57, 3) := by decide +kernel
theorem dX6_addMonth_32 : decode cX6_addMonth 32 = .ok (.iconst (-1), 1) := by decide +kernel
theorem dX6_addMonth_33 : decode cX6_addMonth 33 = .ok (.ireturn, 1) := by decide +kernel
theorem dX6_addMonth_34 : decode cX6_addMonth 34 = .ok (.iconst 0, 1) := by decide +kernel
theorem dX6_addMonth_35 : decode cX6_addMonth 35 = .ok (.istore_n 3, 1) := by decide +kernel
theorem dX6_addMonth_36 : decode cX6_addMonth 36 = .ok (.iload_n 3, 1) := by decide +kernel
theorem dX6_addMonth_37 : decode cX6_addMonth 37 = .ok (.bipush 30, 2) := by decide +kernel
theorem dX6_addMonth_39 : decode cX6_addMonth 39 = .ok (.if_icmp .ge 40, 3) := by decide +kernel
theorem dX6_addMonth_42 : decode cX6_addMonth 42 = .ok (.iload_n 1, 1) := by decide +kernel
theorem dX6_addMonth_43 : decode cX6_addMonth 43 = .ok (.iload_n 3, 1) := by decide +kernel
theorem dX6_addMonth_44 : decode cX6_addMonth 44 = .ok (.ishr, 1) := by decide +kernel
theorem dX6_addMonth_45 : decode cX6_addMonth 45 = .ok (.iconst 1, 1) := by decide +kernel
theorem dX6_addMonth_46 : decode cX6_addMonth 46 = .ok (.iand, 1) := by decide +kernel
theorem dX6_addMonth_47 : decode cX6_addMonth 47 = .ok (.ifCond .ne 10, 3) := by decide +kernel
theorem dX6_addMonth_50 : decode cX6_addMonth 50 = .ok (.aload_n 0, 1) := by decide +kernel
theorem dX6_addMonth_51 : decode cX6_addMonth 51 = .ok (.invokevirtual 50, 3) := by decide +kernel
theorem dX6_addMonth_54 : decode cX6_addMonth 54 = .ok (.goto 8, 3) := by decide +kernel
theorem dX6_addMonth_57 : decode cX6_addMonth 57 = .ok (.aload_n 0, 1) := by decide +kernel
theorem dX6_addMonth_58 : decode cX6_addMonth 58 = .ok (.iconst 1, 1) := by decide +kernel
theorem dX6_addMonth_59 : decode cX6_addMonth 59 = .ok (.invokevirtual 57, 3) := by decide +kernel
theorem dX6_addMonth_62 : decode cX6_addMonth 62 = .ok (.aload_n 0, 1) := by decide +kernel
theorem dX6_addMonth_63 : decode cX6_addMonth 63 = .ok (.iconst 0, 1) := by decide +kernel
theorem dX6_addMonth_64 : decode cX6_addMonth 64 = .ok (.invokevirtual 54, 3) := by decide +kernel
theorem dX6_addMonth_67 : decode cX6_addMonth 67 = .ok (.iload_n 2, 1) := by decide +kernel
theorem dX6_addMonth_68 : decode cX6_addMonth 68 = .ok (.if_icmp .lt 5, 3) := by decide +kernel
theorem dX6_addMonth_71 : decode cX6_addMonth 71 = .ok (.iload_n 3, 1) := by decide +kernel
theorem dX6_addMonth_72 : decode cX6_addMonth 72 = .ok (.ireturn, 1) := by decide +kernel
theorem dX6_addMonth_73 : decode cX6_addMonth 73 = .ok (.iinc 3 1, 3) := by decide +kernel
theorem dX6_addMonth_76 : decode cX6_addMonth 76 = .ok (.goto (-40), 3) := by decide +kernel
theorem dX6_addMonth_79 : decode cX6_addMonth 79 = .ok (.iconst (-1), 1) := by decide +kernel
theorem dX6_addMonth_80 : decode cX6_addMonth 80 = .ok (.ireturn, 1) := by decide +kernel
theorem dX7_init_0 : decode cX7_init 0 = .ok (.aload_n 0, 1) := by decide +kernel
theorem dX7_init_1 : decode cX7_init 1 = .ok (.invokespecial 3, 3) := by decide +kernel
theorem dX7_init_4 : decode cX7_init 4 = .ok (.aload_n 0, 1) := by decide +kernel
theorem dX7_init_5 : decode cX7_init 5 = .ok (.sipush 400, 3) := by decide +kernel
theorem dX7_init_8 : decode cX7_init 8 = .ok (.anewarray 9, 3) := by decide +kernel
theorem dX7_init_11 : decode cX7_init 11 = .ok (.putfield 11, 3) := by decide +kernel
theorem dX7_init_14 : decode cX7_init 14 = .ok (.aload_n 0, 1) := by decide +kernel
theorem dX7_init_15 : decode cX7_init 15 = .ok (.iconst 0, 1) := by decide +kernel
theorem dX7_init_16 : decode cX7_init 16 = .ok (.putfield 15, 3) := by decide +kernel
theorem dX7_init_19 : decode cX7_init 19 = .ok (.aload_n 0, 1) := by decide +kernel
theorem dX7_init_20 : decode cX7_init 20 = .ok (.iconst 0, 1) := by decide +kernel
theorem dX7_init_21 : decode cX7_init 21 = .ok (.putfield 19, 3) := by decide +kernel
theorem dX7_init_24 : decode cX7_init 24 = .ok (.aload_n 0, 1) := by decide +kernel
theorem dX7_init_25 : decode cX7_init 25 = .ok (.iconst 0, 1) := by decide +kernel
theorem dX7_init_26 : decode cX7_init 26 = .ok (.putfield 22, 3) := by decide +kernel
theorem dX7_init_29 : decode cX7_init 29 = .ok (.aload_n 0, 1) := by decide +kernel
theorem dX7_init_30 : decode cX7_init 30 = .ok (.iconst (-1), 1) := by decide +kernel
theorem dX7_init_31 : decode cX7_init 31 = .ok (.putfield 25, 3) := by decide +kernel
theorem dX7_init_34 : decode cX7_init 34 = .ok (.aload_n 0, 1) := by decide +kernel
theorem dX7_init_35 : decode cX7_init 35 = .ok (.new 28, 3) := by decide +kernel
theorem dX7_init_38 : decode cX7_init 38 = .ok (.dup, 1) := by decide +kernel
theorem dX7_init_39 : decode cX7_init 39 = .ok (.invokespecial 30, 3) := by decide +kernel
theorem dX7_init_42 : decode cX7_init 42 = .ok (.putfield 31, 3) := by decide +kernel
theorem dX7_init_45 : decode cX7_init 45 = .ok (.aload_n 0, 1) := by decide +kernel
theorem dX7_init_46 : decode cX7_init 46 = .ok (.new 28, 3) := by decide +kernel
theorem dX7_init_49 : decode cX7_init 49 = .ok (.dup, 1) := by decide +kernel
theorem dX7_init_50 : decode cX7_init 50 = .ok (.invokespecial 30, 3) := by decide +kernel
theorem dX7_init_53 : decode cX7_init 53 = .ok (.putfield 35, 3) := by decide +kernel
theorem dX7_init_56 : decode cX7_init 56 = .ok (.aload_n 0, 1) := by decide +kernel
theorem dX7_init_57 : decode cX7_init 57 = .ok (.new 38, 3) := by decide +kernel
theorem dX7_init_60 : decode cX7_init 60 = .ok (.dup, 1) := by decide +kernel
theorem dX7_init_61 : decode cX7_init 61 = .ok (.invokespecial 40, 3) := by decide +kernel
theorem dX7_init_64 : decode cX7_init 64 = .ok (.putfield 41, 3) := by decide +kernel
theorem dX7_init_67 : decode cX7_init 67 = .ok (.aload_n 0, 1) := by decide +kernel
theorem dX7_init_68 : decode cX7_init 68 = .ok (.new 45, 3) := by decide +kernel
theorem dX7_init_71 : decode cX7_init 71 = .ok (.dup, 1) := by decide +kernel
theorem dX7_init_72 : decode cX7_init 72 = .ok (.invokespecial 47, 3) := by decide +kernel
theorem dX7_init_75 : decode cX7_init 75 = .ok (.putfield 48, 3) := by decide +kernel
theorem dX7_init_78 : decode cX7_init 78 = .ok (.return_, 1) := by decide +kernel
theorem dX7_person_0 : decode cX7_person 0 = .ok (.aload_n 0, 1) := by decide +kernel
theorem dX7_person_1 : decode cX7_person 1 = .ok (.getfield 19, 3) := by decide +kernel
theorem dX7_person_4 : decode cX7_person 4 = .ok (.bipush 6, 2) := by decide +kernel
theorem dX7_person_6 : decode cX7_person 6 = .ok (.if_icmp .lt 5, 3) := by decide +kernel
theorem dX7_person_9 : decode cX7_person 9 = .ok (.iconst (-1), 1) := by decide +kernel
theorem dX7_person_10 : decode cX7_person 10 = .ok (.ireturn, 1) := by decide +kernel
theorem dX7_person_11 : decode cX7_person 11 = .ok (.aload_n 0, 1) := by decide +kernel
theorem dX7_person_12 : decode cX7_person 12 = .ok (.dup, 1) := by decide +kernel
theorem dX7_person_13 : decode cX7_person 13 = .ok (.getfield 19, 3) := by decide +kernel
theorem dX7_person_16 : decode cX7_person 16 = .ok (.iconst 1, 1) := by decide +kernel
theorem dX7_person_17 : decode cX7_person 17 = .ok (.iadd, 1) := by decide +kernel
theorem dX7_person_18 : decode cX7_person 18 = .ok (.putfield 19, 3) := by decide +kernel
theorem dX7_person_21 : decode cX7_person 21 = .ok (.aload_n 0, 1) := by decide +kernel
theorem dX7_person_22 : decode cX7_person 22 = .ok (.getfield 19, 3) := by decide +kernel
theorem dX7_person_25 : decode cX7_person 25 = .ok (.iconst 1, 1) := by decide +kernel
theorem dX7_person_26 : decode cX7_person 26 = .ok (.isub, 1) := by decide +kernel
theorem dX7_person_27 : decode cX7_person 27 = .ok (.ireturn, 1) := by decide +kernel
theorem dX7_today_0 : decode cX7_today 0 = .ok (.iload_n 1, 1) := by decide +kernel
theorem dX7_today_1 : decode cX7_today 1 = .ok (.invokestatic 52, 3) := by decide +kernel
theorem dX7_today_4 : decode cX7_today 4 = .ok (.ifCond .eq 11, 3) := by decide +kernel
theorem dX7_today_7 : decode cX7_today 7 = .ok (.iload_n 1, 1) := by decide +kernel
theorem dX7_today_8 : decode cX7_today 8 = .ok (.aload_n 0, 1) := by decide +kernel
theorem dX7_today_9 : decode cX7_today 9 = .ok (.getfield 22, 3) := by decide +kernel
theorem dX7_today_12 : decode cX7_today 12 = .ok (.if_icmp .ge 5, 3) := by decide +kernel
theorem dX7_today_15 : decode cX7_today 15 = .ok (.iconst 0, 1) := by decide +kernel
theorem dX7_today_16 : decode cX7_today 16 = .ok (.ireturn, 1) := by decide +kernel
theorem dX7_today_17 : decode cX7_today 17 = .ok (.aload_n 0, 1) := by decide +kernel
theorem dX7_today_18 : decode cX7_today 18 = .ok (.iload_n 1, 1) := by decide +kernel
theorem dX7_today_19 : decode cX7_today 19 = .ok (.putfield 22, 3) := by decide +kernel
theorem dX7_today_22 : decode cX7_today 22 = .ok (.iconst 1, 1) := by decide +kernel
theorem dX7_today_23 : decode cX7_today 23 = .ok (.ireturn, 1) := by decide +kernel
theorem dX7_as_0 : decode cX7_as 0 = .ok (.iload_n 1, 1) := by decide +kernel
theorem dX7_as_1 : decode cX7_as 1 = .ok (.iconst (-1), 1) := by decide +kernel
theorem dX7_as_2 : decode cX7_as 2 = .ok (.if_icmp .eq 20, 3) := by decide +kernel
theorem dX7_as_5 : decode cX7_as 5 = .ok (.iload_n 1, 1) := by decide +kernel
theorem dX7_as_6 : decode cX7_as 6 = .ok (.invokestatic 52, 3) := by decide +kernel
theorem dX7_as_9 : decode cX7_as 9 = .ok (.ifCond .eq 11, 3) := by decide +kernel
theorem dX7_as_12 : decode cX7_as 12 = .ok (.iload_n 1, 1) := by decide +kernel
theorem dX7_as_13 : decode cX7_as 13 = .ok (.aload_n 0, 1) := by decide +kernel
theorem dX7_as_14 : decode cX7_as 14 = .ok (.getfield 22, 3) := by decide +kernel
theorem dX7_as_17 : decode cX7_as 17 = .ok (.if_icmp .le 5, 3) := by decide +kernel
theorem dX7_as_20 : decode cX7_as 20 = .ok (.iconst (-1), 1) := by decide +kernel
theorem dX7_as_21 : decode cX7_as 21 = .ok (.ireturn, 1) := by decide +kernel
theorem dX7_as_22 : decode cX7_as 22 = .ok (.aload_n 0, 1) := by decide +kernel
theorem dX7_as_23 : decode cX7_as 23 = .ok (.iload_n 1, 1) := by decide +kernel
theorem dX7_as_24 : decode cX7_as 24 = .ok (.putfield 25, 3) := by decide +kernel
theorem dX7_as_27 : decode cX7_as 27 = .ok (.iconst 1, 1) := by decide +kernel
theorem dX7_as_28 : decode cX7_as 28 = .ok (.ireturn, 1) := by decide +kernel
theorem dX7_letter_0 : decode cX7_letter 0 = .ok (.aload_n 0, 1) := by decide +kernel
theorem dX7_letter_1 : decode cX7_letter 1 = .ok (.iload_n 1, 1) := by decide +kernel
theorem dX7_letter_2 : decode cX7_letter 2 = .ok (.iload_n 2, 1) := by decide +kernel
theorem dX7_letter_3 : decode cX7_letter 3 = .ok (.invokevirtual 56, 3) := by decide +kernel
theorem dX7_letter_6 : decode cX7_letter 6 = .ok (.istore_n 3, 1) := by decide +kernel
theorem dX7_letter_7 : decode cX7_letter 7 = .ok (.iload_n 3, 1) := by decide +kernel
theorem dX7_letter_8 : decode cX7_letter 8 = .ok (.ifCond .eq 5, 3) := by decide +kernel
theorem dX7_letter_11 : decode cX7_letter 11 = .ok (.iload_n 3, 1) := by decide +kernel
theorem dX7_letter_12 : decode cX7_letter 12 = .ok (.ireturn, 1) := by decide +kernel
theorem dX7_letter_13 : decode cX7_letter 13 = .ok (.aload_n 0, 1) := by decide +kernel
theorem dX7_letter_14 : decode cX7_letter 14 = .ok (.new 9, 3) := by decide +kernel
theorem dX7_letter_17 : decode cX7_letter 17 = .ok (.dup, 1) := by decide +kernel
theorem dX7_letter_18 : decode cX7_letter 18 = .ok (.aload_n 0, 1) := by decide +kernel
theorem dX7_letter_19 : decode cX7_letter 19 = .ok (.getfield 22, 3) := by decide +kernel
theorem dX7_letter_22 : decode cX7_letter 22 = .ok (.iconst 0, 1) := by decide +kernel
theorem dX7_letter_23 : decode cX7_letter 23 = .ok (.iload_n 1, 1) := by decide +kernel
theorem dX7_letter_24 : decode cX7_letter 24 = .ok (.iload_n 2, 1) := by decide +kernel
theorem dX7_letter_25 : decode cX7_letter 25 = .ok (.invokespecial 60, 3) := by decide +kernel
theorem dX7_letter_28 : decode cX7_letter 28 = .ok (.invokevirtual 63, 3) := by decide +kernel
theorem dX7_letter_31 : decode cX7_letter 31 = .ok (.ireturn, 1) := by decide +kernel
theorem dX7_term_0 : decode cX7_term 0 = .ok (.aload_n 0, 1) := by decide +kernel
theorem dX7_term_1 : decode cX7_term 1 = .ok (.iload_n 1, 1) := by decide +kernel
theorem dX7_term_2 : decode cX7_term 2 = .ok (.iload_n 2, 1) := by decide +kernel
theorem dX7_term_3 : decode cX7_term 3 = .ok (.invokevirtual 56, 3) := by decide +kernel
theorem dX7_term_6 : decode cX7_term 6 = .ok (.istore 5, 2) := by decide +kernel
theorem dX7_term_8 : decode cX7_term 8 = .ok (.iload 5, 2) := by decide +kernel
theorem dX7_term_10 : decode cX7_term 10 = .ok (.ifCond .eq 6, 3) := by decide +kernel
theorem dX7_term_13 : decode cX7_term 13 = .ok (.iload 5, 2) := by decide +kernel
theorem dX7_term_15 : decode cX7_term 15 = .ok (.ireturn, 1) := by decide +kernel
theorem dX7_term_16 : decode cX7_term 16 = .ok (.iload_n 3, 1) := by decide +kernel
theorem dX7_term_17 : decode cX7_term 17 = .ok (.invokestatic 52, 3) := by decide +kernel
theorem dX7_term_20 : decode cX7_term 20 = .ok (.ifCond .eq 11, 3) := by decide +kernel
theorem dX7_term_23 : decode cX7_term 23 = .ok (.iload 4, 2) := by decide +kernel
theorem dX7_term_25 : decode cX7_term 25 = .ok (.invokestatic 67, 3) := by decide +kernel
theorem dX7_term_28 : decode cX7_term 28 = .ok (.ifCond .ne 5, 3) := by decide +kernel
theorem dX7_term_31 : decode cX7_term 31 = .ok (.iconst 3, 1) := by decide +kernel
theorem dX7_term_32 : decode cX7_term 32 = .ok (.ireturn, 1) := by decide +kernel
theorem dX7_term_33 : decode cX7_term 33 = .ok (.new 9, 3) := by decide +kernel
theorem dX7_term_36 : decode cX7_term 36 = .ok (.dup, 1) := by decide +kernel
theorem dX7_term_37 : decode cX7_term 37 = .ok (.aload_n 0, 1) := by decide +kernel
theorem dX7_term_38 : decode cX7_term 38 = .ok (.getfield 22, 3) := by decide +kernel
theorem dX7_term_41 : decode cX7_term 41 = .ok (.iconst 1, 1) := by decide +kernel
theorem dX7_term_42 : decode cX7_term 42 = .ok (.iload_n 1, 1) := by decide +kernel
theorem dX7_term_43 : decode cX7_term 43 = .ok (.iload_n 2, 1) := by decide +kernel
theorem dX7_term_44 : decode cX7_term 44 = .ok (.invokespecial 60, 3) := by decide +kernel
theorem dX7_term_47 : decode cX7_term 47 = .ok (.astore 6, 2) := by decide +kernel
theorem dX7_term_49 : decode cX7_term 49 = .ok (.aload 6, 2) := by decide +kernel
theorem dX7_term_51 : decode cX7_term 51 = .ok (.iload_n 3, 1) := by decide +kernel
theorem dX7_term_52 : decode cX7_term 52 = .ok (.putfield 70, 3) := by decide +kernel
theorem dX7_term_55 : decode cX7_term 55 = .ok (.aload 6, 2) := by decide +kernel
theorem dX7_term_57 : decode cX7_term 57 = .ok (.iload 4, 2) := by decide +kernel
theorem dX7_term_59 : decode cX7_term 59 = .ok (.putfield 73, 3) := by decide +kernel
theorem dX7_term_62 : decode cX7_term 62 = .ok (.aload_n 0, 1) := by decide +kernel
theorem dX7_term_63 : decode cX7_term 63 = .ok (.aload 6, 2) := by decide +kernel
theorem dX7_term_65 : decode cX7_term 65 = .ok (.invokevirtual 63, 3) := by decide +kernel
theorem dX7_term_68 : decode cX7_term 68 = .ok (.ireturn, 1) := by decide +kernel
theorem dX7_waits_0 : decode cX7_waits 0 = .ok (.aload_n 0, 1) := by decide +kernel
theorem dX7_waits_1 : decode cX7_waits 1 = .ok (.iload_n 1, 1) := by decide +kernel
theorem dX7_waits_2 : decode cX7_waits 2 = .ok (.iload_n 2, 1) := by decide +kernel
theorem dX7_waits_3 : decode cX7_waits 3 = .ok (.invokevirtual 56, 3) := by decide +kernel
theorem dX7_waits_6 : decode cX7_waits 6 = .ok (.istore 7, 2) := by decide +kernel
theorem dX7_waits_8 : decode cX7_waits 8 = .ok (.iload 7, 2) := by decide +kernel
theorem dX7_waits_10 : decode cX7_waits 10 = .ok (.ifCond .eq 6, 3) := by decide +kernel
theorem dX7_waits_13 : decode cX7_waits 13 = .ok (.iload 7, 2) := by decide +kernel
theorem dX7_waits_15 : decode cX7_waits 15 = .ok (.ireturn, 1) := by decide +kernel
theorem dX7_waits_16 : decode cX7_waits 16 = .ok (.iload_n 3, 1) := by decide +kernel
theorem dX7_waits_17 : decode cX7_waits 17 = .ok (.iconst 3, 1) := by decide +kernel
theorem dX7_waits_18 : decode cX7_waits 18 = .ok (.if_icmp .eq 13, 3) := by decide +kernel
theorem dX7_waits_21 : decode cX7_waits 21 = .ok (.iload_n 3, 1) := by decide +kernel
theorem dX7_waits_22 : decode cX7_waits 22 = .ok (.iconst 4, 1) := by decide +kernel
theorem dX7_waits_23 : decode cX7_waits 23 = .ok (.if_icmp .eq 8, 3) := by decide +kernel
theorem dX7_waits_26 : decode cX7_waits 26 = .ok (.iload_n 3, 1) := by decide +kernel
theorem dX7_waits_27 : decode cX7_waits 27 = .ok (.iconst 5, 1) := by decide +kernel
theorem dX7_waits_28 : decode cX7_waits 28 = .ok (.if_icmp .ne 7, 3) := by decide +kernel
theorem dX7_waits_31 : decode cX7_waits 31 = .ok (.iconst 1, 1) := by decide +kernel
theorem dX7_waits_32 : decode cX7_waits 32 = .ok (.goto 4, 3) := by decide +kernel
theorem dX7_waits_35 : decode cX7_waits 35 = .ok (.iconst 0, 1) := by decide +kernel
theorem dX7_waits_36 : decode cX7_waits 36 = .ok (.istore 8, 2) := by decide +kernel
theorem dX7_waits_38 : decode cX7_waits 38 = .ok (.iload 8, 2) := by decide +kernel
theorem dX7_waits_40 : decode cX7_waits 40 = .ok (.ifCond .eq 27, 3) := by decide +kernel
theorem dX7_waits_43 : decode cX7_waits 43 = .ok (.iload 4, 2) := by decide +kernel
theorem dX7_waits_45 : decode cX7_waits 45 = .ok (.invokestatic 52, 3) := by decide +kernel
theorem dX7_waits_48 : decode cX7_waits 48 = .ok (.ifCond .eq 19, 3) := by decide +kernel
theorem dX7_waits_51 : decode cX7_waits 51 = .ok (.iload 5, 2) := by decide +kernel
theorem dX7_waits_53 : decode cX7_waits 53 = .ok (.invokestatic 67, 3) := by decide +kernel
theorem dX7_waits_56 : decode cX7_waits 56 = .ok (.ifCond .eq 11, 3) := by decide +kernel
theorem dX7_waits_59 : decode cX7_waits 59 = .ok (.iload 6, 2) := by decide +kernel
theorem dX7_waits_61 : decode cX7_waits 61 = .ok (.invokestatic 76, 3) := by decide +kernel
theorem dX7_waits_64 : decode cX7_waits 64 = .ok (.ifCond .ne 5, 3) := by decide +kernel
theorem dX7_waits_67 : decode cX7_waits 67 = .ok (.iconst 3, 1) := by decide +kernel
theorem dX7_waits_68 : decode cX7_waits 68 = .ok (.ireturn, 1) := by decide +kernel
theorem dX7_waits_69 : decode cX7_waits 69 = .ok (.aload_n 0, 1) := by decide +kernel
theorem dX7_waits_70 : decode cX7_waits 70 = .ok (.getfield 48, 3) := by decide +kernel
theorem dX7_waits_73 : decode cX7_waits 73 = .ok (.aload_n 0, 1) := by decide +kernel
theorem dX7_waits_74 : decode cX7_waits 74 = .ok (.getfield 31, 3) := by decide +kernel
theorem dX7_waits_77 : decode cX7_waits 77 = .ok (.iload_n 1, 1) := by decide +kernel
theorem dX7_waits_78 : decode cX7_waits 78 = .ok (.invokevirtual 79, 3) := by decide +kernel
theorem dX7_waits_81 : decode cX7_waits 81 = .ok (.iload_n 2, 1) := by decide +kernel
theorem dX7_waits_82 : decode cX7_waits 82 = .ok (.iload 6, 2) := by decide +kernel
theorem dX7_waits_84 : decode cX7_waits 84 = .ok (.invokevirtual 83, 3) := by decide +kernel
theorem dX7_waits_87 : decode cX7_waits 87 = .ok (.ifCond .eq 5, 3) := by decide +kernel
theorem dX7_waits_90 : decode cX7_waits 90 = .ok (.iconst 4, 1) := by decide +kernel
theorem dX7_waits_91 : decode cX7_waits 91 = .ok (.ireturn, 1) := by decide +kernel
theorem dX7_waits_92 : decode cX7_waits 92 = .ok (.new 9, 3) := by decide +kernel
theorem dX7_waits_95 : decode cX7_waits 95 = .ok (.dup, 1) := by decide +kernel
theorem dX7_waits_96 : decode cX7_waits 96 = .ok (.aload_n 0, 1) := by decide +kernel
theorem dX7_waits_97 : decode cX7_waits 97 = .ok (.getfield 22, 3) := by decide +kernel
theorem dX7_waits_100 : decode cX7_waits 100 = .ok (.iconst 2, 1) := by decide +kernel
theorem dX7_waits_101 : decode cX7_waits 101 = .ok (.iload_n 1, 1) := by decide +kernel
theorem dX7_waits_102 : decode cX7_waits 102 = .ok (.iload_n 2, 1) := by decide +kernel
theorem dX7_waits_103 : decode cX7_waits 103 = .ok (.invokespecial 60, 3) := by decide +kernel
theorem dX7_waits_106 : decode cX7_waits 106 = .ok (.astore 9, 2) := by decide +kernel
theorem dX7_waits_108 : decode cX7_waits 108 = .ok (.aload 9, 2) := by decide +kernel
theorem dX7_waits_110 : decode cX7_waits 110 = .ok (.iload_n 3, 1) := by decide +kernel
theorem dX7_waits_111 : decode cX7_waits 111 = .ok (.putfield 70, 3) := by decide +kernel
theorem dX7_waits_114 : decode cX7_waits 114 = .ok (.aload 9, 2) := by decide +kernel
theorem dX7_waits_116 : decode cX7_waits 116 = .ok (.iload 4, 2) := by decide +kernel
theorem dX7_waits_118 : decode cX7_waits 118 = .ok (.putfield 73, 3) := by decide +kernel
theorem dX7_waits_121 : decode cX7_waits 121 = .ok (.aload 9, 2) := by decide +kernel
theorem dX7_waits_123 : decode cX7_waits 123 = .ok (.iload 5, 2) := by decide +kernel
theorem dX7_waits_125 : decode cX7_waits 125 = .ok (.putfield 87, 3) := by decide +kernel
theorem dX7_waits_128 : decode cX7_waits 128 = .ok (.aload 9, 2) := by decide +kernel
theorem dX7_waits_130 : decode cX7_waits 130 = .ok (.iload 6, 2) := by decide +kernel
theorem dX7_waits_132 : decode cX7_waits 132 = .ok (.putfield 90, 3) := by decide +kernel
theorem dX7_waits_135 : decode cX7_waits 135 = .ok (.aload_n 0, 1) := by decide +kernel
theorem dX7_waits_136 : decode cX7_waits 136 = .ok (.aload 9, 2) := by decide +kernel
theorem dX7_waits_138 : decode cX7_waits 138 = .ok (.invokevirtual 63, 3) := by decide +kernel
theorem dX7_waits_141 : decode cX7_waits 141 = .ok (.ireturn, 1) := by decide +kernel
theorem dX7_stay_0 : decode cX7_stay 0 = .ok (.aload_n 0, 1) := by decide +kernel
theorem dX7_stay_1 : decode cX7_stay 1 = .ok (.iload_n 1, 1) := by decide +kernel
theorem dX7_stay_2 : decode cX7_stay 2 = .ok (.iload_n 2, 1) := by decide +kernel
theorem dX7_stay_3 : decode cX7_stay 3 = .ok (.invokevirtual 56, 3) := by decide +kernel
theorem dX7_stay_6 : decode cX7_stay 6 = .ok (.istore 7, 2) := by decide +kernel
theorem dX7_stay_8 : decode cX7_stay 8 = .ok (.iload 7, 2) := by decide +kernel
theorem dX7_stay_10 : decode cX7_stay 10 = .ok (.ifCond .eq 6, 3) := by decide +kernel
theorem dX7_stay_13 : decode cX7_stay 13 = .ok (.iload 7, 2) := by decide +kernel
theorem dX7_stay_15 : decode cX7_stay 15 = .ok (.ireturn, 1) := by decide +kernel
theorem dX7_stay_16 : decode cX7_stay 16 = .ok (.iload_n 3, 1) := by decide +kernel
theorem dX7_stay_17 : decode cX7_stay 17 = .ok (.bipush 6, 2) := by decide +kernel
theorem dX7_stay_19 : decode cX7_stay 19 = .ok (.if_icmp .eq 9, 3) := by decide +kernel
theorem dX7_stay_22 : decode cX7_stay 22 = .ok (.iload_n 3, 1) := by decide +kernel
theorem dX7_stay_23 : decode cX7_stay 23 = .ok (.bipush 7, 2) := by decide +kernel
theorem dX7_stay_25 : decode cX7_stay 25 = .ok (.if_icmp .ne 7, 3) := by decide +kernel
theorem dX7_stay_28 : decode cX7_stay 28 = .ok (.iconst 1, 1) := by decide +kernel
theorem dX7_stay_29 : decode cX7_stay 29 = .ok (.goto 4, 3) := by decide +kernel
theorem dX7_stay_32 : decode cX7_stay 32 = .ok (.iconst 0, 1) := by decide +kernel
theorem dX7_stay_33 : decode cX7_stay 33 = .ok (.istore 8, 2) := by decide +kernel
theorem dX7_stay_35 : decode cX7_stay 35 = .ok (.iload 8, 2) := by decide +kernel
theorem dX7_stay_37 : decode cX7_stay 37 = .ok (.ifCond .eq 34, 3) := by decide +kernel
theorem dX7_stay_40 : decode cX7_stay 40 = .ok (.iload 4, 2) := by decide +kernel
theorem dX7_stay_42 : decode cX7_stay 42 = .ok (.invokestatic 52, 3) := by decide +kernel
theorem dX7_stay_45 : decode cX7_stay 45 = .ok (.ifCond .eq 26, 3) := by decide +kernel
theorem dX7_stay_48 : decode cX7_stay 48 = .ok (.iload 5, 2) := by decide +kernel
theorem dX7_stay_50 : decode cX7_stay 50 = .ok (.invokestatic 52, 3) := by decide +kernel
theorem dX7_stay_53 : decode cX7_stay 53 = .ok (.ifCond .eq 18, 3) := by decide +kernel
theorem dX7_stay_56 : decode cX7_stay 56 = .ok (.iload 5, 2) := by decide +kernel
theorem dX7_stay_58 : decode cX7_stay 58 = .ok (.iload 4, 2) := by decide +kernel
theorem dX7_stay_60 : decode cX7_stay 60 = .ok (.if_icmp .lt 11, 3) := by decide +kernel
theorem dX7_stay_63 : decode cX7_stay 63 = .ok (.iload 6, 2) := by decide +kernel
theorem dX7_stay_65 : decode cX7_stay 65 = .ok (.invokestatic 76, 3) := by decide +kernel
theorem dX7_stay_68 : decode cX7_stay 68 = .ok (.ifCond .ne 5, 3) := by decide +kernel
theorem dX7_stay_71 : decode cX7_stay 71 = .ok (.iconst 3, 1) := by decide +kernel
theorem dX7_stay_72 : decode cX7_stay 72 = .ok (.ireturn, 1) := by decide +kernel
theorem dX7_stay_73 : decode cX7_stay 73 = .ok (.new 9, 3) := by decide +kernel
theorem dX7_stay_76 : decode cX7_stay 76 = .ok (.dup, 1) := by decide +kernel
theorem dX7_stay_77 : decode cX7_stay 77 = .ok (.aload_n 0, 1) := by decide +kernel
theorem dX7_stay_78 : decode cX7_stay 78 = .ok (.getfield 22, 3) := by decide +kernel
theorem dX7_stay_81 : decode cX7_stay 81 = .ok (.iconst 3, 1) := by decide +kernel
theorem dX7_stay_82 : decode cX7_stay 82 = .ok (.iload_n 1, 1) := by decide +kernel
theorem dX7_stay_83 : decode cX7_stay 83 = .ok (.iload_n 2, 1) := by decide +kernel
theorem dX7_stay_84 : decode cX7_stay 84 = .ok (.invokespecial 60, 3) := by decide +kernel
theorem dX7_stay_87 : decode cX7_stay 87 = .ok (.astore 9, 2) := by decide +kernel
theorem dX7_stay_89 : decode cX7_stay 89 = .ok (.aload 9, 2) := by decide +kernel
theorem dX7_stay_91 : decode cX7_stay 91 = .ok (.iload_n 3, 1) := by decide +kernel
theorem dX7_stay_92 : decode cX7_stay 92 = .ok (.putfield 70, 3) := by decide +kernel
theorem dX7_stay_95 : decode cX7_stay 95 = .ok (.aload 9, 2) := by decide +kernel
theorem dX7_stay_97 : decode cX7_stay 97 = .ok (.iload 4, 2) := by decide +kernel
theorem dX7_stay_99 : decode cX7_stay 99 = .ok (.putfield 73, 3) := by decide +kernel
theorem dX7_stay_102 : decode cX7_stay 102 = .ok (.aload 9, 2) := by decide +kernel
theorem dX7_stay_104 : decode cX7_stay 104 = .ok (.iload 5, 2) := by decide +kernel
theorem dX7_stay_106 : decode cX7_stay 106 = .ok (.putfield 87, 3) := by decide +kernel
theorem dX7_stay_109 : decode cX7_stay 109 = .ok (.aload 9, 2) := by decide +kernel
theorem dX7_stay_111 : decode cX7_stay 111 = .ok (.iload 6, 2) := by decide +kernel
theorem dX7_stay_113 : decode cX7_stay 113 = .ok (.putfield 90, 3) := by decide +kernel
theorem dX7_stay_116 : decode cX7_stay 116 = .ok (.aload_n 0, 1) := by decide +kernel
theorem dX7_stay_117 : decode cX7_stay 117 = .ok (.aload 9, 2) := by decide +kernel
theorem dX7_stay_119 : decode cX7_stay 119 = .ok (.invokevirtual 63, 3) := by decide +kernel
theorem dX7_stay_122 : decode cX7_stay 122 = .ok (.ireturn, 1) := by decide +kernel
theorem dX7_quash_0 : decode cX7_quash 0 = .ok (.aload_n 0, 1) := by decide +kernel
theorem dX7_quash_1 : decode cX7_quash 1 = .ok (.aload_n 0, 1) := by decide +kernel
theorem dX7_quash_2 : decode cX7_quash 2 = .ok (.getfield 31, 3) := by decide +kernel
theorem dX7_quash_5 : decode cX7_quash 5 = .ok (.iload_n 1, 1) := by decide +kernel
theorem dX7_quash_6 : decode cX7_quash 6 = .ok (.iload_n 3, 1) := by decide +kernel
theorem dX7_quash_7 : decode cX7_quash 7 = .ok (.invokevirtual 93, 3) := by decide +kernel
theorem dX7_quash_10 : decode cX7_quash 10 = .ok (.astore 4, 2) := by decide +kernel
theorem dX7_quash_12 : decode cX7_quash 12 = .ok (.aload 4, 2) := by decide +kernel
theorem dX7_quash_14 : decode cX7_quash 14 = .ok (.ifnonnull 5, 3) := by decide +kernel
theorem dX7_quash_17 : decode cX7_quash 17 = .ok (.iconst 1, 1) := by decide +kernel
theorem dX7_quash_18 : decode cX7_quash 18 = .ok (.ireturn, 1) := by decide +kernel
theorem dX7_quash_19 : decode cX7_quash 19 = .ok (.aload_n 0, 1) := by decide +kernel
theorem dX7_quash_20 : decode cX7_quash 20 = .ok (.iload_n 1, 1) := by decide +kernel
theorem dX7_quash_21 : decode cX7_quash 21 = .ok (.iload_n 2, 1) := by decide +kernel
theorem dX7_quash_22 : decode cX7_quash 22 = .ok (.invokevirtual 56, 3) := by decide +kernel
theorem dX7_quash_25 : decode cX7_quash 25 = .ok (.istore 5, 2) := by decide +kernel
theorem dX7_quash_27 : decode cX7_quash 27 = .ok (.iload 5, 2) := by decide +kernel
theorem dX7_quash_29 : decode cX7_quash 29 = .ok (.ifCond .eq 6, 3) := by decide +kernel
theorem dX7_quash_32 : decode cX7_quash 32 = .ok (.iload 5, 2) := by decide +kernel
theorem dX7_quash_34 : decode cX7_quash 34 = .ok (.ireturn, 1) := by decide +kernel
theorem dX7_quash_35 : decode cX7_quash 35 = .ok (.aload 4, 2) := by decide +kernel
theorem dX7_quash_37 : decode cX7_quash 37 = .ok (.getfield 97, 3) := by decide +kernel
theorem dX7_quash_40 : decode cX7_quash 40 = .ok (.iconst 2, 1) := by decide +kernel
theorem dX7_quash_41 : decode cX7_quash 41 = .ok (.if_icmp .lt 21, 3) := by decide +kernel
theorem dX7_quash_44 : decode cX7_quash 44 = .ok (.aload 4, 2) := by decide +kernel
theorem dX7_quash_46 : decode cX7_quash 46 = .ok (.getfield 97, 3) := by decide +kernel
theorem dX7_quash_49 : decode cX7_quash 49 = .ok (.bipush 7, 2) := by decide +kernel
theorem dX7_quash_51 : decode cX7_quash 51 = .ok (.if_icmp .gt 11, 3) := by decide +kernel
theorem dX7_quash_54 : decode cX7_quash 54 = .ok (.aload 4, 2) := by decide +kernel
theorem dX7_quash_56 : decode cX7_quash 56 = .ok (.invokevirtual 102, 3) := by decide +kernel
theorem dX7_quash_59 : decode cX7_quash 59 = .ok (.ifCond .eq 5, 3) := by decide +kernel
theorem dX7_quash_62 : decode cX7_quash 62 = .ok (.iconst 5, 1) := by decide +kernel
theorem dX7_quash_63 : decode cX7_quash 63 = .ok (.ireturn, 1) := by decide +kernel
theorem dX7_quash_64 : decode cX7_quash 64 = .ok (.new 9, 3) := by decide +kernel
theorem dX7_quash_67 : decode cX7_quash 67 = .ok (.dup, 1) := by decide +kernel
theorem dX7_quash_68 : decode cX7_quash 68 = .ok (.aload_n 0, 1) := by decide +kernel
theorem dX7_quash_69 : decode cX7_quash 69 = .ok (.getfield 22, 3) := by decide +kernel
theorem dX7_quash_72 : decode cX7_quash 72 = .ok (.iconst 4, 1) := by decide +kernel
theorem dX7_quash_73 : decode cX7_quash 73 = .ok (.iload_n 1, 1) := by decide +kernel
theorem dX7_quash_74 : decode cX7_quash 74 = .ok (.iload_n 2, 1) := by decide +kernel
theorem dX7_quash_75 : decode cX7_quash 75 = .ok (.invokespecial 60, 3) := by decide +kernel
theorem dX7_quash_78 : decode cX7_quash 78 = .ok (.astore 6, 2) := by decide +kernel
theorem dX7_quash_80 : decode cX7_quash 80 = .ok (.aload 6, 2) := by decide +kernel
theorem dX7_quash_82 : decode cX7_quash 82 = .ok (.iload_n 3, 1) := by decide +kernel
theorem dX7_quash_83 : decode cX7_quash 83 = .ok (.putfield 70, 3) := by decide +kernel
theorem dX7_quash_86 : decode cX7_quash 86 = .ok (.aload_n 0, 1) := by decide +kernel
theorem dX7_quash_87 : decode cX7_quash 87 = .ok (.aload 6, 2) := by decide +kernel
theorem dX7_quash_89 : decode cX7_quash 89 = .ok (.invokevirtual 63, 3) := by decide +kernel
theorem dX7_quash_92 : decode cX7_quash 92 = .ok (.ireturn, 1) := by decide +kernel
theorem dX7_month_0 : decode cX7_month 0 = .ok (.aload_n 0, 1) := by decide +kernel
theorem dX7_month_1 : decode cX7_month 1 = .ok (.iload_n 1, 1) := by decide +kernel
theorem dX7_month_2 : decode cX7_month 2 = .ok (.invokevirtual 106, 3) := by decide +kernel
theorem dX7_month_5 : decode cX7_month 5 = .ok (.ifCond .eq 10, 3) := by decide +kernel
theorem dX7_month_8 : decode cX7_month 8 = .ok (.iload_n 2, 1) := by decide +kernel
theorem dX7_month_9 : decode cX7_month 9 = .ok (.invokestatic 109, 3) := by decide +kernel
theorem dX7_month_12 : decode cX7_month 12 = .ok (.ifCond .ne 5, 3) := by decide +kernel
theorem dX7_month_15 : decode cX7_month 15 = .ok (.iconst 1, 1) := by decide +kernel
theorem dX7_month_16 : decode cX7_month 16 = .ok (.ireturn, 1) := by decide +kernel
theorem dX7_month_17 : decode cX7_month 17 = .ok (.iload 4, 2) := by decide +kernel
theorem dX7_month_19 : decode cX7_month 19 = .ok (.ifCond .lt 10, 3) := by decide +kernel
theorem dX7_month_22 : decode cX7_month 22 = .ok (.iload 4, 2) := by decide +kernel
theorem dX7_month_24 : decode cX7_month 24 = .ok (.bipush 30, 2) := by decide +kernel
theorem dX7_month_26 : decode cX7_month 26 = .ok (.if_icmp .le 5, 3) := by decide +kernel
theorem dX7_month_29 : decode cX7_month 29 = .ok (.iconst 3, 1) := by decide +kernel
theorem dX7_month_30 : decode cX7_month 30 = .ok (.ireturn, 1) := by decide +kernel
theorem dX7_month_31 : decode cX7_month 31 = .ok (.new 9, 3) := by decide +kernel
theorem dX7_month_34 : decode cX7_month 34 = .ok (.dup, 1) := by decide +kernel
theorem dX7_month_35 : decode cX7_month 35 = .ok (.aload_n 0, 1) := by decide +kernel
theorem dX7_month_36 : decode cX7_month 36 = .ok (.getfield 22, 3) := by decide +kernel
theorem dX7_month_39 : decode cX7_month 39 = .ok (.iconst 5, 1) := by decide +kernel
theorem dX7_month_40 : decode cX7_month 40 = .ok (.iload_n 1, 1) := by decide +kernel
theorem dX7_month_41 : decode cX7_month 41 = .ok (.iload_n 2, 1) := by decide +kernel
theorem dX7_month_42 : decode cX7_month 42 = .ok (.invokespecial 60, 3) := by decide +kernel
theorem dX7_month_45 : decode cX7_month 45 = .ok (.astore 5, 2) := by decide +kernel
theorem dX7_month_47 : decode cX7_month 47 = .ok (.aload 5, 2) := by decide +kernel
theorem dX7_month_49 : decode cX7_month 49 = .ok (.iload_n 3, 1) := by decide +kernel
theorem dX7_month_50 : decode cX7_month 50 = .ok (.ifCond .eq 7, 3) := by decide +kernel
theorem dX7_month_53 : decode cX7_month 53 = .ok (.iconst 1, 1) := by decide +kernel
theorem dX7_month_54 : decode cX7_month 54 = .ok (.goto 4, 3) := by decide +kernel
theorem dX7_month_57 : decode cX7_month 57 = .ok (.iconst 0, 1) := by decide +kernel
theorem dX7_month_58 : decode cX7_month 58 = .ok (.putfield 70, 3) := by decide +kernel
theorem dX7_month_61 : decode cX7_month 61 = .ok (.aload 5, 2) := by decide +kernel
theorem dX7_month_63 : decode cX7_month 63 = .ok (.iload 4, 2) := by decide +kernel
theorem dX7_month_65 : decode cX7_month 65 = .ok (.putfield 73, 3) := by decide +kernel
theorem dX7_month_68 : decode cX7_month 68 = .ok (.aload_n 0, 1) := by decide +kernel
theorem dX7_month_69 : decode cX7_month 69 = .ok (.aload 5, 2) := by decide +kernel
theorem dX7_month_71 : decode cX7_month 71 = .ok (.invokevirtual 63, 3) := by decide +kernel
theorem dX7_month_74 : decode cX7_month 74 = .ok (.ireturn, 1) := by decide +kernel
theorem dX7_held_0 : decode cX7_held 0 = .ok (.aload_n 0, 1) := by decide +kernel
theorem dX7_held_1 : decode cX7_held 1 = .ok (.aload_n 0, 1) := by decide +kernel
theorem dX7_held_2 : decode cX7_held 2 = .ok (.getfield 31, 3) := by decide +kernel
theorem dX7_held_5 : decode cX7_held 5 = .ok (.iload_n 1, 1) := by decide +kernel
theorem dX7_held_6 : decode cX7_held 6 = .ok (.invokevirtual 112, 3) := by decide +kernel
theorem dX7_held_9 : decode cX7_held 9 = .ok (.astore 5, 2) := by decide +kernel
theorem dX7_held_11 : decode cX7_held 11 = .ok (.aload 5, 2) := by decide +kernel
theorem dX7_held_13 : decode cX7_held 13 = .ok (.ifnull 10, 3) := by decide +kernel
theorem dX7_held_16 : decode cX7_held 16 = .ok (.iload_n 2, 1) := by decide +kernel
theorem dX7_held_17 : decode cX7_held 17 = .ok (.invokestatic 109, 3) := by decide +kernel
theorem dX7_held_20 : decode cX7_held 20 = .ok (.ifCond .ne 5, 3) := by decide +kernel
theorem dX7_held_23 : decode cX7_held 23 = .ok (.iconst 1, 1) := by decide +kernel
theorem dX7_held_24 : decode cX7_held 24 = .ok (.ireturn, 1) := by decide +kernel
theorem dX7_held_25 : decode cX7_held 25 = .ok (.aload 5, 2) := by decide +kernel
theorem dX7_held_27 : decode cX7_held 27 = .ok (.iload_n 2, 1) := by decide +kernel
theorem dX7_held_28 : decode cX7_held 28 = .ok (.invokevirtual 115, 3) := by decide +kernel
theorem dX7_held_31 : decode cX7_held 31 = .ok (.ifCond .eq 16, 3) := by decide +kernel
theorem dX7_held_34 : decode cX7_held 34 = .ok (.aload 5, 2) := by decide +kernel
theorem dX7_held_36 : decode cX7_held 36 = .ok (.iload_n 2, 1) := by decide +kernel
theorem dX7_held_37 : decode cX7_held 37 = .ok (.iload 4, 2) := by decide +kernel
theorem dX7_held_39 : decode cX7_held 39 = .ok (.invokevirtual 120, 3) := by decide +kernel
theorem dX7_held_42 : decode cX7_held 42 = .ok (.ifCond .ne 5, 3) := by decide +kernel
theorem dX7_held_45 : decode cX7_held 45 = .ok (.iconst 3, 1) := by decide +kernel
theorem dX7_held_46 : decode cX7_held 46 = .ok (.ireturn, 1) := by decide +kernel
theorem dX7_held_47 : decode cX7_held 47 = .ok (.aload 5, 2) := by decide +kernel
theorem dX7_held_49 : decode cX7_held 49 = .ok (.iload_n 2, 1) := by decide +kernel
theorem dX7_held_50 : decode cX7_held 50 = .ok (.invokevirtual 115, 3) := by decide +kernel
theorem dX7_held_53 : decode cX7_held 53 = .ok (.ifCond .eq 17, 3) := by decide +kernel
theorem dX7_held_56 : decode cX7_held 56 = .ok (.iload_n 3, 1) := by decide +kernel
theorem dX7_held_57 : decode cX7_held 57 = .ok (.ifCond .lt 13, 3) := by decide +kernel
theorem dX7_held_60 : decode cX7_held 60 = .ok (.iload_n 3, 1) := by decide +kernel
theorem dX7_held_61 : decode cX7_held 61 = .ok (.aload 5, 2) := by decide +kernel
theorem dX7_held_63 : decode cX7_held 63 = .ok (.iload_n 2, 1) := by decide +kernel
theorem dX7_held_64 : decode cX7_held 64 = .ok (.invokevirtual 124, 3) := by decide +kernel
theorem dX7_held_67 : decode cX7_held 67 = .ok (.if_icmp .lt 6, 3) := by decide +kernel
theorem dX7_held_70 : decode cX7_held 70 = .ok (.bipush 6, 2) := by decide +kernel
theorem dX7_held_72 : decode cX7_held 72 = .ok (.ireturn, 1) := by decide +kernel
theorem dX7_held_73 : decode cX7_held 73 = .ok (.new 9, 3) := by decide +kernel
theorem dX7_held_76 : decode cX7_held 76 = .ok (.dup, 1) := by decide +kernel
theorem dX7_held_77 : decode cX7_held 77 = .ok (.aload_n 0, 1) := by decide +kernel
theorem dX7_held_78 : decode cX7_held 78 = .ok (.getfield 22, 3) := by decide +kernel
theorem dX7_held_81 : decode cX7_held 81 = .ok (.bipush 6, 2) := by decide +kernel
theorem dX7_held_83 : decode cX7_held 83 = .ok (.iload_n 1, 1) := by decide +kernel
theorem dX7_held_84 : decode cX7_held 84 = .ok (.iload_n 2, 1) := by decide +kernel
theorem dX7_held_85 : decode cX7_held 85 = .ok (.invokespecial 60, 3) := by decide +kernel
theorem dX7_held_88 : decode cX7_held 88 = .ok (.astore 6, 2) := by decide +kernel
theorem dX7_held_90 : decode cX7_held 90 = .ok (.aload 6, 2) := by decide +kernel
theorem dX7_held_92 : decode cX7_held 92 = .ok (.iload_n 3, 1) := by decide +kernel
theorem dX7_held_93 : decode cX7_held 93 = .ok (.putfield 70, 3) := by decide +kernel
theorem dX7_held_96 : decode cX7_held 96 = .ok (.aload 6, 2) := by decide +kernel
theorem dX7_held_98 : decode cX7_held 98 = .ok (.iload 4, 2) := by decide +kernel
theorem dX7_held_100 : decode cX7_held 100 = .ok (.putfield 73, 3) := by decide +kernel
theorem dX7_held_103 : decode cX7_held 103 = .ok (.aload_n 0, 1) := by decide +kernel
theorem dX7_held_104 : decode cX7_held 104 = .ok (.aload 6, 2) := by decide +kernel
theorem dX7_held_106 : decode cX7_held 106 = .ok (.invokevirtual 63, 3) := by decide +kernel
theorem dX7_held_109 : decode cX7_held 109 = .ok (.ireturn, 1) := by decide +kernel
theorem dX7_tear_0 : decode cX7_tear 0 = .ok (.aload_n 0, 1) := by decide +kernel
theorem dX7_tear_1 : decode cX7_tear 1 = .ok (.iload_n 1, 1) := by decide +kernel
theorem dX7_tear_2 : decode cX7_tear 2 = .ok (.invokevirtual 106, 3) := by decide +kernel
theorem dX7_tear_5 : decode cX7_tear 5 = .ok (.ifCond .eq 10, 3) := by decide +kernel
theorem dX7_tear_8 : decode cX7_tear 8 = .ok (.iload_n 2, 1) := by decide +kernel
theorem dX7_tear_9 : decode cX7_tear 9 = .ok (.invokestatic 109, 3) := by decide +kernel
theorem dX7_tear_12 : decode cX7_tear 12 = .ok (.ifCond .ne 5, 3) := by decide +kernel
theorem dX7_tear_15 : decode cX7_tear 15 = .ok (.iconst 1, 1) := by decide +kernel
theorem dX7_tear_16 : decode cX7_tear 16 = .ok (.ireturn, 1) := by decide +kernel
theorem dX7_tear_17 : decode cX7_tear 17 = .ok (.aload_n 0, 1) := by decide +kernel
theorem dX7_tear_18 : decode cX7_tear 18 = .ok (.new 9, 3) := by decide +kernel
theorem dX7_tear_21 : decode cX7_tear 21 = .ok (.dup, 1) := by decide +kernel
theorem dX7_tear_22 : decode cX7_tear 22 = .ok (.aload_n 0, 1) := by decide +kernel
theorem dX7_tear_23 : decode cX7_tear 23 = .ok (.getfield 22, 3) := by decide +kernel
theorem dX7_tear_26 : decode cX7_tear 26 = .ok (.bipush 7, 2) := by decide +kernel
theorem dX7_tear_28 : decode cX7_tear 28 = .ok (.iload_n 1, 1) := by decide +kernel
theorem dX7_tear_29 : decode cX7_tear 29 = .ok (.iload_n 2, 1) := by decide +kernel
theorem dX7_tear_30 : decode cX7_tear 30 = .ok (.invokespecial 60, 3) := by decide +kernel
theorem dX7_tear_33 : decode cX7_tear 33 = .ok (.invokevirtual 63, 3) := by decide +kernel
theorem dX7_tear_36 : decode cX7_tear 36 = .ok (.ireturn, 1) := by decide +kernel
theorem dX7_copy_0 : decode cX7_copy 0 = .ok (.aload_n 0, 1) := by decide +kernel
theorem dX7_copy_1 : decode cX7_copy 1 = .ok (.aload_n 0, 1) := by decide +kernel
theorem dX7_copy_2 : decode cX7_copy 2 = .ok (.getfield 31, 3) := by decide +kernel
theorem dX7_copy_5 : decode cX7_copy 5 = .ok (.iload_n 1, 1) := by decide +kernel
theorem dX7_copy_6 : decode cX7_copy 6 = .ok (.invokevirtual 112, 3) := by decide +kernel
theorem dX7_copy_9 : decode cX7_copy 9 = .ok (.astore 5, 2) := by decide +kernel
theorem dX7_copy_11 : decode cX7_copy 11 = .ok (.aload 5, 2) := by decide +kernel
theorem dX7_copy_13 : decode cX7_copy 13 = .ok (.ifnull 26, 3) := by decide +kernel
theorem dX7_copy_16 : decode cX7_copy 16 = .ok (.iload_n 2, 1) := by decide +kernel
theorem dX7_copy_17 : decode cX7_copy 17 = .ok (.invokestatic 109, 3) := by decide +kernel
theorem dX7_copy_20 : decode cX7_copy 20 = .ok (.ifCond .eq 19, 3) := by decide +kernel
theorem dX7_copy_23 : decode cX7_copy 23 = .ok (.aload_n 0, 1) := by decide +kernel
theorem dX7_copy_24 : decode cX7_copy 24 = .ok (.iload_n 3, 1) := by decide +kernel
theorem dX7_copy_25 : decode cX7_copy 25 = .ok (.invokevirtual 106, 3) := by decide +kernel
theorem dX7_copy_28 : decode cX7_copy 28 = .ok (.ifCond .eq 11, 3) := by decide +kernel
theorem dX7_copy_31 : decode cX7_copy 31 = .ok (.iload 4, 2) := by decide +kernel
theorem dX7_copy_33 : decode cX7_copy 33 = .ok (.invokestatic 109, 3) := by decide +kernel
theorem dX7_copy_36 : decode cX7_copy 36 = .ok (.ifCond .ne 5, 3) := by decide +kernel
theorem dX7_copy_39 : decode cX7_copy 39 = .ok (.iconst 1, 1) := by decide +kernel
theorem dX7_copy_40 : decode cX7_copy 40 = .ok (.ireturn, 1) := by decide +kernel
theorem dX7_copy_41 : decode cX7_copy 41 = .ok (.aload 5, 2) := by decide +kernel
theorem dX7_copy_43 : decode cX7_copy 43 = .ok (.iload_n 2, 1) := by decide +kernel
theorem dX7_copy_44 : decode cX7_copy 44 = .ok (.invokevirtual 115, 3) := by decide +kernel
theorem dX7_copy_47 : decode cX7_copy 47 = .ok (.ifCond .ne 6, 3) := by decide +kernel
theorem dX7_copy_50 : decode cX7_copy 50 = .ok (.bipush 6, 2) := by decide +kernel
theorem dX7_copy_52 : decode cX7_copy 52 = .ok (.ireturn, 1) := by decide +kernel
theorem dX7_copy_53 : decode cX7_copy 53 = .ok (.new 9, 3) := by decide +kernel
theorem dX7_copy_56 : decode cX7_copy 56 = .ok (.dup, 1) := by decide +kernel
theorem dX7_copy_57 : decode cX7_copy 57 = .ok (.aload_n 0, 1) := by decide +kernel
theorem dX7_copy_58 : decode cX7_copy 58 = .ok (.getfield 22, 3) := by decide +kernel
theorem dX7_copy_61 : decode cX7_copy 61 = .ok (.bipush 8, 2) := by decide +kernel
theorem dX7_copy_63 : decode cX7_copy 63 = .ok (.iload_n 1, 1) := by decide +kernel
theorem dX7_copy_64 : decode cX7_copy 64 = .ok (.iload_n 2, 1) := by decide +kernel
theorem dX7_copy_65 : decode cX7_copy 65 = .ok (.invokespecial 60, 3) := by decide +kernel
theorem dX7_copy_68 : decode cX7_copy 68 = .ok (.astore 6, 2) := by decide +kernel
theorem dX7_copy_70 : decode cX7_copy 70 = .ok (.aload 6, 2) := by decide +kernel
theorem dX7_copy_72 : decode cX7_copy 72 = .ok (.iload_n 3, 1) := by decide +kernel
theorem dX7_copy_73 : decode cX7_copy 73 = .ok (.putfield 70, 3) := by decide +kernel
theorem dX7_copy_76 : decode cX7_copy 76 = .ok (.aload 6, 2) := by decide +kernel
theorem dX7_copy_78 : decode cX7_copy 78 = .ok (.iload 4, 2) := by decide +kernel
theorem dX7_copy_80 : decode cX7_copy 80 = .ok (.putfield 73, 3) := by decide +kernel
theorem dX7_copy_83 : decode cX7_copy 83 = .ok (.aload_n 0, 1) := by decide +kernel
theorem dX7_copy_84 : decode cX7_copy 84 = .ok (.aload 6, 2) := by decide +kernel
theorem dX7_copy_86 : decode cX7_copy 86 = .ok (.invokevirtual 63, 3) := by decide +kernel
theorem dX7_copy_89 : decode cX7_copy 89 = .ok (.ireturn, 1) := by decide +kernel
theorem dX7_off_0 : decode cX7_off 0 = .ok (.aload_n 0, 1) := by decide +kernel
theorem dX7_off_1 : decode cX7_off 1 = .ok (.aload_n 0, 1) := by decide +kernel
theorem dX7_off_2 : decode cX7_off 2 = .ok (.getfield 31, 3) := by decide +kernel
theorem dX7_off_5 : decode cX7_off 5 = .ok (.iload_n 1, 1) := by decide +kernel
theorem dX7_off_6 : decode cX7_off 6 = .ok (.iload_n 2, 1) := by decide +kernel
theorem dX7_off_7 : decode cX7_off 7 = .ok (.invokevirtual 93, 3) := by decide +kernel
theorem dX7_off_10 : decode cX7_off 10 = .ok (.astore 5, 2) := by decide +kernel
theorem dX7_off_12 : decode cX7_off 12 = .ok (.aload 5, 2) := by decide +kernel
theorem dX7_off_14 : decode cX7_off 14 = .ok (.ifnonnull 5, 3) := by decide +kernel
theorem dX7_off_17 : decode cX7_off 17 = .ok (.iconst 1, 1) := by decide +kernel
theorem dX7_off_18 : decode cX7_off 18 = .ok (.ireturn, 1) := by decide +kernel
theorem dX7_off_19 : decode cX7_off 19 = .ok (.iload_n 3, 1) := by decide +kernel
theorem dX7_off_20 : decode cX7_off 20 = .ok (.iconst 2, 1) := by decide +kernel
theorem dX7_off_21 : decode cX7_off 21 = .ok (.if_icmp .lt 22, 3) := by decide +kernel
theorem dX7_off_24 : decode cX7_off 24 = .ok (.iload_n 3, 1) := by decide +kernel
theorem dX7_off_25 : decode cX7_off 25 = .ok (.bipush 100, 2) := by decide +kernel
theorem dX7_off_27 : decode cX7_off 27 = .ok (.if_icmp .gt 16, 3) := by decide +kernel
theorem dX7_off_30 : decode cX7_off 30 = .ok (.iload 4, 2) := by decide +kernel
theorem dX7_off_32 : decode cX7_off 32 = .ok (.ifCond .lt 11, 3) := by decide +kernel
theorem dX7_off_35 : decode cX7_off 35 = .ok (.iload 4, 2) := by decide +kernel
theorem dX7_off_37 : decode cX7_off 37 = .ok (.sipush 1000, 3) := by decide +kernel
theorem dX7_off_40 : decode cX7_off 40 = .ok (.if_icmp .le 5, 3) := by decide +kernel
theorem dX7_off_43 : decode cX7_off 43 = .ok (.iconst 3, 1) := by decide +kernel
theorem dX7_off_44 : decode cX7_off 44 = .ok (.ireturn, 1) := by decide +kernel
theorem dX7_off_45 : decode cX7_off 45 = .ok (.aload 5, 2) := by decide +kernel
theorem dX7_off_47 : decode cX7_off 47 = .ok (.invokevirtual 128, 3) := by decide +kernel
theorem dX7_off_50 : decode cX7_off 50 = .ok (.ifCond .ne 5, 3) := by decide +kernel
theorem dX7_off_53 : decode cX7_off 53 = .ok (.iconst 5, 1) := by decide +kernel
theorem dX7_off_54 : decode cX7_off 54 = .ok (.ireturn, 1) := by decide +kernel
theorem dX7_off_55 : decode cX7_off 55 = .ok (.new 9, 3) := by decide +kernel
theorem dX7_off_58 : decode cX7_off 58 = .ok (.dup, 1) := by decide +kernel
theorem dX7_off_59 : decode cX7_off 59 = .ok (.aload_n 0, 1) := by decide +kernel
theorem dX7_off_60 : decode cX7_off 60 = .ok (.getfield 22, 3) := by decide +kernel
theorem dX7_off_63 : decode cX7_off 63 = .ok (.bipush 9, 2) := by decide +kernel
theorem dX7_off_65 : decode cX7_off 65 = .ok (.iload_n 1, 1) := by decide +kernel
theorem dX7_off_66 : decode cX7_off 66 = .ok (.iload_n 2, 1) := by decide +kernel
theorem dX7_off_67 : decode cX7_off 67 = .ok (.invokespecial 60, 3) := by decide +kernel
theorem dX7_off_70 : decode cX7_off 70 = .ok (.astore 6, 2) := by decide +kernel
theorem dX7_off_72 : decode cX7_off 72 = .ok (.aload 6, 2) := by decide +kernel
theorem dX7_off_74 : decode cX7_off 74 = .ok (.iload_n 3, 1) := by decide +kernel
theorem dX7_off_75 : decode cX7_off 75 = .ok (.putfield 70, 3) := by decide +kernel
theorem dX7_off_78 : decode cX7_off 78 = .ok (.aload 6, 2) := by decide +kernel
theorem dX7_off_80 : decode cX7_off 80 = .ok (.iload 4, 2) := by decide +kernel
theorem dX7_off_82 : decode cX7_off 82 = .ok (.putfield 73, 3) := by decide +kernel
theorem dX7_off_85 : decode cX7_off 85 = .ok (.aload_n 0, 1) := by decide +kernel
theorem dX7_off_86 : decode cX7_off 86 = .ok (.aload 6, 2) := by decide +kernel
theorem dX7_off_88 : decode cX7_off 88 = .ok (.invokevirtual 63, 3) := by decide +kernel
theorem dX7_off_91 : decode cX7_off 91 = .ok (.ireturn, 1) := by decide +kernel
theorem dX7_back_0 : decode cX7_back 0 = .ok (.aload_n 0, 1) := by decide +kernel
theorem dX7_back_1 : decode cX7_back 1 = .ok (.aload_n 0, 1) := by decide +kernel
theorem dX7_back_2 : decode cX7_back 2 = .ok (.getfield 31, 3) := by decide +kernel
theorem dX7_back_5 : decode cX7_back 5 = .ok (.iload_n 1, 1) := by decide +kernel
theorem dX7_back_6 : decode cX7_back 6 = .ok (.invokevirtual 112, 3) := by decide +kernel
theorem dX7_back_9 : decode cX7_back 9 = .ok (.astore 4, 2) := by decide +kernel
theorem dX7_back_11 : decode cX7_back 11 = .ok (.aload 4, 2) := by decide +kernel
theorem dX7_back_13 : decode cX7_back 13 = .ok (.ifnonnull 7, 3) := by decide +kernel
theorem dX7_back_16 : decode cX7_back 16 = .ok (.aconst_null, 1) := by decide +kernel
theorem dX7_back_17 : decode cX7_back 17 = .ok (.goto 9, 3) := by decide +kernel
theorem dX7_back_20 : decode cX7_back 20 = .ok (.aload 4, 2) := by decide +kernel
theorem dX7_back_22 : decode cX7_back 22 = .ok (.iload_n 2, 1) := by decide +kernel
theorem dX7_back_23 : decode cX7_back 23 = .ok (.invokevirtual 131, 3) := by decide +kernel
theorem dX7_back_26 : decode cX7_back 26 = .ok (.astore 5, 2) := by decide +kernel
theorem dX7_back_28 : decode cX7_back 28 = .ok (.aload 5, 2) := by decide +kernel
theorem dX7_back_30 : decode cX7_back 30 = .ok (.ifnonnull 5, 3) := by decide +kernel
theorem dX7_back_33 : decode cX7_back 33 = .ok (.iconst 1, 1) := by decide +kernel
theorem dX7_back_34 : decode cX7_back 34 = .ok (.ireturn, 1) := by decide +kernel
theorem dX7_back_35 : decode cX7_back 35 = .ok (.aload 5, 2) := by decide +kernel
theorem dX7_back_37 : decode cX7_back 37 = .ok (.invokevirtual 128, 3) := by decide +kernel
theorem dX7_back_40 : decode cX7_back 40 = .ok (.ifCond .ne 5, 3) := by decide +kernel
theorem dX7_back_43 : decode cX7_back 43 = .ok (.iconst 5, 1) := by decide +kernel
theorem dX7_back_44 : decode cX7_back 44 = .ok (.ireturn, 1) := by decide +kernel
theorem dX7_back_45 : decode cX7_back 45 = .ok (.aload_n 0, 1) := by decide +kernel
theorem dX7_back_46 : decode cX7_back 46 = .ok (.getfield 41, 3) := by decide +kernel
theorem dX7_back_49 : decode cX7_back 49 = .ok (.aload 4, 2) := by decide +kernel
theorem dX7_back_51 : decode cX7_back 51 = .ok (.iconst 0, 1) := by decide +kernel
theorem dX7_back_52 : decode cX7_back 52 = .ok (.invokevirtual 135, 3) := by decide +kernel
theorem dX7_back_55 : decode cX7_back 55 = .ok (.aload_n 0, 1) := by decide +kernel
theorem dX7_back_56 : decode cX7_back 56 = .ok (.getfield 41, 3) := by decide +kernel
theorem dX7_back_59 : decode cX7_back 59 = .ok (.aload 5, 2) := by decide +kernel
theorem dX7_back_61 : decode cX7_back 61 = .ok (.iload_n 2, 1) := by decide +kernel
theorem dX7_back_62 : decode cX7_back 62 = .ok (.aload_n 0, 1) := by decide +kernel
theorem dX7_back_63 : decode cX7_back 63 = .ok (.getfield 22, 3) := by decide +kernel
theorem dX7_back_66 : decode cX7_back 66 = .ok (.invokevirtual 139, 3) := by decide +kernel
theorem dX7_back_69 : decode cX7_back 69 = .ok (.aload 5, 2) := by decide +kernel
theorem dX7_back_71 : decode cX7_back 71 = .ok (.getfield 143, 3) := by decide +kernel
theorem dX7_back_74 : decode cX7_back 74 = .ok (.isub, 1) := by decide +kernel
theorem dX7_back_75 : decode cX7_back 75 = .ok (.istore 6, 2) := by decide +kernel
theorem dX7_back_77 : decode cX7_back 77 = .ok (.iload_n 3, 1) := by decide +kernel
theorem dX7_back_78 : decode cX7_back 78 = .ok (.aload 5, 2) := by decide +kernel
theorem dX7_back_80 : decode cX7_back 80 = .ok (.getfield 143, 3) := by decide +kernel
theorem dX7_back_83 : decode cX7_back 83 = .ok (.ineg, 1) := by decide +kernel
theorem dX7_back_84 : decode cX7_back 84 = .ok (.if_icmp .lt 13, 3) := by decide +kernel
theorem dX7_back_87 : decode cX7_back 87 = .ok (.iload_n 3, 1) := by decide +kernel
theorem dX7_back_88 : decode cX7_back 88 = .ok (.ifCond .le 11, 3) := by decide +kernel
theorem dX7_back_91 : decode cX7_back 91 = .ok (.iload_n 3, 1) := by decide +kernel
theorem dX7_back_92 : decode cX7_back 92 = .ok (.iload 6, 2) := by decide +kernel
theorem dX7_back_94 : decode cX7_back 94 = .ok (.if_icmp .le 5, 3) := by decide +kernel
theorem dX7_back_97 : decode cX7_back 97 = .ok (.iconst 3, 1) := by decide +kernel
theorem dX7_back_98 : decode cX7_back 98 = .ok (.ireturn, 1) := by decide +kernel
theorem dX7_back_99 : decode cX7_back 99 = .ok (.new 9, 3) := by decide +kernel
theorem dX7_back_102 : decode cX7_back 102 = .ok (.dup, 1) := by decide +kernel
theorem dX7_back_103 : decode cX7_back 103 = .ok (.aload_n 0, 1) := by decide +kernel
theorem dX7_back_104 : decode cX7_back 104 = .ok (.getfield 22, 3) := by decide +kernel
theorem dX7_back_107 : decode cX7_back 107 = .ok (.bipush 10, 2) := by decide +kernel
theorem dX7_back_109 : decode cX7_back 109 = .ok (.iload_n 1, 1) := by decide +kernel
theorem dX7_back_110 : decode cX7_back 110 = .ok (.iload_n 2, 1) := by decide +kernel
theorem dX7_back_111 : decode cX7_back 111 = .ok (.invokespecial 60, 3) := by decide +kernel
theorem dX7_back_114 : decode cX7_back 114 = .ok (.astore 7, 2) := by decide +kernel
theorem dX7_back_116 : decode cX7_back 116 = .ok (.aload 7, 2) := by decide +kernel
theorem dX7_back_118 : decode cX7_back 118 = .ok (.iload_n 3, 1) := by decide +kernel
theorem dX7_back_119 : decode cX7_back 119 = .ok (.putfield 70, 3) := by decide +kernel
theorem dX7_back_122 : decode cX7_back 122 = .ok (.aload_n 0, 1) := by decide +kernel
theorem dX7_back_123 : decode cX7_back 123 = .ok (.aload 7, 2) := by decide +kernel
theorem dX7_back_125 : decode cX7_back 125 = .ok (.invokevirtual 63, 3) := by decide +kernel
theorem dX7_back_128 : decode cX7_back 128 = .ok (.ireturn, 1) := by decide +kernel
theorem dX7_grant_0 : decode cX7_grant 0 = .ok (.aload_n 0, 1) := by decide +kernel
theorem dX7_grant_1 : decode cX7_grant 1 = .ok (.aload_n 0, 1) := by decide +kernel
theorem dX7_grant_2 : decode cX7_grant 2 = .ok (.getfield 31, 3) := by decide +kernel
theorem dX7_grant_5 : decode cX7_grant 5 = .ok (.iload_n 1, 1) := by decide +kernel
theorem dX7_grant_6 : decode cX7_grant 6 = .ok (.invokevirtual 112, 3) := by decide +kernel
theorem dX7_grant_9 : decode cX7_grant 9 = .ok (.astore_n 3, 1) := by decide +kernel
theorem dX7_grant_10 : decode cX7_grant 10 = .ok (.aload_n 3, 1) := by decide +kernel
theorem dX7_grant_11 : decode cX7_grant 11 = .ok (.ifnonnull 5, 3) := by decide +kernel
theorem dX7_grant_14 : decode cX7_grant 14 = .ok (.iconst 1, 1) := by decide +kernel
theorem dX7_grant_15 : decode cX7_grant 15 = .ok (.ireturn, 1) := by decide +kernel
theorem dX7_grant_16 : decode cX7_grant 16 = .ok (.iload_n 2, 1) := by decide +kernel
theorem dX7_grant_17 : decode cX7_grant 17 = .ok (.invokestatic 52, 3) := by decide +kernel
theorem dX7_grant_20 : decode cX7_grant 20 = .ok (.ifCond .ne 5, 3) := by decide +kernel
theorem dX7_grant_23 : decode cX7_grant 23 = .ok (.iconst 3, 1) := by decide +kernel
theorem dX7_grant_24 : decode cX7_grant 24 = .ok (.ireturn, 1) := by decide +kernel
theorem dX7_grant_25 : decode cX7_grant 25 = .ok (.aload_n 0, 1) := by decide +kernel
theorem dX7_grant_26 : decode cX7_grant 26 = .ok (.getfield 15, 3) := by decide +kernel
theorem dX7_grant_29 : decode cX7_grant 29 = .ok (.sipush 400, 3) := by decide +kernel
theorem dX7_grant_32 : decode cX7_grant 32 = .ok (.if_icmp .lt 6, 3) := by decide +kernel
theorem dX7_grant_35 : decode cX7_grant 35 = .ok (.bipush 7, 2) := by decide +kernel
theorem dX7_grant_37 : decode cX7_grant 37 = .ok (.ireturn, 1) := by decide +kernel
theorem dX7_grant_38 : decode cX7_grant 38 = .ok (.aload_n 0, 1) := by decide +kernel
theorem dX7_grant_39 : decode cX7_grant 39 = .ok (.getfield 41, 3) := by decide +kernel
theorem dX7_grant_42 : decode cX7_grant 42 = .ok (.aload_n 3, 1) := by decide +kernel
theorem dX7_grant_43 : decode cX7_grant 43 = .ok (.iconst 0, 1) := by decide +kernel
theorem dX7_grant_44 : decode cX7_grant 44 = .ok (.invokevirtual 135, 3) := by decide +kernel
theorem dX7_grant_47 : decode cX7_grant 47 = .ok (.iload_n 2, 1) := by decide +kernel
theorem dX7_grant_48 : decode cX7_grant 48 = .ok (.aload_n 0, 1) := by decide +kernel
theorem dX7_grant_49 : decode cX7_grant 49 = .ok (.getfield 41, 3) := by decide +kernel
theorem dX7_grant_52 : decode cX7_grant 52 = .ok (.aload_n 3, 1) := by decide +kernel
theorem dX7_grant_53 : decode cX7_grant 53 = .ok (.sipush 500, 3) := by decide +kernel
theorem dX7_grant_56 : decode cX7_grant 56 = .ok (.invokevirtual 146, 3) := by decide +kernel
theorem dX7_grant_59 : decode cX7_grant 59 = .ok (.if_icmp .ge 6, 3) := by decide +kernel
theorem dX7_grant_62 : decode cX7_grant 62 = .ok (.bipush 8, 2) := by decide +kernel
theorem dX7_grant_64 : decode cX7_grant 64 = .ok (.ireturn, 1) := by decide +kernel
theorem dX7_grant_65 : decode cX7_grant 65 = .ok (.aload_n 0, 1) := by decide +kernel
theorem dX7_grant_66 : decode cX7_grant 66 = .ok (.new 9, 3) := by decide +kernel
theorem dX7_grant_69 : decode cX7_grant 69 = .ok (.dup, 1) := by decide +kernel
theorem dX7_grant_70 : decode cX7_grant 70 = .ok (.aload_n 0, 1) := by decide +kernel
theorem dX7_grant_71 : decode cX7_grant 71 = .ok (.getfield 22, 3) := by decide +kernel
theorem dX7_grant_74 : decode cX7_grant 74 = .ok (.bipush 11, 2) := by decide +kernel
theorem dX7_grant_76 : decode cX7_grant 76 = .ok (.iload_n 1, 1) := by decide +kernel
theorem dX7_grant_77 : decode cX7_grant 77 = .ok (.iload_n 2, 1) := by decide +kernel
theorem dX7_grant_78 : decode cX7_grant 78 = .ok (.invokespecial 60, 3) := by decide +kernel
theorem dX7_grant_81 : decode cX7_grant 81 = .ok (.invokevirtual 63, 3) := by decide +kernel
theorem dX7_grant_84 : decode cX7_grant 84 = .ok (.ireturn, 1) := by decide +kernel
theorem dX7_recall_0 : decode cX7_recall 0 = .ok (.aload_n 0, 1) := by decide +kernel
theorem dX7_recall_1 : decode cX7_recall 1 = .ok (.aload_n 0, 1) := by decide +kernel
theorem dX7_recall_2 : decode cX7_recall 2 = .ok (.getfield 31, 3) := by decide +kernel
theorem dX7_recall_5 : decode cX7_recall 5 = .ok (.iload_n 1, 1) := by decide +kernel
theorem dX7_recall_6 : decode cX7_recall 6 = .ok (.invokevirtual 112, 3) := by decide +kernel
theorem dX7_recall_9 : decode cX7_recall 9 = .ok (.astore 5, 2) := by decide +kernel
theorem dX7_recall_11 : decode cX7_recall 11 = .ok (.aload_n 0, 1) := by decide +kernel
theorem dX7_recall_12 : decode cX7_recall 12 = .ok (.iload_n 1, 1) := by decide +kernel
theorem dX7_recall_13 : decode cX7_recall 13 = .ok (.iload_n 2, 1) := by decide +kernel
theorem dX7_recall_14 : decode cX7_recall 14 = .ok (.invokevirtual 56, 3) := by decide +kernel
theorem dX7_recall_17 : decode cX7_recall 17 = .ok (.istore 6, 2) := by decide +kernel
theorem dX7_recall_19 : decode cX7_recall 19 = .ok (.aload 5, 2) := by decide +kernel
theorem dX7_recall_21 : decode cX7_recall 21 = .ok (.ifnull 8, 3) := by decide +kernel
theorem dX7_recall_24 : decode cX7_recall 24 = .ok (.iload 6, 2) := by decide +kernel
theorem dX7_recall_26 : decode cX7_recall 26 = .ok (.ifCond .eq 6, 3) := by decide +kernel
theorem dX7_recall_29 : decode cX7_recall 29 = .ok (.iload 6, 2) := by decide +kernel
theorem dX7_recall_31 : decode cX7_recall 31 = .ok (.ireturn, 1) := by decide +kernel
theorem dX7_recall_32 : decode cX7_recall 32 = .ok (.iload_n 3, 1) := by decide +kernel
theorem dX7_recall_33 : decode cX7_recall 33 = .ok (.invokestatic 52, 3) := by decide +kernel
theorem dX7_recall_36 : decode cX7_recall 36 = .ok (.ifCond .eq 17, 3) := by decide +kernel
theorem dX7_recall_39 : decode cX7_recall 39 = .ok (.iload 4, 2) := by decide +kernel
theorem dX7_recall_41 : decode cX7_recall 41 = .ok (.iconst 1, 1) := by decide +kernel
theorem dX7_recall_42 : decode cX7_recall 42 = .ok (.if_icmp .lt 11, 3) := by decide +kernel
theorem dX7_recall_45 : decode cX7_recall 45 = .ok (.iload 4, 2) := by decide +kernel
theorem dX7_recall_47 : decode cX7_recall 47 = .ok (.sipush 1000, 3) := by decide +kernel
theorem dX7_recall_50 : decode cX7_recall 50 = .ok (.if_icmp .le 5, 3) := by decide +kernel
theorem dX7_recall_53 : decode cX7_recall 53 = .ok (.iconst 3, 1) := by decide +kernel
theorem dX7_recall_54 : decode cX7_recall 54 = .ok (.ireturn, 1) := by decide +kernel
theorem dX7_recall_55 : decode cX7_recall 55 = .ok (.aload_n 0, 1) := by decide +kernel
theorem dX7_recall_56 : decode cX7_recall 56 = .ok (.getfield 15, 3) := by decide +kernel
theorem dX7_recall_59 : decode cX7_recall 59 = .ok (.sipush 400, 3) := by decide +kernel
theorem dX7_recall_62 : decode cX7_recall 62 = .ok (.if_icmp .lt 6, 3) := by decide +kernel
theorem dX7_recall_65 : decode cX7_recall 65 = .ok (.bipush 7, 2) := by decide +kernel
theorem dX7_recall_67 : decode cX7_recall 67 = .ok (.ireturn, 1) := by decide +kernel
theorem dX7_recall_68 : decode cX7_recall 68 = .ok (.aload_n 0, 1) := by decide +kernel
theorem dX7_recall_69 : decode cX7_recall 69 = .ok (.getfield 41, 3) := by decide +kernel
theorem dX7_recall_72 : decode cX7_recall 72 = .ok (.aload 5, 2) := by decide +kernel
theorem dX7_recall_74 : decode cX7_recall 74 = .ok (.iconst 0, 1) := by decide +kernel
theorem dX7_recall_75 : decode cX7_recall 75 = .ok (.invokevirtual 135, 3) := by decide +kernel
theorem dX7_recall_78 : decode cX7_recall 78 = .ok (.aload_n 0, 1) := by decide +kernel
theorem dX7_recall_79 : decode cX7_recall 79 = .ok (.getfield 41, 3) := by decide +kernel
theorem dX7_recall_82 : decode cX7_recall 82 = .ok (.invokevirtual 150, 3) := by decide +kernel
theorem dX7_recall_85 : decode cX7_recall 85 = .ok (.istore 7, 2) := by decide +kernel
theorem dX7_recall_87 : decode cX7_recall 87 = .ok (.aload 5, 2) := by decide +kernel
theorem dX7_recall_89 : decode cX7_recall 89 = .ok (.getfield 154, 3) := by decide +kernel
theorem dX7_recall_92 : decode cX7_recall 92 = .ok (.iconst (-1), 1) := by decide +kernel
theorem dX7_recall_93 : decode cX7_recall 93 = .ok (.if_icmp .eq 29, 3) := by decide +kernel
theorem dX7_recall_96 : decode cX7_recall 96 = .ok (.iload_n 3, 1) := by decide +kernel
theorem dX7_recall_97 : decode cX7_recall 97 = .ok (.aload 5, 2) := by decide +kernel
theorem dX7_recall_99 : decode cX7_recall 99 = .ok (.getfield 154, 3) := by decide +kernel
theorem dX7_recall_102 : decode cX7_recall 102 = .ok (.if_icmp .le 20, 3) := by decide +kernel
theorem dX7_recall_105 : decode cX7_recall 105 = .ok (.iload 7, 2) := by decide +kernel
theorem dX7_recall_107 : decode cX7_recall 107 = .ok (.ldc 157, 2) := by decide +kernel
theorem dX7_recall_109 : decode cX7_recall 109 = .ok (.if_icmp .eq 13, 3) := by decide +kernel
theorem dX7_recall_112 : decode cX7_recall 112 = .ok (.iload 7, 2) := by decide +kernel
theorem dX7_recall_114 : decode cX7_recall 114 = .ok (.aload 5, 2) := by decide +kernel
theorem dX7_recall_116 : decode cX7_recall 116 = .ok (.getfield 154, 3) := by decide +kernel
theorem dX7_recall_119 : decode cX7_recall 119 = .ok (.if_icmp .gt 6, 3) := by decide +kernel
theorem dX7_recall_122 : decode cX7_recall 122 = .ok (.bipush 8, 2) := by decide +kernel
theorem dX7_recall_124 : decode cX7_recall 124 = .ok (.ireturn, 1) := by decide +kernel
theorem dX7_recall_125 : decode cX7_recall 125 = .ok (.new 9, 3) := by decide +kernel
theorem dX7_recall_128 : decode cX7_recall 128 = .ok (.dup, 1) := by decide +kernel
theorem dX7_recall_129 : decode cX7_recall 129 = .ok (.aload_n 0, 1) := by decide +kernel
theorem dX7_recall_130 : decode cX7_recall 130 = .ok (.getfield 22, 3) := by decide +kernel
theorem dX7_recall_133 : decode cX7_recall 133 = .ok (.bipush 12, 2) := by decide +kernel
theorem dX7_recall_135 : decode cX7_recall 135 = .ok (.iload_n 1, 1) := by decide +kernel
theorem dX7_recall_136 : decode cX7_recall 136 = .ok (.iload_n 2, 1) := by decide +kernel
theorem dX7_recall_137 : decode cX7_recall 137 = .ok (.invokespecial 60, 3) := by decide +kernel
theorem dX7_recall_140 : decode cX7_recall 140 = .ok (.astore 8, 2) := by decide +kernel
theorem dX7_recall_142 : decode cX7_recall 142 = .ok (.aload 8, 2) := by decide +kernel
theorem dX7_recall_144 : decode cX7_recall 144 = .ok (.iload_n 3, 1) := by decide +kernel
theorem dX7_recall_145 : decode cX7_recall 145 = .ok (.putfield 70, 3) := by decide +kernel
theorem dX7_recall_148 : decode cX7_recall 148 = .ok (.aload 8, 2) := by decide +kernel
theorem dX7_recall_150 : decode cX7_recall 150 = .ok (.iload 4, 2) := by decide +kernel
theorem dX7_recall_152 : decode cX7_recall 152 = .ok (.putfield 73, 3) := by decide +kernel
theorem dX7_recall_155 : decode cX7_recall 155 = .ok (.aload 8, 2) := by decide +kernel
theorem dX7_recall_157 : decode cX7_recall 157 = .ok (.iconst 1, 1) := by decide +kernel
theorem dX7_recall_158 : decode cX7_recall 158 = .ok (.iload 7, 2) := by decide +kernel
theorem dX7_recall_160 : decode cX7_recall 160 = .ok (.aload 5, 2) := by decide +kernel
theorem dX7_recall_162 : decode cX7_recall 162 = .ok (.getfield 154, 3) := by decide +kernel
theorem dX7_recall_165 : decode cX7_recall 165 = .ok (.isub, 1) := by decide +kernel
theorem dX7_recall_166 : decode cX7_recall 166 = .ok (.iload 4, 2) := by decide +kernel
theorem dX7_recall_168 : decode cX7_recall 168 = .ok (.invokestatic 158, 3) := by decide +kernel
theorem dX7_recall_171 : decode cX7_recall 171 = .ok (.invokestatic 161, 3) := by decide +kernel
theorem dX7_recall_174 : decode cX7_recall 174 = .ok (.putfield 166, 3) := by decide +kernel
theorem dX7_recall_177 : decode cX7_recall 177 = .ok (.aload_n 0, 1) := by decide +kernel
theorem dX7_recall_178 : decode cX7_recall 178 = .ok (.aload 8, 2) := by decide +kernel
theorem dX7_recall_180 : decode cX7_recall 180 = .ok (.invokevirtual 63, 3) := by decide +kernel
theorem dX7_recall_183 : decode cX7_recall 183 = .ok (.ireturn, 1) := by decide +kernel
theorem dX7_kind_0 : decode cX7_kind 0 = .ok (.aload_n 0, 1) := by decide +kernel
theorem dX7_kind_1 : decode cX7_kind 1 = .ok (.aload_n 0, 1) := by decide +kernel
theorem dX7_kind_2 : decode cX7_kind 2 = .ok (.invokevirtual 169, 3) := by decide +kernel
theorem dX7_kind_5 : decode cX7_kind 5 = .ok (.iload_n 1, 1) := by decide +kernel
theorem dX7_kind_6 : decode cX7_kind 6 = .ok (.iload_n 2, 1) := by decide +kernel
theorem dX7_kind_7 : decode cX7_kind 7 = .ok (.invokevirtual 93, 3) := by decide +kernel
theorem dX7_kind_10 : decode cX7_kind 10 = .ok (.astore_n 3, 1) := by decide +kernel
theorem dX7_kind_11 : decode cX7_kind 11 = .ok (.aload_n 3, 1) := by decide +kernel
theorem dX7_kind_12 : decode cX7_kind 12 = .ok (.ifnonnull 7, 3) := by decide +kernel
theorem dX7_kind_15 : decode cX7_kind 15 = .ok (.iconst (-1), 1) := by decide +kernel
theorem dX7_kind_16 : decode cX7_kind 16 = .ok (.goto 7, 3) := by decide +kernel
theorem dX7_kind_19 : decode cX7_kind 19 = .ok (.aload_n 3, 1) := by decide +kernel
theorem dX7_kind_20 : decode cX7_kind 20 = .ok (.getfield 97, 3) := by decide +kernel
theorem dX7_kind_23 : decode cX7_kind 23 = .ok (.ireturn, 1) := by decide +kernel
theorem dX7_begins_0 : decode cX7_begins 0 = .ok (.aload_n 0, 1) := by decide +kernel
theorem dX7_begins_1 : decode cX7_begins 1 = .ok (.iload_n 1, 1) := by decide +kernel
theorem dX7_begins_2 : decode cX7_begins 2 = .ok (.iload_n 2, 1) := by decide +kernel
theorem dX7_begins_3 : decode cX7_begins 3 = .ok (.iload_n 3, 1) := by decide +kernel
theorem dX7_begins_4 : decode cX7_begins 4 = .ok (.invokevirtual 173, 3) := by decide +kernel
theorem dX7_begins_7 : decode cX7_begins 7 = .ok (.ifCond .eq 17, 3) := by decide +kernel
theorem dX7_begins_10 : decode cX7_begins 10 = .ok (.aload_n 0, 1) := by decide +kernel
theorem dX7_begins_11 : decode cX7_begins 11 = .ok (.getfield 41, 3) := by decide +kernel
theorem dX7_begins_14 : decode cX7_begins 14 = .ok (.iload_n 2, 1) := by decide +kernel
theorem dX7_begins_15 : decode cX7_begins 15 = .ok (.invokevirtual 177, 3) := by decide +kernel
theorem dX7_begins_18 : decode cX7_begins 18 = .ok (.invokestatic 180, 3) := by decide +kernel
theorem dX7_begins_21 : decode cX7_begins 21 = .ok (.goto 4, 3) := by decide +kernel
theorem dX7_begins_24 : decode cX7_begins 24 = .ok (.iconst (-1), 1) := by decide +kernel
theorem dX7_begins_25 : decode cX7_begins 25 = .ok (.ireturn, 1) := by decide +kernel
theorem dX7_ends_0 : decode cX7_ends 0 = .ok (.aload_n 0, 1) := by decide +kernel
theorem dX7_ends_1 : decode cX7_ends 1 = .ok (.iload_n 1, 1) := by decide +kernel
theorem dX7_ends_2 : decode cX7_ends 2 = .ok (.iload_n 2, 1) := by decide +kernel
theorem dX7_ends_3 : decode cX7_ends 3 = .ok (.iload_n 3, 1) := by decide +kernel
theorem dX7_ends_4 : decode cX7_ends 4 = .ok (.invokevirtual 173, 3) := by decide +kernel
theorem dX7_ends_7 : decode cX7_ends 7 = .ok (.ifCond .eq 17, 3) := by decide +kernel
theorem dX7_ends_10 : decode cX7_ends 10 = .ok (.aload_n 0, 1) := by decide +kernel
theorem dX7_ends_11 : decode cX7_ends 11 = .ok (.getfield 41, 3) := by decide +kernel
theorem dX7_ends_14 : decode cX7_ends 14 = .ok (.iload_n 2, 1) := by decide +kernel
theorem dX7_ends_15 : decode cX7_ends 15 = .ok (.invokevirtual 183, 3) := by decide +kernel
theorem dX7_ends_18 : decode cX7_ends 18 = .ok (.invokestatic 180, 3) := by decide +kernel
theorem dX7_ends_21 : decode cX7_ends 21 = .ok (.goto 4, 3) := by decide +kernel
theorem dX7_ends_24 : decode cX7_ends 24 = .ok (.iconst (-1), 1) := by decide +kernel
theorem dX7_ends_25 : decode cX7_ends 25 = .ok (.ireturn, 1) := by decide +kernel
theorem dX7_counted_0 : decode cX7_counted 0 = .ok (.iload_n 3, 1) := by decide +kernel
theorem dX7_counted_1 : decode cX7_counted 1 = .ok (.invokestatic 52, 3) := by decide +kernel
theorem dX7_counted_4 : decode cX7_counted 4 = .ok (.ifCond .eq 14, 3) := by decide +kernel
theorem dX7_counted_7 : decode cX7_counted 7 = .ok (.aload_n 0, 1) := by decide +kernel
theorem dX7_counted_8 : decode cX7_counted 8 = .ok (.iload_n 1, 1) := by decide +kernel
theorem dX7_counted_9 : decode cX7_counted 9 = .ok (.iload_n 2, 1) := by decide +kernel
theorem dX7_counted_10 : decode cX7_counted 10 = .ok (.iload 4, 2) := by decide +kernel
theorem dX7_counted_12 : decode cX7_counted 12 = .ok (.invokevirtual 173, 3) := by decide +kernel
theorem dX7_counted_15 : decode cX7_counted 15 = .ok (.ifCond .ne 5, 3) := by decide +kernel
theorem dX7_counted_18 : decode cX7_counted 18 = .ok (.iconst (-1), 1) := by decide +kernel
theorem dX7_counted_19 : decode cX7_counted 19 = .ok (.ireturn, 1) := by decide +kernel
theorem dX7_counted_20 : decode cX7_counted 20 = .ok (.aload_n 0, 1) := by decide +kernel
theorem dX7_counted_21 : decode cX7_counted 21 = .ok (.getfield 41, 3) := by decide +kernel
theorem dX7_counted_24 : decode cX7_counted 24 = .ok (.iload_n 2, 1) := by decide +kernel
theorem dX7_counted_25 : decode cX7_counted 25 = .ok (.iload_n 3, 1) := by decide +kernel
theorem dX7_counted_26 : decode cX7_counted 26 = .ok (.invokevirtual 186, 3) := by decide +kernel
theorem dX7_counted_29 : decode cX7_counted 29 = .ok (.ireturn, 1) := by decide +kernel
theorem dX7_taken_0 : decode cX7_taken 0 = .ok (.iload_n 3, 1) := by decide +kernel
theorem dX7_taken_1 : decode cX7_taken 1 = .ok (.invokestatic 52, 3) := by decide +kernel
theorem dX7_taken_4 : decode cX7_taken 4 = .ok (.ifCond .eq 13, 3) := by decide +kernel
theorem dX7_taken_7 : decode cX7_taken 7 = .ok (.aload_n 0, 1) := by decide +kernel
theorem dX7_taken_8 : decode cX7_taken 8 = .ok (.iload_n 1, 1) := by decide +kernel
theorem dX7_taken_9 : decode cX7_taken 9 = .ok (.iload_n 2, 1) := by decide +kernel
theorem dX7_taken_10 : decode cX7_taken 10 = .ok (.iconst 0, 1) := by decide +kernel
theorem dX7_taken_11 : decode cX7_taken 11 = .ok (.invokevirtual 173, 3) := by decide +kernel
theorem dX7_taken_14 : decode cX7_taken 14 = .ok (.ifCond .ne 5, 3) := by decide +kernel
theorem dX7_taken_17 : decode cX7_taken 17 = .ok (.iconst (-1), 1) := by decide +kernel
theorem dX7_taken_18 : decode cX7_taken 18 = .ok (.ireturn, 1) := by decide +kernel
theorem dX7_taken_19 : decode cX7_taken 19 = .ok (.aload_n 0, 1) := by decide +kernel
theorem dX7_taken_20 : decode cX7_taken 20 = .ok (.getfield 41, 3) := by decide +kernel
theorem dX7_taken_23 : decode cX7_taken 23 = .ok (.aload_n 0, 1) := by decide +kernel
theorem dX7_taken_24 : decode cX7_taken 24 = .ok (.aload_n 0, 1) := by decide +kernel
theorem dX7_taken_25 : decode cX7_taken 25 = .ok (.invokevirtual 169, 3) := by decide +kernel
theorem dX7_taken_28 : decode cX7_taken 28 = .ok (.iload_n 1, 1) := by decide +kernel
theorem dX7_taken_29 : decode cX7_taken 29 = .ok (.iload_n 2, 1) := by decide +kernel
theorem dX7_taken_30 : decode cX7_taken 30 = .ok (.invokevirtual 93, 3) := by decide +kernel
theorem dX7_taken_33 : decode cX7_taken 33 = .ok (.iload_n 2, 1) := by decide +kernel
theorem dX7_taken_34 : decode cX7_taken 34 = .ok (.iload_n 3, 1) := by decide +kernel
theorem dX7_taken_35 : decode cX7_taken 35 = .ok (.invokevirtual 139, 3) := by decide +kernel
theorem dX7_taken_38 : decode cX7_taken 38 = .ok (.ireturn, 1) := by decide +kernel
theorem dX7_why_0 : decode cX7_why 0 = .ok (.aload_n 0, 1) := by decide +kernel
theorem dX7_why_1 : decode cX7_why 1 = .ok (.aload_n 0, 1) := by decide +kernel
theorem dX7_why_2 : decode cX7_why 2 = .ok (.invokevirtual 169, 3) := by decide +kernel
theorem dX7_why_5 : decode cX7_why 5 = .ok (.iload_n 1, 1) := by decide +kernel
theorem dX7_why_6 : decode cX7_why 6 = .ok (.invokevirtual 112, 3) := by decide +kernel
theorem dX7_why_9 : decode cX7_why 9 = .ok (.astore 4, 2) := by decide +kernel
theorem dX7_why_11 : decode cX7_why 11 = .ok (.aload 4, 2) := by decide +kernel
theorem dX7_why_13 : decode cX7_why 13 = .ok (.ifnonnull 7, 3) := by decide +kernel
theorem dX7_why_16 : decode cX7_why 16 = .ok (.aconst_null, 1) := by decide +kernel
theorem dX7_why_17 : decode cX7_why 17 = .ok (.goto 9, 3) := by decide +kernel
theorem dX7_why_20 : decode cX7_why 20 = .ok (.aload 4, 2) := by decide +kernel
theorem dX7_why_22 : decode cX7_why 22 = .ok (.iload_n 2, 1) := by decide +kernel
theorem dX7_why_23 : decode cX7_why 23 = .ok (.invokevirtual 131, 3) := by decide +kernel
theorem dX7_why_26 : decode cX7_why 26 = .ok (.astore 5, 2) := by decide +kernel
theorem dX7_why_28 : decode cX7_why 28 = .ok (.aload 5, 2) := by decide +kernel
theorem dX7_why_30 : decode cX7_why 30 = .ok (.ifnull 10, 3) := by decide +kernel
theorem dX7_why_33 : decode cX7_why 33 = .ok (.iload_n 3, 1) := by decide +kernel
theorem dX7_why_34 : decode cX7_why 34 = .ok (.invokestatic 52, 3) := by decide +kernel
theorem dX7_why_37 : decode cX7_why 37 = .ok (.ifCond .ne 5, 3) := by decide +kernel
theorem dX7_why_40 : decode cX7_why 40 = .ok (.iconst (-1), 1) := by decide +kernel
theorem dX7_why_41 : decode cX7_why 41 = .ok (.ireturn, 1) := by decide +kernel
theorem dX7_why_42 : decode cX7_why 42 = .ok (.aload 5, 2) := by decide +kernel
theorem dX7_why_44 : decode cX7_why 44 = .ok (.invokevirtual 189, 3) := by decide +kernel
theorem dX7_why_47 : decode cX7_why 47 = .ok (.ifCond .ne 6, 3) := by decide +kernel
theorem dX7_why_50 : decode cX7_why 50 = .ok (.bipush 7, 2) := by decide +kernel
theorem dX7_why_52 : decode cX7_why 52 = .ok (.ireturn, 1) := by decide +kernel
theorem dX7_why_53 : decode cX7_why 53 = .ok (.aload 5, 2) := by decide +kernel
theorem dX7_why_55 : decode cX7_why 55 = .ok (.invokevirtual 102, 3) := by decide +kernel
theorem dX7_why_58 : decode cX7_why 58 = .ok (.ifCond .eq 6, 3) := by decide +kernel
theorem dX7_why_61 : decode cX7_why 61 = .ok (.bipush 6, 2) := by decide +kernel
theorem dX7_why_63 : decode cX7_why 63 = .ok (.ireturn, 1) := by decide +kernel
theorem dX7_why_64 : decode cX7_why 64 = .ok (.aload_n 0, 1) := by decide +kernel
theorem dX7_why_65 : decode cX7_why 65 = .ok (.getfield 41, 3) := by decide +kernel
theorem dX7_why_68 : decode cX7_why 68 = .ok (.aload 4, 2) := by decide +kernel
theorem dX7_why_70 : decode cX7_why 70 = .ok (.iconst 0, 1) := by decide +kernel
theorem dX7_why_71 : decode cX7_why 71 = .ok (.invokevirtual 135, 3) := by decide +kernel
theorem dX7_why_74 : decode cX7_why 74 = .ok (.aload_n 0, 1) := by decide +kernel
theorem dX7_why_75 : decode cX7_why 75 = .ok (.getfield 41, 3) := by decide +kernel
theorem dX7_why_78 : decode cX7_why 78 = .ok (.iload_n 2, 1) := by decide +kernel
theorem dX7_why_79 : decode cX7_why 79 = .ok (.invokevirtual 183, 3) := by decide +kernel
theorem dX7_why_82 : decode cX7_why 82 = .ok (.iload_n 3, 1) := by decide +kernel
theorem dX7_why_83 : decode cX7_why 83 = .ok (.if_icmp .ge 5, 3) := by decide +kernel
theorem dX7_why_86 : decode cX7_why 86 = .ok (.iconst 3, 1) := by decide +kernel
theorem dX7_why_87 : decode cX7_why 87 = .ok (.ireturn, 1) := by decide +kernel
theorem dX7_why_88 : decode cX7_why 88 = .ok (.aload 4, 2) := by decide +kernel
theorem dX7_why_90 : decode cX7_why 90 = .ok (.bipush 6, 2) := by decide +kernel
theorem dX7_why_92 : decode cX7_why 92 = .ok (.iload_n 2, 1) := by decide +kernel
theorem dX7_why_93 : decode cX7_why 93 = .ok (.iload_n 3, 1) := by decide +kernel
theorem dX7_why_94 : decode cX7_why 94 = .ok (.invokevirtual 192, 3) := by decide +kernel
theorem dX7_why_97 : decode cX7_why 97 = .ok (.iconst (-1), 1) := by decide +kernel
theorem dX7_why_98 : decode cX7_why 98 = .ok (.if_icmp .eq 5, 3) := by decide +kernel
theorem dX7_why_101 : decode cX7_why 101 = .ok (.iconst 4, 1) := by decide +kernel
theorem dX7_why_102 : decode cX7_why 102 = .ok (.ireturn, 1) := by decide +kernel
theorem dX7_why_103 : decode cX7_why 103 = .ok (.aload 4, 2) := by decide +kernel
theorem dX7_why_105 : decode cX7_why 105 = .ok (.bipush 7, 2) := by decide +kernel
theorem dX7_why_107 : decode cX7_why 107 = .ok (.iload_n 2, 1) := by decide +kernel
theorem dX7_why_108 : decode cX7_why 108 = .ok (.iload_n 3, 1) := by decide +kernel
theorem dX7_why_109 : decode cX7_why 109 = .ok (.invokevirtual 192, 3) := by decide +kernel
theorem dX7_why_112 : decode cX7_why 112 = .ok (.iconst (-1), 1) := by decide +kernel
theorem dX7_why_113 : decode cX7_why 113 = .ok (.if_icmp .eq 5, 3) := by decide +kernel
theorem dX7_why_116 : decode cX7_why 116 = .ok (.iconst 1, 1) := by decide +kernel
theorem dX7_why_117 : decode cX7_why 117 = .ok (.ireturn, 1) := by decide +kernel
theorem dX7_why_118 : decode cX7_why 118 = .ok (.aload_n 0, 1) := by decide +kernel
theorem dX7_why_119 : decode cX7_why 119 = .ok (.getfield 41, 3) := by decide +kernel
theorem dX7_why_122 : decode cX7_why 122 = .ok (.iload_n 2, 1) := by decide +kernel
theorem dX7_why_123 : decode cX7_why 123 = .ok (.invokevirtual 177, 3) := by decide +kernel
theorem dX7_why_126 : decode cX7_why 126 = .ok (.iload_n 3, 1) := by decide +kernel
theorem dX7_why_127 : decode cX7_why 127 = .ok (.if_icmp .le 5, 3) := by decide +kernel
theorem dX7_why_130 : decode cX7_why 130 = .ok (.iconst 2, 1) := by decide +kernel
theorem dX7_why_131 : decode cX7_why 131 = .ok (.ireturn, 1) := by decide +kernel
theorem dX7_why_132 : decode cX7_why 132 = .ok (.aload 4, 2) := by decide +kernel
theorem dX7_why_134 : decode cX7_why 134 = .ok (.iload_n 3, 1) := by decide +kernel
theorem dX7_why_135 : decode cX7_why 135 = .ok (.iconst 0, 1) := by decide +kernel
theorem dX7_why_136 : decode cX7_why 136 = .ok (.invokevirtual 196, 3) := by decide +kernel
theorem dX7_why_139 : decode cX7_why 139 = .ok (.ifCond .eq 7, 3) := by decide +kernel
theorem dX7_why_142 : decode cX7_why 142 = .ok (.iconst 0, 1) := by decide +kernel
theorem dX7_why_143 : decode cX7_why 143 = .ok (.goto 4, 3) := by decide +kernel
theorem dX7_why_146 : decode cX7_why 146 = .ok (.iconst 5, 1) := by decide +kernel
theorem dX7_why_147 : decode cX7_why 147 = .ok (.ireturn, 1) := by decide +kernel
theorem dX7_by_0 : decode cX7_by 0 = .ok (.aload_n 0, 1) := by decide +kernel
theorem dX7_by_1 : decode cX7_by 1 = .ok (.iload_n 1, 1) := by decide +kernel
theorem dX7_by_2 : decode cX7_by 2 = .ok (.iload_n 2, 1) := by decide +kernel
theorem dX7_by_3 : decode cX7_by 3 = .ok (.iload_n 3, 1) := by decide +kernel
theorem dX7_by_4 : decode cX7_by 4 = .ok (.invokevirtual 200, 3) := by decide +kernel
theorem dX7_by_7 : decode cX7_by 7 = .ok (.istore 4, 2) := by decide +kernel
theorem dX7_by_9 : decode cX7_by 9 = .ok (.aload_n 0, 1) := by decide +kernel
theorem dX7_by_10 : decode cX7_by 10 = .ok (.aload_n 0, 1) := by decide +kernel
theorem dX7_by_11 : decode cX7_by 11 = .ok (.invokevirtual 169, 3) := by decide +kernel
theorem dX7_by_14 : decode cX7_by 14 = .ok (.iload_n 1, 1) := by decide +kernel
theorem dX7_by_15 : decode cX7_by 15 = .ok (.invokevirtual 112, 3) := by decide +kernel
theorem dX7_by_18 : decode cX7_by 18 = .ok (.astore 5, 2) := by decide +kernel
theorem dX7_by_20 : decode cX7_by 20 = .ok (.aload 5, 2) := by decide +kernel
theorem dX7_by_22 : decode cX7_by 22 = .ok (.ifnonnull 7, 3) := by decide +kernel
theorem dX7_by_25 : decode cX7_by 25 = .ok (.aconst_null, 1) := by decide +kernel
theorem dX7_by_26 : decode cX7_by 26 = .ok (.goto 9, 3) := by decide +kernel
theorem dX7_by_29 : decode cX7_by 29 = .ok (.aload 5, 2) := by decide +kernel
theorem dX7_by_31 : decode cX7_by 31 = .ok (.iload_n 2, 1) := by decide +kernel
theorem dX7_by_32 : decode cX7_by 32 = .ok (.invokevirtual 131, 3) := by decide +kernel
theorem dX7_by_35 : decode cX7_by 35 = .ok (.astore 6, 2) := by decide +kernel
theorem dX7_by_37 : decode cX7_by 37 = .ok (.aload 6, 2) := by decide +kernel
theorem dX7_by_39 : decode cX7_by 39 = .ok (.ifnonnull 5, 3) := by decide +kernel
theorem dX7_by_42 : decode cX7_by 42 = .ok (.iconst (-1), 1) := by decide +kernel
theorem dX7_by_43 : decode cX7_by 43 = .ok (.ireturn, 1) := by decide +kernel
theorem dX7_by_44 : decode cX7_by 44 = .ok (.iload 4, 2) := by decide +kernel
theorem dX7_by_46 : decode cX7_by 46 = .ok (.lookupswitch 60 #[(1, 50), (4, 40), (6, 34)], 34) := by decide +kernel
theorem dX7_by_80 : decode cX7_by 80 = .ok (.aload 6, 2) := by decide +kernel
theorem dX7_by_82 : decode cX7_by 82 = .ok (.getfield 203, 3) := by decide +kernel
theorem dX7_by_85 : decode cX7_by 85 = .ok (.ireturn, 1) := by decide +kernel
theorem dX7_by_86 : decode cX7_by 86 = .ok (.aload 5, 2) := by decide +kernel
theorem dX7_by_88 : decode cX7_by 88 = .ok (.bipush 6, 2) := by decide +kernel
theorem dX7_by_90 : decode cX7_by 90 = .ok (.iload_n 2, 1) := by decide +kernel
theorem dX7_by_91 : decode cX7_by 91 = .ok (.iload_n 3, 1) := by decide +kernel
theorem dX7_by_92 : decode cX7_by 92 = .ok (.invokevirtual 192, 3) := by decide +kernel
theorem dX7_by_95 : decode cX7_by 95 = .ok (.ireturn, 1) := by decide +kernel
theorem dX7_by_96 : decode cX7_by 96 = .ok (.aload 5, 2) := by decide +kernel
theorem dX7_by_98 : decode cX7_by 98 = .ok (.bipush 7, 2) := by decide +kernel
theorem dX7_by_100 : decode cX7_by 100 = .ok (.iload_n 2, 1) := by decide +kernel
theorem dX7_by_101 : decode cX7_by 101 = .ok (.iload_n 3, 1) := by decide +kernel
theorem dX7_by_102 : decode cX7_by 102 = .ok (.invokevirtual 192, 3) := by decide +kernel
theorem dX7_by_105 : decode cX7_by 105 = .ok (.ireturn, 1) := by decide +kernel
theorem dX7_by_106 : decode cX7_by 106 = .ok (.iconst (-1), 1) := by decide +kernel
theorem dX7_by_107 : decode cX7_by 107 = .ok (.ireturn, 1) := by decide +kernel
theorem dX7_full_0 : decode cX7_full 0 = .ok (.aload_n 0, 1) := by decide +kernel
theorem dX7_full_1 : decode cX7_full 1 = .ok (.aload_n 0, 1) := by decide +kernel
theorem dX7_full_2 : decode cX7_full 2 = .ok (.invokevirtual 169, 3) := by decide +kernel
theorem dX7_full_5 : decode cX7_full 5 = .ok (.iload_n 1, 1) := by decide +kernel
theorem dX7_full_6 : decode cX7_full 6 = .ok (.invokevirtual 112, 3) := by decide +kernel
theorem dX7_full_9 : decode cX7_full 9 = .ok (.astore_n 3, 1) := by decide +kernel
theorem dX7_full_10 : decode cX7_full 10 = .ok (.aload_n 3, 1) := by decide +kernel
theorem dX7_full_11 : decode cX7_full 11 = .ok (.ifnonnull 5, 3) := by decide +kernel
theorem dX7_full_14 : decode cX7_full 14 = .ok (.iconst (-1), 1) := by decide +kernel
theorem dX7_full_15 : decode cX7_full 15 = .ok (.ireturn, 1) := by decide +kernel
theorem dX7_full_16 : decode cX7_full 16 = .ok (.aload_n 0, 1) := by decide +kernel
theorem dX7_full_17 : decode cX7_full 17 = .ok (.getfield 41, 3) := by decide +kernel
theorem dX7_full_20 : decode cX7_full 20 = .ok (.aload_n 3, 1) := by decide +kernel
theorem dX7_full_21 : decode cX7_full 21 = .ok (.iload_n 2, 1) := by decide +kernel
theorem dX7_full_22 : decode cX7_full 22 = .ok (.invokevirtual 135, 3) := by decide +kernel
theorem dX7_full_25 : decode cX7_full 25 = .ok (.aload_n 0, 1) := by decide +kernel
theorem dX7_full_26 : decode cX7_full 26 = .ok (.getfield 41, 3) := by decide +kernel
theorem dX7_full_29 : decode cX7_full 29 = .ok (.invokevirtual 150, 3) := by decide +kernel
theorem dX7_full_32 : decode cX7_full 32 = .ok (.istore 4, 2) := by decide +kernel
theorem dX7_full_34 : decode cX7_full 34 = .ok (.iload 4, 2) := by decide +kernel
theorem dX7_full_36 : decode cX7_full 36 = .ok (.ldc 157, 2) := by decide +kernel
theorem dX7_full_38 : decode cX7_full 38 = .ok (.if_icmp .ne 7, 3) := by decide +kernel
theorem dX7_full_41 : decode cX7_full 41 = .ok (.iconst (-1), 1) := by decide +kernel
theorem dX7_full_42 : decode cX7_full 42 = .ok (.goto 5, 3) := by decide +kernel
theorem dX7_full_45 : decode cX7_full 45 = .ok (.iload 4, 2) := by decide +kernel
theorem dX7_full_47 : decode cX7_full 47 = .ok (.ireturn, 1) := by decide +kernel
theorem dX7_watched_0 : decode cX7_watched 0 = .ok (.aload_n 0, 1) := by decide +kernel
theorem dX7_watched_1 : decode cX7_watched 1 = .ok (.aload_n 0, 1) := by decide +kernel
theorem dX7_watched_2 : decode cX7_watched 2 = .ok (.invokevirtual 169, 3) := by decide +kernel
theorem dX7_watched_5 : decode cX7_watched 5 = .ok (.iload_n 1, 1) := by decide +kernel
theorem dX7_watched_6 : decode cX7_watched 6 = .ok (.invokevirtual 112, 3) := by decide +kernel
theorem dX7_watched_9 : decode cX7_watched 9 = .ok (.astore 4, 2) := by decide +kernel
theorem dX7_watched_11 : decode cX7_watched 11 = .ok (.aload 4, 2) := by decide +kernel
theorem dX7_watched_13 : decode cX7_watched 13 = .ok (.ifnull 14, 3) := by decide +kernel
theorem dX7_watched_16 : decode cX7_watched 16 = .ok (.iload_n 2, 1) := by decide +kernel
theorem dX7_watched_17 : decode cX7_watched 17 = .ok (.ifCond .lt 10, 3) := by decide +kernel
theorem dX7_watched_20 : decode cX7_watched 20 = .ok (.iload_n 2, 1) := by decide +kernel
theorem dX7_watched_21 : decode cX7_watched 21 = .ok (.sipush 1000, 3) := by decide +kernel
theorem dX7_watched_24 : decode cX7_watched 24 = .ok (.if_icmp .le 5, 3) := by decide +kernel
theorem dX7_watched_27 : decode cX7_watched 27 = .ok (.iconst (-1), 1) := by decide +kernel
theorem dX7_watched_28 : decode cX7_watched 28 = .ok (.ireturn, 1) := by decide +kernel
theorem dX7_watched_29 : decode cX7_watched 29 = .ok (.aload_n 0, 1) := by decide +kernel
theorem dX7_watched_30 : decode cX7_watched 30 = .ok (.getfield 41, 3) := by decide +kernel
theorem dX7_watched_33 : decode cX7_watched 33 = .ok (.aload 4, 2) := by decide +kernel
theorem dX7_watched_35 : decode cX7_watched 35 = .ok (.iload_n 3, 1) := by decide +kernel
theorem dX7_watched_36 : decode cX7_watched 36 = .ok (.invokevirtual 135, 3) := by decide +kernel
theorem dX7_watched_39 : decode cX7_watched 39 = .ok (.aload_n 0, 1) := by decide +kernel
theorem dX7_watched_40 : decode cX7_watched 40 = .ok (.getfield 41, 3) := by decide +kernel
theorem dX7_watched_43 : decode cX7_watched 43 = .ok (.aload 4, 2) := by decide +kernel
theorem dX7_watched_45 : decode cX7_watched 45 = .ok (.iload_n 2, 1) := by decide +kernel
theorem dX7_watched_46 : decode cX7_watched 46 = .ok (.invokevirtual 146, 3) := by decide +kernel
theorem dX7_watched_49 : decode cX7_watched 49 = .ok (.invokestatic 180, 3) := by decide +kernel
theorem dX7_watched_52 : decode cX7_watched 52 = .ok (.ireturn, 1) := by decide +kernel
theorem dX7_open_0 : decode cX7_open 0 = .ok (.aload_n 0, 1) := by decide +kernel
theorem dX7_open_1 : decode cX7_open 1 = .ok (.aload_n 0, 1) := by decide +kernel
theorem dX7_open_2 : decode cX7_open 2 = .ok (.invokevirtual 169, 3) := by decide +kernel
theorem dX7_open_5 : decode cX7_open 5 = .ok (.iload_n 1, 1) := by decide +kernel
theorem dX7_open_6 : decode cX7_open 6 = .ok (.invokevirtual 112, 3) := by decide +kernel
theorem dX7_open_9 : decode cX7_open 9 = .ok (.astore_n 3, 1) := by decide +kernel
theorem dX7_open_10 : decode cX7_open 10 = .ok (.aload_n 3, 1) := by decide +kernel
theorem dX7_open_11 : decode cX7_open 11 = .ok (.ifnull 10, 3) := by decide +kernel
theorem dX7_open_14 : decode cX7_open 14 = .ok (.iload_n 2, 1) := by decide +kernel
theorem dX7_open_15 : decode cX7_open 15 = .ok (.invokestatic 109, 3) := by decide +kernel
theorem dX7_open_18 : decode cX7_open 18 = .ok (.ifCond .ne 5, 3) := by decide +kernel
theorem dX7_open_21 : decode cX7_open 21 = .ok (.iconst (-1), 1) := by decide +kernel
theorem dX7_open_22 : decode cX7_open 22 = .ok (.ireturn, 1) := by decide +kernel
theorem dX7_open_23 : decode cX7_open 23 = .ok (.aload_n 3, 1) := by decide +kernel
theorem dX7_open_24 : decode cX7_open 24 = .ok (.iload_n 2, 1) := by decide +kernel
theorem dX7_open_25 : decode cX7_open 25 = .ok (.invokevirtual 206, 3) := by decide +kernel
theorem dX7_open_28 : decode cX7_open 28 = .ok (.ifCond .eq 7, 3) := by decide +kernel
theorem dX7_open_31 : decode cX7_open 31 = .ok (.iconst 1, 1) := by decide +kernel
theorem dX7_open_32 : decode cX7_open 32 = .ok (.goto 4, 3) := by decide +kernel
theorem dX7_open_35 : decode cX7_open 35 = .ok (.iconst 0, 1) := by decide +kernel
theorem dX7_open_36 : decode cX7_open 36 = .ok (.ireturn, 1) := by decide +kernel
theorem dX7_over_0 : decode cX7_over 0 = .ok (.aload_n 0, 1) := by decide +kernel
theorem dX7_over_1 : decode cX7_over 1 = .ok (.aload_n 0, 1) := by decide +kernel
theorem dX7_over_2 : decode cX7_over 2 = .ok (.invokevirtual 169, 3) := by decide +kernel
theorem dX7_over_5 : decode cX7_over 5 = .ok (.iload_n 1, 1) := by decide +kernel
theorem dX7_over_6 : decode cX7_over 6 = .ok (.invokevirtual 112, 3) := by decide +kernel
theorem dX7_over_9 : decode cX7_over 9 = .ok (.astore_n 2, 1) := by decide +kernel
theorem dX7_over_10 : decode cX7_over 10 = .ok (.aload_n 2, 1) := by decide +kernel
theorem dX7_over_11 : decode cX7_over 11 = .ok (.ifnonnull 5, 3) := by decide +kernel
theorem dX7_over_14 : decode cX7_over 14 = .ok (.iconst (-1), 1) := by decide +kernel
theorem dX7_over_15 : decode cX7_over 15 = .ok (.ireturn, 1) := by decide +kernel
theorem dX7_over_16 : decode cX7_over 16 = .ok (.aload_n 0, 1) := by decide +kernel
theorem dX7_over_17 : decode cX7_over 17 = .ok (.getfield 41, 3) := by decide +kernel
theorem dX7_over_20 : decode cX7_over 20 = .ok (.aload_n 2, 1) := by decide +kernel
theorem dX7_over_21 : decode cX7_over 21 = .ok (.iconst 0, 1) := by decide +kernel
theorem dX7_over_22 : decode cX7_over 22 = .ok (.invokevirtual 135, 3) := by decide +kernel
theorem dX7_over_25 : decode cX7_over 25 = .ok (.iconst 0, 1) := by decide +kernel
theorem dX7_over_26 : decode cX7_over 26 = .ok (.istore_n 3, 1) := by decide +kernel
theorem dX7_over_27 : decode cX7_over 27 = .ok (.aload_n 0, 1) := by decide +kernel
theorem dX7_over_28 : decode cX7_over 28 = .ok (.getfield 41, 3) := by decide +kernel
theorem dX7_over_31 : decode cX7_over 31 = .ok (.invokevirtual 150, 3) := by decide +kernel
theorem dX7_over_34 : decode cX7_over 34 = .ok (.istore 4, 2) := by decide +kernel
theorem dX7_over_36 : decode cX7_over 36 = .ok (.iload 4, 2) := by decide +kernel
theorem dX7_over_38 : decode cX7_over 38 = .ok (.aload_n 0, 1) := by decide +kernel
theorem dX7_over_39 : decode cX7_over 39 = .ok (.invokevirtual 209, 3) := by decide +kernel
theorem dX7_over_42 : decode cX7_over 42 = .ok (.if_icmp .gt 21, 3) := by decide +kernel
theorem dX7_over_45 : decode cX7_over 45 = .ok (.aload_n 2, 1) := by decide +kernel
theorem dX7_over_46 : decode cX7_over 46 = .ok (.iload 4, 2) := by decide +kernel
theorem dX7_over_48 : decode cX7_over 48 = .ok (.invokevirtual 212, 3) := by decide +kernel
theorem dX7_over_51 : decode cX7_over 51 = .ok (.ifCond .eq 6, 3) := by decide +kernel
theorem dX7_over_54 : decode cX7_over 54 = .ok (.iinc 3 1, 3) := by decide +kernel
theorem dX7_over_57 : decode cX7_over 57 = .ok (.iinc 4 1, 3) := by decide +kernel
theorem dX7_over_60 : decode cX7_over 60 = .ok (.goto (-24), 3) := by decide +kernel
theorem dX7_over_63 : decode cX7_over 63 = .ok (.iload_n 3, 1) := by decide +kernel
theorem dX7_over_64 : decode cX7_over 64 = .ok (.ireturn, 1) := by decide +kernel
theorem dX7_ring_0 : decode cX7_ring 0 = .ok (.aload_n 0, 1) := by decide +kernel
theorem dX7_ring_1 : decode cX7_ring 1 = .ok (.getfield 48, 3) := by decide +kernel
theorem dX7_ring_4 : decode cX7_ring 4 = .ok (.iload_n 1, 1) := by decide +kernel
theorem dX7_ring_5 : decode cX7_ring 5 = .ok (.invokevirtual 215, 3) := by decide +kernel
theorem dX7_ring_8 : decode cX7_ring 8 = .ok (.ireturn, 1) := by decide +kernel
theorem dX7_check_0 : decode cX7_check 0 = .ok (.iload_n 3, 1) := by decide +kernel
theorem dX7_check_1 : decode cX7_check 1 = .ok (.invokestatic 52, 3) := by decide +kernel
theorem dX7_check_4 : decode cX7_check 4 = .ok (.ifCond .eq 13, 3) := by decide +kernel
theorem dX7_check_7 : decode cX7_check 7 = .ok (.aload_n 0, 1) := by decide +kernel
theorem dX7_check_8 : decode cX7_check 8 = .ok (.iload_n 1, 1) := by decide +kernel
theorem dX7_check_9 : decode cX7_check 9 = .ok (.iload_n 2, 1) := by decide +kernel
theorem dX7_check_10 : decode cX7_check 10 = .ok (.iconst 0, 1) := by decide +kernel
theorem dX7_check_11 : decode cX7_check 11 = .ok (.invokevirtual 173, 3) := by decide +kernel
theorem dX7_check_14 : decode cX7_check 14 = .ok (.ifCond .ne 6, 3) := by decide +kernel
theorem dX7_check_17 : decode cX7_check 17 = .ok (.bipush (-2), 2) := by decide +kernel
theorem dX7_check_19 : decode cX7_check 19 = .ok (.ireturn, 1) := by decide +kernel
theorem dX7_check_20 : decode cX7_check 20 = .ok (.iconst 0, 1) := by decide +kernel
theorem dX7_check_21 : decode cX7_check 21 = .ok (.istore 5, 2) := by decide +kernel
theorem dX7_check_23 : decode cX7_check 23 = .ok (.iload 5, 2) := by decide +kernel
theorem dX7_check_25 : decode cX7_check 25 = .ok (.bipush 32, 2) := by decide +kernel
theorem dX7_check_27 : decode cX7_check 27 = .ok (.if_icmp .ge 48, 3) := by decide +kernel
theorem dX7_check_30 : decode cX7_check 30 = .ok (.iload 4, 2) := by decide +kernel
theorem dX7_check_32 : decode cX7_check 32 = .ok (.iload 5, 2) := by decide +kernel
theorem dX7_check_34 : decode cX7_check 34 = .ok (.iushr, 1) := by decide +kernel
theorem dX7_check_35 : decode cX7_check 35 = .ok (.iconst 1, 1) := by decide +kernel
theorem dX7_check_36 : decode cX7_check 36 = .ok (.iand, 1) := by decide +kernel
theorem dX7_check_37 : decode cX7_check 37 = .ok (.ifCond .eq 7, 3) := by decide +kernel
theorem dX7_check_40 : decode cX7_check 40 = .ok (.iconst 1, 1) := by decide +kernel
theorem dX7_check_41 : decode cX7_check 41 = .ok (.goto 4, 3) := by decide +kernel
theorem dX7_check_44 : decode cX7_check 44 = .ok (.iconst 0, 1) := by decide +kernel
theorem dX7_check_45 : decode cX7_check 45 = .ok (.istore 6, 2) := by decide +kernel
theorem dX7_check_47 : decode cX7_check 47 = .ok (.iload 6, 2) := by decide +kernel
theorem dX7_check_49 : decode cX7_check 49 = .ok (.aload_n 0, 1) := by decide +kernel
theorem dX7_check_50 : decode cX7_check 50 = .ok (.getfield 41, 3) := by decide +kernel
theorem dX7_check_53 : decode cX7_check 53 = .ok (.iload_n 2, 1) := by decide +kernel
theorem dX7_check_54 : decode cX7_check 54 = .ok (.iload_n 3, 1) := by decide +kernel
theorem dX7_check_55 : decode cX7_check 55 = .ok (.iload 5, 2) := by decide +kernel
theorem dX7_check_57 : decode cX7_check 57 = .ok (.iadd, 1) := by decide +kernel
theorem dX7_check_58 : decode cX7_check 58 = .ok (.invokevirtual 218, 3) := by decide +kernel
theorem dX7_check_61 : decode cX7_check 61 = .ok (.if_icmp .eq 8, 3) := by decide +kernel
theorem dX7_check_64 : decode cX7_check 64 = .ok (.iload_n 3, 1) := by decide +kernel
theorem dX7_check_65 : decode cX7_check 65 = .ok (.iload 5, 2) := by decide +kernel
theorem dX7_check_67 : decode cX7_check 67 = .ok (.iadd, 1) := by decide +kernel
theorem dX7_check_68 : decode cX7_check 68 = .ok (.ireturn, 1) := by decide +kernel
theorem dX7_check_69 : decode cX7_check 69 = .ok (.iinc 5 1, 3) := by decide +kernel
theorem dX7_check_72 : decode cX7_check 72 = .ok (.goto (-49), 3) := by decide +kernel
theorem dX7_check_75 : decode cX7_check 75 = .ok (.iconst (-1), 1) := by decide +kernel
theorem dX7_check_76 : decode cX7_check 76 = .ok (.ireturn, 1) := by decide +kernel
theorem dX7_image_0 : decode cX7_image 0 = .ok (.iload_n 1, 1) := by decide +kernel
theorem dX7_image_1 : decode cX7_image 1 = .ok (.ifCond .lt 20, 3) := by decide +kernel
theorem dX7_image_4 : decode cX7_image 4 = .ok (.iload_n 1, 1) := by decide +kernel
theorem dX7_image_5 : decode cX7_image 5 = .ok (.aload_n 0, 1) := by decide +kernel
theorem dX7_image_6 : decode cX7_image 6 = .ok (.getfield 15, 3) := by decide +kernel
theorem dX7_image_9 : decode cX7_image 9 = .ok (.if_icmp .ge 12, 3) := by decide +kernel
theorem dX7_image_12 : decode cX7_image 12 = .ok (.aload_n 0, 1) := by decide +kernel
theorem dX7_image_13 : decode cX7_image 13 = .ok (.getfield 11, 3) := by decide +kernel
theorem dX7_image_16 : decode cX7_image 16 = .ok (.iload_n 1, 1) := by decide +kernel
theorem dX7_image_17 : decode cX7_image 17 = .ok (.aaload, 1) := by decide +kernel
theorem dX7_image_18 : decode cX7_image 18 = .ok (.goto 4, 3) := by decide +kernel
theorem dX7_image_21 : decode cX7_image 21 = .ok (.aconst_null, 1) := by decide +kernel
theorem dX7_image_22 : decode cX7_image 22 = .ok (.astore_n 3, 1) := by decide +kernel
theorem dX7_image_23 : decode cX7_image 23 = .ok (.aload_n 3, 1) := by decide +kernel
theorem dX7_image_24 : decode cX7_image 24 = .ok (.ifnonnull 7, 3) := by decide +kernel
theorem dX7_image_27 : decode cX7_image 27 = .ok (.iconst (-1), 1) := by decide +kernel
theorem dX7_image_28 : decode cX7_image 28 = .ok (.goto 8, 3) := by decide +kernel
theorem dX7_image_31 : decode cX7_image 31 = .ok (.aload_n 3, 1) := by decide +kernel
theorem dX7_image_32 : decode cX7_image 32 = .ok (.iload_n 2, 1) := by decide +kernel
theorem dX7_image_33 : decode cX7_image 33 = .ok (.invokevirtual 221, 3) := by decide +kernel
theorem dX7_image_36 : decode cX7_image 36 = .ok (.ireturn, 1) := by decide +kernel
theorem dX7_take_0 : decode cX7_take 0 = .ok (.iload_n 2, 1) := by decide +kernel
theorem dX7_take_1 : decode cX7_take 1 = .ok (.ifCond .lt 17, 3) := by decide +kernel
theorem dX7_take_4 : decode cX7_take 4 = .ok (.iload_n 2, 1) := by decide +kernel
theorem dX7_take_5 : decode cX7_take 5 = .ok (.bipush 12, 2) := by decide +kernel
theorem dX7_take_7 : decode cX7_take 7 = .ok (.if_icmp .gt 11, 3) := by decide +kernel
theorem dX7_take_10 : decode cX7_take 10 = .ok (.aload_n 0, 1) := by decide +kernel
theorem dX7_take_11 : decode cX7_take 11 = .ok (.iload_n 1, 1) := by decide +kernel
theorem dX7_take_12 : decode cX7_take 12 = .ok (.invokevirtual 224, 3) := by decide +kernel
theorem dX7_take_15 : decode cX7_take 15 = .ok (.ifCond .ne 5, 3) := by decide +kernel
theorem dX7_take_18 : decode cX7_take 18 = .ok (.iconst (-1), 1) := by decide +kernel
theorem dX7_take_19 : decode cX7_take 19 = .ok (.ireturn, 1) := by decide +kernel
theorem dX7_take_20 : decode cX7_take 20 = .ok (.iload_n 2, 1) := by decide +kernel
theorem dX7_take_21 : decode cX7_take 21 = .ok (.tableswitch 207 0 11 #[63, 71, 83, 99, 115, 125, 145, 157, 165, 177, 189, 199], 63) := by decide +kernel
theorem dX7_take_84 : decode cX7_take 84 = .ok (.aload_n 0, 1) := by decide +kernel
theorem dX7_take_85 : decode cX7_take 85 = .ok (.iload_n 3, 1) := by decide +kernel
theorem dX7_take_86 : decode cX7_take 86 = .ok (.iload 4, 2) := by decide +kernel
theorem dX7_take_88 : decode cX7_take 88 = .ok (.invokevirtual 226, 3) := by decide +kernel
theorem dX7_take_91 : decode cX7_take 91 = .ok (.ireturn, 1) := by decide +kernel
theorem dX7_take_92 : decode cX7_take 92 = .ok (.aload_n 0, 1) := by decide +kernel
theorem dX7_take_93 : decode cX7_take 93 = .ok (.iload_n 3, 1) := by decide +kernel
theorem dX7_take_94 : decode cX7_take 94 = .ok (.iload 4, 2) := by decide +kernel
theorem dX7_take_96 : decode cX7_take 96 = .ok (.iload 5, 2) := by decide +kernel
theorem dX7_take_98 : decode cX7_take 98 = .ok (.iload 6, 2) := by decide +kernel
theorem dX7_take_100 : decode cX7_take 100 = .ok (.invokevirtual 229, 3) := by decide +kernel
theorem dX7_take_103 : decode cX7_take 103 = .ok (.ireturn, 1) := by decide +kernel
theorem dX7_take_104 : decode cX7_take 104 = .ok (.aload_n 0, 1) := by decide +kernel
theorem dX7_take_105 : decode cX7_take 105 = .ok (.iload_n 3, 1) := by decide +kernel
theorem dX7_take_106 : decode cX7_take 106 = .ok (.iload 4, 2) := by decide +kernel
theorem dX7_take_108 : decode cX7_take 108 = .ok (.iload 5, 2) := by decide +kernel
theorem dX7_take_110 : decode cX7_take 110 = .ok (.iload 6, 2) := by decide +kernel
theorem dX7_take_112 : decode cX7_take 112 = .ok (.iload 7, 2) := by decide +kernel
theorem dX7_take_114 : decode cX7_take 114 = .ok (.iload 8, 2) := by decide +kernel
theorem dX7_take_116 : decode cX7_take 116 = .ok (.invokevirtual 233, 3) := by decide +kernel
theorem dX7_take_119 : decode cX7_take 119 = .ok (.ireturn, 1) := by decide +kernel
theorem dX7_take_120 : decode cX7_take 120 = .ok (.aload_n 0, 1) := by decide +kernel
theorem dX7_take_121 : decode cX7_take 121 = .ok (.iload_n 3, 1) := by decide +kernel
theorem dX7_take_122 : decode cX7_take 122 = .ok (.iload 4, 2) := by decide +kernel
theorem dX7_take_124 : decode cX7_take 124 = .ok (.iload 5, 2) := by decide +kernel
theorem dX7_take_126 : decode cX7_take 126 = .ok (.iload 6, 2) := by decide +kernel
theorem dX7_take_128 : decode cX7_take 128 = .ok (.iload 7, 2) := by decide +kernel
theorem dX7_take_130 : decode cX7_take 130 = .ok (.iload 8, 2) := by decide +kernel
theorem dX7_take_132 : decode cX7_take 132 = .ok (.invokevirtual 237, 3) := by decide +kernel
theorem dX7_take_135 : decode cX7_take 135 = .ok (.ireturn, 1) := by decide +kernel
theorem dX7_take_136 : decode cX7_take 136 = .ok (.aload_n 0, 1) := by decide +kernel
theorem dX7_take_137 : decode cX7_take 137 = .ok (.iload_n 3, 1) := by decide +kernel
theorem dX7_take_138 : decode cX7_take 138 = .ok (.iload 4, 2) := by decide +kernel
theorem dX7_take_140 : decode cX7_take 140 = .ok (.iload 5, 2) := by decide +kernel
theorem dX7_take_142 : decode cX7_take 142 = .ok (.invokevirtual 240, 3) := by decide +kernel
theorem dX7_take_145 : decode cX7_take 145 = .ok (.ireturn, 1) := by decide +kernel
theorem dX7_take_146 : decode cX7_take 146 = .ok (.aload_n 0, 1) := by decide +kernel
theorem dX7_take_147 : decode cX7_take 147 = .ok (.iload_n 3, 1) := by decide +kernel
theorem dX7_take_148 : decode cX7_take 148 = .ok (.iload 4, 2) := by decide +kernel
theorem dX7_take_150 : decode cX7_take 150 = .ok (.iload 5, 2) := by decide +kernel
theorem dX7_take_152 : decode cX7_take 152 = .ok (.ifCond .eq 7, 3) := by decide +kernel
theorem dX7_take_155 : decode cX7_take 155 = .ok (.iconst 1, 1) := by decide +kernel
theorem dX7_take_156 : decode cX7_take 156 = .ok (.goto 4, 3) := by decide +kernel
theorem dX7_take_159 : decode cX7_take 159 = .ok (.iconst 0, 1) := by decide +kernel
theorem dX7_take_160 : decode cX7_take 160 = .ok (.iload 6, 2) := by decide +kernel
theorem dX7_take_162 : decode cX7_take 162 = .ok (.invokevirtual 243, 3) := by decide +kernel
theorem dX7_take_165 : decode cX7_take 165 = .ok (.ireturn, 1) := by decide +kernel
theorem dX7_take_166 : decode cX7_take 166 = .ok (.aload_n 0, 1) := by decide +kernel
theorem dX7_take_167 : decode cX7_take 167 = .ok (.iload_n 3, 1) := by decide +kernel
theorem dX7_take_168 : decode cX7_take 168 = .ok (.iload 4, 2) := by decide +kernel
theorem dX7_take_170 : decode cX7_take 170 = .ok (.iload 5, 2) := by decide +kernel
theorem dX7_take_172 : decode cX7_take 172 = .ok (.iload 6, 2) := by decide +kernel
theorem dX7_take_174 : decode cX7_take 174 = .ok (.invokevirtual 247, 3) := by decide +kernel
theorem dX7_take_177 : decode cX7_take 177 = .ok (.ireturn, 1) := by decide +kernel
theorem dX7_take_178 : decode cX7_take 178 = .ok (.aload_n 0, 1) := by decide +kernel
theorem dX7_take_179 : decode cX7_take 179 = .ok (.iload_n 3, 1) := by decide +kernel
theorem dX7_take_180 : decode cX7_take 180 = .ok (.iload 4, 2) := by decide +kernel
theorem dX7_take_182 : decode cX7_take 182 = .ok (.invokevirtual 250, 3) := by decide +kernel
theorem dX7_take_185 : decode cX7_take 185 = .ok (.ireturn, 1) := by decide +kernel
theorem dX7_take_186 : decode cX7_take 186 = .ok (.aload_n 0, 1) := by decide +kernel
theorem dX7_take_187 : decode cX7_take 187 = .ok (.iload_n 3, 1) := by decide +kernel
theorem dX7_take_188 : decode cX7_take 188 = .ok (.iload 4, 2) := by decide +kernel
theorem dX7_take_190 : decode cX7_take 190 = .ok (.iload 5, 2) := by decide +kernel
theorem dX7_take_192 : decode cX7_take 192 = .ok (.iload 6, 2) := by decide +kernel
theorem dX7_take_194 : decode cX7_take 194 = .ok (.invokevirtual 253, 3) := by decide +kernel
theorem dX7_take_197 : decode cX7_take 197 = .ok (.ireturn, 1) := by decide +kernel
theorem dX7_take_198 : decode cX7_take 198 = .ok (.aload_n 0, 1) := by decide +kernel
theorem dX7_take_199 : decode cX7_take 199 = .ok (.iload_n 3, 1) := by decide +kernel
theorem dX7_take_200 : decode cX7_take 200 = .ok (.iload 4, 2) := by decide +kernel
theorem dX7_take_202 : decode cX7_take 202 = .ok (.iload 5, 2) := by decide +kernel
theorem dX7_take_204 : decode cX7_take 204 = .ok (.iload 6, 2) := by decide +kernel
theorem dX7_take_206 : decode cX7_take 206 = .ok (.invokevirtual 256, 3) := by decide +kernel
theorem dX7_take_209 : decode cX7_take 209 = .ok (.ireturn, 1) := by decide +kernel
theorem dX7_take_210 : decode cX7_take 210 = .ok (.aload_n 0, 1) := by decide +kernel
theorem dX7_take_211 : decode cX7_take 211 = .ok (.iload_n 3, 1) := by decide +kernel
theorem dX7_take_212 : decode cX7_take 212 = .ok (.iload 4, 2) := by decide +kernel
theorem dX7_take_214 : decode cX7_take 214 = .ok (.iload 5, 2) := by decide +kernel
theorem dX7_take_216 : decode cX7_take 216 = .ok (.invokevirtual 259, 3) := by decide +kernel
theorem dX7_take_219 : decode cX7_take 219 = .ok (.ireturn, 1) := by decide +kernel
theorem dX7_take_220 : decode cX7_take 220 = .ok (.aload_n 0, 1) := by decide +kernel
theorem dX7_take_221 : decode cX7_take 221 = .ok (.iload_n 3, 1) := by decide +kernel
theorem dX7_take_222 : decode cX7_take 222 = .ok (.iload 4, 2) := by decide +kernel
theorem dX7_take_224 : decode cX7_take 224 = .ok (.invokevirtual 262, 3) := by decide +kernel
theorem dX7_take_227 : decode cX7_take 227 = .ok (.ireturn, 1) := by decide +kernel
theorem dX7_take_228 : decode cX7_take 228 = .ok (.aload_n 0, 1) := by decide +kernel
theorem dX7_take_229 : decode cX7_take 229 = .ok (.iload_n 3, 1) := by decide +kernel
theorem dX7_take_230 : decode cX7_take 230 = .ok (.iload 4, 2) := by decide +kernel
theorem dX7_take_232 : decode cX7_take 232 = .ok (.iload 5, 2) := by decide +kernel
theorem dX7_take_234 : decode cX7_take 234 = .ok (.iload 6, 2) := by decide +kernel
theorem dX7_take_236 : decode cX7_take 236 = .ok (.invokevirtual 265, 3) := by decide +kernel
theorem dX7_take_239 : decode cX7_take 239 = .ok (.ireturn, 1) := by decide +kernel
theorem dX7_count_0 : decode cX7_count 0 = .ok (.iload_n 1, 1) := by decide +kernel
theorem dX7_count_1 : decode cX7_count 1 = .ok (.tableswitch 51 0 3 #[31, 36, 41, 46], 31) := by decide +kernel
theorem dX7_count_32 : decode cX7_count 32 = .ok (.aload_n 0, 1) := by decide +kernel
theorem dX7_count_33 : decode cX7_count 33 = .ok (.getfield 22, 3) := by decide +kernel
theorem dX7_count_36 : decode cX7_count 36 = .ok (.ireturn, 1) := by decide +kernel
theorem dX7_count_37 : decode cX7_count 37 = .ok (.aload_n 0, 1) := by decide +kernel
theorem dX7_count_38 : decode cX7_count 38 = .ok (.getfield 19, 3) := by decide +kernel
theorem dX7_count_41 : decode cX7_count 41 = .ok (.ireturn, 1) := by decide +kernel
theorem dX7_count_42 : decode cX7_count 42 = .ok (.aload_n 0, 1) := by decide +kernel
theorem dX7_count_43 : decode cX7_count 43 = .ok (.getfield 15, 3) := by decide +kernel
theorem dX7_count_46 : decode cX7_count 46 = .ok (.ireturn, 1) := by decide +kernel
theorem dX7_count_47 : decode cX7_count 47 = .ok (.aload_n 0, 1) := by decide +kernel
theorem dX7_count_48 : decode cX7_count 48 = .ok (.invokevirtual 209, 3) := by decide +kernel
theorem dX7_count_51 : decode cX7_count 51 = .ok (.ireturn, 1) := by decide +kernel
theorem dX7_count_52 : decode cX7_count 52 = .ok (.iconst (-1), 1) := by decide +kernel
theorem dX7_count_53 : decode cX7_count 53 = .ok (.ireturn, 1) := by decide +kernel
theorem dX7_isDay_0 : decode cX7_isDay 0 = .ok (.iload_n 0, 1) := by decide +kernel
theorem dX7_isDay_1 : decode cX7_isDay 1 = .ok (.ifCond .lt 14, 3) := by decide +kernel
theorem dX7_isDay_4 : decode cX7_isDay 4 = .ok (.iload_n 0, 1) := by decide +kernel
theorem dX7_isDay_5 : decode cX7_isDay 5 = .ok (.sipush 3600, 3) := by decide +kernel
theorem dX7_isDay_8 : decode cX7_isDay 8 = .ok (.if_icmp .ge 7, 3) := by decide +kernel
theorem dX7_isDay_11 : decode cX7_isDay 11 = .ok (.iconst 1, 1) := by decide +kernel
theorem dX7_isDay_12 : decode cX7_isDay 12 = .ok (.goto 4, 3) := by decide +kernel
theorem dX7_isDay_15 : decode cX7_isDay 15 = .ok (.iconst 0, 1) := by decide +kernel
theorem dX7_isDay_16 : decode cX7_isDay 16 = .ok (.ireturn, 1) := by decide +kernel
theorem dX7_isMonth_0 : decode cX7_isMonth 0 = .ok (.iload_n 0, 1) := by decide +kernel
theorem dX7_isMonth_1 : decode cX7_isMonth 1 = .ok (.ifCond .lt 13, 3) := by decide +kernel
theorem dX7_isMonth_4 : decode cX7_isMonth 4 = .ok (.iload_n 0, 1) := by decide +kernel
theorem dX7_isMonth_5 : decode cX7_isMonth 5 = .ok (.bipush 120, 2) := by decide +kernel
theorem dX7_isMonth_7 : decode cX7_isMonth 7 = .ok (.if_icmp .ge 7, 3) := by decide +kernel
theorem dX7_isMonth_10 : decode cX7_isMonth 10 = .ok (.iconst 1, 1) := by decide +kernel
theorem dX7_isMonth_11 : decode cX7_isMonth 11 = .ok (.goto 4, 3) := by decide +kernel
theorem dX7_isMonth_14 : decode cX7_isMonth 14 = .ok (.iconst 0, 1) := by decide +kernel
theorem dX7_isMonth_15 : decode cX7_isMonth 15 = .ok (.ireturn, 1) := by decide +kernel
theorem dX7_isPlace_0 : decode cX7_isPlace 0 = .ok (.iload_n 0, 1) := by decide +kernel
theorem dX7_isPlace_1 : decode cX7_isPlace 1 = .ok (.ifCond .lt 13, 3) := by decide +kernel
theorem dX7_isPlace_4 : decode cX7_isPlace 4 = .ok (.iload_n 0, 1) := by decide +kernel
theorem dX7_isPlace_5 : decode cX7_isPlace 5 = .ok (.bipush 12, 2) := by decide +kernel
theorem dX7_isPlace_7 : decode cX7_isPlace 7 = .ok (.if_icmp .ge 7, 3) := by decide +kernel
theorem dX7_isPlace_10 : decode cX7_isPlace 10 = .ok (.iconst 1, 1) := by decide +kernel
theorem dX7_isPlace_11 : decode cX7_isPlace 11 = .ok (.goto 4, 3) := by decide +kernel
theorem dX7_isPlace_14 : decode cX7_isPlace 14 = .ok (.iconst 0, 1) := by decide +kernel
theorem dX7_isPlace_15 : decode cX7_isPlace 15 = .ok (.ireturn, 1) := by decide +kernel
theorem dX7_isNeed_0 : decode cX7_isNeed 0 = .ok (.iload_n 0, 1) := by decide +kernel
theorem dX7_isNeed_1 : decode cX7_isNeed 1 = .ok (.iconst 1, 1) := by decide +kernel
theorem dX7_isNeed_2 : decode cX7_isNeed 2 = .ok (.if_icmp .lt 14, 3) := by decide +kernel
theorem dX7_isNeed_5 : decode cX7_isNeed 5 = .ok (.iload_n 0, 1) := by decide +kernel
theorem dX7_isNeed_6 : decode cX7_isNeed 6 = .ok (.sipush 3600, 3) := by decide +kernel
theorem dX7_isNeed_9 : decode cX7_isNeed 9 = .ok (.if_icmp .gt 7, 3) := by decide +kernel
theorem dX7_isNeed_12 : decode cX7_isNeed 12 = .ok (.iconst 1, 1) := by decide +kernel
theorem dX7_isNeed_13 : decode cX7_isNeed 13 = .ok (.goto 4, 3) := by decide +kernel
theorem dX7_isNeed_16 : decode cX7_isNeed 16 = .ok (.iconst 0, 1) := by decide +kernel
theorem dX7_isNeed_17 : decode cX7_isNeed 17 = .ok (.ireturn, 1) := by decide +kernel
theorem dX7_isSet_0 : decode cX7_isSet 0 = .ok (.iload_n 0, 1) := by decide +kernel
theorem dX7_isSet_1 : decode cX7_isSet 1 = .ok (.ifCond .lt 14, 3) := by decide +kernel
theorem dX7_isSet_4 : decode cX7_isSet 4 = .ok (.iload_n 0, 1) := by decide +kernel
theorem dX7_isSet_5 : decode cX7_isSet 5 = .ok (.sipush 4096, 3) := by decide +kernel
theorem dX7_isSet_8 : decode cX7_isSet 8 = .ok (.if_icmp .ge 7, 3) := by decide +kernel
theorem dX7_isSet_11 : decode cX7_isSet 11 = .ok (.iconst 1, 1) := by decide +kernel
theorem dX7_isSet_12 : decode cX7_isSet 12 = .ok (.goto 4, 3) := by decide +kernel
theorem dX7_isSet_15 : decode cX7_isSet 15 = .ok (.iconst 0, 1) := by decide +kernel
theorem dX7_isSet_16 : decode cX7_isSet 16 = .ok (.ireturn, 1) := by decide +kernel
theorem dX7_names_0 : decode cX7_names 0 = .ok (.iload_n 0, 1) := by decide +kernel
theorem dX7_names_1 : decode cX7_names 1 = .ok (.iload_n 1, 1) := by decide +kernel
theorem dX7_names_2 : decode cX7_names 2 = .ok (.ishr, 1) := by decide +kernel
theorem dX7_names_3 : decode cX7_names 3 = .ok (.iconst 1, 1) := by decide +kernel
theorem dX7_names_4 : decode cX7_names 4 = .ok (.iand, 1) := by decide +kernel
theorem dX7_names_5 : decode cX7_names 5 = .ok (.ifCond .eq 7, 3) := by decide +kernel
theorem dX7_names_8 : decode cX7_names 8 = .ok (.iconst 1, 1) := by decide +kernel
theorem dX7_names_9 : decode cX7_names 9 = .ok (.goto 4, 3) := by decide +kernel
theorem dX7_names_12 : decode cX7_names 12 = .ok (.iconst 0, 1) := by decide +kernel
theorem dX7_names_13 : decode cX7_names 13 = .ok (.ireturn, 1) := by decide +kernel
theorem dX7_part_0 : decode cX7_part 0 = .ok (.iload_n 0, 1) := by decide +kernel
theorem dX7_part_1 : decode cX7_part 1 = .ok (.iload_n 1, 1) := by decide +kernel
theorem dX7_part_2 : decode cX7_part 2 = .ok (.imul, 1) := by decide +kernel
theorem dX7_part_3 : decode cX7_part 3 = .ok (.sipush 999, 3) := by decide +kernel
theorem dX7_part_6 : decode cX7_part 6 = .ok (.iadd, 1) := by decide +kernel
theorem dX7_part_7 : decode cX7_part 7 = .ok (.sipush 1000, 3) := by decide +kernel
theorem dX7_part_10 : decode cX7_part 10 = .ok (.idiv, 1) := by decide +kernel
theorem dX7_part_11 : decode cX7_part 11 = .ok (.ireturn, 1) := by decide +kernel
theorem dX7_dayOrNone_0 : decode cX7_dayOrNone 0 = .ok (.iload_n 0, 1) := by decide +kernel
theorem dX7_dayOrNone_1 : decode cX7_dayOrNone 1 = .ok (.invokestatic 52, 3) := by decide +kernel
theorem dX7_dayOrNone_4 : decode cX7_dayOrNone 4 = .ok (.ifCond .eq 7, 3) := by decide +kernel
theorem dX7_dayOrNone_7 : decode cX7_dayOrNone 7 = .ok (.iload_n 0, 1) := by decide +kernel
theorem dX7_dayOrNone_8 : decode cX7_dayOrNone 8 = .ok (.goto 4, 3) := by decide +kernel
theorem dX7_dayOrNone_11 : decode cX7_dayOrNone 11 = .ok (.iconst (-1), 1) := by decide +kernel
theorem dX7_dayOrNone_12 : decode cX7_dayOrNone 12 = .ok (.ireturn, 1) := by decide +kernel
theorem dX7_bitsFrom_0 : decode cX7_bitsFrom 0 = .ok (.iload_n 0, 1) := by decide +kernel
theorem dX7_bitsFrom_1 : decode cX7_bitsFrom 1 = .ok (.ifCond .gt 7, 3) := by decide +kernel
theorem dX7_bitsFrom_4 : decode cX7_bitsFrom 4 = .ok (.ldc_w 268, 3) := by decide +kernel
theorem dX7_bitsFrom_7 : decode cX7_bitsFrom 7 = .ok (.ireturn, 1) := by decide +kernel
theorem dX7_bitsFrom_8 : decode cX7_bitsFrom 8 = .ok (.iload_n 0, 1) := by decide +kernel
theorem dX7_bitsFrom_9 : decode cX7_bitsFrom 9 = .ok (.bipush 30, 2) := by decide +kernel
theorem dX7_bitsFrom_11 : decode cX7_bitsFrom 11 = .ok (.if_icmp .ge 15, 3) := by decide +kernel
theorem dX7_bitsFrom_14 : decode cX7_bitsFrom 14 = .ok (.ldc_w 268, 3) := by decide +kernel
theorem dX7_bitsFrom_17 : decode cX7_bitsFrom 17 = .ok (.ldc_w 268, 3) := by decide +kernel
theorem dX7_bitsFrom_20 : decode cX7_bitsFrom 20 = .ok (.iload_n 0, 1) := by decide +kernel
theorem dX7_bitsFrom_21 : decode cX7_bitsFrom 21 = .ok (.ishl, 1) := by decide +kernel
theorem dX7_bitsFrom_22 : decode cX7_bitsFrom 22 = .ok (.iand, 1) := by decide +kernel
theorem dX7_bitsFrom_23 : decode cX7_bitsFrom 23 = .ok (.goto 4, 3) := by decide +kernel
theorem dX7_bitsFrom_26 : decode cX7_bitsFrom 26 = .ok (.iconst 0, 1) := by decide +kernel
theorem dX7_bitsFrom_27 : decode cX7_bitsFrom 27 = .ok (.ireturn, 1) := by decide +kernel
theorem dX7_bitsUpTo_0 : decode cX7_bitsUpTo 0 = .ok (.iload_n 0, 1) := by decide +kernel
theorem dX7_bitsUpTo_1 : decode cX7_bitsUpTo 1 = .ok (.ifCond .ge 5, 3) := by decide +kernel
theorem dX7_bitsUpTo_4 : decode cX7_bitsUpTo 4 = .ok (.iconst 0, 1) := by decide +kernel
theorem dX7_bitsUpTo_5 : decode cX7_bitsUpTo 5 = .ok (.ireturn, 1) := by decide +kernel
theorem dX7_bitsUpTo_6 : decode cX7_bitsUpTo 6 = .ok (.iload_n 0, 1) := by decide +kernel
theorem dX7_bitsUpTo_7 : decode cX7_bitsUpTo 7 = .ok (.bipush 29, 2) := by decide +kernel
theorem dX7_bitsUpTo_9 : decode cX7_bitsUpTo 9 = .ok (.if_icmp .ge 13, 3) := by decide +kernel
theorem dX7_bitsUpTo_12 : decode cX7_bitsUpTo 12 = .ok (.iconst 1, 1) := by decide +kernel
theorem dX7_bitsUpTo_13 : decode cX7_bitsUpTo 13 = .ok (.iload_n 0, 1) := by decide +kernel
theorem dX7_bitsUpTo_14 : decode cX7_bitsUpTo 14 = .ok (.iconst 1, 1) := by decide +kernel
theorem dX7_bitsUpTo_15 : decode cX7_bitsUpTo 15 = .ok (.iadd, 1) := by decide +kernel
theorem dX7_bitsUpTo_16 : decode cX7_bitsUpTo 16 = .ok (.ishl, 1) := by decide +kernel
theorem dX7_bitsUpTo_17 : decode cX7_bitsUpTo 17 = .ok (.iconst 1, 1) := by decide +kernel
theorem dX7_bitsUpTo_18 : decode cX7_bitsUpTo 18 = .ok (.isub, 1) := by decide +kernel
theorem dX7_bitsUpTo_19 : decode cX7_bitsUpTo 19 = .ok (.goto 6, 3) := by decide +kernel
theorem dX7_bitsUpTo_22 : decode cX7_bitsUpTo 22 = .ok (.ldc_w 268, 3) := by decide +kernel
theorem dX7_bitsUpTo_25 : decode cX7_bitsUpTo 25 = .ok (.ireturn, 1) := by decide +kernel
theorem dX7_isPerson_0 : decode cX7_isPerson 0 = .ok (.iload_n 1, 1) := by decide +kernel
theorem dX7_isPerson_1 : decode cX7_isPerson 1 = .ok (.ifCond .lt 15, 3) := by decide +kernel
theorem dX7_isPerson_4 : decode cX7_isPerson 4 = .ok (.iload_n 1, 1) := by decide +kernel
theorem dX7_isPerson_5 : decode cX7_isPerson 5 = .ok (.aload_n 0, 1) := by decide +kernel
theorem dX7_isPerson_6 : decode cX7_isPerson 6 = .ok (.getfield 19, 3) := by decide +kernel
theorem dX7_isPerson_9 : decode cX7_isPerson 9 = .ok (.if_icmp .ge 7, 3) := by decide +kernel
theorem dX7_isPerson_12 : decode cX7_isPerson 12 = .ok (.iconst 1, 1) := by decide +kernel
theorem dX7_isPerson_13 : decode cX7_isPerson 13 = .ok (.goto 4, 3) := by decide +kernel
theorem dX7_isPerson_16 : decode cX7_isPerson 16 = .ok (.iconst 0, 1) := by decide +kernel
theorem dX7_isPerson_17 : decode cX7_isPerson 17 = .ok (.ireturn, 1) := by decide +kernel
theorem dX7_fileOf_0 : decode cX7_fileOf 0 = .ok (.aload_n 0, 1) := by decide +kernel
theorem dX7_fileOf_1 : decode cX7_fileOf 1 = .ok (.iload_n 2, 1) := by decide +kernel
theorem dX7_fileOf_2 : decode cX7_fileOf 2 = .ok (.invokevirtual 106, 3) := by decide +kernel
theorem dX7_fileOf_5 : decode cX7_fileOf 5 = .ok (.ifCond .eq 11, 3) := by decide +kernel
theorem dX7_fileOf_8 : decode cX7_fileOf 8 = .ok (.aload_n 1, 1) := by decide +kernel
theorem dX7_fileOf_9 : decode cX7_fileOf 9 = .ok (.iload_n 2, 1) := by decide +kernel
theorem dX7_fileOf_10 : decode cX7_fileOf 10 = .ok (.invokevirtual 79, 3) := by decide +kernel
theorem dX7_fileOf_13 : decode cX7_fileOf 13 = .ok (.goto 4, 3) := by decide +kernel
theorem dX7_fileOf_16 : decode cX7_fileOf 16 = .ok (.aconst_null, 1) := by decide +kernel
theorem dX7_fileOf_17 : decode cX7_fileOf 17 = .ok (.areturn, 1) := by decide +kernel
theorem dX7_placeOf_0 : decode cX7_placeOf 0 = .ok (.aload_n 0, 1) := by decide +kernel
theorem dX7_placeOf_1 : decode cX7_placeOf 1 = .ok (.aload_n 1, 1) := by decide +kernel
theorem dX7_placeOf_2 : decode cX7_placeOf 2 = .ok (.iload_n 2, 1) := by decide +kernel
theorem dX7_placeOf_3 : decode cX7_placeOf 3 = .ok (.invokevirtual 112, 3) := by decide +kernel
theorem dX7_placeOf_6 : decode cX7_placeOf 6 = .ok (.astore 4, 2) := by decide +kernel
theorem dX7_placeOf_8 : decode cX7_placeOf 8 = .ok (.aload 4, 2) := by decide +kernel
theorem dX7_placeOf_10 : decode cX7_placeOf 10 = .ok (.ifnonnull 7, 3) := by decide +kernel
theorem dX7_placeOf_13 : decode cX7_placeOf 13 = .ok (.aconst_null, 1) := by decide +kernel
theorem dX7_placeOf_14 : decode cX7_placeOf 14 = .ok (.goto 9, 3) := by decide +kernel
theorem dX7_placeOf_17 : decode cX7_placeOf 17 = .ok (.aload 4, 2) := by decide +kernel
theorem dX7_placeOf_19 : decode cX7_placeOf 19 = .ok (.iload_n 3, 1) := by decide +kernel
theorem dX7_placeOf_20 : decode cX7_placeOf 20 = .ok (.invokevirtual 131, 3) := by decide +kernel
theorem dX7_placeOf_23 : decode cX7_placeOf 23 = .ok (.areturn, 1) := by decide +kernel
theorem dX7_putStatus_0 : decode cX7_putStatus 0 = .ok (.aload_n 0, 1) := by decide +kernel
theorem dX7_putStatus_1 : decode cX7_putStatus 1 = .ok (.aload_n 0, 1) := by decide +kernel
theorem dX7_putStatus_2 : decode cX7_putStatus 2 = .ok (.getfield 31, 3) := by decide +kernel
theorem dX7_putStatus_5 : decode cX7_putStatus 5 = .ok (.iload_n 1, 1) := by decide +kernel
theorem dX7_putStatus_6 : decode cX7_putStatus 6 = .ok (.iload_n 2, 1) := by decide +kernel
theorem dX7_putStatus_7 : decode cX7_putStatus 7 = .ok (.invokevirtual 93, 3) := by decide +kernel
theorem dX7_putStatus_10 : decode cX7_putStatus 10 = .ok (.astore_n 3, 1) := by decide +kernel
theorem dX7_putStatus_11 : decode cX7_putStatus 11 = .ok (.aload_n 3, 1) := by decide +kernel
theorem dX7_putStatus_12 : decode cX7_putStatus 12 = .ok (.ifnonnull 5, 3) := by decide +kernel
theorem dX7_putStatus_15 : decode cX7_putStatus 15 = .ok (.iconst 1, 1) := by decide +kernel
theorem dX7_putStatus_16 : decode cX7_putStatus 16 = .ok (.ireturn, 1) := by decide +kernel
theorem dX7_putStatus_17 : decode cX7_putStatus 17 = .ok (.aload_n 3, 1) := by decide +kernel
theorem dX7_putStatus_18 : decode cX7_putStatus 18 = .ok (.getfield 97, 3) := by decide +kernel
theorem dX7_putStatus_21 : decode cX7_putStatus 21 = .ok (.ifCond .ne 7, 3) := by decide +kernel
theorem dX7_putStatus_24 : decode cX7_putStatus 24 = .ok (.iconst 0, 1) := by decide +kernel
theorem dX7_putStatus_25 : decode cX7_putStatus 25 = .ok (.goto 4, 3) := by decide +kernel
theorem dX7_putStatus_28 : decode cX7_putStatus 28 = .ok (.iconst 2, 1) := by decide +kernel
theorem dX7_putStatus_29 : decode cX7_putStatus 29 = .ok (.ireturn, 1) := by decide +kernel
theorem dX7_tell_0 : decode cX7_tell 0 = .ok (.aload_n 0, 1) := by decide +kernel
theorem dX7_tell_1 : decode cX7_tell 1 = .ok (.getfield 15, 3) := by decide +kernel
theorem dX7_tell_4 : decode cX7_tell 4 = .ok (.sipush 400, 3) := by decide +kernel
theorem dX7_tell_7 : decode cX7_tell 7 = .ok (.if_icmp .lt 6, 3) := by decide +kernel
theorem dX7_tell_10 : decode cX7_tell 10 = .ok (.bipush 7, 2) := by decide +kernel
theorem dX7_tell_12 : decode cX7_tell 12 = .ok (.ireturn, 1) := by decide +kernel
theorem dX7_tell_13 : decode cX7_tell 13 = .ok (.aload_n 0, 1) := by decide +kernel
theorem dX7_tell_14 : decode cX7_tell 14 = .ok (.getfield 11, 3) := by decide +kernel
theorem dX7_tell_17 : decode cX7_tell 17 = .ok (.aload_n 0, 1) := by decide +kernel
theorem dX7_tell_18 : decode cX7_tell 18 = .ok (.getfield 15, 3) := by decide +kernel
theorem dX7_tell_21 : decode cX7_tell 21 = .ok (.aload_n 1, 1) := by decide +kernel
theorem dX7_tell_22 : decode cX7_tell 22 = .ok (.aastore, 1) := by decide +kernel
theorem dX7_tell_23 : decode cX7_tell 23 = .ok (.aload_n 0, 1) := by decide +kernel
theorem dX7_tell_24 : decode cX7_tell 24 = .ok (.dup, 1) := by decide +kernel
theorem dX7_tell_25 : decode cX7_tell 25 = .ok (.getfield 15, 3) := by decide +kernel
theorem dX7_tell_28 : decode cX7_tell 28 = .ok (.iconst 1, 1) := by decide +kernel
theorem dX7_tell_29 : decode cX7_tell 29 = .ok (.iadd, 1) := by decide +kernel
theorem dX7_tell_30 : decode cX7_tell 30 = .ok (.putfield 15, 3) := by decide +kernel
theorem dX7_tell_33 : decode cX7_tell 33 = .ok (.aload_n 0, 1) := by decide +kernel
theorem dX7_tell_34 : decode cX7_tell 34 = .ok (.getfield 31, 3) := by decide +kernel
theorem dX7_tell_37 : decode cX7_tell 37 = .ok (.aload_n 0, 1) := by decide +kernel
theorem dX7_tell_38 : decode cX7_tell 38 = .ok (.getfield 11, 3) := by decide +kernel
theorem dX7_tell_41 : decode cX7_tell 41 = .ok (.aload_n 0, 1) := by decide +kernel
theorem dX7_tell_42 : decode cX7_tell 42 = .ok (.getfield 15, 3) := by decide +kernel
theorem dX7_tell_45 : decode cX7_tell 45 = .ok (.invokevirtual 269, 3) := by decide +kernel
theorem dX7_tell_48 : decode cX7_tell 48 = .ok (.iconst 0, 1) := by decide +kernel
theorem dX7_tell_49 : decode cX7_tell 49 = .ok (.ireturn, 1) := by decide +kernel
theorem dX7_dayAsked_0 : decode cX7_dayAsked 0 = .ok (.aload_n 0, 1) := by decide +kernel
theorem dX7_dayAsked_1 : decode cX7_dayAsked 1 = .ok (.getfield 25, 3) := by decide +kernel
theorem dX7_dayAsked_4 : decode cX7_dayAsked 4 = .ok (.iconst (-1), 1) := by decide +kernel
theorem dX7_dayAsked_5 : decode cX7_dayAsked 5 = .ok (.if_icmp .ne 10, 3) := by decide +kernel
theorem dX7_dayAsked_8 : decode cX7_dayAsked 8 = .ok (.aload_n 0, 1) := by decide +kernel
theorem dX7_dayAsked_9 : decode cX7_dayAsked 9 = .ok (.getfield 22, 3) := by decide +kernel
theorem dX7_dayAsked_12 : decode cX7_dayAsked 12 = .ok (.goto 7, 3) := by decide +kernel
theorem dX7_dayAsked_15 : decode cX7_dayAsked 15 = .ok (.aload_n 0, 1) := by decide +kernel
theorem dX7_dayAsked_16 : decode cX7_dayAsked 16 = .ok (.getfield 25, 3) := by decide +kernel
theorem dX7_dayAsked_19 : decode cX7_dayAsked 19 = .ok (.ireturn, 1) := by decide +kernel
theorem dX7_known_0 : decode cX7_known 0 = .ok (.aload_n 0, 1) := by decide +kernel
theorem dX7_known_1 : decode cX7_known 1 = .ok (.getfield 15, 3) := by decide +kernel
theorem dX7_known_4 : decode cX7_known 4 = .ok (.istore_n 1, 1) := by decide +kernel
theorem dX7_known_5 : decode cX7_known 5 = .ok (.iload_n 1, 1) := by decide +kernel
theorem dX7_known_6 : decode cX7_known 6 = .ok (.ifCond .le 27, 3) := by decide +kernel
theorem dX7_known_9 : decode cX7_known 9 = .ok (.aload_n 0, 1) := by decide +kernel
theorem dX7_known_10 : decode cX7_known 10 = .ok (.getfield 11, 3) := by decide +kernel
theorem dX7_known_13 : decode cX7_known 13 = .ok (.iload_n 1, 1) := by decide +kernel
theorem dX7_known_14 : decode cX7_known 14 = .ok (.iconst 1, 1) := by decide +kernel
theorem dX7_known_15 : decode cX7_known 15 = .ok (.isub, 1) := by decide +kernel
theorem dX7_known_16 : decode cX7_known 16 = .ok (.aaload, 1) := by decide +kernel
theorem dX7_known_17 : decode cX7_known 17 = .ok (.aload_n 0, 1) := by decide +kernel
theorem dX7_known_18 : decode cX7_known 18 = .ok (.invokevirtual 209, 3) := by decide +kernel
theorem dX7_known_21 : decode cX7_known 21 = .ok (.invokestatic 273, 3) := by decide +kernel
theorem dX7_known_24 : decode cX7_known 24 = .ok (.ifCond .eq 9, 3) := by decide +kernel
theorem dX7_known_27 : decode cX7_known 27 = .ok (.iinc 1 (-1), 3) := by decide +kernel
theorem dX7_known_30 : decode cX7_known 30 = .ok (.goto (-25), 3) := by decide +kernel
theorem dX7_known_33 : decode cX7_known 33 = .ok (.iload_n 1, 1) := by decide +kernel
theorem dX7_known_34 : decode cX7_known 34 = .ok (.aload_n 0, 1) := by decide +kernel
theorem dX7_known_35 : decode cX7_known 35 = .ok (.getfield 15, 3) := by decide +kernel
theorem dX7_known_38 : decode cX7_known 38 = .ok (.if_icmp .ne 8, 3) := by decide +kernel
theorem dX7_known_41 : decode cX7_known 41 = .ok (.aload_n 0, 1) := by decide +kernel
theorem dX7_known_42 : decode cX7_known 42 = .ok (.getfield 31, 3) := by decide +kernel
theorem dX7_known_45 : decode cX7_known 45 = .ok (.areturn, 1) := by decide +kernel
theorem dX7_known_46 : decode cX7_known 46 = .ok (.aload_n 0, 1) := by decide +kernel
theorem dX7_known_47 : decode cX7_known 47 = .ok (.getfield 35, 3) := by decide +kernel
theorem dX7_known_50 : decode cX7_known 50 = .ok (.aload_n 0, 1) := by decide +kernel
theorem dX7_known_51 : decode cX7_known 51 = .ok (.getfield 11, 3) := by decide +kernel
theorem dX7_known_54 : decode cX7_known 54 = .ok (.iload_n 1, 1) := by decide +kernel
theorem dX7_known_55 : decode cX7_known 55 = .ok (.invokevirtual 269, 3) := by decide +kernel
theorem dX7_known_58 : decode cX7_known 58 = .ok (.aload_n 0, 1) := by decide +kernel
theorem dX7_known_59 : decode cX7_known 59 = .ok (.getfield 35, 3) := by decide +kernel
theorem dX7_known_62 : decode cX7_known 62 = .ok (.areturn, 1) := by decide +kernel
theorem dX7_isBehind_0 : decode cX7_isBehind 0 = .ok (.aload_n 0, 1) := by decide +kernel
theorem dX7_isBehind_1 : decode cX7_isBehind 1 = .ok (.ifnull 15, 3) := by decide +kernel
theorem dX7_isBehind_4 : decode cX7_isBehind 4 = .ok (.aload_n 0, 1) := by decide +kernel
theorem dX7_isBehind_5 : decode cX7_isBehind 5 = .ok (.getfield 277, 3) := by decide +kernel
theorem dX7_isBehind_8 : decode cX7_isBehind 8 = .ok (.iload_n 1, 1) := by decide +kernel
theorem dX7_isBehind_9 : decode cX7_isBehind 9 = .ok (.if_icmp .le 7, 3) := by decide +kernel
theorem dX7_isBehind_12 : decode cX7_isBehind 12 = .ok (.iconst 1, 1) := by decide +kernel
theorem dX7_isBehind_13 : decode cX7_isBehind 13 = .ok (.goto 4, 3) := by decide +kernel
theorem dX7_isBehind_16 : decode cX7_isBehind 16 = .ok (.iconst 0, 1) := by decide +kernel
theorem dX7_isBehind_17 : decode cX7_isBehind 17 = .ok (.ireturn, 1) := by decide +kernel
theorem dX7_reckonOrder_0 : decode cX7_reckonOrder 0 = .ok (.aload_n 0, 1) := by decide +kernel
theorem dX7_reckonOrder_1 : decode cX7_reckonOrder 1 = .ok (.aload_n 0, 1) := by decide +kernel
theorem dX7_reckonOrder_2 : decode cX7_reckonOrder 2 = .ok (.invokevirtual 169, 3) := by decide +kernel
theorem dX7_reckonOrder_5 : decode cX7_reckonOrder 5 = .ok (.iload_n 1, 1) := by decide +kernel
theorem dX7_reckonOrder_6 : decode cX7_reckonOrder 6 = .ok (.invokevirtual 112, 3) := by decide +kernel
theorem dX7_reckonOrder_9 : decode cX7_reckonOrder 9 = .ok (.astore 4, 2) := by decide +kernel
theorem dX7_reckonOrder_11 : decode cX7_reckonOrder 11 = .ok (.aload 4, 2) := by decide +kernel
theorem dX7_reckonOrder_13 : decode cX7_reckonOrder 13 = .ok (.ifnonnull 7, 3) := by decide +kernel
theorem dX7_reckonOrder_16 : decode cX7_reckonOrder 16 = .ok (.aconst_null, 1) := by decide +kernel
theorem dX7_reckonOrder_17 : decode cX7_reckonOrder 17 = .ok (.goto 9, 3) := by decide +kernel
theorem dX7_reckonOrder_20 : decode cX7_reckonOrder 20 = .ok (.aload 4, 2) := by decide +kernel
theorem dX7_reckonOrder_22 : decode cX7_reckonOrder 22 = .ok (.iload_n 2, 1) := by decide +kernel
theorem dX7_reckonOrder_23 : decode cX7_reckonOrder 23 = .ok (.invokevirtual 131, 3) := by decide +kernel
theorem dX7_reckonOrder_26 : decode cX7_reckonOrder 26 = .ok (.astore 5, 2) := by decide +kernel
theorem dX7_reckonOrder_28 : decode cX7_reckonOrder 28 = .ok (.aload 5, 2) := by decide +kernel
theorem dX7_reckonOrder_30 : decode cX7_reckonOrder 30 = .ok (.ifnull 11, 3) := by decide +kernel
theorem dX7_reckonOrder_33 : decode cX7_reckonOrder 33 = .ok (.aload 5, 2) := by decide +kernel
theorem dX7_reckonOrder_35 : decode cX7_reckonOrder 35 = .ok (.invokevirtual 278, 3) := by decide +kernel
theorem dX7_reckonOrder_38 : decode cX7_reckonOrder 38 = .ok (.ifCond .ne 5, 3) := by decide +kernel
theorem dX7_reckonOrder_41 : decode cX7_reckonOrder 41 = .ok (.iconst 0, 1) := by decide +kernel
theorem dX7_reckonOrder_42 : decode cX7_reckonOrder 42 = .ok (.ireturn, 1) := by decide +kernel
theorem dX7_reckonOrder_43 : decode cX7_reckonOrder 43 = .ok (.aload_n 0, 1) := by decide +kernel
theorem dX7_reckonOrder_44 : decode cX7_reckonOrder 44 = .ok (.getfield 41, 3) := by decide +kernel
theorem dX7_reckonOrder_47 : decode cX7_reckonOrder 47 = .ok (.aload 4, 2) := by decide +kernel
theorem dX7_reckonOrder_49 : decode cX7_reckonOrder 49 = .ok (.iload_n 3, 1) := by decide +kernel
theorem dX7_reckonOrder_50 : decode cX7_reckonOrder 50 = .ok (.invokevirtual 135, 3) := by decide +kernel
theorem dX7_reckonOrder_53 : decode cX7_reckonOrder 53 = .ok (.iconst 1, 1) := by decide +kernel
theorem dX7_reckonOrder_54 : decode cX7_reckonOrder 54 = .ok (.ireturn, 1) := by decide +kernel
end
section
theorem dX8_init_0 : decode cX8_init 0 = .ok (.aload_n 0, 1) := by decide +kernel
theorem dX8_init_1 : decode cX8_init 1 = .ok (.invokespecial 1, 3) := by decide +kernel
theorem dX8_init_4 : decode cX8_init 4 = .ok (.aload_n 0, 1) := by decide +kernel
theorem dX8_init_5 : decode cX8_init 5 = .ok (.iconst (-1), 1) := by decide +kernel
theorem dX8_init_6 : decode cX8_init 6 = .ok (.putfield 9, 3) := by decide +kernel
theorem dX8_init_9 : decode cX8_init 9 = .ok (.aload_n 0, 1) := by decide +kernel
theorem dX8_init_10 : decode cX8_init 10 = .ok (.sipush 3200, 3) := by decide +kernel
theorem dX8_init_13 : decode cX8_init 13 = .ok (.newarray .int, 2) := by decide +kernel
theorem dX8_init_15 : decode cX8_init 15 = .ok (.putfield 13, 3) := by decide +kernel
theorem dX8_init_18 : decode cX8_init 18 = .ok (.aload_n 0, 1) := by decide +kernel
theorem dX8_init_19 : decode cX8_init 19 = .ok (.sipush 400, 3) := by decide +kernel
theorem dX8_init_22 : decode cX8_init 22 = .ok (.newarray .int, 2) := by decide +kernel
theorem dX8_init_24 : decode cX8_init 24 = .ok (.putfield 17, 3) := by decide +kernel
theorem dX8_init_27 : decode cX8_init 27 = .ok (.aload_n 0, 1) := by decide +kernel
theorem dX8_init_28 : decode cX8_init 28 = .ok (.bipush 12, 2) := by decide +kernel
theorem dX8_init_30 : decode cX8_init 30 = .ok (.newarray .int, 2) := by decide +kernel
theorem dX8_init_32 : decode cX8_init 32 = .ok (.putfield 20, 3) := by decide +kernel
theorem dX8_init_35 : decode cX8_init 35 = .ok (.aload_n 0, 1) := by decide +kernel
theorem dX8_init_36 : decode cX8_init 36 = .ok (.bipush 12, 2) := by decide +kernel
theorem dX8_init_38 : decode cX8_init 38 = .ok (.newarray .int, 2) := by decide +kernel
theorem dX8_init_40 : decode cX8_init 40 = .ok (.putfield 23, 3) := by decide +kernel
theorem dX8_init_43 : decode cX8_init 43 = .ok (.aload_n 0, 1) := by decide +kernel
theorem dX8_init_44 : decode cX8_init 44 = .ok (.bipush 12, 2) := by decide +kernel
theorem dX8_init_46 : decode cX8_init 46 = .ok (.newarray .int, 2) := by decide +kernel
theorem dX8_init_48 : decode cX8_init 48 = .ok (.putfield 26, 3) := by decide +kernel
theorem dX8_init_51 : decode cX8_init 51 = .ok (.aload_n 0, 1) := by decide +kernel
theorem dX8_init_52 : decode cX8_init 52 = .ok (.bipush 12, 2) := by decide +kernel
theorem dX8_init_54 : decode cX8_init 54 = .ok (.newarray .int, 2) := by decide +kernel
theorem dX8_init_56 : decode cX8_init 56 = .ok (.putfield 29, 3) := by decide +kernel
theorem dX8_init_59 : decode cX8_init 59 = .ok (.aload_n 0, 1) := by decide +kernel
theorem dX8_init_60 : decode cX8_init 60 = .ok (.bipush 12, 2) := by decide +kernel
theorem dX8_init_62 : decode cX8_init 62 = .ok (.newarray .int, 2) := by decide +kernel
theorem dX8_init_64 : decode cX8_init 64 = .ok (.putfield 32, 3) := by decide +kernel
theorem dX8_init_67 : decode cX8_init 67 = .ok (.aload_n 0, 1) := by decide +kernel
theorem dX8_init_68 : decode cX8_init 68 = .ok (.bipush 12, 2) := by decide +kernel
theorem dX8_init_70 : decode cX8_init 70 = .ok (.newarray .int, 2) := by decide +kernel
theorem dX8_init_72 : decode cX8_init 72 = .ok (.putfield 35, 3) := by decide +kernel
theorem dX8_init_75 : decode cX8_init 75 = .ok (.aload_n 0, 1) := by decide +kernel
theorem dX8_init_76 : decode cX8_init 76 = .ok (.bipush 12, 2) := by decide +kernel
theorem dX8_init_78 : decode cX8_init 78 = .ok (.newarray .int, 2) := by decide +kernel
theorem dX8_init_80 : decode cX8_init 80 = .ok (.putfield 38, 3) := by decide +kernel
theorem dX8_init_83 : decode cX8_init 83 = .ok (.aload_n 0, 1) := by decide +kernel
theorem dX8_init_84 : decode cX8_init 84 = .ok (.bipush 12, 2) := by decide +kernel
theorem dX8_init_86 : decode cX8_init 86 = .ok (.newarray .int, 2) := by decide +kernel
theorem dX8_init_88 : decode cX8_init 88 = .ok (.putfield 41, 3) := by decide +kernel
theorem dX8_init_91 : decode cX8_init 91 = .ok (.aload_n 0, 1) := by decide +kernel
theorem dX8_init_92 : decode cX8_init 92 = .ok (.bipush 12, 2) := by decide +kernel
theorem dX8_init_94 : decode cX8_init 94 = .ok (.newarray .int, 2) := by decide +kernel
theorem dX8_init_96 : decode cX8_init 96 = .ok (.putfield 44, 3) := by decide +kernel
theorem dX8_init_99 : decode cX8_init 99 = .ok (.aload_n 0, 1) := by decide +kernel
theorem dX8_init_100 : decode cX8_init 100 = .ok (.sipush 720, 3) := by decide +kernel
theorem dX8_init_103 : decode cX8_init 103 = .ok (.newarray .int, 2) := by decide +kernel
theorem dX8_init_105 : decode cX8_init 105 = .ok (.putfield 47, 3) := by decide +kernel
theorem dX8_init_108 : decode cX8_init 108 = .ok (.aload_n 0, 1) := by decide +kernel
theorem dX8_init_109 : decode cX8_init 109 = .ok (.sipush 720, 3) := by decide +kernel
theorem dX8_init_112 : decode cX8_init 112 = .ok (.newarray .boolean, 2) := by decide +kernel
theorem dX8_init_114 : decode cX8_init 114 = .ok (.putfield 50, 3) := by decide +kernel
theorem dX8_init_117 : decode cX8_init 117 = .ok (.aload_n 0, 1) := by decide +kernel
theorem dX8_init_118 : decode cX8_init 118 = .ok (.sipush 720, 3) := by decide +kernel
theorem dX8_init_121 : decode cX8_init 121 = .ok (.newarray .int, 2) := by decide +kernel
theorem dX8_init_123 : decode cX8_init 123 = .ok (.putfield 54, 3) := by decide +kernel
theorem dX8_init_126 : decode cX8_init 126 = .ok (.aload_n 0, 1) := by decide +kernel
theorem dX8_init_127 : decode cX8_init 127 = .ok (.sipush 21600, 3) := by decide +kernel
theorem dX8_init_130 : decode cX8_init 130 = .ok (.newarray .int, 2) := by decide +kernel
theorem dX8_init_132 : decode cX8_init 132 = .ok (.putfield 57, 3) := by decide +kernel
theorem dX8_init_135 : decode cX8_init 135 = .ok (.aload_n 0, 1) := by decide +kernel
theorem dX8_init_136 : decode cX8_init 136 = .ok (.bipush 12, 2) := by decide +kernel
theorem dX8_init_138 : decode cX8_init 138 = .ok (.newarray .boolean, 2) := by decide +kernel
theorem dX8_init_140 : decode cX8_init 140 = .ok (.putfield 60, 3) := by decide +kernel
theorem dX8_init_143 : decode cX8_init 143 = .ok (.aload_n 0, 1) := by decide +kernel
theorem dX8_init_144 : decode cX8_init 144 = .ok (.bipush 12, 2) := by decide +kernel
theorem dX8_init_146 : decode cX8_init 146 = .ok (.newarray .int, 2) := by decide +kernel
theorem dX8_init_148 : decode cX8_init 148 = .ok (.putfield 63, 3) := by decide +kernel
theorem dX8_init_151 : decode cX8_init 151 = .ok (.aload_n 0, 1) := by decide +kernel
theorem dX8_init_152 : decode cX8_init 152 = .ok (.bipush 12, 2) := by decide +kernel
theorem dX8_init_154 : decode cX8_init 154 = .ok (.newarray .int, 2) := by decide +kernel
theorem dX8_init_156 : decode cX8_init 156 = .ok (.putfield 66, 3) := by decide +kernel
theorem dX8_init_159 : decode cX8_init 159 = .ok (.aload_n 0, 1) := by decide +kernel
theorem dX8_init_160 : decode cX8_init 160 = .ok (.ldc 69, 2) := by decide +kernel
theorem dX8_init_162 : decode cX8_init 162 = .ok (.newarray .boolean, 2) := by decide +kernel
theorem dX8_init_164 : decode cX8_init 164 = .ok (.putfield 70, 3) := by decide +kernel
theorem dX8_init_167 : decode cX8_init 167 = .ok (.aload_n 0, 1) := by decide +kernel
theorem dX8_init_168 : decode cX8_init 168 = .ok (.ldc 69, 2) := by decide +kernel
theorem dX8_init_170 : decode cX8_init 170 = .ok (.newarray .int, 2) := by decide +kernel
theorem dX8_init_172 : decode cX8_init 172 = .ok (.putfield 73, 3) := by decide +kernel
theorem dX8_init_175 : decode cX8_init 175 = .ok (.aload_n 0, 1) := by decide +kernel
theorem dX8_init_176 : decode cX8_init 176 = .ok (.ldc 69, 2) := by decide +kernel
theorem dX8_init_178 : decode cX8_init 178 = .ok (.newarray .int, 2) := by decide +kernel
theorem dX8_init_180 : decode cX8_init 180 = .ok (.putfield 76, 3) := by decide +kernel
theorem dX8_init_183 : decode cX8_init 183 = .ok (.aload_n 0, 1) := by decide +kernel
theorem dX8_init_184 : decode cX8_init 184 = .ok (.bipush 12, 2) := by decide +kernel
theorem dX8_init_186 : decode cX8_init 186 = .ok (.newarray .int, 2) := by decide +kernel
theorem dX8_init_188 : decode cX8_init 188 = .ok (.putfield 79, 3) := by decide +kernel
theorem dX8_init_191 : decode cX8_init 191 = .ok (.aload_n 0, 1) := by decide +kernel
theorem dX8_init_192 : decode cX8_init 192 = .ok (.bipush 12, 2) := by decide +kernel
theorem dX8_init_194 : decode cX8_init 194 = .ok (.newarray .int, 2) := by decide +kernel
theorem dX8_init_196 : decode cX8_init 196 = .ok (.putfield 82, 3) := by decide +kernel
theorem dX8_init_199 : decode cX8_init 199 = .ok (.aload_n 0, 1) := by decide +kernel
theorem dX8_init_200 : decode cX8_init 200 = .ok (.bipush 12, 2) := by decide +kernel
theorem dX8_init_202 : decode cX8_init 202 = .ok (.newarray .int, 2) := by decide +kernel
theorem dX8_init_204 : decode cX8_init 204 = .ok (.putfield 85, 3) := by decide +kernel
theorem dX8_init_207 : decode cX8_init 207 = .ok (.aload_n 0, 1) := by decide +kernel
theorem dX8_init_208 : decode cX8_init 208 = .ok (.bipush 12, 2) := by decide +kernel
theorem dX8_init_210 : decode cX8_init 210 = .ok (.newarray .int, 2) := by decide +kernel
theorem dX8_init_212 : decode cX8_init 212 = .ok (.putfield 88, 3) := by decide +kernel
theorem dX8_init_215 : decode cX8_init 215 = .ok (.aload_n 0, 1) := by decide +kernel
theorem dX8_init_216 : decode cX8_init 216 = .ok (.bipush 12, 2) := by decide +kernel
theorem dX8_init_218 : decode cX8_init 218 = .ok (.newarray .int, 2) := by decide +kernel
theorem dX8_init_220 : decode cX8_init 220 = .ok (.putfield 91, 3) := by decide +kernel
theorem dX8_init_223 : decode cX8_init 223 = .ok (.return_, 1) := by decide +kernel
theorem dX8_person_0 : decode cX8_person 0 = .ok (.aload_n 0, 1) := by decide +kernel
theorem dX8_person_1 : decode cX8_person 1 = .ok (.getfield 94, 3) := by decide +kernel
theorem dX8_person_4 : decode cX8_person 4 = .ok (.bipush 6, 2) := by decide +kernel
theorem dX8_person_6 : decode cX8_person 6 = .ok (.if_icmp .ne 5, 3) := by decide +kernel
theorem dX8_person_9 : decode cX8_person 9 = .ok (.iconst (-1), 1) := by decide +kernel
theorem dX8_person_10 : decode cX8_person 10 = .ok (.ireturn, 1) := by decide +kernel
theorem dX8_person_11 : decode cX8_person 11 = .ok (.aload_n 0, 1) := by decide +kernel
theorem dX8_person_12 : decode cX8_person 12 = .ok (.dup, 1) := by decide +kernel
theorem dX8_person_13 : decode cX8_person 13 = .ok (.getfield 94, 3) := by decide +kernel
theorem dX8_person_16 : decode cX8_person 16 = .ok (.iconst 1, 1) := by decide +kernel
theorem dX8_person_17 : decode cX8_person 17 = .ok (.iadd, 1) := by decide +kernel
theorem dX8_person_18 : decode cX8_person 18 = .ok (.putfield 94, 3) := by decide +kernel
theorem dX8_person_21 : decode cX8_person 21 = .ok (.aload_n 0, 1) := by decide +kernel
theorem dX8_person_22 : decode cX8_person 22 = .ok (.getfield 94, 3) := by decide +kernel
theorem dX8_person_25 : decode cX8_person 25 = .ok (.iconst 1, 1) := by decide +kernel
theorem dX8_person_26 : decode cX8_person 26 = .ok (.isub, 1) := by decide +kernel
theorem dX8_person_27 : decode cX8_person 27 = .ok (.ireturn, 1) := by decide +kernel
theorem dX8_today_0 : decode cX8_today 0 = .ok (.iload_n 1, 1) := by decide +kernel
theorem dX8_today_1 : decode cX8_today 1 = .ok (.aload_n 0, 1) := by decide +kernel
theorem dX8_today_2 : decode cX8_today 2 = .ok (.getfield 97, 3) := by decide +kernel
theorem dX8_today_5 : decode cX8_today 5 = .ok (.if_icmp .lt 10, 3) := by decide +kernel
theorem dX8_today_8 : decode cX8_today 8 = .ok (.iload_n 1, 1) := by decide +kernel
theorem dX8_today_9 : decode cX8_today 9 = .ok (.sipush 3600, 3) := by decide +kernel
theorem dX8_today_12 : decode cX8_today 12 = .ok (.if_icmp .lt 5, 3) := by decide +kernel
theorem dX8_today_15 : decode cX8_today 15 = .ok (.iconst 0, 1) := by decide +kernel
theorem dX8_today_16 : decode cX8_today 16 = .ok (.ireturn, 1) := by decide +kernel
theorem dX8_today_17 : decode cX8_today 17 = .ok (.aload_n 0, 1) := by decide +kernel
theorem dX8_today_18 : decode cX8_today 18 = .ok (.iload_n 1, 1) := by decide +kernel
theorem dX8_today_19 : decode cX8_today 19 = .ok (.putfield 97, 3) := by decide +kernel
theorem dX8_today_22 : decode cX8_today 22 = .ok (.iconst 1, 1) := by decide +kernel
theorem dX8_today_23 : decode cX8_today 23 = .ok (.ireturn, 1) := by decide +kernel
theorem dX8_as_0 : decode cX8_as 0 = .ok (.iload_n 1, 1) := by decide +kernel
theorem dX8_as_1 : decode cX8_as 1 = .ok (.iconst (-1), 1) := by decide +kernel
theorem dX8_as_2 : decode cX8_as 2 = .ok (.if_icmp .eq 17, 3) := by decide +kernel
theorem dX8_as_5 : decode cX8_as 5 = .ok (.iload_n 1, 1) := by decide +kernel
theorem dX8_as_6 : decode cX8_as 6 = .ok (.ifCond .lt 11, 3) := by decide +kernel
theorem dX8_as_9 : decode cX8_as 9 = .ok (.iload_n 1, 1) := by decide +kernel
theorem dX8_as_10 : decode cX8_as 10 = .ok (.aload_n 0, 1) := by decide +kernel
theorem dX8_as_11 : decode cX8_as 11 = .ok (.getfield 97, 3) := by decide +kernel
theorem dX8_as_14 : decode cX8_as 14 = .ok (.if_icmp .le 5, 3) := by decide +kernel
theorem dX8_as_17 : decode cX8_as 17 = .ok (.iconst (-1), 1) := by decide +kernel
theorem dX8_as_18 : decode cX8_as 18 = .ok (.ireturn, 1) := by decide +kernel
theorem dX8_as_19 : decode cX8_as 19 = .ok (.aload_n 0, 1) := by decide +kernel
theorem dX8_as_20 : decode cX8_as 20 = .ok (.iload_n 1, 1) := by decide +kernel
theorem dX8_as_21 : decode cX8_as 21 = .ok (.putfield 9, 3) := by decide +kernel
theorem dX8_as_24 : decode cX8_as 24 = .ok (.iconst 1, 1) := by decide +kernel
theorem dX8_as_25 : decode cX8_as 25 = .ok (.ireturn, 1) := by decide +kernel
theorem dX8_known_0 : decode cX8_known 0 = .ok (.aload_n 0, 1) := by decide +kernel
theorem dX8_known_1 : decode cX8_known 1 = .ok (.getfield 9, 3) := by decide +kernel
theorem dX8_known_4 : decode cX8_known 4 = .ok (.iconst (-1), 1) := by decide +kernel
theorem dX8_known_5 : decode cX8_known 5 = .ok (.if_icmp .ne 10, 3) := by decide +kernel
theorem dX8_known_8 : decode cX8_known 8 = .ok (.aload_n 0, 1) := by decide +kernel
theorem dX8_known_9 : decode cX8_known 9 = .ok (.getfield 97, 3) := by decide +kernel
theorem dX8_known_12 : decode cX8_known 12 = .ok (.goto 7, 3) := by decide +kernel
theorem dX8_known_15 : decode cX8_known 15 = .ok (.aload_n 0, 1) := by decide +kernel
theorem dX8_known_16 : decode cX8_known 16 = .ok (.getfield 9, 3) := by decide +kernel
theorem dX8_known_19 : decode cX8_known 19 = .ok (.ireturn, 1) := by decide +kernel
theorem dX8_begin_0 : decode cX8_begin 0 = .ok (.iconst 0, 1) := by decide +kernel
theorem dX8_begin_1 : decode cX8_begin 1 = .ok (.istore_n 1, 1) := by decide +kernel
theorem dX8_begin_2 : decode cX8_begin 2 = .ok (.iload_n 1, 1) := by decide +kernel
theorem dX8_begin_3 : decode cX8_begin 3 = .ok (.bipush 12, 2) := by decide +kernel
theorem dX8_begin_5 : decode cX8_begin 5 = .ok (.if_icmp .ge 51, 3) := by decide +kernel
theorem dX8_begin_8 : decode cX8_begin 8 = .ok (.aload_n 0, 1) := by decide +kernel
theorem dX8_begin_9 : decode cX8_begin 9 = .ok (.getfield 20, 3) := by decide +kernel
theorem dX8_begin_12 : decode cX8_begin 12 = .ok (.iload_n 1, 1) := by decide +kernel
theorem dX8_begin_13 : decode cX8_begin 13 = .ok (.iconst 0, 1) := by decide +kernel
theorem dX8_begin_14 : decode cX8_begin 14 = .ok (.iastore, 1) := by decide +kernel
theorem dX8_begin_15 : decode cX8_begin 15 = .ok (.aload_n 0, 1) := by decide +kernel
theorem dX8_begin_16 : decode cX8_begin 16 = .ok (.getfield 32, 3) := by decide +kernel
theorem dX8_begin_19 : decode cX8_begin 19 = .ok (.iload_n 1, 1) := by decide +kernel
theorem dX8_begin_20 : decode cX8_begin 20 = .ok (.iconst 0, 1) := by decide +kernel
theorem dX8_begin_21 : decode cX8_begin 21 = .ok (.iastore, 1) := by decide +kernel
theorem dX8_begin_22 : decode cX8_begin 22 = .ok (.aload_n 0, 1) := by decide +kernel
theorem dX8_begin_23 : decode cX8_begin 23 = .ok (.getfield 35, 3) := by decide +kernel
theorem dX8_begin_26 : decode cX8_begin 26 = .ok (.iload_n 1, 1) := by decide +kernel
theorem dX8_begin_27 : decode cX8_begin 27 = .ok (.iconst 0, 1) := by decide +kernel
theorem dX8_begin_28 : decode cX8_begin 28 = .ok (.iastore, 1) := by decide +kernel
theorem dX8_begin_29 : decode cX8_begin 29 = .ok (.aload_n 0, 1) := by decide +kernel
theorem dX8_begin_30 : decode cX8_begin 30 = .ok (.getfield 38, 3) := by decide +kernel
theorem dX8_begin_33 : decode cX8_begin 33 = .ok (.iload_n 1, 1) := by decide +kernel
theorem dX8_begin_34 : decode cX8_begin 34 = .ok (.iconst 0, 1) := by decide +kernel
theorem dX8_begin_35 : decode cX8_begin 35 = .ok (.iastore, 1) := by decide +kernel
theorem dX8_begin_36 : decode cX8_begin 36 = .ok (.aload_n 0, 1) := by decide +kernel
theorem dX8_begin_37 : decode cX8_begin 37 = .ok (.getfield 41, 3) := by decide +kernel
theorem dX8_begin_40 : decode cX8_begin 40 = .ok (.iload_n 1, 1) := by decide +kernel
theorem dX8_begin_41 : decode cX8_begin 41 = .ok (.iconst 0, 1) := by decide +kernel
theorem dX8_begin_42 : decode cX8_begin 42 = .ok (.iastore, 1) := by decide +kernel
theorem dX8_begin_43 : decode cX8_begin 43 = .ok (.aload_n 0, 1) := by decide +kernel
theorem dX8_begin_44 : decode cX8_begin 44 = .ok (.getfield 44, 3) := by decide +kernel
theorem dX8_begin_47 : decode cX8_begin 47 = .ok (.iload_n 1, 1) := by decide +kernel
theorem dX8_begin_48 : decode cX8_begin 48 = .ok (.iconst (-1), 1) := by decide +kernel
theorem dX8_begin_49 : decode cX8_begin 49 = .ok (.iastore, 1) := by decide +kernel
theorem dX8_begin_50 : decode cX8_begin 50 = .ok (.iinc 1 1, 3) := by decide +kernel
theorem dX8_begin_53 : decode cX8_begin 53 = .ok (.goto (-51), 3) := by decide +kernel
theorem dX8_begin_56 : decode cX8_begin 56 = .ok (.iconst 0, 1) := by decide +kernel
theorem dX8_begin_57 : decode cX8_begin 57 = .ok (.istore_n 1, 1) := by decide +kernel
theorem dX8_begin_58 : decode cX8_begin 58 = .ok (.iload_n 1, 1) := by decide +kernel
theorem dX8_begin_59 : decode cX8_begin 59 = .ok (.sipush 720, 3) := by decide +kernel
theorem dX8_begin_62 : decode cX8_begin 62 = .ok (.if_icmp .ge 16, 3) := by decide +kernel
theorem dX8_begin_65 : decode cX8_begin 65 = .ok (.aload_n 0, 1) := by decide +kernel
theorem dX8_begin_66 : decode cX8_begin 66 = .ok (.getfield 47, 3) := by decide +kernel
theorem dX8_begin_69 : decode cX8_begin 69 = .ok (.iload_n 1, 1) := by decide +kernel
theorem dX8_begin_70 : decode cX8_begin 70 = .ok (.iconst 0, 1) := by decide +kernel
theorem dX8_begin_71 : decode cX8_begin 71 = .ok (.iastore, 1) := by decide +kernel
theorem dX8_begin_72 : decode cX8_begin 72 = .ok (.iinc 1 1, 3) := by decide +kernel
theorem dX8_begin_75 : decode cX8_begin 75 = .ok (.goto (-17), 3) := by decide +kernel
theorem dX8_begin_78 : decode cX8_begin 78 = .ok (.aload_n 0, 1) := by decide +kernel
theorem dX8_begin_79 : decode cX8_begin 79 = .ok (.iconst (-1), 1) := by decide +kernel
theorem dX8_begin_80 : decode cX8_begin 80 = .ok (.putfield 100, 3) := by decide +kernel
theorem dX8_begin_83 : decode cX8_begin 83 = .ok (.return_, 1) := by decide +kernel
theorem dX8_tellAgain_0 : decode cX8_tellAgain 0 = .ok (.aload_n 0, 1) := by decide +kernel
theorem dX8_tellAgain_1 : decode cX8_tellAgain 1 = .ok (.invokevirtual 103, 3) := by decide +kernel
theorem dX8_tellAgain_4 : decode cX8_tellAgain 4 = .ok (.iconst 0, 1) := by decide +kernel
theorem dX8_tellAgain_5 : decode cX8_tellAgain 5 = .ok (.istore_n 3, 1) := by decide +kernel
theorem dX8_tellAgain_6 : decode cX8_tellAgain 6 = .ok (.iload_n 3, 1) := by decide +kernel
theorem dX8_tellAgain_7 : decode cX8_tellAgain 7 = .ok (.aload_n 0, 1) := by decide +kernel
theorem dX8_tellAgain_8 : decode cX8_tellAgain 8 = .ok (.getfield 106, 3) := by decide +kernel
theorem dX8_tellAgain_11 : decode cX8_tellAgain 11 = .ok (.if_icmp .ge 28, 3) := by decide +kernel
theorem dX8_tellAgain_14 : decode cX8_tellAgain 14 = .ok (.aload_n 0, 1) := by decide +kernel
theorem dX8_tellAgain_15 : decode cX8_tellAgain 15 = .ok (.getfield 13, 3) := by decide +kernel
theorem dX8_tellAgain_18 : decode cX8_tellAgain 18 = .ok (.bipush 8, 2) := by decide +kernel
theorem dX8_tellAgain_20 : decode cX8_tellAgain 20 = .ok (.iload_n 3, 1) := by decide +kernel
theorem dX8_tellAgain_21 : decode cX8_tellAgain 21 = .ok (.imul, 1) := by decide +kernel
theorem dX8_tellAgain_22 : decode cX8_tellAgain 22 = .ok (.iaload, 1) := by decide +kernel
theorem dX8_tellAgain_23 : decode cX8_tellAgain 23 = .ok (.iload_n 2, 1) := by decide +kernel
theorem dX8_tellAgain_24 : decode cX8_tellAgain 24 = .ok (.if_icmp .gt 9, 3) := by decide +kernel
theorem dX8_tellAgain_27 : decode cX8_tellAgain 27 = .ok (.aload_n 0, 1) := by decide +kernel
theorem dX8_tellAgain_28 : decode cX8_tellAgain 28 = .ok (.iload_n 1, 1) := by decide +kernel
theorem dX8_tellAgain_29 : decode cX8_tellAgain 29 = .ok (.iload_n 3, 1) := by decide +kernel
theorem dX8_tellAgain_30 : decode cX8_tellAgain 30 = .ok (.invokevirtual 109, 3) := by decide +kernel
theorem dX8_tellAgain_33 : decode cX8_tellAgain 33 = .ok (.iinc 3 1, 3) := by decide +kernel
theorem dX8_tellAgain_36 : decode cX8_tellAgain 36 = .ok (.goto (-30), 3) := by decide +kernel
theorem dX8_tellAgain_39 : decode cX8_tellAgain 39 = .ok (.return_, 1) := by decide +kernel
theorem dX8_again_0 : decode cX8_again 0 = .ok (.bipush 8, 2) := by decide +kernel
theorem dX8_again_2 : decode cX8_again 2 = .ok (.iload_n 2, 1) := by decide +kernel
theorem dX8_again_3 : decode cX8_again 3 = .ok (.imul, 1) := by decide +kernel
theorem dX8_again_4 : decode cX8_again 4 = .ok (.iconst 2, 1) := by decide +kernel
theorem dX8_again_5 : decode cX8_again 5 = .ok (.iadd, 1) := by decide +kernel
theorem dX8_again_6 : decode cX8_again 6 = .ok (.istore_n 3, 1) := by decide +kernel
theorem dX8_again_7 : decode cX8_again 7 = .ok (.aload_n 0, 1) := by decide +kernel
theorem dX8_again_8 : decode cX8_again 8 = .ok (.getfield 13, 3) := by decide +kernel
theorem dX8_again_11 : decode cX8_again 11 = .ok (.iload_n 3, 1) := by decide +kernel
theorem dX8_again_12 : decode cX8_again 12 = .ok (.iaload, 1) := by decide +kernel
theorem dX8_again_13 : decode cX8_again 13 = .ok (.istore 4, 2) := by decide +kernel
theorem dX8_again_15 : decode cX8_again 15 = .ok (.aload_n 0, 1) := by decide +kernel
theorem dX8_again_16 : decode cX8_again 16 = .ok (.getfield 13, 3) := by decide +kernel
theorem dX8_again_19 : decode cX8_again 19 = .ok (.iload_n 3, 1) := by decide +kernel
theorem dX8_again_20 : decode cX8_again 20 = .ok (.iconst 1, 1) := by decide +kernel
theorem dX8_again_21 : decode cX8_again 21 = .ok (.iadd, 1) := by decide +kernel
theorem dX8_again_22 : decode cX8_again 22 = .ok (.iaload, 1) := by decide +kernel
theorem dX8_again_23 : decode cX8_again 23 = .ok (.istore 5, 2) := by decide +kernel
theorem dX8_again_25 : decode cX8_again 25 = .ok (.aload_n 0, 1) := by decide +kernel
theorem dX8_again_26 : decode cX8_again 26 = .ok (.getfield 13, 3) := by decide +kernel
theorem dX8_again_29 : decode cX8_again 29 = .ok (.iload_n 3, 1) := by decide +kernel
theorem dX8_again_30 : decode cX8_again 30 = .ok (.iconst 2, 1) := by decide +kernel
theorem dX8_again_31 : decode cX8_again 31 = .ok (.iadd, 1) := by decide +kernel
theorem dX8_again_32 : decode cX8_again 32 = .ok (.iaload, 1) := by decide +kernel
theorem dX8_again_33 : decode cX8_again 33 = .ok (.istore 6, 2) := by decide +kernel
theorem dX8_again_35 : decode cX8_again 35 = .ok (.aload_n 0, 1) := by decide +kernel
theorem dX8_again_36 : decode cX8_again 36 = .ok (.getfield 13, 3) := by decide +kernel
theorem dX8_again_39 : decode cX8_again 39 = .ok (.iload_n 3, 1) := by decide +kernel
theorem dX8_again_40 : decode cX8_again 40 = .ok (.iconst 3, 1) := by decide +kernel
theorem dX8_again_41 : decode cX8_again 41 = .ok (.iadd, 1) := by decide +kernel
theorem dX8_again_42 : decode cX8_again 42 = .ok (.iaload, 1) := by decide +kernel
theorem dX8_again_43 : decode cX8_again 43 = .ok (.istore 7, 2) := by decide +kernel
theorem dX8_again_45 : decode cX8_again 45 = .ok (.aload_n 0, 1) := by decide +kernel
theorem dX8_again_46 : decode cX8_again 46 = .ok (.getfield 13, 3) := by decide +kernel
theorem dX8_again_49 : decode cX8_again 49 = .ok (.bipush 8, 2) := by decide +kernel
theorem dX8_again_51 : decode cX8_again 51 = .ok (.iload_n 2, 1) := by decide +kernel
theorem dX8_again_52 : decode cX8_again 52 = .ok (.imul, 1) := by decide +kernel
theorem dX8_again_53 : decode cX8_again 53 = .ok (.iconst 1, 1) := by decide +kernel
theorem dX8_again_54 : decode cX8_again 54 = .ok (.iadd, 1) := by decide +kernel
theorem dX8_again_55 : decode cX8_again 55 = .ok (.iaload, 1) := by decide +kernel
theorem dX8_again_56 : decode cX8_again 56 = .ok (.istore 8, 2) := by decide +kernel
theorem dX8_again_58 : decode cX8_again 58 = .ok (.iload 8, 2) := by decide +kernel
theorem dX8_again_60 : decode cX8_again 60 = .ok (.iconst 5, 1) := by decide +kernel
theorem dX8_again_61 : decode cX8_again 61 = .ok (.if_icmp .lt 29, 3) := by decide +kernel
theorem dX8_again_64 : decode cX8_again 64 = .ok (.iload 8, 2) := by decide +kernel
theorem dX8_again_66 : decode cX8_again 66 = .ok (.bipush 8, 2) := by decide +kernel
theorem dX8_again_68 : decode cX8_again 68 = .ok (.if_icmp .gt 22, 3) := by decide +kernel
theorem dX8_again_71 : decode cX8_again 71 = .ok (.aload_n 0, 1) := by decide +kernel
theorem dX8_again_72 : decode cX8_again 72 = .ok (.iload 8, 2) := by decide +kernel
theorem dX8_again_74 : decode cX8_again 74 = .ok (.bipush 120, 2) := by decide +kernel
theorem dX8_again_76 : decode cX8_again 76 = .ok (.iload 4, 2) := by decide +kernel
theorem dX8_again_78 : decode cX8_again 78 = .ok (.imul, 1) := by decide +kernel
theorem dX8_again_79 : decode cX8_again 79 = .ok (.iload 5, 2) := by decide +kernel
theorem dX8_again_81 : decode cX8_again 81 = .ok (.iadd, 1) := by decide +kernel
theorem dX8_again_82 : decode cX8_again 82 = .ok (.iload 6, 2) := by decide +kernel
theorem dX8_again_84 : decode cX8_again 84 = .ok (.iload 7, 2) := by decide +kernel
theorem dX8_again_86 : decode cX8_again 86 = .ok (.invokevirtual 113, 3) := by decide +kernel
theorem dX8_again_89 : decode cX8_again 89 = .ok (.return_, 1) := by decide +kernel
theorem dX8_again_90 : decode cX8_again 90 = .ok (.iload 4, 2) := by decide +kernel
theorem dX8_again_92 : decode cX8_again 92 = .ok (.iload_n 1, 1) := by decide +kernel
theorem dX8_again_93 : decode cX8_again 93 = .ok (.if_icmp .eq 4, 3) := by decide +kernel
theorem dX8_again_96 : decode cX8_again 96 = .ok (.return_, 1) := by decide +kernel
theorem dX8_again_97 : decode cX8_again 97 = .ok (.iload 8, 2) := by decide +kernel
theorem dX8_again_99 : decode cX8_again 99 = .ok (.tableswitch 269 0 11 #[61, 72, 101, 152, 203, 269, 269, 269, 269, 224, 245, 260], 61) := by decide +kernel
theorem dX8_again_160 : decode cX8_again 160 = .ok (.aload_n 0, 1) := by decide +kernel
theorem dX8_again_161 : decode cX8_again 161 = .ok (.getfield 20, 3) := by decide +kernel
theorem dX8_again_164 : decode cX8_again 164 = .ok (.iload 5, 2) := by decide +kernel
theorem dX8_again_166 : decode cX8_again 166 = .ok (.iconst 1, 1) := by decide +kernel
theorem dX8_again_167 : decode cX8_again 167 = .ok (.iastore, 1) := by decide +kernel
theorem dX8_again_168 : decode cX8_again 168 = .ok (.goto 230, 3) := by decide +kernel
theorem dX8_again_171 : decode cX8_again 171 = .ok (.aload_n 0, 1) := by decide +kernel
theorem dX8_again_172 : decode cX8_again 172 = .ok (.getfield 20, 3) := by decide +kernel
theorem dX8_again_175 : decode cX8_again 175 = .ok (.iload 5, 2) := by decide +kernel
theorem dX8_again_177 : decode cX8_again 177 = .ok (.iconst 2, 1) := by decide +kernel
theorem dX8_again_178 : decode cX8_again 178 = .ok (.iastore, 1) := by decide +kernel
theorem dX8_again_179 : decode cX8_again 179 = .ok (.aload_n 0, 1) := by decide +kernel
theorem dX8_again_180 : decode cX8_again 180 = .ok (.getfield 23, 3) := by decide +kernel
theorem dX8_again_183 : decode cX8_again 183 = .ok (.iload 5, 2) := by decide +kernel
theorem dX8_again_185 : decode cX8_again 185 = .ok (.iload 6, 2) := by decide +kernel
theorem dX8_again_187 : decode cX8_again 187 = .ok (.iastore, 1) := by decide +kernel
theorem dX8_again_188 : decode cX8_again 188 = .ok (.aload_n 0, 1) := by decide +kernel
theorem dX8_again_189 : decode cX8_again 189 = .ok (.getfield 29, 3) := by decide +kernel
theorem dX8_again_192 : decode cX8_again 192 = .ok (.iload 5, 2) := by decide +kernel
theorem dX8_again_194 : decode cX8_again 194 = .ok (.iload 7, 2) := by decide +kernel
theorem dX8_again_196 : decode cX8_again 196 = .ok (.iastore, 1) := by decide +kernel
theorem dX8_again_197 : decode cX8_again 197 = .ok (.goto 201, 3) := by decide +kernel
theorem dX8_again_200 : decode cX8_again 200 = .ok (.aload_n 0, 1) := by decide +kernel
theorem dX8_again_201 : decode cX8_again 201 = .ok (.getfield 20, 3) := by decide +kernel
theorem dX8_again_204 : decode cX8_again 204 = .ok (.iload 5, 2) := by decide +kernel
theorem dX8_again_206 : decode cX8_again 206 = .ok (.iload 6, 2) := by decide +kernel
theorem dX8_again_208 : decode cX8_again 208 = .ok (.iastore, 1) := by decide +kernel
theorem dX8_again_209 : decode cX8_again 209 = .ok (.aload_n 0, 1) := by decide +kernel
theorem dX8_again_210 : decode cX8_again 210 = .ok (.getfield 23, 3) := by decide +kernel
theorem dX8_again_213 : decode cX8_again 213 = .ok (.iload 5, 2) := by decide +kernel
theorem dX8_again_215 : decode cX8_again 215 = .ok (.iload 7, 2) := by decide +kernel
theorem dX8_again_217 : decode cX8_again 217 = .ok (.iastore, 1) := by decide +kernel
theorem dX8_again_218 : decode cX8_again 218 = .ok (.aload_n 0, 1) := by decide +kernel
theorem dX8_again_219 : decode cX8_again 219 = .ok (.getfield 29, 3) := by decide +kernel
theorem dX8_again_222 : decode cX8_again 222 = .ok (.iload 5, 2) := by decide +kernel
theorem dX8_again_224 : decode cX8_again 224 = .ok (.aload_n 0, 1) := by decide +kernel
theorem dX8_again_225 : decode cX8_again 225 = .ok (.getfield 13, 3) := by decide +kernel
theorem dX8_again_228 : decode cX8_again 228 = .ok (.iload_n 3, 1) := by decide +kernel
theorem dX8_again_229 : decode cX8_again 229 = .ok (.iconst 4, 1) := by decide +kernel
theorem dX8_again_230 : decode cX8_again 230 = .ok (.iadd, 1) := by decide +kernel
theorem dX8_again_231 : decode cX8_again 231 = .ok (.iaload, 1) := by decide +kernel
theorem dX8_again_232 : decode cX8_again 232 = .ok (.iastore, 1) := by decide +kernel
theorem dX8_again_233 : decode cX8_again 233 = .ok (.aload_n 0, 1) := by decide +kernel
theorem dX8_again_234 : decode cX8_again 234 = .ok (.getfield 32, 3) := by decide +kernel
theorem dX8_again_237 : decode cX8_again 237 = .ok (.iload 5, 2) := by decide +kernel
theorem dX8_again_239 : decode cX8_again 239 = .ok (.aload_n 0, 1) := by decide +kernel
theorem dX8_again_240 : decode cX8_again 240 = .ok (.getfield 13, 3) := by decide +kernel
theorem dX8_again_243 : decode cX8_again 243 = .ok (.iload_n 3, 1) := by decide +kernel
theorem dX8_again_244 : decode cX8_again 244 = .ok (.iconst 5, 1) := by decide +kernel
theorem dX8_again_245 : decode cX8_again 245 = .ok (.iadd, 1) := by decide +kernel
theorem dX8_again_246 : decode cX8_again 246 = .ok (.iaload, 1) := by decide +kernel
theorem dX8_again_247 : decode cX8_again 247 = .ok (.iastore, 1) := by decide +kernel
theorem dX8_again_248 : decode cX8_again 248 = .ok (.goto 150, 3) := by decide +kernel
theorem dX8_again_251 : decode cX8_again 251 = .ok (.aload_n 0, 1) := by decide +kernel
theorem dX8_again_252 : decode cX8_again 252 = .ok (.getfield 20, 3) := by decide +kernel
theorem dX8_again_255 : decode cX8_again 255 = .ok (.iload 5, 2) := by decide +kernel
theorem dX8_again_257 : decode cX8_again 257 = .ok (.iload 6, 2) := by decide +kernel
theorem dX8_again_259 : decode cX8_again 259 = .ok (.iastore, 1) := by decide +kernel
theorem dX8_again_260 : decode cX8_again 260 = .ok (.aload_n 0, 1) := by decide +kernel
theorem dX8_again_261 : decode cX8_again 261 = .ok (.getfield 23, 3) := by decide +kernel
theorem dX8_again_264 : decode cX8_again 264 = .ok (.iload 5, 2) := by decide +kernel
theorem dX8_again_266 : decode cX8_again 266 = .ok (.iload 7, 2) := by decide +kernel
theorem dX8_again_268 : decode cX8_again 268 = .ok (.iastore, 1) := by decide +kernel
theorem dX8_again_269 : decode cX8_again 269 = .ok (.aload_n 0, 1) := by decide +kernel
theorem dX8_again_270 : decode cX8_again 270 = .ok (.getfield 26, 3) := by decide +kernel
theorem dX8_again_273 : decode cX8_again 273 = .ok (.iload 5, 2) := by decide +kernel
theorem dX8_again_275 : decode cX8_again 275 = .ok (.aload_n 0, 1) := by decide +kernel
theorem dX8_again_276 : decode cX8_again 276 = .ok (.getfield 13, 3) := by decide +kernel
theorem dX8_again_279 : decode cX8_again 279 = .ok (.iload_n 3, 1) := by decide +kernel
theorem dX8_again_280 : decode cX8_again 280 = .ok (.iconst 4, 1) := by decide +kernel
theorem dX8_again_281 : decode cX8_again 281 = .ok (.iadd, 1) := by decide +kernel
theorem dX8_again_282 : decode cX8_again 282 = .ok (.iaload, 1) := by decide +kernel
theorem dX8_again_283 : decode cX8_again 283 = .ok (.iastore, 1) := by decide +kernel
theorem dX8_again_284 : decode cX8_again 284 = .ok (.aload_n 0, 1) := by decide +kernel
theorem dX8_again_285 : decode cX8_again 285 = .ok (.getfield 32, 3) := by decide +kernel
theorem dX8_again_288 : decode cX8_again 288 = .ok (.iload 5, 2) := by decide +kernel
theorem dX8_again_290 : decode cX8_again 290 = .ok (.aload_n 0, 1) := by decide +kernel
theorem dX8_again_291 : decode cX8_again 291 = .ok (.getfield 13, 3) := by decide +kernel
theorem dX8_again_294 : decode cX8_again 294 = .ok (.iload_n 3, 1) := by decide +kernel
theorem dX8_again_295 : decode cX8_again 295 = .ok (.iconst 5, 1) := by decide +kernel
theorem dX8_again_296 : decode cX8_again 296 = .ok (.iadd, 1) := by decide +kernel
theorem dX8_again_297 : decode cX8_again 297 = .ok (.iaload, 1) := by decide +kernel
theorem dX8_again_298 : decode cX8_again 298 = .ok (.iastore, 1) := by decide +kernel
theorem dX8_again_299 : decode cX8_again 299 = .ok (.goto 99, 3) := by decide +kernel
theorem dX8_again_302 : decode cX8_again 302 = .ok (.aload_n 0, 1) := by decide +kernel
theorem dX8_again_303 : decode cX8_again 303 = .ok (.getfield 20, 3) := by decide +kernel
theorem dX8_again_306 : decode cX8_again 306 = .ok (.iload 5, 2) := by decide +kernel
theorem dX8_again_308 : decode cX8_again 308 = .ok (.bipush 8, 2) := by decide +kernel
theorem dX8_again_310 : decode cX8_again 310 = .ok (.iastore, 1) := by decide +kernel
theorem dX8_again_311 : decode cX8_again 311 = .ok (.aload_n 0, 1) := by decide +kernel
theorem dX8_again_312 : decode cX8_again 312 = .ok (.getfield 44, 3) := by decide +kernel
theorem dX8_again_315 : decode cX8_again 315 = .ok (.iload 6, 2) := by decide +kernel
theorem dX8_again_317 : decode cX8_again 317 = .ok (.iload 5, 2) := by decide +kernel
theorem dX8_again_319 : decode cX8_again 319 = .ok (.iastore, 1) := by decide +kernel
theorem dX8_again_320 : decode cX8_again 320 = .ok (.goto 78, 3) := by decide +kernel
theorem dX8_again_323 : decode cX8_again 323 = .ok (.aload_n 0, 1) := by decide +kernel
theorem dX8_again_324 : decode cX8_again 324 = .ok (.getfield 35, 3) := by decide +kernel
theorem dX8_again_327 : decode cX8_again 327 = .ok (.iload 5, 2) := by decide +kernel
theorem dX8_again_329 : decode cX8_again 329 = .ok (.iload 6, 2) := by decide +kernel
theorem dX8_again_331 : decode cX8_again 331 = .ok (.iastore, 1) := by decide +kernel
theorem dX8_again_332 : decode cX8_again 332 = .ok (.aload_n 0, 1) := by decide +kernel
theorem dX8_again_333 : decode cX8_again 333 = .ok (.getfield 38, 3) := by decide +kernel
theorem dX8_again_336 : decode cX8_again 336 = .ok (.iload 5, 2) := by decide +kernel
theorem dX8_again_338 : decode cX8_again 338 = .ok (.iload 7, 2) := by decide +kernel
theorem dX8_again_340 : decode cX8_again 340 = .ok (.iastore, 1) := by decide +kernel
theorem dX8_again_341 : decode cX8_again 341 = .ok (.goto 57, 3) := by decide +kernel
theorem dX8_again_344 : decode cX8_again 344 = .ok (.aload_n 0, 1) := by decide +kernel
theorem dX8_again_345 : decode cX8_again 345 = .ok (.getfield 41, 3) := by decide +kernel
theorem dX8_again_348 : decode cX8_again 348 = .ok (.iload 5, 2) := by decide +kernel
theorem dX8_again_350 : decode cX8_again 350 = .ok (.dup2, 1) := by decide +kernel
theorem dX8_again_351 : decode cX8_again 351 = .ok (.iaload, 1) := by decide +kernel
theorem dX8_again_352 : decode cX8_again 352 = .ok (.iload 6, 2) := by decide +kernel
theorem dX8_again_354 : decode cX8_again 354 = .ok (.iadd, 1) := by decide +kernel
theorem dX8_again_355 : decode cX8_again 355 = .ok (.iastore, 1) := by decide +kernel
theorem dX8_again_356 : decode cX8_again 356 = .ok (.goto 42, 3) := by decide +kernel
theorem dX8_again_359 : decode cX8_again 359 = .ok (.aload_n 0, 1) := by decide +kernel
theorem dX8_again_360 : decode cX8_again 360 = .ok (.iload 5, 2) := by decide +kernel
theorem dX8_again_362 : decode cX8_again 362 = .ok (.putfield 100, 3) := by decide +kernel
theorem dX8_again_365 : decode cX8_again 365 = .ok (.goto 33, 3) := by decide +kernel
theorem dX8_again_368 : decode cX8_again 368 = .ok (.aload_n 0, 1) := by decide +kernel
theorem dX8_again_369 : decode cX8_again 369 = .ok (.getfield 20, 3) := by decide +kernel
theorem dX8_again_372 : decode cX8_again 372 = .ok (.iload 5, 2) := by decide +kernel
theorem dX8_again_374 : decode cX8_again 374 = .ok (.iconst 2, 1) := by decide +kernel
theorem dX8_again_375 : decode cX8_again 375 = .ok (.iastore, 1) := by decide +kernel
theorem dX8_again_376 : decode cX8_again 376 = .ok (.aload_n 0, 1) := by decide +kernel
theorem dX8_again_377 : decode cX8_again 377 = .ok (.getfield 23, 3) := by decide +kernel
theorem dX8_again_380 : decode cX8_again 380 = .ok (.iload 5, 2) := by decide +kernel
theorem dX8_again_382 : decode cX8_again 382 = .ok (.iload 6, 2) := by decide +kernel
theorem dX8_again_384 : decode cX8_again 384 = .ok (.iastore, 1) := by decide +kernel
theorem dX8_again_385 : decode cX8_again 385 = .ok (.aload_n 0, 1) := by decide +kernel
theorem dX8_again_386 : decode cX8_again 386 = .ok (.getfield 29, 3) := by decide +kernel
theorem dX8_again_389 : decode cX8_again 389 = .ok (.iload 5, 2) := by decide +kernel
theorem dX8_again_391 : decode cX8_again 391 = .ok (.aload_n 0, 1) := by decide +kernel
theorem dX8_again_392 : decode cX8_again 392 = .ok (.getfield 17, 3) := by decide +kernel
theorem dX8_again_395 : decode cX8_again 395 = .ok (.iload_n 2, 1) := by decide +kernel
theorem dX8_again_396 : decode cX8_again 396 = .ok (.iaload, 1) := by decide +kernel
theorem dX8_again_397 : decode cX8_again 397 = .ok (.iastore, 1) := by decide +kernel
theorem dX8_again_398 : decode cX8_again 398 = .ok (.return_, 1) := by decide +kernel
theorem dX8_months_0 : decode cX8_months 0 = .ok (.iload_n 1, 1) := by decide +kernel
theorem dX8_months_1 : decode cX8_months 1 = .ok (.iconst 5, 1) := by decide +kernel
theorem dX8_months_2 : decode cX8_months 2 = .ok (.if_icmp .ne 65, 3) := by decide +kernel
theorem dX8_months_5 : decode cX8_months 5 = .ok (.aload_n 0, 1) := by decide +kernel
theorem dX8_months_6 : decode cX8_months 6 = .ok (.getfield 47, 3) := by decide +kernel
theorem dX8_months_9 : decode cX8_months 9 = .ok (.iload_n 2, 1) := by decide +kernel
theorem dX8_months_10 : decode cX8_months 10 = .ok (.iconst 1, 1) := by decide +kernel
theorem dX8_months_11 : decode cX8_months 11 = .ok (.iastore, 1) := by decide +kernel
theorem dX8_months_12 : decode cX8_months 12 = .ok (.aload_n 0, 1) := by decide +kernel
theorem dX8_months_13 : decode cX8_months 13 = .ok (.getfield 50, 3) := by decide +kernel
theorem dX8_months_16 : decode cX8_months 16 = .ok (.iload_n 2, 1) := by decide +kernel
theorem dX8_months_17 : decode cX8_months 17 = .ok (.iload_n 3, 1) := by decide +kernel
theorem dX8_months_18 : decode cX8_months 18 = .ok (.ifCond .eq 7, 3) := by decide +kernel
theorem dX8_months_21 : decode cX8_months 21 = .ok (.iconst 1, 1) := by decide +kernel
theorem dX8_months_22 : decode cX8_months 22 = .ok (.goto 4, 3) := by decide +kernel
theorem dX8_months_25 : decode cX8_months 25 = .ok (.iconst 0, 1) := by decide +kernel
theorem dX8_months_26 : decode cX8_months 26 = .ok (.bastore, 1) := by decide +kernel
theorem dX8_months_27 : decode cX8_months 27 = .ok (.aload_n 0, 1) := by decide +kernel
theorem dX8_months_28 : decode cX8_months 28 = .ok (.getfield 54, 3) := by decide +kernel
theorem dX8_months_31 : decode cX8_months 31 = .ok (.iload_n 2, 1) := by decide +kernel
theorem dX8_months_32 : decode cX8_months 32 = .ok (.iload 4, 2) := by decide +kernel
theorem dX8_months_34 : decode cX8_months 34 = .ok (.iastore, 1) := by decide +kernel
theorem dX8_months_35 : decode cX8_months 35 = .ok (.iconst 0, 1) := by decide +kernel
theorem dX8_months_36 : decode cX8_months 36 = .ok (.istore 5, 2) := by decide +kernel
theorem dX8_months_38 : decode cX8_months 38 = .ok (.iload 5, 2) := by decide +kernel
theorem dX8_months_40 : decode cX8_months 40 = .ok (.bipush 30, 2) := by decide +kernel
theorem dX8_months_42 : decode cX8_months 42 = .ok (.if_icmp .ge 22, 3) := by decide +kernel
theorem dX8_months_45 : decode cX8_months 45 = .ok (.aload_n 0, 1) := by decide +kernel
theorem dX8_months_46 : decode cX8_months 46 = .ok (.getfield 57, 3) := by decide +kernel
theorem dX8_months_49 : decode cX8_months 49 = .ok (.bipush 30, 2) := by decide +kernel
theorem dX8_months_51 : decode cX8_months 51 = .ok (.iload_n 2, 1) := by decide +kernel
theorem dX8_months_52 : decode cX8_months 52 = .ok (.imul, 1) := by decide +kernel
theorem dX8_months_53 : decode cX8_months 53 = .ok (.iload 5, 2) := by decide +kernel
theorem dX8_months_55 : decode cX8_months 55 = .ok (.iadd, 1) := by decide +kernel
theorem dX8_months_56 : decode cX8_months 56 = .ok (.iconst 1, 1) := by decide +kernel
theorem dX8_months_57 : decode cX8_months 57 = .ok (.iastore, 1) := by decide +kernel
theorem dX8_months_58 : decode cX8_months 58 = .ok (.iinc 5 1, 3) := by decide +kernel
theorem dX8_months_61 : decode cX8_months 61 = .ok (.goto (-23), 3) := by decide +kernel
theorem dX8_months_64 : decode cX8_months 64 = .ok (.goto 125, 3) := by decide +kernel
theorem dX8_months_67 : decode cX8_months 67 = .ok (.iload_n 1, 1) := by decide +kernel
theorem dX8_months_68 : decode cX8_months 68 = .ok (.bipush 6, 2) := by decide +kernel
theorem dX8_months_70 : decode cX8_months 70 = .ok (.if_icmp .ne 19, 3) := by decide +kernel
theorem dX8_months_73 : decode cX8_months 73 = .ok (.aload_n 0, 1) := by decide +kernel
theorem dX8_months_74 : decode cX8_months 74 = .ok (.getfield 57, 3) := by decide +kernel
theorem dX8_months_77 : decode cX8_months 77 = .ok (.bipush 30, 2) := by decide +kernel
theorem dX8_months_79 : decode cX8_months 79 = .ok (.iload_n 2, 1) := by decide +kernel
theorem dX8_months_80 : decode cX8_months 80 = .ok (.imul, 1) := by decide +kernel
theorem dX8_months_81 : decode cX8_months 81 = .ok (.iload_n 3, 1) := by decide +kernel
theorem dX8_months_82 : decode cX8_months 82 = .ok (.iadd, 1) := by decide +kernel
theorem dX8_months_83 : decode cX8_months 83 = .ok (.iload 4, 2) := by decide +kernel
theorem dX8_months_85 : decode cX8_months 85 = .ok (.iastore, 1) := by decide +kernel
theorem dX8_months_86 : decode cX8_months 86 = .ok (.goto 103, 3) := by decide +kernel
theorem dX8_months_89 : decode cX8_months 89 = .ok (.iload_n 1, 1) := by decide +kernel
theorem dX8_months_90 : decode cX8_months 90 = .ok (.bipush 7, 2) := by decide +kernel
theorem dX8_months_92 : decode cX8_months 92 = .ok (.if_icmp .ne 13, 3) := by decide +kernel
theorem dX8_months_95 : decode cX8_months 95 = .ok (.aload_n 0, 1) := by decide +kernel
theorem dX8_months_96 : decode cX8_months 96 = .ok (.getfield 47, 3) := by decide +kernel
theorem dX8_months_99 : decode cX8_months 99 = .ok (.iload_n 2, 1) := by decide +kernel
theorem dX8_months_100 : decode cX8_months 100 = .ok (.iconst 2, 1) := by decide +kernel
theorem dX8_months_101 : decode cX8_months 101 = .ok (.iastore, 1) := by decide +kernel
theorem dX8_months_102 : decode cX8_months 102 = .ok (.goto 87, 3) := by decide +kernel
theorem dX8_months_105 : decode cX8_months 105 = .ok (.bipush 120, 2) := by decide +kernel
theorem dX8_months_107 : decode cX8_months 107 = .ok (.iload_n 3, 1) := by decide +kernel
theorem dX8_months_108 : decode cX8_months 108 = .ok (.imul, 1) := by decide +kernel
theorem dX8_months_109 : decode cX8_months 109 = .ok (.iload 4, 2) := by decide +kernel
theorem dX8_months_111 : decode cX8_months 111 = .ok (.iadd, 1) := by decide +kernel
theorem dX8_months_112 : decode cX8_months 112 = .ok (.istore 5, 2) := by decide +kernel
theorem dX8_months_114 : decode cX8_months 114 = .ok (.aload_n 0, 1) := by decide +kernel
theorem dX8_months_115 : decode cX8_months 115 = .ok (.getfield 47, 3) := by decide +kernel
theorem dX8_months_118 : decode cX8_months 118 = .ok (.iload 5, 2) := by decide +kernel
theorem dX8_months_120 : decode cX8_months 120 = .ok (.iconst 1, 1) := by decide +kernel
theorem dX8_months_121 : decode cX8_months 121 = .ok (.iastore, 1) := by decide +kernel
theorem dX8_months_122 : decode cX8_months 122 = .ok (.aload_n 0, 1) := by decide +kernel
theorem dX8_months_123 : decode cX8_months 123 = .ok (.getfield 50, 3) := by decide +kernel
theorem dX8_months_126 : decode cX8_months 126 = .ok (.iload 5, 2) := by decide +kernel
theorem dX8_months_128 : decode cX8_months 128 = .ok (.aload_n 0, 1) := by decide +kernel
theorem dX8_months_129 : decode cX8_months 129 = .ok (.getfield 50, 3) := by decide +kernel
theorem dX8_months_132 : decode cX8_months 132 = .ok (.iload_n 2, 1) := by decide +kernel
theorem dX8_months_133 : decode cX8_months 133 = .ok (.baload, 1) := by decide +kernel
theorem dX8_months_134 : decode cX8_months 134 = .ok (.bastore, 1) := by decide +kernel
theorem dX8_months_135 : decode cX8_months 135 = .ok (.aload_n 0, 1) := by decide +kernel
theorem dX8_months_136 : decode cX8_months 136 = .ok (.getfield 54, 3) := by decide +kernel
theorem dX8_months_139 : decode cX8_months 139 = .ok (.iload 5, 2) := by decide +kernel
theorem dX8_months_141 : decode cX8_months 141 = .ok (.aload_n 0, 1) := by decide +kernel
theorem dX8_months_142 : decode cX8_months 142 = .ok (.getfield 54, 3) := by decide +kernel
theorem dX8_months_145 : decode cX8_months 145 = .ok (.iload_n 2, 1) := by decide +kernel
theorem dX8_months_146 : decode cX8_months 146 = .ok (.iaload, 1) := by decide +kernel
theorem dX8_months_147 : decode cX8_months 147 = .ok (.iastore, 1) := by decide +kernel
theorem dX8_months_148 : decode cX8_months 148 = .ok (.iconst 0, 1) := by decide +kernel
theorem dX8_months_149 : decode cX8_months 149 = .ok (.istore 6, 2) := by decide +kernel
theorem dX8_months_151 : decode cX8_months 151 = .ok (.iload 6, 2) := by decide +kernel
theorem dX8_months_153 : decode cX8_months 153 = .ok (.bipush 30, 2) := by decide +kernel
theorem dX8_months_155 : decode cX8_months 155 = .ok (.if_icmp .ge 34, 3) := by decide +kernel
theorem dX8_months_158 : decode cX8_months 158 = .ok (.aload_n 0, 1) := by decide +kernel
theorem dX8_months_159 : decode cX8_months 159 = .ok (.getfield 57, 3) := by decide +kernel
theorem dX8_months_162 : decode cX8_months 162 = .ok (.bipush 30, 2) := by decide +kernel
theorem dX8_months_164 : decode cX8_months 164 = .ok (.iload 5, 2) := by decide +kernel
theorem dX8_months_166 : decode cX8_months 166 = .ok (.imul, 1) := by decide +kernel
theorem dX8_months_167 : decode cX8_months 167 = .ok (.iload 6, 2) := by decide +kernel
theorem dX8_months_169 : decode cX8_months 169 = .ok (.iadd, 1) := by decide +kernel
theorem dX8_months_170 : decode cX8_months 170 = .ok (.aload_n 0, 1) := by decide +kernel
theorem dX8_months_171 : decode cX8_months 171 = .ok (.getfield 57, 3) := by decide +kernel
theorem dX8_months_174 : decode cX8_months 174 = .ok (.bipush 30, 2) := by decide +kernel
theorem dX8_months_176 : decode cX8_months 176 = .ok (.iload_n 2, 1) := by decide +kernel
theorem dX8_months_177 : decode cX8_months 177 = .ok (.imul, 1) := by decide +kernel
theorem dX8_months_178 : decode cX8_months 178 = .ok (.iload 6, 2) := by decide +kernel
theorem dX8_months_180 : decode cX8_months 180 = .ok (.iadd, 1) := by decide +kernel
theorem dX8_months_181 : decode cX8_months 181 = .ok (.iaload, 1) := by decide +kernel
theorem dX8_months_182 : decode cX8_months 182 = .ok (.iastore, 1) := by decide +kernel
theorem dX8_months_183 : decode cX8_months 183 = .ok (.iinc 6 1, 3) := by decide +kernel
theorem dX8_months_186 : decode cX8_months 186 = .ok (.goto (-35), 3) := by decide +kernel
theorem dX8_months_189 : decode cX8_months 189 = .ok (.return_, 1) := by decide +kernel
theorem dX8_runs_0 : decode cX8_runs 0 = .ok (.aload_n 0, 1) := by decide +kernel
theorem dX8_runs_1 : decode cX8_runs 1 = .ok (.getfield 20, 3) := by decide +kernel
theorem dX8_runs_4 : decode cX8_runs 4 = .ok (.iload_n 1, 1) := by decide +kernel
theorem dX8_runs_5 : decode cX8_runs 5 = .ok (.iaload, 1) := by decide +kernel
theorem dX8_runs_6 : decode cX8_runs 6 = .ok (.iconst 2, 1) := by decide +kernel
theorem dX8_runs_7 : decode cX8_runs 7 = .ok (.if_icmp .lt 17, 3) := by decide +kernel
theorem dX8_runs_10 : decode cX8_runs 10 = .ok (.aload_n 0, 1) := by decide +kernel
theorem dX8_runs_11 : decode cX8_runs 11 = .ok (.getfield 20, 3) := by decide +kernel
theorem dX8_runs_14 : decode cX8_runs 14 = .ok (.iload_n 1, 1) := by decide +kernel
theorem dX8_runs_15 : decode cX8_runs 15 = .ok (.iaload, 1) := by decide +kernel
theorem dX8_runs_16 : decode cX8_runs 16 = .ok (.iconst 5, 1) := by decide +kernel
theorem dX8_runs_17 : decode cX8_runs 17 = .ok (.if_icmp .gt 7, 3) := by decide +kernel
theorem dX8_runs_20 : decode cX8_runs 20 = .ok (.iconst 1, 1) := by decide +kernel
theorem dX8_runs_21 : decode cX8_runs 21 = .ok (.goto 4, 3) := by decide +kernel
theorem dX8_runs_24 : decode cX8_runs 24 = .ok (.iconst 0, 1) := by decide +kernel
theorem dX8_runs_25 : decode cX8_runs 25 = .ok (.ireturn, 1) := by decide +kernel
theorem dX8_isLive_0 : decode cX8_isLive 0 = .ok (.aload_n 0, 1) := by decide +kernel
theorem dX8_isLive_1 : decode cX8_isLive 1 = .ok (.iload_n 1, 1) := by decide +kernel
theorem dX8_isLive_2 : decode cX8_isLive 2 = .ok (.invokevirtual 117, 3) := by decide +kernel
theorem dX8_isLive_5 : decode cX8_isLive 5 = .ok (.ifCond .eq 17, 3) := by decide +kernel
theorem dX8_isLive_8 : decode cX8_isLive 8 = .ok (.aload_n 0, 1) := by decide +kernel
theorem dX8_isLive_9 : decode cX8_isLive 9 = .ok (.getfield 44, 3) := by decide +kernel
theorem dX8_isLive_12 : decode cX8_isLive 12 = .ok (.iload_n 1, 1) := by decide +kernel
theorem dX8_isLive_13 : decode cX8_isLive 13 = .ok (.iaload, 1) := by decide +kernel
theorem dX8_isLive_14 : decode cX8_isLive 14 = .ok (.iconst (-1), 1) := by decide +kernel
theorem dX8_isLive_15 : decode cX8_isLive 15 = .ok (.if_icmp .ne 7, 3) := by decide +kernel
theorem dX8_isLive_18 : decode cX8_isLive 18 = .ok (.iconst 1, 1) := by decide +kernel
theorem dX8_isLive_19 : decode cX8_isLive 19 = .ok (.goto 4, 3) := by decide +kernel
theorem dX8_isLive_22 : decode cX8_isLive 22 = .ok (.iconst 0, 1) := by decide +kernel
theorem dX8_isLive_23 : decode cX8_isLive 23 = .ok (.ireturn, 1) := by decide +kernel
theorem dX8_isHeld_0 : decode cX8_isHeld 0 = .ok (.bipush 120, 2) := by decide +kernel
theorem dX8_isHeld_2 : decode cX8_isHeld 2 = .ok (.iload_n 1, 1) := by decide +kernel
theorem dX8_isHeld_3 : decode cX8_isHeld 3 = .ok (.imul, 1) := by decide +kernel
theorem dX8_isHeld_4 : decode cX8_isHeld 4 = .ok (.iload_n 2, 1) := by decide +kernel
theorem dX8_isHeld_5 : decode cX8_isHeld 5 = .ok (.bipush 30, 2) := by decide +kernel
theorem dX8_isHeld_7 : decode cX8_isHeld 7 = .ok (.idiv, 1) := by decide +kernel
theorem dX8_isHeld_8 : decode cX8_isHeld 8 = .ok (.iadd, 1) := by decide +kernel
theorem dX8_isHeld_9 : decode cX8_isHeld 9 = .ok (.istore 4, 2) := by decide +kernel
theorem dX8_isHeld_11 : decode cX8_isHeld 11 = .ok (.aload_n 0, 1) := by decide +kernel
theorem dX8_isHeld_12 : decode cX8_isHeld 12 = .ok (.getfield 47, 3) := by decide +kernel
theorem dX8_isHeld_15 : decode cX8_isHeld 15 = .ok (.iload 4, 2) := by decide +kernel
theorem dX8_isHeld_17 : decode cX8_isHeld 17 = .ok (.iaload, 1) := by decide +kernel
theorem dX8_isHeld_18 : decode cX8_isHeld 18 = .ok (.ifCond .ne 5, 3) := by decide +kernel
theorem dX8_isHeld_21 : decode cX8_isHeld 21 = .ok (.iconst 1, 1) := by decide +kernel
theorem dX8_isHeld_22 : decode cX8_isHeld 22 = .ok (.ireturn, 1) := by decide +kernel
theorem dX8_isHeld_23 : decode cX8_isHeld 23 = .ok (.aload_n 0, 1) := by decide +kernel
theorem dX8_isHeld_24 : decode cX8_isHeld 24 = .ok (.getfield 47, 3) := by decide +kernel
theorem dX8_isHeld_27 : decode cX8_isHeld 27 = .ok (.iload 4, 2) := by decide +kernel
theorem dX8_isHeld_29 : decode cX8_isHeld 29 = .ok (.iaload, 1) := by decide +kernel
theorem dX8_isHeld_30 : decode cX8_isHeld 30 = .ok (.iconst 2, 1) := by decide +kernel
theorem dX8_isHeld_31 : decode cX8_isHeld 31 = .ok (.if_icmp .eq 15, 3) := by decide +kernel
theorem dX8_isHeld_34 : decode cX8_isHeld 34 = .ok (.aload_n 0, 1) := by decide +kernel
theorem dX8_isHeld_35 : decode cX8_isHeld 35 = .ok (.getfield 54, 3) := by decide +kernel
theorem dX8_isHeld_38 : decode cX8_isHeld 38 = .ok (.iload 4, 2) := by decide +kernel
theorem dX8_isHeld_40 : decode cX8_isHeld 40 = .ok (.iaload, 1) := by decide +kernel
theorem dX8_isHeld_41 : decode cX8_isHeld 41 = .ok (.bipush 30, 2) := by decide +kernel
theorem dX8_isHeld_43 : decode cX8_isHeld 43 = .ok (.if_icmp .ge 13, 3) := by decide +kernel
theorem dX8_isHeld_46 : decode cX8_isHeld 46 = .ok (.iload_n 3, 1) := by decide +kernel
theorem dX8_isHeld_47 : decode cX8_isHeld 47 = .ok (.ifCond .ne 7, 3) := by decide +kernel
theorem dX8_isHeld_50 : decode cX8_isHeld 50 = .ok (.iconst 1, 1) := by decide +kernel
theorem dX8_isHeld_51 : decode cX8_isHeld 51 = .ok (.goto 4, 3) := by decide +kernel
theorem dX8_isHeld_54 : decode cX8_isHeld 54 = .ok (.iconst 0, 1) := by decide +kernel
theorem dX8_isHeld_55 : decode cX8_isHeld 55 = .ok (.ireturn, 1) := by decide +kernel
theorem dX8_isHeld_56 : decode cX8_isHeld 56 = .ok (.aload_n 0, 1) := by decide +kernel
theorem dX8_isHeld_57 : decode cX8_isHeld 57 = .ok (.getfield 57, 3) := by decide +kernel
theorem dX8_isHeld_60 : decode cX8_isHeld 60 = .ok (.bipush 30, 2) := by decide +kernel
theorem dX8_isHeld_62 : decode cX8_isHeld 62 = .ok (.iload 4, 2) := by decide +kernel
theorem dX8_isHeld_64 : decode cX8_isHeld 64 = .ok (.imul, 1) := by decide +kernel
theorem dX8_isHeld_65 : decode cX8_isHeld 65 = .ok (.iload_n 2, 1) := by decide +kernel
theorem dX8_isHeld_66 : decode cX8_isHeld 66 = .ok (.bipush 30, 2) := by decide +kernel
theorem dX8_isHeld_68 : decode cX8_isHeld 68 = .ok (.irem, 1) := by decide +kernel
theorem dX8_isHeld_69 : decode cX8_isHeld 69 = .ok (.iadd, 1) := by decide +kernel
theorem dX8_isHeld_70 : decode cX8_isHeld 70 = .ok (.iaload, 1) := by decide +kernel
theorem dX8_isHeld_71 : decode cX8_isHeld 71 = .ok (.ifCond .eq 7, 3) := by decide +kernel
theorem dX8_isHeld_74 : decode cX8_isHeld 74 = .ok (.iconst 1, 1) := by decide +kernel
theorem dX8_isHeld_75 : decode cX8_isHeld 75 = .ok (.goto 4, 3) := by decide +kernel
theorem dX8_isHeld_78 : decode cX8_isHeld 78 = .ok (.iconst 0, 1) := by decide +kernel
theorem dX8_isHeld_79 : decode cX8_isHeld 79 = .ok (.ireturn, 1) := by decide +kernel
theorem dX8_has_0 : decode cX8_has 0 = .ok (.iconst 0, 1) := by decide +kernel
theorem dX8_has_1 : decode cX8_has 1 = .ok (.istore 4, 2) := by decide +kernel
theorem dX8_has_3 : decode cX8_has 3 = .ok (.iload 4, 2) := by decide +kernel
theorem dX8_has_5 : decode cX8_has 5 = .ok (.bipush 12, 2) := by decide +kernel
theorem dX8_has_7 : decode cX8_has 7 = .ok (.if_icmp .ge 71, 3) := by decide +kernel
theorem dX8_has_10 : decode cX8_has 10 = .ok (.aload_n 0, 1) := by decide +kernel
theorem dX8_has_11 : decode cX8_has 11 = .ok (.getfield 20, 3) := by decide +kernel
theorem dX8_has_14 : decode cX8_has 14 = .ok (.iload 4, 2) := by decide +kernel
theorem dX8_has_16 : decode cX8_has 16 = .ok (.iaload, 1) := by decide +kernel
theorem dX8_has_17 : decode cX8_has 17 = .ok (.iload_n 1, 1) := by decide +kernel
theorem dX8_has_18 : decode cX8_has 18 = .ok (.if_icmp .ne 54, 3) := by decide +kernel
theorem dX8_has_21 : decode cX8_has 21 = .ok (.aload_n 0, 1) := by decide +kernel
theorem dX8_has_22 : decode cX8_has 22 = .ok (.getfield 44, 3) := by decide +kernel
theorem dX8_has_25 : decode cX8_has 25 = .ok (.iload 4, 2) := by decide +kernel
theorem dX8_has_27 : decode cX8_has 27 = .ok (.iaload, 1) := by decide +kernel
theorem dX8_has_28 : decode cX8_has 28 = .ok (.iconst (-1), 1) := by decide +kernel
theorem dX8_has_29 : decode cX8_has 29 = .ok (.if_icmp .ne 43, 3) := by decide +kernel
theorem dX8_has_32 : decode cX8_has 32 = .ok (.aload_n 0, 1) := by decide +kernel
theorem dX8_has_33 : decode cX8_has 33 = .ok (.getfield 32, 3) := by decide +kernel
theorem dX8_has_36 : decode cX8_has 36 = .ok (.iload 4, 2) := by decide +kernel
theorem dX8_has_38 : decode cX8_has 38 = .ok (.iaload, 1) := by decide +kernel
theorem dX8_has_39 : decode cX8_has 39 = .ok (.iload_n 2, 1) := by decide +kernel
theorem dX8_has_40 : decode cX8_has 40 = .ok (.ishr, 1) := by decide +kernel
theorem dX8_has_41 : decode cX8_has 41 = .ok (.iconst 1, 1) := by decide +kernel
theorem dX8_has_42 : decode cX8_has 42 = .ok (.iand, 1) := by decide +kernel
theorem dX8_has_43 : decode cX8_has 43 = .ok (.iconst 1, 1) := by decide +kernel
theorem dX8_has_44 : decode cX8_has 44 = .ok (.if_icmp .ne 28, 3) := by decide +kernel
theorem dX8_has_47 : decode cX8_has 47 = .ok (.aload_n 0, 1) := by decide +kernel
theorem dX8_has_48 : decode cX8_has 48 = .ok (.getfield 23, 3) := by decide +kernel
theorem dX8_has_51 : decode cX8_has 51 = .ok (.iload 4, 2) := by decide +kernel
theorem dX8_has_53 : decode cX8_has 53 = .ok (.iaload, 1) := by decide +kernel
theorem dX8_has_54 : decode cX8_has 54 = .ok (.iload_n 3, 1) := by decide +kernel
theorem dX8_has_55 : decode cX8_has 55 = .ok (.if_icmp .gt 17, 3) := by decide +kernel
theorem dX8_has_58 : decode cX8_has 58 = .ok (.aload_n 0, 1) := by decide +kernel
theorem dX8_has_59 : decode cX8_has 59 = .ok (.getfield 26, 3) := by decide +kernel
theorem dX8_has_62 : decode cX8_has 62 = .ok (.iload 4, 2) := by decide +kernel
theorem dX8_has_64 : decode cX8_has 64 = .ok (.iaload, 1) := by decide +kernel
theorem dX8_has_65 : decode cX8_has 65 = .ok (.iload_n 3, 1) := by decide +kernel
theorem dX8_has_66 : decode cX8_has 66 = .ok (.if_icmp .lt 6, 3) := by decide +kernel
theorem dX8_has_69 : decode cX8_has 69 = .ok (.iload 4, 2) := by decide +kernel
theorem dX8_has_71 : decode cX8_has 71 = .ok (.ireturn, 1) := by decide +kernel
theorem dX8_has_72 : decode cX8_has 72 = .ok (.iinc 4 1, 3) := by decide +kernel
theorem dX8_has_75 : decode cX8_has 75 = .ok (.goto (-72), 3) := by decide +kernel
theorem dX8_has_78 : decode cX8_has 78 = .ok (.iconst (-1), 1) := by decide +kernel
theorem dX8_has_79 : decode cX8_has 79 = .ok (.ireturn, 1) := by decide +kernel
theorem dX8_thousandths_0 : decode cX8_thousandths 0 = .ok (.iload_n 0, 1) := by decide +kernel
theorem dX8_thousandths_1 : decode cX8_thousandths 1 = .ok (.iload_n 1, 1) := by decide +kernel
theorem dX8_thousandths_2 : decode cX8_thousandths 2 = .ok (.imul, 1) := by decide +kernel
theorem dX8_thousandths_3 : decode cX8_thousandths 3 = .ok (.sipush 999, 3) := by decide +kernel
theorem dX8_thousandths_6 : decode cX8_thousandths 6 = .ok (.iadd, 1) := by decide +kernel
theorem dX8_thousandths_7 : decode cX8_thousandths 7 = .ok (.sipush 1000, 3) := by decide +kernel
theorem dX8_thousandths_10 : decode cX8_thousandths 10 = .ok (.idiv, 1) := by decide +kernel
theorem dX8_thousandths_11 : decode cX8_thousandths 11 = .ok (.ireturn, 1) := by decide +kernel
theorem dX8_isReady_0 : decode cX8_isReady 0 = .ok (.iconst 0, 1) := by decide +kernel
theorem dX8_isReady_1 : decode cX8_isReady 1 = .ok (.istore_n 2, 1) := by decide +kernel
theorem dX8_isReady_2 : decode cX8_isReady 2 = .ok (.iload_n 2, 1) := by decide +kernel
theorem dX8_isReady_3 : decode cX8_isReady 3 = .ok (.bipush 12, 2) := by decide +kernel
theorem dX8_isReady_5 : decode cX8_isReady 5 = .ok (.if_icmp .ge 52, 3) := by decide +kernel
theorem dX8_isReady_8 : decode cX8_isReady 8 = .ok (.aload_n 0, 1) := by decide +kernel
theorem dX8_isReady_9 : decode cX8_isReady 9 = .ok (.getfield 20, 3) := by decide +kernel
theorem dX8_isReady_12 : decode cX8_isReady 12 = .ok (.iload_n 1, 1) := by decide +kernel
theorem dX8_isReady_13 : decode cX8_isReady 13 = .ok (.iaload, 1) := by decide +kernel
theorem dX8_isReady_14 : decode cX8_isReady 14 = .ok (.iconst 2, 1) := by decide +kernel
theorem dX8_isReady_15 : decode cX8_isReady 15 = .ok (.if_icmp .eq 36, 3) := by decide +kernel
theorem dX8_isReady_18 : decode cX8_isReady 18 = .ok (.aload_n 0, 1) := by decide +kernel
theorem dX8_isReady_19 : decode cX8_isReady 19 = .ok (.getfield 32, 3) := by decide +kernel
theorem dX8_isReady_22 : decode cX8_isReady 22 = .ok (.iload_n 1, 1) := by decide +kernel
theorem dX8_isReady_23 : decode cX8_isReady 23 = .ok (.iaload, 1) := by decide +kernel
theorem dX8_isReady_24 : decode cX8_isReady 24 = .ok (.iload_n 2, 1) := by decide +kernel
theorem dX8_isReady_25 : decode cX8_isReady 25 = .ok (.ishr, 1) := by decide +kernel
theorem dX8_isReady_26 : decode cX8_isReady 26 = .ok (.iconst 1, 1) := by decide +kernel
theorem dX8_isReady_27 : decode cX8_isReady 27 = .ok (.iand, 1) := by decide +kernel
theorem dX8_isReady_28 : decode cX8_isReady 28 = .ok (.iconst 1, 1) := by decide +kernel
theorem dX8_isReady_29 : decode cX8_isReady 29 = .ok (.if_icmp .ne 22, 3) := by decide +kernel
theorem dX8_isReady_32 : decode cX8_isReady 32 = .ok (.aload_n 0, 1) := by decide +kernel
theorem dX8_isReady_33 : decode cX8_isReady 33 = .ok (.iload_n 2, 1) := by decide +kernel
theorem dX8_isReady_34 : decode cX8_isReady 34 = .ok (.invokevirtual 121, 3) := by decide +kernel
theorem dX8_isReady_37 : decode cX8_isReady 37 = .ok (.ifCond .eq 14, 3) := by decide +kernel
theorem dX8_isReady_40 : decode cX8_isReady 40 = .ok (.aload_n 0, 1) := by decide +kernel
theorem dX8_isReady_41 : decode cX8_isReady 41 = .ok (.getfield 60, 3) := by decide +kernel
theorem dX8_isReady_44 : decode cX8_isReady 44 = .ok (.iload_n 2, 1) := by decide +kernel
theorem dX8_isReady_45 : decode cX8_isReady 45 = .ok (.baload, 1) := by decide +kernel
theorem dX8_isReady_46 : decode cX8_isReady 46 = .ok (.ifCond .ne 5, 3) := by decide +kernel
theorem dX8_isReady_49 : decode cX8_isReady 49 = .ok (.iconst 0, 1) := by decide +kernel
theorem dX8_isReady_50 : decode cX8_isReady 50 = .ok (.ireturn, 1) := by decide +kernel
theorem dX8_isReady_51 : decode cX8_isReady 51 = .ok (.iinc 2 1, 3) := by decide +kernel
theorem dX8_isReady_54 : decode cX8_isReady 54 = .ok (.goto (-52), 3) := by decide +kernel
theorem dX8_isReady_57 : decode cX8_isReady 57 = .ok (.iconst 1, 1) := by decide +kernel
theorem dX8_isReady_58 : decode cX8_isReady 58 = .ok (.ireturn, 1) := by decide +kernel
theorem dX8_beginning_0 : decode cX8_beginning 0 = .ok (.aload_n 0, 1) := by decide +kernel
theorem dX8_beginning_1 : decode cX8_beginning 1 = .ok (.getfield 20, 3) := by decide +kernel
theorem dX8_beginning_4 : decode cX8_beginning 4 = .ok (.iload_n 1, 1) := by decide +kernel
theorem dX8_beginning_5 : decode cX8_beginning 5 = .ok (.iaload, 1) := by decide +kernel
theorem dX8_beginning_6 : decode cX8_beginning 6 = .ok (.iconst 2, 1) := by decide +kernel
theorem dX8_beginning_7 : decode cX8_beginning 7 = .ok (.if_icmp .ne 10, 3) := by decide +kernel
theorem dX8_beginning_10 : decode cX8_beginning 10 = .ok (.aload_n 0, 1) := by decide +kernel
theorem dX8_beginning_11 : decode cX8_beginning 11 = .ok (.getfield 23, 3) := by decide +kernel
theorem dX8_beginning_14 : decode cX8_beginning 14 = .ok (.iload_n 1, 1) := by decide +kernel
theorem dX8_beginning_15 : decode cX8_beginning 15 = .ok (.iaload, 1) := by decide +kernel
theorem dX8_beginning_16 : decode cX8_beginning 16 = .ok (.ireturn, 1) := by decide +kernel
theorem dX8_beginning_17 : decode cX8_beginning 17 = .ok (.aload_n 0, 1) := by decide +kernel
theorem dX8_beginning_18 : decode cX8_beginning 18 = .ok (.getfield 23, 3) := by decide +kernel
theorem dX8_beginning_21 : decode cX8_beginning 21 = .ok (.iload_n 1, 1) := by decide +kernel
theorem dX8_beginning_22 : decode cX8_beginning 22 = .ok (.iaload, 1) := by decide +kernel
theorem dX8_beginning_23 : decode cX8_beginning 23 = .ok (.istore_n 2, 1) := by decide +kernel
theorem dX8_beginning_24 : decode cX8_beginning 24 = .ok (.iconst (-1), 1) := by decide +kernel
theorem dX8_beginning_25 : decode cX8_beginning 25 = .ok (.istore_n 3, 1) := by decide +kernel
theorem dX8_beginning_26 : decode cX8_beginning 26 = .ok (.iconst 0, 1) := by decide +kernel
theorem dX8_beginning_27 : decode cX8_beginning 27 = .ok (.istore 4, 2) := by decide +kernel
theorem dX8_beginning_29 : decode cX8_beginning 29 = .ok (.iconst 0, 1) := by decide +kernel
theorem dX8_beginning_30 : decode cX8_beginning 30 = .ok (.istore 5, 2) := by decide +kernel
theorem dX8_beginning_32 : decode cX8_beginning 32 = .ok (.iload 5, 2) := by decide +kernel
theorem dX8_beginning_34 : decode cX8_beginning 34 = .ok (.bipush 12, 2) := by decide +kernel
theorem dX8_beginning_36 : decode cX8_beginning 36 = .ok (.if_icmp .ge 122, 3) := by decide +kernel
theorem dX8_beginning_39 : decode cX8_beginning 39 = .ok (.aload_n 0, 1) := by decide +kernel
theorem dX8_beginning_40 : decode cX8_beginning 40 = .ok (.getfield 32, 3) := by decide +kernel
theorem dX8_beginning_43 : decode cX8_beginning 43 = .ok (.iload_n 1, 1) := by decide +kernel
theorem dX8_beginning_44 : decode cX8_beginning 44 = .ok (.iaload, 1) := by decide +kernel
theorem dX8_beginning_45 : decode cX8_beginning 45 = .ok (.iload 5, 2) := by decide +kernel
theorem dX8_beginning_47 : decode cX8_beginning 47 = .ok (.ishr, 1) := by decide +kernel
theorem dX8_beginning_48 : decode cX8_beginning 48 = .ok (.iconst 1, 1) := by decide +kernel
theorem dX8_beginning_49 : decode cX8_beginning 49 = .ok (.iand, 1) := by decide +kernel
theorem dX8_beginning_50 : decode cX8_beginning 50 = .ok (.ifCond .eq 102, 3) := by decide +kernel
theorem dX8_beginning_53 : decode cX8_beginning 53 = .ok (.aload_n 0, 1) := by decide +kernel
theorem dX8_beginning_54 : decode cX8_beginning 54 = .ok (.iload 5, 2) := by decide +kernel
theorem dX8_beginning_56 : decode cX8_beginning 56 = .ok (.invokevirtual 121, 3) := by decide +kernel
theorem dX8_beginning_59 : decode cX8_beginning 59 = .ok (.ifCond .ne 6, 3) := by decide +kernel
theorem dX8_beginning_62 : decode cX8_beginning 62 = .ok (.goto 90, 3) := by decide +kernel
theorem dX8_beginning_65 : decode cX8_beginning 65 = .ok (.iconst 1, 1) := by decide +kernel
theorem dX8_beginning_66 : decode cX8_beginning 66 = .ok (.istore 4, 2) := by decide +kernel
theorem dX8_beginning_68 : decode cX8_beginning 68 = .ok (.aload_n 0, 1) := by decide +kernel
theorem dX8_beginning_69 : decode cX8_beginning 69 = .ok (.getfield 20, 3) := by decide +kernel
theorem dX8_beginning_72 : decode cX8_beginning 72 = .ok (.iload_n 1, 1) := by decide +kernel
theorem dX8_beginning_73 : decode cX8_beginning 73 = .ok (.iaload, 1) := by decide +kernel
theorem dX8_beginning_74 : decode cX8_beginning 74 = .ok (.iconst 4, 1) := by decide +kernel
theorem dX8_beginning_75 : decode cX8_beginning 75 = .ok (.if_icmp .ne 41, 3) := by decide +kernel
theorem dX8_beginning_78 : decode cX8_beginning 78 = .ok (.aload_n 0, 1) := by decide +kernel
theorem dX8_beginning_79 : decode cX8_beginning 79 = .ok (.getfield 63, 3) := by decide +kernel
theorem dX8_beginning_82 : decode cX8_beginning 82 = .ok (.iload 5, 2) := by decide +kernel
theorem dX8_beginning_84 : decode cX8_beginning 84 = .ok (.iaload, 1) := by decide +kernel
theorem dX8_beginning_85 : decode cX8_beginning 85 = .ok (.iconst (-1), 1) := by decide +kernel
theorem dX8_beginning_86 : decode cX8_beginning 86 = .ok (.if_icmp .eq 66, 3) := by decide +kernel
theorem dX8_beginning_89 : decode cX8_beginning 89 = .ok (.iload_n 3, 1) := by decide +kernel
theorem dX8_beginning_90 : decode cX8_beginning 90 = .ok (.iconst (-1), 1) := by decide +kernel
theorem dX8_beginning_91 : decode cX8_beginning 91 = .ok (.if_icmp .eq 14, 3) := by decide +kernel
theorem dX8_beginning_94 : decode cX8_beginning 94 = .ok (.aload_n 0, 1) := by decide +kernel
theorem dX8_beginning_95 : decode cX8_beginning 95 = .ok (.getfield 63, 3) := by decide +kernel
theorem dX8_beginning_98 : decode cX8_beginning 98 = .ok (.iload 5, 2) := by decide +kernel
theorem dX8_beginning_100 : decode cX8_beginning 100 = .ok (.iaload, 1) := by decide +kernel
theorem dX8_beginning_101 : decode cX8_beginning 101 = .ok (.iload_n 3, 1) := by decide +kernel
theorem dX8_beginning_102 : decode cX8_beginning 102 = .ok (.if_icmp .ge 50, 3) := by decide +kernel
theorem dX8_beginning_105 : decode cX8_beginning 105 = .ok (.aload_n 0, 1) := by decide +kernel
theorem dX8_beginning_106 : decode cX8_beginning 106 = .ok (.getfield 63, 3) := by decide +kernel
theorem dX8_beginning_109 : decode cX8_beginning 109 = .ok (.iload 5, 2) := by decide +kernel
theorem dX8_beginning_111 : decode cX8_beginning 111 = .ok (.iaload, 1) := by decide +kernel
theorem dX8_beginning_112 : decode cX8_beginning 112 = .ok (.istore_n 3, 1) := by decide +kernel
theorem dX8_beginning_113 : decode cX8_beginning 113 = .ok (.goto 39, 3) := by decide +kernel
theorem dX8_beginning_116 : decode cX8_beginning 116 = .ok (.aload_n 0, 1) := by decide +kernel
theorem dX8_beginning_117 : decode cX8_beginning 117 = .ok (.getfield 66, 3) := by decide +kernel
theorem dX8_beginning_120 : decode cX8_beginning 120 = .ok (.iload 5, 2) := by decide +kernel
theorem dX8_beginning_122 : decode cX8_beginning 122 = .ok (.iaload, 1) := by decide +kernel
theorem dX8_beginning_123 : decode cX8_beginning 123 = .ok (.iconst (-1), 1) := by decide +kernel
theorem dX8_beginning_124 : decode cX8_beginning 124 = .ok (.if_icmp .ne 5, 3) := by decide +kernel
theorem dX8_beginning_127 : decode cX8_beginning 127 = .ok (.iconst (-1), 1) := by decide +kernel
theorem dX8_beginning_128 : decode cX8_beginning 128 = .ok (.ireturn, 1) := by decide +kernel
theorem dX8_beginning_129 : decode cX8_beginning 129 = .ok (.aload_n 0, 1) := by decide +kernel
theorem dX8_beginning_130 : decode cX8_beginning 130 = .ok (.getfield 66, 3) := by decide +kernel
theorem dX8_beginning_133 : decode cX8_beginning 133 = .ok (.iload 5, 2) := by decide +kernel
theorem dX8_beginning_135 : decode cX8_beginning 135 = .ok (.iaload, 1) := by decide +kernel
theorem dX8_beginning_136 : decode cX8_beginning 136 = .ok (.iconst 1, 1) := by decide +kernel
theorem dX8_beginning_137 : decode cX8_beginning 137 = .ok (.iadd, 1) := by decide +kernel
theorem dX8_beginning_138 : decode cX8_beginning 138 = .ok (.iload_n 2, 1) := by decide +kernel
theorem dX8_beginning_139 : decode cX8_beginning 139 = .ok (.if_icmp .le 13, 3) := by decide +kernel
theorem dX8_beginning_142 : decode cX8_beginning 142 = .ok (.aload_n 0, 1) := by decide +kernel
theorem dX8_beginning_143 : decode cX8_beginning 143 = .ok (.getfield 66, 3) := by decide +kernel
theorem dX8_beginning_146 : decode cX8_beginning 146 = .ok (.iload 5, 2) := by decide +kernel
theorem dX8_beginning_148 : decode cX8_beginning 148 = .ok (.iaload, 1) := by decide +kernel
theorem dX8_beginning_149 : decode cX8_beginning 149 = .ok (.iconst 1, 1) := by decide +kernel
theorem dX8_beginning_150 : decode cX8_beginning 150 = .ok (.iadd, 1) := by decide +kernel
theorem dX8_beginning_151 : decode cX8_beginning 151 = .ok (.istore_n 2, 1) := by decide +kernel
theorem dX8_beginning_152 : decode cX8_beginning 152 = .ok (.iinc 5 1, 3) := by decide +kernel
theorem dX8_beginning_155 : decode cX8_beginning 155 = .ok (.goto (-123), 3) := by decide +kernel
theorem dX8_beginning_158 : decode cX8_beginning 158 = .ok (.aload_n 0, 1) := by decide +kernel
theorem dX8_beginning_159 : decode cX8_beginning 159 = .ok (.getfield 20, 3) := by decide +kernel
theorem dX8_beginning_162 : decode cX8_beginning 162 = .ok (.iload_n 1, 1) := by decide +kernel
theorem dX8_beginning_163 : decode cX8_beginning 163 = .ok (.iaload, 1) := by decide +kernel
theorem dX8_beginning_164 : decode cX8_beginning 164 = .ok (.iconst 4, 1) := by decide +kernel
theorem dX8_beginning_165 : decode cX8_beginning 165 = .ok (.if_icmp .ne 26, 3) := by decide +kernel
theorem dX8_beginning_168 : decode cX8_beginning 168 = .ok (.iload 4, 2) := by decide +kernel
theorem dX8_beginning_170 : decode cX8_beginning 170 = .ok (.ifCond .eq 21, 3) := by decide +kernel
theorem dX8_beginning_173 : decode cX8_beginning 173 = .ok (.iload_n 3, 1) := by decide +kernel
theorem dX8_beginning_174 : decode cX8_beginning 174 = .ok (.iconst (-1), 1) := by decide +kernel
theorem dX8_beginning_175 : decode cX8_beginning 175 = .ok (.if_icmp .ne 5, 3) := by decide +kernel
theorem dX8_beginning_178 : decode cX8_beginning 178 = .ok (.iconst (-1), 1) := by decide +kernel
theorem dX8_beginning_179 : decode cX8_beginning 179 = .ok (.ireturn, 1) := by decide +kernel
theorem dX8_beginning_180 : decode cX8_beginning 180 = .ok (.iload_n 3, 1) := by decide +kernel
theorem dX8_beginning_181 : decode cX8_beginning 181 = .ok (.iload_n 2, 1) := by decide +kernel
theorem dX8_beginning_182 : decode cX8_beginning 182 = .ok (.if_icmp .le 7, 3) := by decide +kernel
theorem dX8_beginning_185 : decode cX8_beginning 185 = .ok (.iload_n 3, 1) := by decide +kernel
theorem dX8_beginning_186 : decode cX8_beginning 186 = .ok (.goto 4, 3) := by decide +kernel
theorem dX8_beginning_189 : decode cX8_beginning 189 = .ok (.iload_n 2, 1) := by decide +kernel
theorem dX8_beginning_190 : decode cX8_beginning 190 = .ok (.istore_n 2, 1) := by decide +kernel
theorem dX8_beginning_191 : decode cX8_beginning 191 = .ok (.iload_n 2, 1) := by decide +kernel
theorem dX8_beginning_192 : decode cX8_beginning 192 = .ok (.sipush 3600, 3) := by decide +kernel
theorem dX8_beginning_195 : decode cX8_beginning 195 = .ok (.if_icmp .lt 7, 3) := by decide +kernel
theorem dX8_beginning_198 : decode cX8_beginning 198 = .ok (.iconst (-1), 1) := by decide +kernel
theorem dX8_beginning_199 : decode cX8_beginning 199 = .ok (.goto 4, 3) := by decide +kernel
theorem dX8_beginning_202 : decode cX8_beginning 202 = .ok (.iload_n 2, 1) := by decide +kernel
theorem dX8_beginning_203 : decode cX8_beginning 203 = .ok (.ireturn, 1) := by decide +kernel
theorem dX8_goThrough_0 : decode cX8_goThrough 0 = .ok (.aload_n 0, 1) := by decide +kernel
theorem dX8_goThrough_1 : decode cX8_goThrough 1 = .ok (.getfield 63, 3) := by decide +kernel
theorem dX8_goThrough_4 : decode cX8_goThrough 4 = .ok (.iload_n 2, 1) := by decide +kernel
theorem dX8_goThrough_5 : decode cX8_goThrough 5 = .ok (.aload_n 0, 1) := by decide +kernel
theorem dX8_goThrough_6 : decode cX8_goThrough 6 = .ok (.iload_n 2, 1) := by decide +kernel
theorem dX8_goThrough_7 : decode cX8_goThrough 7 = .ok (.invokevirtual 124, 3) := by decide +kernel
theorem dX8_goThrough_10 : decode cX8_goThrough 10 = .ok (.iastore, 1) := by decide +kernel
theorem dX8_goThrough_11 : decode cX8_goThrough 11 = .ok (.aload_n 0, 1) := by decide +kernel
theorem dX8_goThrough_12 : decode cX8_goThrough 12 = .ok (.getfield 66, 3) := by decide +kernel
theorem dX8_goThrough_15 : decode cX8_goThrough 15 = .ok (.iload_n 2, 1) := by decide +kernel
theorem dX8_goThrough_16 : decode cX8_goThrough 16 = .ok (.iconst (-1), 1) := by decide +kernel
theorem dX8_goThrough_17 : decode cX8_goThrough 17 = .ok (.iastore, 1) := by decide +kernel
theorem dX8_goThrough_18 : decode cX8_goThrough 18 = .ok (.iconst 0, 1) := by decide +kernel
theorem dX8_goThrough_19 : decode cX8_goThrough 19 = .ok (.istore 4, 2) := by decide +kernel
theorem dX8_goThrough_21 : decode cX8_goThrough 21 = .ok (.iconst 0, 1) := by decide +kernel
theorem dX8_goThrough_22 : decode cX8_goThrough 22 = .ok (.istore 5, 2) := by decide +kernel
theorem dX8_goThrough_24 : decode cX8_goThrough 24 = .ok (.iconst 0, 1) := by decide +kernel
theorem dX8_goThrough_25 : decode cX8_goThrough 25 = .ok (.istore 6, 2) := by decide +kernel
theorem dX8_goThrough_27 : decode cX8_goThrough 27 = .ok (.aload_n 0, 1) := by decide +kernel
theorem dX8_goThrough_28 : decode cX8_goThrough 28 = .ok (.getfield 29, 3) := by decide +kernel
theorem dX8_goThrough_31 : decode cX8_goThrough 31 = .ok (.iload_n 2, 1) := by decide +kernel
theorem dX8_goThrough_32 : decode cX8_goThrough 32 = .ok (.iaload, 1) := by decide +kernel
theorem dX8_goThrough_33 : decode cX8_goThrough 33 = .ok (.aload_n 0, 1) := by decide +kernel
theorem dX8_goThrough_34 : decode cX8_goThrough 34 = .ok (.getfield 29, 3) := by decide +kernel
theorem dX8_goThrough_37 : decode cX8_goThrough 37 = .ok (.iload_n 2, 1) := by decide +kernel
theorem dX8_goThrough_38 : decode cX8_goThrough 38 = .ok (.iaload, 1) := by decide +kernel
theorem dX8_goThrough_39 : decode cX8_goThrough 39 = .ok (.aload_n 0, 1) := by decide +kernel
theorem dX8_goThrough_40 : decode cX8_goThrough 40 = .ok (.getfield 38, 3) := by decide +kernel
theorem dX8_goThrough_43 : decode cX8_goThrough 43 = .ok (.iload_n 2, 1) := by decide +kernel
theorem dX8_goThrough_44 : decode cX8_goThrough 44 = .ok (.iaload, 1) := by decide +kernel
theorem dX8_goThrough_45 : decode cX8_goThrough 45 = .ok (.invokestatic 128, 3) := by decide +kernel
theorem dX8_goThrough_48 : decode cX8_goThrough 48 = .ok (.isub, 1) := by decide +kernel
theorem dX8_goThrough_49 : decode cX8_goThrough 49 = .ok (.istore 7, 2) := by decide +kernel
theorem dX8_goThrough_51 : decode cX8_goThrough 51 = .ok (.iconst 0, 1) := by decide +kernel
theorem dX8_goThrough_52 : decode cX8_goThrough 52 = .ok (.istore 8, 2) := by decide +kernel
theorem dX8_goThrough_54 : decode cX8_goThrough 54 = .ok (.iload 8, 2) := by decide +kernel
theorem dX8_goThrough_56 : decode cX8_goThrough 56 = .ok (.sipush 3600, 3) := by decide +kernel
theorem dX8_goThrough_59 : decode cX8_goThrough 59 = .ok (.if_icmp .ge 283, 3) := by decide +kernel
theorem dX8_goThrough_62 : decode cX8_goThrough 62 = .ok (.aload_n 0, 1) := by decide +kernel
theorem dX8_goThrough_63 : decode cX8_goThrough 63 = .ok (.getfield 66, 3) := by decide +kernel
theorem dX8_goThrough_66 : decode cX8_goThrough 66 = .ok (.iload_n 2, 1) := by decide +kernel
theorem dX8_goThrough_67 : decode cX8_goThrough 67 = .ok (.iaload, 1) := by decide +kernel
theorem dX8_goThrough_68 : decode cX8_goThrough 68 = .ok (.iconst (-1), 1) := by decide +kernel
theorem dX8_goThrough_69 : decode cX8_goThrough 69 = .ok (.if_icmp .ne 65, 3) := by decide +kernel
theorem dX8_goThrough_72 : decode cX8_goThrough 72 = .ok (.aload_n 0, 1) := by decide +kernel
theorem dX8_goThrough_73 : decode cX8_goThrough 73 = .ok (.bipush 6, 2) := by decide +kernel
theorem dX8_goThrough_75 : decode cX8_goThrough 75 = .ok (.iload_n 2, 1) := by decide +kernel
theorem dX8_goThrough_76 : decode cX8_goThrough 76 = .ok (.iload 8, 2) := by decide +kernel
theorem dX8_goThrough_78 : decode cX8_goThrough 78 = .ok (.invokevirtual 132, 3) := by decide +kernel
theorem dX8_goThrough_81 : decode cX8_goThrough 81 = .ok (.iconst (-1), 1) := by decide +kernel
theorem dX8_goThrough_82 : decode cX8_goThrough 82 = .ok (.if_icmp .ne 52, 3) := by decide +kernel
theorem dX8_goThrough_85 : decode cX8_goThrough 85 = .ok (.aload_n 0, 1) := by decide +kernel
theorem dX8_goThrough_86 : decode cX8_goThrough 86 = .ok (.bipush 7, 2) := by decide +kernel
theorem dX8_goThrough_88 : decode cX8_goThrough 88 = .ok (.iload_n 2, 1) := by decide +kernel
theorem dX8_goThrough_89 : decode cX8_goThrough 89 = .ok (.iload 8, 2) := by decide +kernel
theorem dX8_goThrough_91 : decode cX8_goThrough 91 = .ok (.invokevirtual 132, 3) := by decide +kernel
theorem dX8_goThrough_94 : decode cX8_goThrough 94 = .ok (.iconst (-1), 1) := by decide +kernel
theorem dX8_goThrough_95 : decode cX8_goThrough 95 = .ok (.if_icmp .ne 35, 3) := by decide +kernel
theorem dX8_goThrough_98 : decode cX8_goThrough 98 = .ok (.aload_n 0, 1) := by decide +kernel
theorem dX8_goThrough_99 : decode cX8_goThrough 99 = .ok (.getfield 63, 3) := by decide +kernel
theorem dX8_goThrough_102 : decode cX8_goThrough 102 = .ok (.iload_n 2, 1) := by decide +kernel
theorem dX8_goThrough_103 : decode cX8_goThrough 103 = .ok (.iaload, 1) := by decide +kernel
theorem dX8_goThrough_104 : decode cX8_goThrough 104 = .ok (.iconst (-1), 1) := by decide +kernel
theorem dX8_goThrough_105 : decode cX8_goThrough 105 = .ok (.if_icmp .eq 29, 3) := by decide +kernel
theorem dX8_goThrough_108 : decode cX8_goThrough 108 = .ok (.aload_n 0, 1) := by decide +kernel
theorem dX8_goThrough_109 : decode cX8_goThrough 109 = .ok (.getfield 63, 3) := by decide +kernel
theorem dX8_goThrough_112 : decode cX8_goThrough 112 = .ok (.iload_n 2, 1) := by decide +kernel
theorem dX8_goThrough_113 : decode cX8_goThrough 113 = .ok (.iaload, 1) := by decide +kernel
theorem dX8_goThrough_114 : decode cX8_goThrough 114 = .ok (.iload 8, 2) := by decide +kernel
theorem dX8_goThrough_116 : decode cX8_goThrough 116 = .ok (.if_icmp .gt 18, 3) := by decide +kernel
theorem dX8_goThrough_119 : decode cX8_goThrough 119 = .ok (.aload_n 0, 1) := by decide +kernel
theorem dX8_goThrough_120 : decode cX8_goThrough 120 = .ok (.iload_n 1, 1) := by decide +kernel
theorem dX8_goThrough_121 : decode cX8_goThrough 121 = .ok (.iload 8, 2) := by decide +kernel
theorem dX8_goThrough_123 : decode cX8_goThrough 123 = .ok (.iload_n 3, 1) := by decide +kernel
theorem dX8_goThrough_124 : decode cX8_goThrough 124 = .ok (.invokevirtual 136, 3) := by decide +kernel
theorem dX8_goThrough_127 : decode cX8_goThrough 127 = .ok (.ifCond .eq 7, 3) := by decide +kernel
theorem dX8_goThrough_130 : decode cX8_goThrough 130 = .ok (.iconst 1, 1) := by decide +kernel
theorem dX8_goThrough_131 : decode cX8_goThrough 131 = .ok (.goto 4, 3) := by decide +kernel
theorem dX8_goThrough_134 : decode cX8_goThrough 134 = .ok (.iconst 0, 1) := by decide +kernel
theorem dX8_goThrough_135 : decode cX8_goThrough 135 = .ok (.istore 9, 2) := by decide +kernel
theorem dX8_goThrough_137 : decode cX8_goThrough 137 = .ok (.aload_n 0, 1) := by decide +kernel
theorem dX8_goThrough_138 : decode cX8_goThrough 138 = .ok (.getfield 70, 3) := by decide +kernel
theorem dX8_goThrough_141 : decode cX8_goThrough 141 = .ok (.sipush 3600, 3) := by decide +kernel
theorem dX8_goThrough_144 : decode cX8_goThrough 144 = .ok (.iload_n 2, 1) := by decide +kernel
theorem dX8_goThrough_145 : decode cX8_goThrough 145 = .ok (.imul, 1) := by decide +kernel
theorem dX8_goThrough_146 : decode cX8_goThrough 146 = .ok (.iload 8, 2) := by decide +kernel
theorem dX8_goThrough_148 : decode cX8_goThrough 148 = .ok (.iadd, 1) := by decide +kernel
theorem dX8_goThrough_149 : decode cX8_goThrough 149 = .ok (.iload 9, 2) := by decide +kernel
theorem dX8_goThrough_151 : decode cX8_goThrough 151 = .ok (.bastore, 1) := by decide +kernel
theorem dX8_goThrough_152 : decode cX8_goThrough 152 = .ok (.iload 9, 2) := by decide +kernel
theorem dX8_goThrough_154 : decode cX8_goThrough 154 = .ok (.ifCond .eq 12, 3) := by decide +kernel
theorem dX8_goThrough_157 : decode cX8_goThrough 157 = .ok (.iinc 4 1, 3) := by decide +kernel
theorem dX8_goThrough_160 : decode cX8_goThrough 160 = .ok (.iinc 6 1, 3) := by decide +kernel
theorem dX8_goThrough_163 : decode cX8_goThrough 163 = .ok (.goto 38, 3) := by decide +kernel
theorem dX8_goThrough_166 : decode cX8_goThrough 166 = .ok (.iload 6, 2) := by decide +kernel
theorem dX8_goThrough_168 : decode cX8_goThrough 168 = .ok (.ifCond .le 33, 3) := by decide +kernel
theorem dX8_goThrough_171 : decode cX8_goThrough 171 = .ok (.iload 5, 2) := by decide +kernel
theorem dX8_goThrough_173 : decode cX8_goThrough 173 = .ok (.aload_n 0, 1) := by decide +kernel
theorem dX8_goThrough_174 : decode cX8_goThrough 174 = .ok (.getfield 35, 3) := by decide +kernel
theorem dX8_goThrough_177 : decode cX8_goThrough 177 = .ok (.iload_n 2, 1) := by decide +kernel
theorem dX8_goThrough_178 : decode cX8_goThrough 178 = .ok (.iaload, 1) := by decide +kernel
theorem dX8_goThrough_179 : decode cX8_goThrough 179 = .ok (.ifCond .le 15, 3) := by decide +kernel
theorem dX8_goThrough_182 : decode cX8_goThrough 182 = .ok (.iload 6, 2) := by decide +kernel
theorem dX8_goThrough_184 : decode cX8_goThrough 184 = .ok (.aload_n 0, 1) := by decide +kernel
theorem dX8_goThrough_185 : decode cX8_goThrough 185 = .ok (.getfield 35, 3) := by decide +kernel
theorem dX8_goThrough_188 : decode cX8_goThrough 188 = .ok (.iload_n 2, 1) := by decide +kernel
theorem dX8_goThrough_189 : decode cX8_goThrough 189 = .ok (.iaload, 1) := by decide +kernel
theorem dX8_goThrough_190 : decode cX8_goThrough 190 = .ok (.idiv, 1) := by decide +kernel
theorem dX8_goThrough_191 : decode cX8_goThrough 191 = .ok (.goto 4, 3) := by decide +kernel
theorem dX8_goThrough_194 : decode cX8_goThrough 194 = .ok (.iconst 0, 1) := by decide +kernel
theorem dX8_goThrough_195 : decode cX8_goThrough 195 = .ok (.iadd, 1) := by decide +kernel
theorem dX8_goThrough_196 : decode cX8_goThrough 196 = .ok (.istore 5, 2) := by decide +kernel
theorem dX8_goThrough_198 : decode cX8_goThrough 198 = .ok (.iconst 0, 1) := by decide +kernel
theorem dX8_goThrough_199 : decode cX8_goThrough 199 = .ok (.istore 6, 2) := by decide +kernel
theorem dX8_goThrough_201 : decode cX8_goThrough 201 = .ok (.iload 5, 2) := by decide +kernel
theorem dX8_goThrough_203 : decode cX8_goThrough 203 = .ok (.aload_n 0, 1) := by decide +kernel
theorem dX8_goThrough_204 : decode cX8_goThrough 204 = .ok (.getfield 35, 3) := by decide +kernel
theorem dX8_goThrough_207 : decode cX8_goThrough 207 = .ok (.iload_n 2, 1) := by decide +kernel
theorem dX8_goThrough_208 : decode cX8_goThrough 208 = .ok (.iaload, 1) := by decide +kernel
theorem dX8_goThrough_209 : decode cX8_goThrough 209 = .ok (.ifCond .le 15, 3) := by decide +kernel
theorem dX8_goThrough_212 : decode cX8_goThrough 212 = .ok (.iload 6, 2) := by decide +kernel
theorem dX8_goThrough_214 : decode cX8_goThrough 214 = .ok (.aload_n 0, 1) := by decide +kernel
theorem dX8_goThrough_215 : decode cX8_goThrough 215 = .ok (.getfield 35, 3) := by decide +kernel
theorem dX8_goThrough_218 : decode cX8_goThrough 218 = .ok (.iload_n 2, 1) := by decide +kernel
theorem dX8_goThrough_219 : decode cX8_goThrough 219 = .ok (.iaload, 1) := by decide +kernel
theorem dX8_goThrough_220 : decode cX8_goThrough 220 = .ok (.idiv, 1) := by decide +kernel
theorem dX8_goThrough_221 : decode cX8_goThrough 221 = .ok (.goto 4, 3) := by decide +kernel
theorem dX8_goThrough_224 : decode cX8_goThrough 224 = .ok (.iconst 0, 1) := by decide +kernel
theorem dX8_goThrough_225 : decode cX8_goThrough 225 = .ok (.iadd, 1) := by decide +kernel
theorem dX8_goThrough_226 : decode cX8_goThrough 226 = .ok (.istore 10, 2) := by decide +kernel
theorem dX8_goThrough_228 : decode cX8_goThrough 228 = .ok (.iload 10, 2) := by decide +kernel
theorem dX8_goThrough_230 : decode cX8_goThrough 230 = .ok (.iload 7, 2) := by decide +kernel
theorem dX8_goThrough_232 : decode cX8_goThrough 232 = .ok (.if_icmp .le 8, 3) := by decide +kernel
theorem dX8_goThrough_235 : decode cX8_goThrough 235 = .ok (.iload 7, 2) := by decide +kernel
theorem dX8_goThrough_237 : decode cX8_goThrough 237 = .ok (.goto 5, 3) := by decide +kernel
theorem dX8_goThrough_240 : decode cX8_goThrough 240 = .ok (.iload 10, 2) := by decide +kernel
theorem dX8_goThrough_242 : decode cX8_goThrough 242 = .ok (.istore 10, 2) := by decide +kernel
theorem dX8_goThrough_244 : decode cX8_goThrough 244 = .ok (.aload_n 0, 1) := by decide +kernel
theorem dX8_goThrough_245 : decode cX8_goThrough 245 = .ok (.getfield 73, 3) := by decide +kernel
theorem dX8_goThrough_248 : decode cX8_goThrough 248 = .ok (.sipush 3600, 3) := by decide +kernel
theorem dX8_goThrough_251 : decode cX8_goThrough 251 = .ok (.iload_n 2, 1) := by decide +kernel
theorem dX8_goThrough_252 : decode cX8_goThrough 252 = .ok (.imul, 1) := by decide +kernel
theorem dX8_goThrough_253 : decode cX8_goThrough 253 = .ok (.iload 8, 2) := by decide +kernel
theorem dX8_goThrough_255 : decode cX8_goThrough 255 = .ok (.iadd, 1) := by decide +kernel
theorem dX8_goThrough_256 : decode cX8_goThrough 256 = .ok (.iload 4, 2) := by decide +kernel
theorem dX8_goThrough_258 : decode cX8_goThrough 258 = .ok (.iastore, 1) := by decide +kernel
theorem dX8_goThrough_259 : decode cX8_goThrough 259 = .ok (.aload_n 0, 1) := by decide +kernel
theorem dX8_goThrough_260 : decode cX8_goThrough 260 = .ok (.getfield 76, 3) := by decide +kernel
theorem dX8_goThrough_263 : decode cX8_goThrough 263 = .ok (.sipush 3600, 3) := by decide +kernel
theorem dX8_goThrough_266 : decode cX8_goThrough 266 = .ok (.iload_n 2, 1) := by decide +kernel
theorem dX8_goThrough_267 : decode cX8_goThrough 267 = .ok (.imul, 1) := by decide +kernel
theorem dX8_goThrough_268 : decode cX8_goThrough 268 = .ok (.iload 8, 2) := by decide +kernel
theorem dX8_goThrough_270 : decode cX8_goThrough 270 = .ok (.iadd, 1) := by decide +kernel
theorem dX8_goThrough_271 : decode cX8_goThrough 271 = .ok (.iload 10, 2) := by decide +kernel
theorem dX8_goThrough_273 : decode cX8_goThrough 273 = .ok (.iastore, 1) := by decide +kernel
theorem dX8_goThrough_274 : decode cX8_goThrough 274 = .ok (.iload 10, 2) := by decide +kernel
theorem dX8_goThrough_276 : decode cX8_goThrough 276 = .ok (.aload_n 0, 1) := by decide +kernel
theorem dX8_goThrough_277 : decode cX8_goThrough 277 = .ok (.getfield 41, 3) := by decide +kernel
theorem dX8_goThrough_280 : decode cX8_goThrough 280 = .ok (.iload_n 2, 1) := by decide +kernel
theorem dX8_goThrough_281 : decode cX8_goThrough 281 = .ok (.iaload, 1) := by decide +kernel
theorem dX8_goThrough_282 : decode cX8_goThrough 282 = .ok (.isub, 1) := by decide +kernel
theorem dX8_goThrough_283 : decode cX8_goThrough 283 = .ok (.istore 11, 2) := by decide +kernel
theorem dX8_goThrough_285 : decode cX8_goThrough 285 = .ok (.aload_n 0, 1) := by decide +kernel
theorem dX8_goThrough_286 : decode cX8_goThrough 286 = .ok (.getfield 66, 3) := by decide +kernel
theorem dX8_goThrough_289 : decode cX8_goThrough 289 = .ok (.iload_n 2, 1) := by decide +kernel
theorem dX8_goThrough_290 : decode cX8_goThrough 290 = .ok (.iaload, 1) := by decide +kernel
theorem dX8_goThrough_291 : decode cX8_goThrough 291 = .ok (.iconst (-1), 1) := by decide +kernel
theorem dX8_goThrough_292 : decode cX8_goThrough 292 = .ok (.if_icmp .ne 44, 3) := by decide +kernel
theorem dX8_goThrough_295 : decode cX8_goThrough 295 = .ok (.aload_n 0, 1) := by decide +kernel
theorem dX8_goThrough_296 : decode cX8_goThrough 296 = .ok (.getfield 20, 3) := by decide +kernel
theorem dX8_goThrough_299 : decode cX8_goThrough 299 = .ok (.iload_n 2, 1) := by decide +kernel
theorem dX8_goThrough_300 : decode cX8_goThrough 300 = .ok (.iaload, 1) := by decide +kernel
theorem dX8_goThrough_301 : decode cX8_goThrough 301 = .ok (.iconst 5, 1) := by decide +kernel
theorem dX8_goThrough_302 : decode cX8_goThrough 302 = .ok (.if_icmp .eq 34, 3) := by decide +kernel
theorem dX8_goThrough_305 : decode cX8_goThrough 305 = .ok (.iload 4, 2) := by decide +kernel
theorem dX8_goThrough_307 : decode cX8_goThrough 307 = .ok (.iload 11, 2) := by decide +kernel
theorem dX8_goThrough_309 : decode cX8_goThrough 309 = .ok (.ifCond .le 8, 3) := by decide +kernel
theorem dX8_goThrough_312 : decode cX8_goThrough 312 = .ok (.iload 11, 2) := by decide +kernel
theorem dX8_goThrough_314 : decode cX8_goThrough 314 = .ok (.goto 4, 3) := by decide +kernel
theorem dX8_goThrough_317 : decode cX8_goThrough 317 = .ok (.iconst 0, 1) := by decide +kernel
theorem dX8_goThrough_318 : decode cX8_goThrough 318 = .ok (.iadd, 1) := by decide +kernel
theorem dX8_goThrough_319 : decode cX8_goThrough 319 = .ok (.aload_n 0, 1) := by decide +kernel
theorem dX8_goThrough_320 : decode cX8_goThrough 320 = .ok (.getfield 29, 3) := by decide +kernel
theorem dX8_goThrough_323 : decode cX8_goThrough 323 = .ok (.iload_n 2, 1) := by decide +kernel
theorem dX8_goThrough_324 : decode cX8_goThrough 324 = .ok (.iaload, 1) := by decide +kernel
theorem dX8_goThrough_325 : decode cX8_goThrough 325 = .ok (.if_icmp .lt 11, 3) := by decide +kernel
theorem dX8_goThrough_328 : decode cX8_goThrough 328 = .ok (.aload_n 0, 1) := by decide +kernel
theorem dX8_goThrough_329 : decode cX8_goThrough 329 = .ok (.getfield 66, 3) := by decide +kernel
theorem dX8_goThrough_332 : decode cX8_goThrough 332 = .ok (.iload_n 2, 1) := by decide +kernel
theorem dX8_goThrough_333 : decode cX8_goThrough 333 = .ok (.iload 8, 2) := by decide +kernel
theorem dX8_goThrough_335 : decode cX8_goThrough 335 = .ok (.iastore, 1) := by decide +kernel
theorem dX8_goThrough_336 : decode cX8_goThrough 336 = .ok (.iinc 8 1, 3) := by decide +kernel
theorem dX8_goThrough_339 : decode cX8_goThrough 339 = .ok (.goto (-285), 3) := by decide +kernel
theorem dX8_goThrough_342 : decode cX8_goThrough 342 = .ok (.return_, 1) := by decide +kernel
theorem dX8_reckon_0 : decode cX8_reckon 0 = .ok (.aload_n 0, 1) := by decide +kernel
theorem dX8_reckon_1 : decode cX8_reckon 1 = .ok (.iload_n 1, 1) := by decide +kernel
theorem dX8_reckon_2 : decode cX8_reckon 2 = .ok (.iload_n 2, 1) := by decide +kernel
theorem dX8_reckon_3 : decode cX8_reckon 3 = .ok (.invokevirtual 140, 3) := by decide +kernel
theorem dX8_reckon_6 : decode cX8_reckon 6 = .ok (.iconst 0, 1) := by decide +kernel
theorem dX8_reckon_7 : decode cX8_reckon 7 = .ok (.istore 4, 2) := by decide +kernel
theorem dX8_reckon_9 : decode cX8_reckon 9 = .ok (.iload 4, 2) := by decide +kernel
theorem dX8_reckon_11 : decode cX8_reckon 11 = .ok (.bipush 12, 2) := by decide +kernel
theorem dX8_reckon_13 : decode cX8_reckon 13 = .ok (.if_icmp .ge 17, 3) := by decide +kernel
theorem dX8_reckon_16 : decode cX8_reckon 16 = .ok (.aload_n 0, 1) := by decide +kernel
theorem dX8_reckon_17 : decode cX8_reckon 17 = .ok (.getfield 60, 3) := by decide +kernel
theorem dX8_reckon_20 : decode cX8_reckon 20 = .ok (.iload 4, 2) := by decide +kernel
theorem dX8_reckon_22 : decode cX8_reckon 22 = .ok (.iconst 0, 1) := by decide +kernel
theorem dX8_reckon_23 : decode cX8_reckon 23 = .ok (.bastore, 1) := by decide +kernel
theorem dX8_reckon_24 : decode cX8_reckon 24 = .ok (.iinc 4 1, 3) := by decide +kernel
theorem dX8_reckon_27 : decode cX8_reckon 27 = .ok (.goto (-18), 3) := by decide +kernel
theorem dX8_reckon_30 : decode cX8_reckon 30 = .ok (.iconst 1, 1) := by decide +kernel
theorem dX8_reckon_31 : decode cX8_reckon 31 = .ok (.istore 4, 2) := by decide +kernel
theorem dX8_reckon_33 : decode cX8_reckon 33 = .ok (.iload 4, 2) := by decide +kernel
theorem dX8_reckon_35 : decode cX8_reckon 35 = .ok (.ifCond .eq 75, 3) := by decide +kernel
theorem dX8_reckon_38 : decode cX8_reckon 38 = .ok (.iconst 0, 1) := by decide +kernel
theorem dX8_reckon_39 : decode cX8_reckon 39 = .ok (.istore 4, 2) := by decide +kernel
theorem dX8_reckon_41 : decode cX8_reckon 41 = .ok (.iconst 0, 1) := by decide +kernel
theorem dX8_reckon_42 : decode cX8_reckon 42 = .ok (.istore 5, 2) := by decide +kernel
theorem dX8_reckon_44 : decode cX8_reckon 44 = .ok (.iload 5, 2) := by decide +kernel
theorem dX8_reckon_46 : decode cX8_reckon 46 = .ok (.bipush 12, 2) := by decide +kernel
theorem dX8_reckon_48 : decode cX8_reckon 48 = .ok (.if_icmp .ge 59, 3) := by decide +kernel
theorem dX8_reckon_51 : decode cX8_reckon 51 = .ok (.aload_n 0, 1) := by decide +kernel
theorem dX8_reckon_52 : decode cX8_reckon 52 = .ok (.iload 5, 2) := by decide +kernel
theorem dX8_reckon_54 : decode cX8_reckon 54 = .ok (.invokevirtual 121, 3) := by decide +kernel
theorem dX8_reckon_57 : decode cX8_reckon 57 = .ok (.ifCond .eq 44, 3) := by decide +kernel
theorem dX8_reckon_60 : decode cX8_reckon 60 = .ok (.aload_n 0, 1) := by decide +kernel
theorem dX8_reckon_61 : decode cX8_reckon 61 = .ok (.getfield 60, 3) := by decide +kernel
theorem dX8_reckon_64 : decode cX8_reckon 64 = .ok (.iload 5, 2) := by decide +kernel
theorem dX8_reckon_66 : decode cX8_reckon 66 = .ok (.baload, 1) := by decide +kernel
theorem dX8_reckon_67 : decode cX8_reckon 67 = .ok (.ifCond .ne 34, 3) := by decide +kernel
theorem dX8_reckon_70 : decode cX8_reckon 70 = .ok (.aload_n 0, 1) := by decide +kernel
theorem dX8_reckon_71 : decode cX8_reckon 71 = .ok (.iload 5, 2) := by decide +kernel
theorem dX8_reckon_73 : decode cX8_reckon 73 = .ok (.invokevirtual 143, 3) := by decide +kernel
theorem dX8_reckon_76 : decode cX8_reckon 76 = .ok (.ifCond .ne 6, 3) := by decide +kernel
theorem dX8_reckon_79 : decode cX8_reckon 79 = .ok (.goto 22, 3) := by decide +kernel
theorem dX8_reckon_82 : decode cX8_reckon 82 = .ok (.aload_n 0, 1) := by decide +kernel
theorem dX8_reckon_83 : decode cX8_reckon 83 = .ok (.iload_n 1, 1) := by decide +kernel
theorem dX8_reckon_84 : decode cX8_reckon 84 = .ok (.iload 5, 2) := by decide +kernel
theorem dX8_reckon_86 : decode cX8_reckon 86 = .ok (.iload_n 3, 1) := by decide +kernel
theorem dX8_reckon_87 : decode cX8_reckon 87 = .ok (.invokevirtual 146, 3) := by decide +kernel
theorem dX8_reckon_90 : decode cX8_reckon 90 = .ok (.aload_n 0, 1) := by decide +kernel
theorem dX8_reckon_91 : decode cX8_reckon 91 = .ok (.getfield 60, 3) := by decide +kernel
theorem dX8_reckon_94 : decode cX8_reckon 94 = .ok (.iload 5, 2) := by decide +kernel
theorem dX8_reckon_96 : decode cX8_reckon 96 = .ok (.iconst 1, 1) := by decide +kernel
theorem dX8_reckon_97 : decode cX8_reckon 97 = .ok (.bastore, 1) := by decide +kernel
theorem dX8_reckon_98 : decode cX8_reckon 98 = .ok (.iconst 1, 1) := by decide +kernel
theorem dX8_reckon_99 : decode cX8_reckon 99 = .ok (.istore 4, 2) := by decide +kernel
theorem dX8_reckon_101 : decode cX8_reckon 101 = .ok (.iinc 5 1, 3) := by decide +kernel
theorem dX8_reckon_104 : decode cX8_reckon 104 = .ok (.goto (-60), 3) := by decide +kernel
theorem dX8_reckon_107 : decode cX8_reckon 107 = .ok (.goto (-74), 3) := by decide +kernel
theorem dX8_reckon_110 : decode cX8_reckon 110 = .ok (.return_, 1) := by decide +kernel
theorem dX8_fullNow_0 : decode cX8_fullNow 0 = .ok (.iconst 0, 1) := by decide +kernel
theorem dX8_fullNow_1 : decode cX8_fullNow 1 = .ok (.istore_n 1, 1) := by decide +kernel
theorem dX8_fullNow_2 : decode cX8_fullNow 2 = .ok (.iconst 0, 1) := by decide +kernel
theorem dX8_fullNow_3 : decode cX8_fullNow 3 = .ok (.istore_n 2, 1) := by decide +kernel
theorem dX8_fullNow_4 : decode cX8_fullNow 4 = .ok (.iload_n 2, 1) := by decide +kernel
theorem dX8_fullNow_5 : decode cX8_fullNow 5 = .ok (.bipush 12, 2) := by decide +kernel
theorem dX8_fullNow_7 : decode cX8_fullNow 7 = .ok (.if_icmp .ge 57, 3) := by decide +kernel
theorem dX8_fullNow_10 : decode cX8_fullNow 10 = .ok (.aload_n 0, 1) := by decide +kernel
theorem dX8_fullNow_11 : decode cX8_fullNow 11 = .ok (.iload_n 2, 1) := by decide +kernel
theorem dX8_fullNow_12 : decode cX8_fullNow 12 = .ok (.invokevirtual 121, 3) := by decide +kernel
theorem dX8_fullNow_15 : decode cX8_fullNow 15 = .ok (.ifCond .ne 6, 3) := by decide +kernel
theorem dX8_fullNow_18 : decode cX8_fullNow 18 = .ok (.goto 40, 3) := by decide +kernel
theorem dX8_fullNow_21 : decode cX8_fullNow 21 = .ok (.aload_n 0, 1) := by decide +kernel
theorem dX8_fullNow_22 : decode cX8_fullNow 22 = .ok (.getfield 66, 3) := by decide +kernel
theorem dX8_fullNow_25 : decode cX8_fullNow 25 = .ok (.iload_n 2, 1) := by decide +kernel
theorem dX8_fullNow_26 : decode cX8_fullNow 26 = .ok (.iaload, 1) := by decide +kernel
theorem dX8_fullNow_27 : decode cX8_fullNow 27 = .ok (.iconst (-1), 1) := by decide +kernel
theorem dX8_fullNow_28 : decode cX8_fullNow 28 = .ok (.if_icmp .ne 5, 3) := by decide +kernel
theorem dX8_fullNow_31 : decode cX8_fullNow 31 = .ok (.iconst (-1), 1) := by decide +kernel
theorem dX8_fullNow_32 : decode cX8_fullNow 32 = .ok (.ireturn, 1) := by decide +kernel
theorem dX8_fullNow_33 : decode cX8_fullNow 33 = .ok (.aload_n 0, 1) := by decide +kernel
theorem dX8_fullNow_34 : decode cX8_fullNow 34 = .ok (.getfield 66, 3) := by decide +kernel
theorem dX8_fullNow_37 : decode cX8_fullNow 37 = .ok (.iload_n 2, 1) := by decide +kernel
theorem dX8_fullNow_38 : decode cX8_fullNow 38 = .ok (.iaload, 1) := by decide +kernel
theorem dX8_fullNow_39 : decode cX8_fullNow 39 = .ok (.iconst 1, 1) := by decide +kernel
theorem dX8_fullNow_40 : decode cX8_fullNow 40 = .ok (.iadd, 1) := by decide +kernel
theorem dX8_fullNow_41 : decode cX8_fullNow 41 = .ok (.iload_n 1, 1) := by decide +kernel
theorem dX8_fullNow_42 : decode cX8_fullNow 42 = .ok (.if_icmp .le 14, 3) := by decide +kernel
theorem dX8_fullNow_45 : decode cX8_fullNow 45 = .ok (.aload_n 0, 1) := by decide +kernel
theorem dX8_fullNow_46 : decode cX8_fullNow 46 = .ok (.getfield 66, 3) := by decide +kernel
theorem dX8_fullNow_49 : decode cX8_fullNow 49 = .ok (.iload_n 2, 1) := by decide +kernel
theorem dX8_fullNow_50 : decode cX8_fullNow 50 = .ok (.iaload, 1) := by decide +kernel
theorem dX8_fullNow_51 : decode cX8_fullNow 51 = .ok (.iconst 1, 1) := by decide +kernel
theorem dX8_fullNow_52 : decode cX8_fullNow 52 = .ok (.iadd, 1) := by decide +kernel
theorem dX8_fullNow_53 : decode cX8_fullNow 53 = .ok (.goto 4, 3) := by decide +kernel
theorem dX8_fullNow_56 : decode cX8_fullNow 56 = .ok (.iload_n 1, 1) := by decide +kernel
theorem dX8_fullNow_57 : decode cX8_fullNow 57 = .ok (.istore_n 1, 1) := by decide +kernel
theorem dX8_fullNow_58 : decode cX8_fullNow 58 = .ok (.iinc 2 1, 3) := by decide +kernel
theorem dX8_fullNow_61 : decode cX8_fullNow 61 = .ok (.goto (-57), 3) := by decide +kernel
theorem dX8_fullNow_64 : decode cX8_fullNow 64 = .ok (.iload_n 1, 1) := by decide +kernel
theorem dX8_fullNow_65 : decode cX8_fullNow 65 = .ok (.ireturn, 1) := by decide +kernel
theorem dX8_watchedNow_0 : decode cX8_watchedNow 0 = .ok (.iconst 0, 1) := by decide +kernel
theorem dX8_watchedNow_1 : decode cX8_watchedNow 1 = .ok (.istore_n 2, 1) := by decide +kernel
theorem dX8_watchedNow_2 : decode cX8_watchedNow 2 = .ok (.iconst 0, 1) := by decide +kernel
theorem dX8_watchedNow_3 : decode cX8_watchedNow 3 = .ok (.istore_n 3, 1) := by decide +kernel
theorem dX8_watchedNow_4 : decode cX8_watchedNow 4 = .ok (.iload_n 3, 1) := by decide +kernel
theorem dX8_watchedNow_5 : decode cX8_watchedNow 5 = .ok (.bipush 12, 2) := by decide +kernel
theorem dX8_watchedNow_7 : decode cX8_watchedNow 7 = .ok (.if_icmp .ge 27, 3) := by decide +kernel
theorem dX8_watchedNow_10 : decode cX8_watchedNow 10 = .ok (.iload_n 2, 1) := by decide +kernel
theorem dX8_watchedNow_11 : decode cX8_watchedNow 11 = .ok (.ifCond .ne 11, 3) := by decide +kernel
theorem dX8_watchedNow_14 : decode cX8_watchedNow 14 = .ok (.aload_n 0, 1) := by decide +kernel
theorem dX8_watchedNow_15 : decode cX8_watchedNow 15 = .ok (.iload_n 3, 1) := by decide +kernel
theorem dX8_watchedNow_16 : decode cX8_watchedNow 16 = .ok (.invokevirtual 121, 3) := by decide +kernel
theorem dX8_watchedNow_19 : decode cX8_watchedNow 19 = .ok (.ifCond .eq 7, 3) := by decide +kernel
theorem dX8_watchedNow_22 : decode cX8_watchedNow 22 = .ok (.iconst 1, 1) := by decide +kernel
theorem dX8_watchedNow_23 : decode cX8_watchedNow 23 = .ok (.goto 4, 3) := by decide +kernel
theorem dX8_watchedNow_26 : decode cX8_watchedNow 26 = .ok (.iconst 0, 1) := by decide +kernel
theorem dX8_watchedNow_27 : decode cX8_watchedNow 27 = .ok (.istore_n 2, 1) := by decide +kernel
theorem dX8_watchedNow_28 : decode cX8_watchedNow 28 = .ok (.iinc 3 1, 3) := by decide +kernel
theorem dX8_watchedNow_31 : decode cX8_watchedNow 31 = .ok (.goto (-27), 3) := by decide +kernel
theorem dX8_watchedNow_34 : decode cX8_watchedNow 34 = .ok (.iload_n 2, 1) := by decide +kernel
theorem dX8_watchedNow_35 : decode cX8_watchedNow 35 = .ok (.ifCond .ne 5, 3) := by decide +kernel
theorem dX8_watchedNow_38 : decode cX8_watchedNow 38 = .ok (.iconst 0, 1) := by decide +kernel
theorem dX8_watchedNow_39 : decode cX8_watchedNow 39 = .ok (.ireturn, 1) := by decide +kernel
theorem dX8_watchedNow_40 : decode cX8_watchedNow 40 = .ok (.iconst 0, 1) := by decide +kernel
theorem dX8_watchedNow_41 : decode cX8_watchedNow 41 = .ok (.istore_n 3, 1) := by decide +kernel
theorem dX8_watchedNow_42 : decode cX8_watchedNow 42 = .ok (.iload_n 3, 1) := by decide +kernel
theorem dX8_watchedNow_43 : decode cX8_watchedNow 43 = .ok (.sipush 3600, 3) := by decide +kernel
theorem dX8_watchedNow_46 : decode cX8_watchedNow 46 = .ok (.if_icmp .ge 133, 3) := by decide +kernel
theorem dX8_watchedNow_49 : decode cX8_watchedNow 49 = .ok (.iconst 1, 1) := by decide +kernel
theorem dX8_watchedNow_50 : decode cX8_watchedNow 50 = .ok (.istore 4, 2) := by decide +kernel
theorem dX8_watchedNow_52 : decode cX8_watchedNow 52 = .ok (.iconst 0, 1) := by decide +kernel
theorem dX8_watchedNow_53 : decode cX8_watchedNow 53 = .ok (.istore 5, 2) := by decide +kernel
theorem dX8_watchedNow_55 : decode cX8_watchedNow 55 = .ok (.iload 5, 2) := by decide +kernel
theorem dX8_watchedNow_57 : decode cX8_watchedNow 57 = .ok (.bipush 12, 2) := by decide +kernel
theorem dX8_watchedNow_59 : decode cX8_watchedNow 59 = .ok (.if_icmp .ge 107, 3) := by decide +kernel
theorem dX8_watchedNow_62 : decode cX8_watchedNow 62 = .ok (.iload 4, 2) := by decide +kernel
theorem dX8_watchedNow_64 : decode cX8_watchedNow 64 = .ok (.ifCond .eq 102, 3) := by decide +kernel
theorem dX8_watchedNow_67 : decode cX8_watchedNow 67 = .ok (.aload_n 0, 1) := by decide +kernel
theorem dX8_watchedNow_68 : decode cX8_watchedNow 68 = .ok (.iload 5, 2) := by decide +kernel
theorem dX8_watchedNow_70 : decode cX8_watchedNow 70 = .ok (.invokevirtual 121, 3) := by decide +kernel
theorem dX8_watchedNow_73 : decode cX8_watchedNow 73 = .ok (.ifCond .ne 6, 3) := by decide +kernel
theorem dX8_watchedNow_76 : decode cX8_watchedNow 76 = .ok (.goto 84, 3) := by decide +kernel
theorem dX8_watchedNow_79 : decode cX8_watchedNow 79 = .ok (.aload_n 0, 1) := by decide +kernel
theorem dX8_watchedNow_80 : decode cX8_watchedNow 80 = .ok (.getfield 20, 3) := by decide +kernel
theorem dX8_watchedNow_83 : decode cX8_watchedNow 83 = .ok (.iload 5, 2) := by decide +kernel
theorem dX8_watchedNow_85 : decode cX8_watchedNow 85 = .ok (.iaload, 1) := by decide +kernel
theorem dX8_watchedNow_86 : decode cX8_watchedNow 86 = .ok (.iconst 5, 1) := by decide +kernel
theorem dX8_watchedNow_87 : decode cX8_watchedNow 87 = .ok (.if_icmp .ne 13, 3) := by decide +kernel
theorem dX8_watchedNow_90 : decode cX8_watchedNow 90 = .ok (.aload_n 0, 1) := by decide +kernel
theorem dX8_watchedNow_91 : decode cX8_watchedNow 91 = .ok (.getfield 29, 3) := by decide +kernel
theorem dX8_watchedNow_94 : decode cX8_watchedNow 94 = .ok (.iload 5, 2) := by decide +kernel
theorem dX8_watchedNow_96 : decode cX8_watchedNow 96 = .ok (.iaload, 1) := by decide +kernel
theorem dX8_watchedNow_97 : decode cX8_watchedNow 97 = .ok (.goto 14, 3) := by decide +kernel
theorem dX8_watchedNow_100 : decode cX8_watchedNow 100 = .ok (.aload_n 0, 1) := by decide +kernel
theorem dX8_watchedNow_101 : decode cX8_watchedNow 101 = .ok (.getfield 29, 3) := by decide +kernel
theorem dX8_watchedNow_104 : decode cX8_watchedNow 104 = .ok (.iload 5, 2) := by decide +kernel
theorem dX8_watchedNow_106 : decode cX8_watchedNow 106 = .ok (.iaload, 1) := by decide +kernel
theorem dX8_watchedNow_107 : decode cX8_watchedNow 107 = .ok (.iload_n 1, 1) := by decide +kernel
theorem dX8_watchedNow_108 : decode cX8_watchedNow 108 = .ok (.invokestatic 128, 3) := by decide +kernel
theorem dX8_watchedNow_111 : decode cX8_watchedNow 111 = .ok (.istore 6, 2) := by decide +kernel
theorem dX8_watchedNow_113 : decode cX8_watchedNow 113 = .ok (.aload_n 0, 1) := by decide +kernel
theorem dX8_watchedNow_114 : decode cX8_watchedNow 114 = .ok (.getfield 73, 3) := by decide +kernel
theorem dX8_watchedNow_117 : decode cX8_watchedNow 117 = .ok (.sipush 3600, 3) := by decide +kernel
theorem dX8_watchedNow_120 : decode cX8_watchedNow 120 = .ok (.iload 5, 2) := by decide +kernel
theorem dX8_watchedNow_122 : decode cX8_watchedNow 122 = .ok (.imul, 1) := by decide +kernel
theorem dX8_watchedNow_123 : decode cX8_watchedNow 123 = .ok (.iload_n 3, 1) := by decide +kernel
theorem dX8_watchedNow_124 : decode cX8_watchedNow 124 = .ok (.iadd, 1) := by decide +kernel
theorem dX8_watchedNow_125 : decode cX8_watchedNow 125 = .ok (.iaload, 1) := by decide +kernel
theorem dX8_watchedNow_126 : decode cX8_watchedNow 126 = .ok (.iload 6, 2) := by decide +kernel
theorem dX8_watchedNow_128 : decode cX8_watchedNow 128 = .ok (.if_icmp .ge 25, 3) := by decide +kernel
theorem dX8_watchedNow_131 : decode cX8_watchedNow 131 = .ok (.aload_n 0, 1) := by decide +kernel
theorem dX8_watchedNow_132 : decode cX8_watchedNow 132 = .ok (.getfield 66, 3) := by decide +kernel
theorem dX8_watchedNow_135 : decode cX8_watchedNow 135 = .ok (.iload 5, 2) := by decide +kernel
theorem dX8_watchedNow_137 : decode cX8_watchedNow 137 = .ok (.iaload, 1) := by decide +kernel
theorem dX8_watchedNow_138 : decode cX8_watchedNow 138 = .ok (.iconst (-1), 1) := by decide +kernel
theorem dX8_watchedNow_139 : decode cX8_watchedNow 139 = .ok (.if_icmp .eq 18, 3) := by decide +kernel
theorem dX8_watchedNow_142 : decode cX8_watchedNow 142 = .ok (.aload_n 0, 1) := by decide +kernel
theorem dX8_watchedNow_143 : decode cX8_watchedNow 143 = .ok (.getfield 66, 3) := by decide +kernel
theorem dX8_watchedNow_146 : decode cX8_watchedNow 146 = .ok (.iload 5, 2) := by decide +kernel
theorem dX8_watchedNow_148 : decode cX8_watchedNow 148 = .ok (.iaload, 1) := by decide +kernel
theorem dX8_watchedNow_149 : decode cX8_watchedNow 149 = .ok (.iload_n 3, 1) := by decide +kernel
theorem dX8_watchedNow_150 : decode cX8_watchedNow 150 = .ok (.if_icmp .gt 7, 3) := by decide +kernel
theorem dX8_watchedNow_153 : decode cX8_watchedNow 153 = .ok (.iconst 1, 1) := by decide +kernel
theorem dX8_watchedNow_154 : decode cX8_watchedNow 154 = .ok (.goto 4, 3) := by decide +kernel
theorem dX8_watchedNow_157 : decode cX8_watchedNow 157 = .ok (.iconst 0, 1) := by decide +kernel
theorem dX8_watchedNow_158 : decode cX8_watchedNow 158 = .ok (.istore 4, 2) := by decide +kernel
theorem dX8_watchedNow_160 : decode cX8_watchedNow 160 = .ok (.iinc 5 1, 3) := by decide +kernel
theorem dX8_watchedNow_163 : decode cX8_watchedNow 163 = .ok (.goto (-108), 3) := by decide +kernel
theorem dX8_watchedNow_166 : decode cX8_watchedNow 166 = .ok (.iload 4, 2) := by decide +kernel
theorem dX8_watchedNow_168 : decode cX8_watchedNow 168 = .ok (.ifCond .eq 5, 3) := by decide +kernel
theorem dX8_watchedNow_171 : decode cX8_watchedNow 171 = .ok (.iload_n 3, 1) := by decide +kernel
theorem dX8_watchedNow_172 : decode cX8_watchedNow 172 = .ok (.ireturn, 1) := by decide +kernel
theorem dX8_watchedNow_173 : decode cX8_watchedNow 173 = .ok (.iinc 3 1, 3) := by decide +kernel
theorem dX8_watchedNow_176 : decode cX8_watchedNow 176 = .ok (.goto (-134), 3) := by decide +kernel
theorem dX8_watchedNow_179 : decode cX8_watchedNow 179 = .ok (.iconst (-1), 1) := by decide +kernel
theorem dX8_watchedNow_180 : decode cX8_watchedNow 180 = .ok (.ireturn, 1) := by decide +kernel
theorem dX8_isPlace_0 : decode cX8_isPlace 0 = .ok (.iload_n 0, 1) := by decide +kernel
theorem dX8_isPlace_1 : decode cX8_isPlace 1 = .ok (.ifCond .lt 13, 3) := by decide +kernel
theorem dX8_isPlace_4 : decode cX8_isPlace 4 = .ok (.iload_n 0, 1) := by decide +kernel
theorem dX8_isPlace_5 : decode cX8_isPlace 5 = .ok (.bipush 12, 2) := by decide +kernel
theorem dX8_isPlace_7 : decode cX8_isPlace 7 = .ok (.if_icmp .ge 7, 3) := by decide +kernel
theorem dX8_isPlace_10 : decode cX8_isPlace 10 = .ok (.iconst 1, 1) := by decide +kernel
theorem dX8_isPlace_11 : decode cX8_isPlace 11 = .ok (.goto 4, 3) := by decide +kernel
theorem dX8_isPlace_14 : decode cX8_isPlace 14 = .ok (.iconst 0, 1) := by decide +kernel
theorem dX8_isPlace_15 : decode cX8_isPlace 15 = .ok (.ireturn, 1) := by decide +kernel
theorem dX8_isPerson_0 : decode cX8_isPerson 0 = .ok (.iload_n 1, 1) := by decide +kernel
theorem dX8_isPerson_1 : decode cX8_isPerson 1 = .ok (.ifCond .lt 15, 3) := by decide +kernel
theorem dX8_isPerson_4 : decode cX8_isPerson 4 = .ok (.iload_n 1, 1) := by decide +kernel
theorem dX8_isPerson_5 : decode cX8_isPerson 5 = .ok (.aload_n 0, 1) := by decide +kernel
theorem dX8_isPerson_6 : decode cX8_isPerson 6 = .ok (.getfield 94, 3) := by decide +kernel
theorem dX8_isPerson_9 : decode cX8_isPerson 9 = .ok (.if_icmp .ge 7, 3) := by decide +kernel
theorem dX8_isPerson_12 : decode cX8_isPerson 12 = .ok (.iconst 1, 1) := by decide +kernel
theorem dX8_isPerson_13 : decode cX8_isPerson 13 = .ok (.goto 4, 3) := by decide +kernel
theorem dX8_isPerson_16 : decode cX8_isPerson 16 = .ok (.iconst 0, 1) := by decide +kernel
theorem dX8_isPerson_17 : decode cX8_isPerson 17 = .ok (.ireturn, 1) := by decide +kernel
theorem dX8_isDay_0 : decode cX8_isDay 0 = .ok (.iload_n 0, 1) := by decide +kernel
theorem dX8_isDay_1 : decode cX8_isDay 1 = .ok (.ifCond .lt 14, 3) := by decide +kernel
theorem dX8_isDay_4 : decode cX8_isDay 4 = .ok (.iload_n 0, 1) := by decide +kernel
theorem dX8_isDay_5 : decode cX8_isDay 5 = .ok (.sipush 3600, 3) := by decide +kernel
theorem dX8_isDay_8 : decode cX8_isDay 8 = .ok (.if_icmp .ge 7, 3) := by decide +kernel
theorem dX8_isDay_11 : decode cX8_isDay 11 = .ok (.iconst 1, 1) := by decide +kernel
theorem dX8_isDay_12 : decode cX8_isDay 12 = .ok (.goto 4, 3) := by decide +kernel
theorem dX8_isDay_15 : decode cX8_isDay 15 = .ok (.iconst 0, 1) := by decide +kernel
theorem dX8_isDay_16 : decode cX8_isDay 16 = .ok (.ireturn, 1) := by decide +kernel
theorem dX8_isMonth_0 : decode cX8_isMonth 0 = .ok (.iload_n 0, 1) := by decide +kernel
theorem dX8_isMonth_1 : decode cX8_isMonth 1 = .ok (.ifCond .lt 13, 3) := by decide +kernel
theorem dX8_isMonth_4 : decode cX8_isMonth 4 = .ok (.iload_n 0, 1) := by decide +kernel
theorem dX8_isMonth_5 : decode cX8_isMonth 5 = .ok (.bipush 120, 2) := by decide +kernel
theorem dX8_isMonth_7 : decode cX8_isMonth 7 = .ok (.if_icmp .ge 7, 3) := by decide +kernel
theorem dX8_isMonth_10 : decode cX8_isMonth 10 = .ok (.iconst 1, 1) := by decide +kernel
theorem dX8_isMonth_11 : decode cX8_isMonth 11 = .ok (.goto 4, 3) := by decide +kernel
theorem dX8_isMonth_14 : decode cX8_isMonth 14 = .ok (.iconst 0, 1) := by decide +kernel
theorem dX8_isMonth_15 : decode cX8_isMonth 15 = .ok (.ireturn, 1) := by decide +kernel
theorem dX8_comes_0 : decode cX8_comes 0 = .ok (.aload_n 0, 1) := by decide +kernel
theorem dX8_comes_1 : decode cX8_comes 1 = .ok (.getfield 106, 3) := by decide +kernel
theorem dX8_comes_4 : decode cX8_comes 4 = .ok (.sipush 400, 3) := by decide +kernel
theorem dX8_comes_7 : decode cX8_comes 7 = .ok (.if_icmp .ne 6, 3) := by decide +kernel
theorem dX8_comes_10 : decode cX8_comes 10 = .ok (.bipush 7, 2) := by decide +kernel
theorem dX8_comes_12 : decode cX8_comes 12 = .ok (.ireturn, 1) := by decide +kernel
theorem dX8_comes_13 : decode cX8_comes 13 = .ok (.bipush 8, 2) := by decide +kernel
theorem dX8_comes_15 : decode cX8_comes 15 = .ok (.aload_n 0, 1) := by decide +kernel
theorem dX8_comes_16 : decode cX8_comes 16 = .ok (.getfield 106, 3) := by decide +kernel
theorem dX8_comes_19 : decode cX8_comes 19 = .ok (.imul, 1) := by decide +kernel
theorem dX8_comes_20 : decode cX8_comes 20 = .ok (.istore 8, 2) := by decide +kernel
theorem dX8_comes_22 : decode cX8_comes 22 = .ok (.aload_n 0, 1) := by decide +kernel
theorem dX8_comes_23 : decode cX8_comes 23 = .ok (.getfield 13, 3) := by decide +kernel
theorem dX8_comes_26 : decode cX8_comes 26 = .ok (.iload 8, 2) := by decide +kernel
theorem dX8_comes_28 : decode cX8_comes 28 = .ok (.aload_n 0, 1) := by decide +kernel
theorem dX8_comes_29 : decode cX8_comes 29 = .ok (.getfield 97, 3) := by decide +kernel
theorem dX8_comes_32 : decode cX8_comes 32 = .ok (.iastore, 1) := by decide +kernel
theorem dX8_comes_33 : decode cX8_comes 33 = .ok (.aload_n 0, 1) := by decide +kernel
theorem dX8_comes_34 : decode cX8_comes 34 = .ok (.getfield 13, 3) := by decide +kernel
theorem dX8_comes_37 : decode cX8_comes 37 = .ok (.iload 8, 2) := by decide +kernel
theorem dX8_comes_39 : decode cX8_comes 39 = .ok (.iconst 1, 1) := by decide +kernel
theorem dX8_comes_40 : decode cX8_comes 40 = .ok (.iadd, 1) := by decide +kernel
theorem dX8_comes_41 : decode cX8_comes 41 = .ok (.iload_n 1, 1) := by decide +kernel
theorem dX8_comes_42 : decode cX8_comes 42 = .ok (.iastore, 1) := by decide +kernel
theorem dX8_comes_43 : decode cX8_comes 43 = .ok (.aload_n 0, 1) := by decide +kernel
theorem dX8_comes_44 : decode cX8_comes 44 = .ok (.getfield 13, 3) := by decide +kernel
theorem dX8_comes_47 : decode cX8_comes 47 = .ok (.iload 8, 2) := by decide +kernel
theorem dX8_comes_49 : decode cX8_comes 49 = .ok (.iconst 2, 1) := by decide +kernel
theorem dX8_comes_50 : decode cX8_comes 50 = .ok (.iadd, 1) := by decide +kernel
theorem dX8_comes_51 : decode cX8_comes 51 = .ok (.iload_n 2, 1) := by decide +kernel
theorem dX8_comes_52 : decode cX8_comes 52 = .ok (.iastore, 1) := by decide +kernel
theorem dX8_comes_53 : decode cX8_comes 53 = .ok (.aload_n 0, 1) := by decide +kernel
theorem dX8_comes_54 : decode cX8_comes 54 = .ok (.getfield 13, 3) := by decide +kernel
theorem dX8_comes_57 : decode cX8_comes 57 = .ok (.iload 8, 2) := by decide +kernel
theorem dX8_comes_59 : decode cX8_comes 59 = .ok (.iconst 3, 1) := by decide +kernel
theorem dX8_comes_60 : decode cX8_comes 60 = .ok (.iadd, 1) := by decide +kernel
theorem dX8_comes_61 : decode cX8_comes 61 = .ok (.iload_n 3, 1) := by decide +kernel
theorem dX8_comes_62 : decode cX8_comes 62 = .ok (.iastore, 1) := by decide +kernel
theorem dX8_comes_63 : decode cX8_comes 63 = .ok (.aload_n 0, 1) := by decide +kernel
theorem dX8_comes_64 : decode cX8_comes 64 = .ok (.getfield 13, 3) := by decide +kernel
theorem dX8_comes_67 : decode cX8_comes 67 = .ok (.iload 8, 2) := by decide +kernel
theorem dX8_comes_69 : decode cX8_comes 69 = .ok (.iconst 4, 1) := by decide +kernel
theorem dX8_comes_70 : decode cX8_comes 70 = .ok (.iadd, 1) := by decide +kernel
theorem dX8_comes_71 : decode cX8_comes 71 = .ok (.iload 4, 2) := by decide +kernel
theorem dX8_comes_73 : decode cX8_comes 73 = .ok (.iastore, 1) := by decide +kernel
theorem dX8_comes_74 : decode cX8_comes 74 = .ok (.aload_n 0, 1) := by decide +kernel
theorem dX8_comes_75 : decode cX8_comes 75 = .ok (.getfield 13, 3) := by decide +kernel
theorem dX8_comes_78 : decode cX8_comes 78 = .ok (.iload 8, 2) := by decide +kernel
theorem dX8_comes_80 : decode cX8_comes 80 = .ok (.iconst 5, 1) := by decide +kernel
theorem dX8_comes_81 : decode cX8_comes 81 = .ok (.iadd, 1) := by decide +kernel
theorem dX8_comes_82 : decode cX8_comes 82 = .ok (.iload 5, 2) := by decide +kernel
theorem dX8_comes_84 : decode cX8_comes 84 = .ok (.iastore, 1) := by decide +kernel
theorem dX8_comes_85 : decode cX8_comes 85 = .ok (.aload_n 0, 1) := by decide +kernel
theorem dX8_comes_86 : decode cX8_comes 86 = .ok (.getfield 13, 3) := by decide +kernel
theorem dX8_comes_89 : decode cX8_comes 89 = .ok (.iload 8, 2) := by decide +kernel
theorem dX8_comes_91 : decode cX8_comes 91 = .ok (.bipush 6, 2) := by decide +kernel
theorem dX8_comes_93 : decode cX8_comes 93 = .ok (.iadd, 1) := by decide +kernel
theorem dX8_comes_94 : decode cX8_comes 94 = .ok (.iload 6, 2) := by decide +kernel
theorem dX8_comes_96 : decode cX8_comes 96 = .ok (.iastore, 1) := by decide +kernel
theorem dX8_comes_97 : decode cX8_comes 97 = .ok (.aload_n 0, 1) := by decide +kernel
theorem dX8_comes_98 : decode cX8_comes 98 = .ok (.getfield 13, 3) := by decide +kernel
theorem dX8_comes_101 : decode cX8_comes 101 = .ok (.iload 8, 2) := by decide +kernel
theorem dX8_comes_103 : decode cX8_comes 103 = .ok (.bipush 7, 2) := by decide +kernel
theorem dX8_comes_105 : decode cX8_comes 105 = .ok (.iadd, 1) := by decide +kernel
theorem dX8_comes_106 : decode cX8_comes 106 = .ok (.iload 7, 2) := by decide +kernel
theorem dX8_comes_108 : decode cX8_comes 108 = .ok (.iastore, 1) := by decide +kernel
theorem dX8_comes_109 : decode cX8_comes 109 = .ok (.aload_n 0, 1) := by decide +kernel
theorem dX8_comes_110 : decode cX8_comes 110 = .ok (.dup, 1) := by decide +kernel
theorem dX8_comes_111 : decode cX8_comes 111 = .ok (.getfield 106, 3) := by decide +kernel
theorem dX8_comes_114 : decode cX8_comes 114 = .ok (.iconst 1, 1) := by decide +kernel
theorem dX8_comes_115 : decode cX8_comes 115 = .ok (.iadd, 1) := by decide +kernel
theorem dX8_comes_116 : decode cX8_comes 116 = .ok (.putfield 106, 3) := by decide +kernel
theorem dX8_comes_119 : decode cX8_comes 119 = .ok (.iconst 0, 1) := by decide +kernel
theorem dX8_comes_120 : decode cX8_comes 120 = .ok (.ireturn, 1) := by decide +kernel
theorem dX8_room_0 : decode cX8_room 0 = .ok (.aload_n 0, 1) := by decide +kernel
theorem dX8_room_1 : decode cX8_room 1 = .ok (.iload_n 1, 1) := by decide +kernel
theorem dX8_room_2 : decode cX8_room 2 = .ok (.invokevirtual 150, 3) := by decide +kernel
theorem dX8_room_5 : decode cX8_room 5 = .ok (.ifCond .eq 10, 3) := by decide +kernel
theorem dX8_room_8 : decode cX8_room 8 = .ok (.iload_n 2, 1) := by decide +kernel
theorem dX8_room_9 : decode cX8_room 9 = .ok (.invokestatic 153, 3) := by decide +kernel
theorem dX8_room_12 : decode cX8_room 12 = .ok (.ifCond .ne 5, 3) := by decide +kernel
theorem dX8_room_15 : decode cX8_room 15 = .ok (.iconst 1, 1) := by decide +kernel
theorem dX8_room_16 : decode cX8_room 16 = .ok (.ireturn, 1) := by decide +kernel
theorem dX8_room_17 : decode cX8_room 17 = .ok (.aload_n 0, 1) := by decide +kernel
theorem dX8_room_18 : decode cX8_room 18 = .ok (.iload_n 1, 1) := by decide +kernel
theorem dX8_room_19 : decode cX8_room 19 = .ok (.aload_n 0, 1) := by decide +kernel
theorem dX8_room_20 : decode cX8_room 20 = .ok (.getfield 97, 3) := by decide +kernel
theorem dX8_room_23 : decode cX8_room 23 = .ok (.invokevirtual 140, 3) := by decide +kernel
theorem dX8_room_26 : decode cX8_room 26 = .ok (.aload_n 0, 1) := by decide +kernel
theorem dX8_room_27 : decode cX8_room 27 = .ok (.getfield 20, 3) := by decide +kernel
theorem dX8_room_30 : decode cX8_room 30 = .ok (.iload_n 2, 1) := by decide +kernel
theorem dX8_room_31 : decode cX8_room 31 = .ok (.iaload, 1) := by decide +kernel
theorem dX8_room_32 : decode cX8_room 32 = .ok (.ifCond .eq 7, 3) := by decide +kernel
theorem dX8_room_35 : decode cX8_room 35 = .ok (.iconst 2, 1) := by decide +kernel
theorem dX8_room_36 : decode cX8_room 36 = .ok (.goto 4, 3) := by decide +kernel
theorem dX8_room_39 : decode cX8_room 39 = .ok (.iconst 0, 1) := by decide +kernel
theorem dX8_room_40 : decode cX8_room 40 = .ok (.ireturn, 1) := by decide +kernel
theorem dX8_letter_0 : decode cX8_letter 0 = .ok (.aload_n 0, 1) := by decide +kernel
theorem dX8_letter_1 : decode cX8_letter 1 = .ok (.iload_n 1, 1) := by decide +kernel
theorem dX8_letter_2 : decode cX8_letter 2 = .ok (.iload_n 2, 1) := by decide +kernel
theorem dX8_letter_3 : decode cX8_letter 3 = .ok (.invokevirtual 156, 3) := by decide +kernel
theorem dX8_letter_6 : decode cX8_letter 6 = .ok (.istore_n 3, 1) := by decide +kernel
theorem dX8_letter_7 : decode cX8_letter 7 = .ok (.iload_n 3, 1) := by decide +kernel
theorem dX8_letter_8 : decode cX8_letter 8 = .ok (.ifCond .le 7, 3) := by decide +kernel
theorem dX8_letter_11 : decode cX8_letter 11 = .ok (.iload_n 3, 1) := by decide +kernel
theorem dX8_letter_12 : decode cX8_letter 12 = .ok (.goto 14, 3) := by decide +kernel
theorem dX8_letter_15 : decode cX8_letter 15 = .ok (.aload_n 0, 1) := by decide +kernel
theorem dX8_letter_16 : decode cX8_letter 16 = .ok (.iconst 0, 1) := by decide +kernel
theorem dX8_letter_17 : decode cX8_letter 17 = .ok (.iload_n 1, 1) := by decide +kernel
theorem dX8_letter_18 : decode cX8_letter 18 = .ok (.iload_n 2, 1) := by decide +kernel
theorem dX8_letter_19 : decode cX8_letter 19 = .ok (.iconst 0, 1) := by decide +kernel
theorem dX8_letter_20 : decode cX8_letter 20 = .ok (.iconst 0, 1) := by decide +kernel
theorem dX8_letter_21 : decode cX8_letter 21 = .ok (.iconst 0, 1) := by decide +kernel
theorem dX8_letter_22 : decode cX8_letter 22 = .ok (.iconst 0, 1) := by decide +kernel
theorem dX8_letter_23 : decode cX8_letter 23 = .ok (.invokevirtual 159, 3) := by decide +kernel
theorem dX8_letter_26 : decode cX8_letter 26 = .ok (.ireturn, 1) := by decide +kernel
theorem dX8_isTerm_0 : decode cX8_isTerm 0 = .ok (.iload_n 0, 1) := by decide +kernel
theorem dX8_isTerm_1 : decode cX8_isTerm 1 = .ok (.invokestatic 163, 3) := by decide +kernel
theorem dX8_isTerm_4 : decode cX8_isTerm 4 = .ok (.ifCond .eq 19, 3) := by decide +kernel
theorem dX8_isTerm_7 : decode cX8_isTerm 7 = .ok (.iload_n 1, 1) := by decide +kernel
theorem dX8_isTerm_8 : decode cX8_isTerm 8 = .ok (.iconst 1, 1) := by decide +kernel
theorem dX8_isTerm_9 : decode cX8_isTerm 9 = .ok (.if_icmp .lt 14, 3) := by decide +kernel
theorem dX8_isTerm_12 : decode cX8_isTerm 12 = .ok (.iload_n 1, 1) := by decide +kernel
theorem dX8_isTerm_13 : decode cX8_isTerm 13 = .ok (.sipush 3600, 3) := by decide +kernel
theorem dX8_isTerm_16 : decode cX8_isTerm 16 = .ok (.if_icmp .gt 7, 3) := by decide +kernel
theorem dX8_isTerm_19 : decode cX8_isTerm 19 = .ok (.iconst 1, 1) := by decide +kernel
theorem dX8_isTerm_20 : decode cX8_isTerm 20 = .ok (.goto 4, 3) := by decide +kernel
theorem dX8_isTerm_23 : decode cX8_isTerm 23 = .ok (.iconst 0, 1) := by decide +kernel
theorem dX8_isTerm_24 : decode cX8_isTerm 24 = .ok (.ireturn, 1) := by decide +kernel
theorem dX8_term_0 : decode cX8_term 0 = .ok (.aload_n 0, 1) := by decide +kernel
theorem dX8_term_1 : decode cX8_term 1 = .ok (.iload_n 1, 1) := by decide +kernel
theorem dX8_term_2 : decode cX8_term 2 = .ok (.iload_n 2, 1) := by decide +kernel
theorem dX8_term_3 : decode cX8_term 3 = .ok (.invokevirtual 156, 3) := by decide +kernel
theorem dX8_term_6 : decode cX8_term 6 = .ok (.istore 5, 2) := by decide +kernel
theorem dX8_term_8 : decode cX8_term 8 = .ok (.iload 5, 2) := by decide +kernel
theorem dX8_term_10 : decode cX8_term 10 = .ok (.ifCond .le 6, 3) := by decide +kernel
theorem dX8_term_13 : decode cX8_term 13 = .ok (.iload 5, 2) := by decide +kernel
theorem dX8_term_15 : decode cX8_term 15 = .ok (.ireturn, 1) := by decide +kernel
theorem dX8_term_16 : decode cX8_term 16 = .ok (.iload_n 3, 1) := by decide +kernel
theorem dX8_term_17 : decode cX8_term 17 = .ok (.iload 4, 2) := by decide +kernel
theorem dX8_term_19 : decode cX8_term 19 = .ok (.invokestatic 166, 3) := by decide +kernel
theorem dX8_term_22 : decode cX8_term 22 = .ok (.ifCond .eq 18, 3) := by decide +kernel
theorem dX8_term_25 : decode cX8_term 25 = .ok (.aload_n 0, 1) := by decide +kernel
theorem dX8_term_26 : decode cX8_term 26 = .ok (.iconst 1, 1) := by decide +kernel
theorem dX8_term_27 : decode cX8_term 27 = .ok (.iload_n 1, 1) := by decide +kernel
theorem dX8_term_28 : decode cX8_term 28 = .ok (.iload_n 2, 1) := by decide +kernel
theorem dX8_term_29 : decode cX8_term 29 = .ok (.iload_n 3, 1) := by decide +kernel
theorem dX8_term_30 : decode cX8_term 30 = .ok (.iload 4, 2) := by decide +kernel
theorem dX8_term_32 : decode cX8_term 32 = .ok (.iconst 0, 1) := by decide +kernel
theorem dX8_term_33 : decode cX8_term 33 = .ok (.iconst 0, 1) := by decide +kernel
theorem dX8_term_34 : decode cX8_term 34 = .ok (.invokevirtual 159, 3) := by decide +kernel
theorem dX8_term_37 : decode cX8_term 37 = .ok (.goto 4, 3) := by decide +kernel
theorem dX8_term_40 : decode cX8_term 40 = .ok (.iconst 3, 1) := by decide +kernel
theorem dX8_term_41 : decode cX8_term 41 = .ok (.ireturn, 1) := by decide +kernel
theorem dX8_names_0 : decode cX8_names 0 = .ok (.aload_n 0, 1) := by decide +kernel
theorem dX8_names_1 : decode cX8_names 1 = .ok (.getfield 20, 3) := by decide +kernel
theorem dX8_names_4 : decode cX8_names 4 = .ok (.iload_n 1, 1) := by decide +kernel
theorem dX8_names_5 : decode cX8_names 5 = .ok (.iaload, 1) := by decide +kernel
theorem dX8_names_6 : decode cX8_names 6 = .ok (.iconst 2, 1) := by decide +kernel
theorem dX8_names_7 : decode cX8_names 7 = .ok (.if_icmp .eq 37, 3) := by decide +kernel
theorem dX8_names_10 : decode cX8_names 10 = .ok (.aload_n 0, 1) := by decide +kernel
theorem dX8_names_11 : decode cX8_names 11 = .ok (.iload_n 1, 1) := by decide +kernel
theorem dX8_names_12 : decode cX8_names 12 = .ok (.invokevirtual 117, 3) := by decide +kernel
theorem dX8_names_15 : decode cX8_names 15 = .ok (.ifCond .eq 29, 3) := by decide +kernel
theorem dX8_names_18 : decode cX8_names 18 = .ok (.aload_n 0, 1) := by decide +kernel
theorem dX8_names_19 : decode cX8_names 19 = .ok (.iload_n 2, 1) := by decide +kernel
theorem dX8_names_20 : decode cX8_names 20 = .ok (.invokevirtual 117, 3) := by decide +kernel
theorem dX8_names_23 : decode cX8_names 23 = .ok (.ifCond .eq 21, 3) := by decide +kernel
theorem dX8_names_26 : decode cX8_names 26 = .ok (.aload_n 0, 1) := by decide +kernel
theorem dX8_names_27 : decode cX8_names 27 = .ok (.getfield 32, 3) := by decide +kernel
theorem dX8_names_30 : decode cX8_names 30 = .ok (.iload_n 1, 1) := by decide +kernel
theorem dX8_names_31 : decode cX8_names 31 = .ok (.iaload, 1) := by decide +kernel
theorem dX8_names_32 : decode cX8_names 32 = .ok (.iload_n 2, 1) := by decide +kernel
theorem dX8_names_33 : decode cX8_names 33 = .ok (.ishr, 1) := by decide +kernel
theorem dX8_names_34 : decode cX8_names 34 = .ok (.iconst 1, 1) := by decide +kernel
theorem dX8_names_35 : decode cX8_names 35 = .ok (.iand, 1) := by decide +kernel
theorem dX8_names_36 : decode cX8_names 36 = .ok (.iconst 1, 1) := by decide +kernel
theorem dX8_names_37 : decode cX8_names 37 = .ok (.if_icmp .ne 7, 3) := by decide +kernel
theorem dX8_names_40 : decode cX8_names 40 = .ok (.iconst 1, 1) := by decide +kernel
theorem dX8_names_41 : decode cX8_names 41 = .ok (.goto 4, 3) := by decide +kernel
theorem dX8_names_44 : decode cX8_names 44 = .ok (.iconst 0, 1) := by decide +kernel
theorem dX8_names_45 : decode cX8_names 45 = .ok (.ireturn, 1) := by decide +kernel
theorem dX8_isRing_0 : decode cX8_isRing 0 = .ok (.aload_n 0, 1) := by decide +kernel
theorem dX8_isRing_1 : decode cX8_isRing 1 = .ok (.iconst 0, 1) := by decide +kernel
theorem dX8_isRing_2 : decode cX8_isRing 2 = .ok (.putfield 170, 3) := by decide +kernel
theorem dX8_isRing_5 : decode cX8_isRing 5 = .ok (.iconst 1, 1) := by decide +kernel
theorem dX8_isRing_6 : decode cX8_isRing 6 = .ok (.istore_n 2, 1) := by decide +kernel
theorem dX8_isRing_7 : decode cX8_isRing 7 = .ok (.aload_n 0, 1) := by decide +kernel
theorem dX8_isRing_8 : decode cX8_isRing 8 = .ok (.getfield 79, 3) := by decide +kernel
theorem dX8_isRing_11 : decode cX8_isRing 11 = .ok (.iconst 0, 1) := by decide +kernel
theorem dX8_isRing_12 : decode cX8_isRing 12 = .ok (.iload_n 1, 1) := by decide +kernel
theorem dX8_isRing_13 : decode cX8_isRing 13 = .ok (.iastore, 1) := by decide +kernel
theorem dX8_isRing_14 : decode cX8_isRing 14 = .ok (.aload_n 0, 1) := by decide +kernel
theorem dX8_isRing_15 : decode cX8_isRing 15 = .ok (.getfield 82, 3) := by decide +kernel
theorem dX8_isRing_18 : decode cX8_isRing 18 = .ok (.iconst 0, 1) := by decide +kernel
theorem dX8_isRing_19 : decode cX8_isRing 19 = .ok (.iconst 0, 1) := by decide +kernel
theorem dX8_isRing_20 : decode cX8_isRing 20 = .ok (.iastore, 1) := by decide +kernel
theorem dX8_isRing_21 : decode cX8_isRing 21 = .ok (.iload_n 2, 1) := by decide +kernel
theorem dX8_isRing_22 : decode cX8_isRing 22 = .ok (.ifCond .le 145, 3) := by decide +kernel
theorem dX8_isRing_25 : decode cX8_isRing 25 = .ok (.aload_n 0, 1) := by decide +kernel
theorem dX8_isRing_26 : decode cX8_isRing 26 = .ok (.getfield 79, 3) := by decide +kernel
theorem dX8_isRing_29 : decode cX8_isRing 29 = .ok (.iload_n 2, 1) := by decide +kernel
theorem dX8_isRing_30 : decode cX8_isRing 30 = .ok (.iconst 1, 1) := by decide +kernel
theorem dX8_isRing_31 : decode cX8_isRing 31 = .ok (.isub, 1) := by decide +kernel
theorem dX8_isRing_32 : decode cX8_isRing 32 = .ok (.iaload, 1) := by decide +kernel
theorem dX8_isRing_33 : decode cX8_isRing 33 = .ok (.istore_n 3, 1) := by decide +kernel
theorem dX8_isRing_34 : decode cX8_isRing 34 = .ok (.aload_n 0, 1) := by decide +kernel
theorem dX8_isRing_35 : decode cX8_isRing 35 = .ok (.getfield 82, 3) := by decide +kernel
theorem dX8_isRing_38 : decode cX8_isRing 38 = .ok (.iload_n 2, 1) := by decide +kernel
theorem dX8_isRing_39 : decode cX8_isRing 39 = .ok (.iconst 1, 1) := by decide +kernel
theorem dX8_isRing_40 : decode cX8_isRing 40 = .ok (.isub, 1) := by decide +kernel
theorem dX8_isRing_41 : decode cX8_isRing 41 = .ok (.iaload, 1) := by decide +kernel
theorem dX8_isRing_42 : decode cX8_isRing 42 = .ok (.istore 4, 2) := by decide +kernel
theorem dX8_isRing_44 : decode cX8_isRing 44 = .ok (.aload_n 0, 1) := by decide +kernel
theorem dX8_isRing_45 : decode cX8_isRing 45 = .ok (.getfield 82, 3) := by decide +kernel
theorem dX8_isRing_48 : decode cX8_isRing 48 = .ok (.iload_n 2, 1) := by decide +kernel
theorem dX8_isRing_49 : decode cX8_isRing 49 = .ok (.iconst 1, 1) := by decide +kernel
theorem dX8_isRing_50 : decode cX8_isRing 50 = .ok (.isub, 1) := by decide +kernel
theorem dX8_isRing_51 : decode cX8_isRing 51 = .ok (.dup2, 1) := by decide +kernel
theorem dX8_isRing_52 : decode cX8_isRing 52 = .ok (.iaload, 1) := by decide +kernel
theorem dX8_isRing_53 : decode cX8_isRing 53 = .ok (.iconst 1, 1) := by decide +kernel
theorem dX8_isRing_54 : decode cX8_isRing 54 = .ok (.iadd, 1) := by decide +kernel
theorem dX8_isRing_55 : decode cX8_isRing 55 = .ok (.iastore, 1) := by decide +kernel
theorem dX8_isRing_56 : decode cX8_isRing 56 = .ok (.iload 4, 2) := by decide +kernel
theorem dX8_isRing_58 : decode cX8_isRing 58 = .ok (.bipush 12, 2) := by decide +kernel
theorem dX8_isRing_60 : decode cX8_isRing 60 = .ok (.if_icmp .lt 9, 3) := by decide +kernel
theorem dX8_isRing_63 : decode cX8_isRing 63 = .ok (.iinc 2 (-1), 3) := by decide +kernel
theorem dX8_isRing_66 : decode cX8_isRing 66 = .ok (.goto (-45), 3) := by decide +kernel
theorem dX8_isRing_69 : decode cX8_isRing 69 = .ok (.aload_n 0, 1) := by decide +kernel
theorem dX8_isRing_70 : decode cX8_isRing 70 = .ok (.iload_n 3, 1) := by decide +kernel
theorem dX8_isRing_71 : decode cX8_isRing 71 = .ok (.iload 4, 2) := by decide +kernel
theorem dX8_isRing_73 : decode cX8_isRing 73 = .ok (.invokevirtual 173, 3) := by decide +kernel
theorem dX8_isRing_76 : decode cX8_isRing 76 = .ok (.ifCond .ne 6, 3) := by decide +kernel
theorem dX8_isRing_79 : decode cX8_isRing 79 = .ok (.goto (-58), 3) := by decide +kernel
theorem dX8_isRing_82 : decode cX8_isRing 82 = .ok (.iload 4, 2) := by decide +kernel
theorem dX8_isRing_84 : decode cX8_isRing 84 = .ok (.iload_n 1, 1) := by decide +kernel
theorem dX8_isRing_85 : decode cX8_isRing 85 = .ok (.if_icmp .ne 11, 3) := by decide +kernel
theorem dX8_isRing_88 : decode cX8_isRing 88 = .ok (.aload_n 0, 1) := by decide +kernel
theorem dX8_isRing_89 : decode cX8_isRing 89 = .ok (.iload_n 2, 1) := by decide +kernel
theorem dX8_isRing_90 : decode cX8_isRing 90 = .ok (.invokevirtual 176, 3) := by decide +kernel
theorem dX8_isRing_93 : decode cX8_isRing 93 = .ok (.goto (-72), 3) := by decide +kernel
theorem dX8_isRing_96 : decode cX8_isRing 96 = .ok (.iconst 0, 1) := by decide +kernel
theorem dX8_isRing_97 : decode cX8_isRing 97 = .ok (.istore 5, 2) := by decide +kernel
theorem dX8_isRing_99 : decode cX8_isRing 99 = .ok (.iconst 0, 1) := by decide +kernel
theorem dX8_isRing_100 : decode cX8_isRing 100 = .ok (.istore 6, 2) := by decide +kernel
theorem dX8_isRing_102 : decode cX8_isRing 102 = .ok (.iload 6, 2) := by decide +kernel
theorem dX8_isRing_104 : decode cX8_isRing 104 = .ok (.iload_n 2, 1) := by decide +kernel
theorem dX8_isRing_105 : decode cX8_isRing 105 = .ok (.if_icmp .ge 33, 3) := by decide +kernel
theorem dX8_isRing_108 : decode cX8_isRing 108 = .ok (.iload 5, 2) := by decide +kernel
theorem dX8_isRing_110 : decode cX8_isRing 110 = .ok (.ifCond .ne 15, 3) := by decide +kernel
theorem dX8_isRing_113 : decode cX8_isRing 113 = .ok (.aload_n 0, 1) := by decide +kernel
theorem dX8_isRing_114 : decode cX8_isRing 114 = .ok (.getfield 79, 3) := by decide +kernel
theorem dX8_isRing_117 : decode cX8_isRing 117 = .ok (.iload 6, 2) := by decide +kernel
theorem dX8_isRing_119 : decode cX8_isRing 119 = .ok (.iaload, 1) := by decide +kernel
theorem dX8_isRing_120 : decode cX8_isRing 120 = .ok (.iload 4, 2) := by decide +kernel
theorem dX8_isRing_122 : decode cX8_isRing 122 = .ok (.if_icmp .ne 7, 3) := by decide +kernel
theorem dX8_isRing_125 : decode cX8_isRing 125 = .ok (.iconst 1, 1) := by decide +kernel
theorem dX8_isRing_126 : decode cX8_isRing 126 = .ok (.goto 4, 3) := by decide +kernel
theorem dX8_isRing_129 : decode cX8_isRing 129 = .ok (.iconst 0, 1) := by decide +kernel
theorem dX8_isRing_130 : decode cX8_isRing 130 = .ok (.istore 5, 2) := by decide +kernel
theorem dX8_isRing_132 : decode cX8_isRing 132 = .ok (.iinc 6 1, 3) := by decide +kernel
theorem dX8_isRing_135 : decode cX8_isRing 135 = .ok (.goto (-33), 3) := by decide +kernel
theorem dX8_isRing_138 : decode cX8_isRing 138 = .ok (.iload 5, 2) := by decide +kernel
theorem dX8_isRing_140 : decode cX8_isRing 140 = .ok (.ifCond .eq 6, 3) := by decide +kernel
theorem dX8_isRing_143 : decode cX8_isRing 143 = .ok (.goto (-122), 3) := by decide +kernel
theorem dX8_isRing_146 : decode cX8_isRing 146 = .ok (.aload_n 0, 1) := by decide +kernel
theorem dX8_isRing_147 : decode cX8_isRing 147 = .ok (.getfield 79, 3) := by decide +kernel
theorem dX8_isRing_150 : decode cX8_isRing 150 = .ok (.iload_n 2, 1) := by decide +kernel
theorem dX8_isRing_151 : decode cX8_isRing 151 = .ok (.iload 4, 2) := by decide +kernel
theorem dX8_isRing_153 : decode cX8_isRing 153 = .ok (.iastore, 1) := by decide +kernel
theorem dX8_isRing_154 : decode cX8_isRing 154 = .ok (.aload_n 0, 1) := by decide +kernel
theorem dX8_isRing_155 : decode cX8_isRing 155 = .ok (.getfield 82, 3) := by decide +kernel
theorem dX8_isRing_158 : decode cX8_isRing 158 = .ok (.iload_n 2, 1) := by decide +kernel
theorem dX8_isRing_159 : decode cX8_isRing 159 = .ok (.iconst 0, 1) := by decide +kernel
theorem dX8_isRing_160 : decode cX8_isRing 160 = .ok (.iastore, 1) := by decide +kernel
theorem dX8_isRing_161 : decode cX8_isRing 161 = .ok (.iinc 2 1, 3) := by decide +kernel
theorem dX8_isRing_164 : decode cX8_isRing 164 = .ok (.goto (-143), 3) := by decide +kernel
theorem dX8_isRing_167 : decode cX8_isRing 167 = .ok (.aload_n 0, 1) := by decide +kernel
theorem dX8_isRing_168 : decode cX8_isRing 168 = .ok (.getfield 170, 3) := by decide +kernel
theorem dX8_isRing_171 : decode cX8_isRing 171 = .ok (.ifCond .le 7, 3) := by decide +kernel
theorem dX8_isRing_174 : decode cX8_isRing 174 = .ok (.iconst 1, 1) := by decide +kernel
theorem dX8_isRing_175 : decode cX8_isRing 175 = .ok (.goto 4, 3) := by decide +kernel
theorem dX8_isRing_178 : decode cX8_isRing 178 = .ok (.iconst 0, 1) := by decide +kernel
theorem dX8_isRing_179 : decode cX8_isRing 179 = .ok (.ireturn, 1) := by decide +kernel
theorem dX8_isBetter_0 : decode cX8_isBetter 0 = .ok (.iconst 0, 1) := by decide +kernel
theorem dX8_isBetter_1 : decode cX8_isBetter 1 = .ok (.istore_n 2, 1) := by decide +kernel
theorem dX8_isBetter_2 : decode cX8_isBetter 2 = .ok (.iconst 1, 1) := by decide +kernel
theorem dX8_isBetter_3 : decode cX8_isBetter 3 = .ok (.istore_n 3, 1) := by decide +kernel
theorem dX8_isBetter_4 : decode cX8_isBetter 4 = .ok (.iload_n 3, 1) := by decide +kernel
theorem dX8_isBetter_5 : decode cX8_isBetter 5 = .ok (.iload_n 1, 1) := by decide +kernel
theorem dX8_isBetter_6 : decode cX8_isBetter 6 = .ok (.if_icmp .ge 30, 3) := by decide +kernel
theorem dX8_isBetter_9 : decode cX8_isBetter 9 = .ok (.aload_n 0, 1) := by decide +kernel
theorem dX8_isBetter_10 : decode cX8_isBetter 10 = .ok (.getfield 79, 3) := by decide +kernel
theorem dX8_isBetter_13 : decode cX8_isBetter 13 = .ok (.iload_n 3, 1) := by decide +kernel
theorem dX8_isBetter_14 : decode cX8_isBetter 14 = .ok (.iaload, 1) := by decide +kernel
theorem dX8_isBetter_15 : decode cX8_isBetter 15 = .ok (.aload_n 0, 1) := by decide +kernel
theorem dX8_isBetter_16 : decode cX8_isBetter 16 = .ok (.getfield 79, 3) := by decide +kernel
theorem dX8_isBetter_19 : decode cX8_isBetter 19 = .ok (.iload_n 2, 1) := by decide +kernel
theorem dX8_isBetter_20 : decode cX8_isBetter 20 = .ok (.iaload, 1) := by decide +kernel
theorem dX8_isBetter_21 : decode cX8_isBetter 21 = .ok (.if_icmp .ge 7, 3) := by decide +kernel
theorem dX8_isBetter_24 : decode cX8_isBetter 24 = .ok (.iload_n 3, 1) := by decide +kernel
theorem dX8_isBetter_25 : decode cX8_isBetter 25 = .ok (.goto 4, 3) := by decide +kernel
theorem dX8_isBetter_28 : decode cX8_isBetter 28 = .ok (.iload_n 2, 1) := by decide +kernel
theorem dX8_isBetter_29 : decode cX8_isBetter 29 = .ok (.istore_n 2, 1) := by decide +kernel
theorem dX8_isBetter_30 : decode cX8_isBetter 30 = .ok (.iinc 3 1, 3) := by decide +kernel
theorem dX8_isBetter_33 : decode cX8_isBetter 33 = .ok (.goto (-29), 3) := by decide +kernel
theorem dX8_isBetter_36 : decode cX8_isBetter 36 = .ok (.iconst 0, 1) := by decide +kernel
theorem dX8_isBetter_37 : decode cX8_isBetter 37 = .ok (.istore_n 3, 1) := by decide +kernel
theorem dX8_isBetter_38 : decode cX8_isBetter 38 = .ok (.iload_n 3, 1) := by decide +kernel
theorem dX8_isBetter_39 : decode cX8_isBetter 39 = .ok (.iload_n 1, 1) := by decide +kernel
theorem dX8_isBetter_40 : decode cX8_isBetter 40 = .ok (.if_icmp .ge 25, 3) := by decide +kernel
theorem dX8_isBetter_43 : decode cX8_isBetter 43 = .ok (.aload_n 0, 1) := by decide +kernel
theorem dX8_isBetter_44 : decode cX8_isBetter 44 = .ok (.getfield 85, 3) := by decide +kernel
theorem dX8_isBetter_47 : decode cX8_isBetter 47 = .ok (.iload_n 3, 1) := by decide +kernel
theorem dX8_isBetter_48 : decode cX8_isBetter 48 = .ok (.aload_n 0, 1) := by decide +kernel
theorem dX8_isBetter_49 : decode cX8_isBetter 49 = .ok (.getfield 79, 3) := by decide +kernel
theorem dX8_isBetter_52 : decode cX8_isBetter 52 = .ok (.iload_n 2, 1) := by decide +kernel
theorem dX8_isBetter_53 : decode cX8_isBetter 53 = .ok (.iload_n 3, 1) := by decide +kernel
theorem dX8_isBetter_54 : decode cX8_isBetter 54 = .ok (.iadd, 1) := by decide +kernel
theorem dX8_isBetter_55 : decode cX8_isBetter 55 = .ok (.iload_n 1, 1) := by decide +kernel
theorem dX8_isBetter_56 : decode cX8_isBetter 56 = .ok (.irem, 1) := by decide +kernel
theorem dX8_isBetter_57 : decode cX8_isBetter 57 = .ok (.iaload, 1) := by decide +kernel
theorem dX8_isBetter_58 : decode cX8_isBetter 58 = .ok (.iastore, 1) := by decide +kernel
theorem dX8_isBetter_59 : decode cX8_isBetter 59 = .ok (.iinc 3 1, 3) := by decide +kernel
theorem dX8_isBetter_62 : decode cX8_isBetter 62 = .ok (.goto (-24), 3) := by decide +kernel
theorem dX8_isBetter_65 : decode cX8_isBetter 65 = .ok (.aload_n 0, 1) := by decide +kernel
theorem dX8_isBetter_66 : decode cX8_isBetter 66 = .ok (.getfield 170, 3) := by decide +kernel
theorem dX8_isBetter_69 : decode cX8_isBetter 69 = .ok (.ifCond .ne 7, 3) := by decide +kernel
theorem dX8_isBetter_72 : decode cX8_isBetter 72 = .ok (.iconst (-1), 1) := by decide +kernel
theorem dX8_isBetter_73 : decode cX8_isBetter 73 = .ok (.goto 9, 3) := by decide +kernel
theorem dX8_isBetter_76 : decode cX8_isBetter 76 = .ok (.iload_n 1, 1) := by decide +kernel
theorem dX8_isBetter_77 : decode cX8_isBetter 77 = .ok (.aload_n 0, 1) := by decide +kernel
theorem dX8_isBetter_78 : decode cX8_isBetter 78 = .ok (.getfield 170, 3) := by decide +kernel
theorem dX8_isBetter_81 : decode cX8_isBetter 81 = .ok (.isub, 1) := by decide +kernel
theorem dX8_isBetter_82 : decode cX8_isBetter 82 = .ok (.istore_n 3, 1) := by decide +kernel
theorem dX8_isBetter_83 : decode cX8_isBetter 83 = .ok (.iconst 0, 1) := by decide +kernel
theorem dX8_isBetter_84 : decode cX8_isBetter 84 = .ok (.istore 4, 2) := by decide +kernel
theorem dX8_isBetter_86 : decode cX8_isBetter 86 = .ok (.iload 4, 2) := by decide +kernel
theorem dX8_isBetter_88 : decode cX8_isBetter 88 = .ok (.iload_n 1, 1) := by decide +kernel
theorem dX8_isBetter_89 : decode cX8_isBetter 89 = .ok (.if_icmp .ge 29, 3) := by decide +kernel
theorem dX8_isBetter_92 : decode cX8_isBetter 92 = .ok (.iload_n 3, 1) := by decide +kernel
theorem dX8_isBetter_93 : decode cX8_isBetter 93 = .ok (.ifCond .ne 25, 3) := by decide +kernel
theorem dX8_isBetter_96 : decode cX8_isBetter 96 = .ok (.aload_n 0, 1) := by decide +kernel
theorem dX8_isBetter_97 : decode cX8_isBetter 97 = .ok (.getfield 85, 3) := by decide +kernel
theorem dX8_isBetter_100 : decode cX8_isBetter 100 = .ok (.iload 4, 2) := by decide +kernel
theorem dX8_isBetter_102 : decode cX8_isBetter 102 = .ok (.iaload, 1) := by decide +kernel
theorem dX8_isBetter_103 : decode cX8_isBetter 103 = .ok (.aload_n 0, 1) := by decide +kernel
theorem dX8_isBetter_104 : decode cX8_isBetter 104 = .ok (.getfield 88, 3) := by decide +kernel
theorem dX8_isBetter_107 : decode cX8_isBetter 107 = .ok (.iload 4, 2) := by decide +kernel
theorem dX8_isBetter_109 : decode cX8_isBetter 109 = .ok (.iaload, 1) := by decide +kernel
theorem dX8_isBetter_110 : decode cX8_isBetter 110 = .ok (.isub, 1) := by decide +kernel
theorem dX8_isBetter_111 : decode cX8_isBetter 111 = .ok (.istore_n 3, 1) := by decide +kernel
theorem dX8_isBetter_112 : decode cX8_isBetter 112 = .ok (.iinc 4 1, 3) := by decide +kernel
theorem dX8_isBetter_115 : decode cX8_isBetter 115 = .ok (.goto (-29), 3) := by decide +kernel
theorem dX8_isBetter_118 : decode cX8_isBetter 118 = .ok (.iload_n 3, 1) := by decide +kernel
theorem dX8_isBetter_119 : decode cX8_isBetter 119 = .ok (.ifCond .lt 4, 3) := by decide +kernel
theorem dX8_isBetter_122 : decode cX8_isBetter 122 = .ok (.return_, 1) := by decide +kernel
theorem dX8_isBetter_123 : decode cX8_isBetter 123 = .ok (.aload_n 0, 1) := by decide +kernel
theorem dX8_isBetter_124 : decode cX8_isBetter 124 = .ok (.iload_n 1, 1) := by decide +kernel
theorem dX8_isBetter_125 : decode cX8_isBetter 125 = .ok (.putfield 170, 3) := by decide +kernel
theorem dX8_isBetter_128 : decode cX8_isBetter 128 = .ok (.iconst 0, 1) := by decide +kernel
theorem dX8_isBetter_129 : decode cX8_isBetter 129 = .ok (.istore 4, 2) := by decide +kernel
theorem dX8_isBetter_131 : decode cX8_isBetter 131 = .ok (.iload 4, 2) := by decide +kernel
theorem dX8_isBetter_133 : decode cX8_isBetter 133 = .ok (.iload_n 1, 1) := by decide +kernel
theorem dX8_isBetter_134 : decode cX8_isBetter 134 = .ok (.if_icmp .ge 23, 3) := by decide +kernel
theorem dX8_isBetter_137 : decode cX8_isBetter 137 = .ok (.aload_n 0, 1) := by decide +kernel
theorem dX8_isBetter_138 : decode cX8_isBetter 138 = .ok (.getfield 88, 3) := by decide +kernel
theorem dX8_isBetter_141 : decode cX8_isBetter 141 = .ok (.iload 4, 2) := by decide +kernel
theorem dX8_isBetter_143 : decode cX8_isBetter 143 = .ok (.aload_n 0, 1) := by decide +kernel
theorem dX8_isBetter_144 : decode cX8_isBetter 144 = .ok (.getfield 85, 3) := by decide +kernel
theorem dX8_isBetter_147 : decode cX8_isBetter 147 = .ok (.iload 4, 2) := by decide +kernel
theorem dX8_isBetter_149 : decode cX8_isBetter 149 = .ok (.iaload, 1) := by decide +kernel
theorem dX8_isBetter_150 : decode cX8_isBetter 150 = .ok (.iastore, 1) := by decide +kernel
theorem dX8_isBetter_151 : decode cX8_isBetter 151 = .ok (.iinc 4 1, 3) := by decide +kernel
theorem dX8_isBetter_154 : decode cX8_isBetter 154 = .ok (.goto (-23), 3) := by decide +kernel
theorem dX8_isBetter_157 : decode cX8_isBetter 157 = .ok (.return_, 1) := by decide +kernel
theorem dX8_waits_0 : decode cX8_waits 0 = .ok (.aload_n 0, 1) := by decide +kernel
theorem dX8_waits_1 : decode cX8_waits 1 = .ok (.iload_n 1, 1) := by decide +kernel
theorem dX8_waits_2 : decode cX8_waits 2 = .ok (.iload_n 2, 1) := by decide +kernel
theorem dX8_waits_3 : decode cX8_waits 3 = .ok (.invokevirtual 156, 3) := by decide +kernel
theorem dX8_waits_6 : decode cX8_waits 6 = .ok (.istore 7, 2) := by decide +kernel
theorem dX8_waits_8 : decode cX8_waits 8 = .ok (.iload 7, 2) := by decide +kernel
theorem dX8_waits_10 : decode cX8_waits 10 = .ok (.ifCond .le 6, 3) := by decide +kernel
theorem dX8_waits_13 : decode cX8_waits 13 = .ok (.iload 7, 2) := by decide +kernel
theorem dX8_waits_15 : decode cX8_waits 15 = .ok (.ireturn, 1) := by decide +kernel
theorem dX8_waits_16 : decode cX8_waits 16 = .ok (.iload 4, 2) := by decide +kernel
theorem dX8_waits_18 : decode cX8_waits 18 = .ok (.iload 5, 2) := by decide +kernel
theorem dX8_waits_20 : decode cX8_waits 20 = .ok (.invokestatic 166, 3) := by decide +kernel
theorem dX8_waits_23 : decode cX8_waits 23 = .ok (.ifCond .eq 26, 3) := by decide +kernel
theorem dX8_waits_26 : decode cX8_waits 26 = .ok (.iload_n 3, 1) := by decide +kernel
theorem dX8_waits_27 : decode cX8_waits 27 = .ok (.iconst 3, 1) := by decide +kernel
theorem dX8_waits_28 : decode cX8_waits 28 = .ok (.if_icmp .lt 21, 3) := by decide +kernel
theorem dX8_waits_31 : decode cX8_waits 31 = .ok (.iload_n 3, 1) := by decide +kernel
theorem dX8_waits_32 : decode cX8_waits 32 = .ok (.iconst 5, 1) := by decide +kernel
theorem dX8_waits_33 : decode cX8_waits 33 = .ok (.if_icmp .gt 16, 3) := by decide +kernel
theorem dX8_waits_36 : decode cX8_waits 36 = .ok (.iload 6, 2) := by decide +kernel
theorem dX8_waits_38 : decode cX8_waits 38 = .ok (.ifCond .lt 11, 3) := by decide +kernel
theorem dX8_waits_41 : decode cX8_waits 41 = .ok (.iload 6, 2) := by decide +kernel
theorem dX8_waits_43 : decode cX8_waits 43 = .ok (.sipush 4095, 3) := by decide +kernel
theorem dX8_waits_46 : decode cX8_waits 46 = .ok (.if_icmp .le 5, 3) := by decide +kernel
theorem dX8_waits_49 : decode cX8_waits 49 = .ok (.iconst 3, 1) := by decide +kernel
theorem dX8_waits_50 : decode cX8_waits 50 = .ok (.ireturn, 1) := by decide +kernel
theorem dX8_waits_51 : decode cX8_waits 51 = .ok (.aload_n 0, 1) := by decide +kernel
theorem dX8_waits_52 : decode cX8_waits 52 = .ok (.getfield 20, 3) := by decide +kernel
theorem dX8_waits_55 : decode cX8_waits 55 = .ok (.iload_n 2, 1) := by decide +kernel
theorem dX8_waits_56 : decode cX8_waits 56 = .ok (.iload_n 3, 1) := by decide +kernel
theorem dX8_waits_57 : decode cX8_waits 57 = .ok (.iastore, 1) := by decide +kernel
theorem dX8_waits_58 : decode cX8_waits 58 = .ok (.aload_n 0, 1) := by decide +kernel
theorem dX8_waits_59 : decode cX8_waits 59 = .ok (.getfield 32, 3) := by decide +kernel
theorem dX8_waits_62 : decode cX8_waits 62 = .ok (.iload_n 2, 1) := by decide +kernel
theorem dX8_waits_63 : decode cX8_waits 63 = .ok (.iload 6, 2) := by decide +kernel
theorem dX8_waits_65 : decode cX8_waits 65 = .ok (.iastore, 1) := by decide +kernel
theorem dX8_waits_66 : decode cX8_waits 66 = .ok (.aload_n 0, 1) := by decide +kernel
theorem dX8_waits_67 : decode cX8_waits 67 = .ok (.iload_n 2, 1) := by decide +kernel
theorem dX8_waits_68 : decode cX8_waits 68 = .ok (.invokevirtual 180, 3) := by decide +kernel
theorem dX8_waits_71 : decode cX8_waits 71 = .ok (.ifCond .eq 45, 3) := by decide +kernel
theorem dX8_waits_74 : decode cX8_waits 74 = .ok (.aload_n 0, 1) := by decide +kernel
theorem dX8_waits_75 : decode cX8_waits 75 = .ok (.aload_n 0, 1) := by decide +kernel
theorem dX8_waits_76 : decode cX8_waits 76 = .ok (.getfield 170, 3) := by decide +kernel
theorem dX8_waits_79 : decode cX8_waits 79 = .ok (.putfield 183, 3) := by decide +kernel
theorem dX8_waits_82 : decode cX8_waits 82 = .ok (.iconst 0, 1) := by decide +kernel
theorem dX8_waits_83 : decode cX8_waits 83 = .ok (.istore 8, 2) := by decide +kernel
theorem dX8_waits_85 : decode cX8_waits 85 = .ok (.iload 8, 2) := by decide +kernel
theorem dX8_waits_87 : decode cX8_waits 87 = .ok (.aload_n 0, 1) := by decide +kernel
theorem dX8_waits_88 : decode cX8_waits 88 = .ok (.getfield 183, 3) := by decide +kernel
theorem dX8_waits_91 : decode cX8_waits 91 = .ok (.if_icmp .ge 23, 3) := by decide +kernel
theorem dX8_waits_94 : decode cX8_waits 94 = .ok (.aload_n 0, 1) := by decide +kernel
theorem dX8_waits_95 : decode cX8_waits 95 = .ok (.getfield 91, 3) := by decide +kernel
theorem dX8_waits_98 : decode cX8_waits 98 = .ok (.iload 8, 2) := by decide +kernel
theorem dX8_waits_100 : decode cX8_waits 100 = .ok (.aload_n 0, 1) := by decide +kernel
theorem dX8_waits_101 : decode cX8_waits 101 = .ok (.getfield 88, 3) := by decide +kernel
theorem dX8_waits_104 : decode cX8_waits 104 = .ok (.iload 8, 2) := by decide +kernel
theorem dX8_waits_106 : decode cX8_waits 106 = .ok (.iaload, 1) := by decide +kernel
theorem dX8_waits_107 : decode cX8_waits 107 = .ok (.iastore, 1) := by decide +kernel
theorem dX8_waits_108 : decode cX8_waits 108 = .ok (.iinc 8 1, 3) := by decide +kernel
theorem dX8_waits_111 : decode cX8_waits 111 = .ok (.goto (-26), 3) := by decide +kernel
theorem dX8_waits_114 : decode cX8_waits 114 = .ok (.iconst 4, 1) := by decide +kernel
theorem dX8_waits_115 : decode cX8_waits 115 = .ok (.ireturn, 1) := by decide +kernel
theorem dX8_waits_116 : decode cX8_waits 116 = .ok (.aload_n 0, 1) := by decide +kernel
theorem dX8_waits_117 : decode cX8_waits 117 = .ok (.iconst 2, 1) := by decide +kernel
theorem dX8_waits_118 : decode cX8_waits 118 = .ok (.iload_n 1, 1) := by decide +kernel
theorem dX8_waits_119 : decode cX8_waits 119 = .ok (.iload_n 2, 1) := by decide +kernel
theorem dX8_waits_120 : decode cX8_waits 120 = .ok (.iload_n 3, 1) := by decide +kernel
theorem dX8_waits_121 : decode cX8_waits 121 = .ok (.iload 4, 2) := by decide +kernel
theorem dX8_waits_123 : decode cX8_waits 123 = .ok (.iload 5, 2) := by decide +kernel
theorem dX8_waits_125 : decode cX8_waits 125 = .ok (.iload 6, 2) := by decide +kernel
theorem dX8_waits_127 : decode cX8_waits 127 = .ok (.invokevirtual 159, 3) := by decide +kernel
theorem dX8_waits_130 : decode cX8_waits 130 = .ok (.ireturn, 1) := by decide +kernel
theorem dX8_stay_0 : decode cX8_stay 0 = .ok (.aload_n 0, 1) := by decide +kernel
theorem dX8_stay_1 : decode cX8_stay 1 = .ok (.iload_n 1, 1) := by decide +kernel
theorem dX8_stay_2 : decode cX8_stay 2 = .ok (.iload_n 2, 1) := by decide +kernel
theorem dX8_stay_3 : decode cX8_stay 3 = .ok (.invokevirtual 156, 3) := by decide +kernel
theorem dX8_stay_6 : decode cX8_stay 6 = .ok (.istore 7, 2) := by decide +kernel
theorem dX8_stay_8 : decode cX8_stay 8 = .ok (.iload 7, 2) := by decide +kernel
theorem dX8_stay_10 : decode cX8_stay 10 = .ok (.ifCond .le 6, 3) := by decide +kernel
theorem dX8_stay_13 : decode cX8_stay 13 = .ok (.iload 7, 2) := by decide +kernel
theorem dX8_stay_15 : decode cX8_stay 15 = .ok (.ireturn, 1) := by decide +kernel
theorem dX8_stay_16 : decode cX8_stay 16 = .ok (.iload_n 3, 1) := by decide +kernel
theorem dX8_stay_17 : decode cX8_stay 17 = .ok (.bipush 6, 2) := by decide +kernel
theorem dX8_stay_19 : decode cX8_stay 19 = .ok (.if_icmp .eq 9, 3) := by decide +kernel
theorem dX8_stay_22 : decode cX8_stay 22 = .ok (.iload_n 3, 1) := by decide +kernel
theorem dX8_stay_23 : decode cX8_stay 23 = .ok (.bipush 7, 2) := by decide +kernel
theorem dX8_stay_25 : decode cX8_stay 25 = .ok (.if_icmp .ne 39, 3) := by decide +kernel
theorem dX8_stay_28 : decode cX8_stay 28 = .ok (.iload 6, 2) := by decide +kernel
theorem dX8_stay_30 : decode cX8_stay 30 = .ok (.ifCond .lt 34, 3) := by decide +kernel
theorem dX8_stay_33 : decode cX8_stay 33 = .ok (.iload 6, 2) := by decide +kernel
theorem dX8_stay_35 : decode cX8_stay 35 = .ok (.sipush 4095, 3) := by decide +kernel
theorem dX8_stay_38 : decode cX8_stay 38 = .ok (.if_icmp .gt 26, 3) := by decide +kernel
theorem dX8_stay_41 : decode cX8_stay 41 = .ok (.iload 4, 2) := by decide +kernel
theorem dX8_stay_43 : decode cX8_stay 43 = .ok (.invokestatic 163, 3) := by decide +kernel
theorem dX8_stay_46 : decode cX8_stay 46 = .ok (.ifCond .eq 18, 3) := by decide +kernel
theorem dX8_stay_49 : decode cX8_stay 49 = .ok (.iload 5, 2) := by decide +kernel
theorem dX8_stay_51 : decode cX8_stay 51 = .ok (.invokestatic 163, 3) := by decide +kernel
theorem dX8_stay_54 : decode cX8_stay 54 = .ok (.ifCond .eq 10, 3) := by decide +kernel
theorem dX8_stay_57 : decode cX8_stay 57 = .ok (.iload 5, 2) := by decide +kernel
theorem dX8_stay_59 : decode cX8_stay 59 = .ok (.iload 4, 2) := by decide +kernel
theorem dX8_stay_61 : decode cX8_stay 61 = .ok (.if_icmp .ge 5, 3) := by decide +kernel
theorem dX8_stay_64 : decode cX8_stay 64 = .ok (.iconst 3, 1) := by decide +kernel
theorem dX8_stay_65 : decode cX8_stay 65 = .ok (.ireturn, 1) := by decide +kernel
theorem dX8_stay_66 : decode cX8_stay 66 = .ok (.aload_n 0, 1) := by decide +kernel
theorem dX8_stay_67 : decode cX8_stay 67 = .ok (.iconst 3, 1) := by decide +kernel
theorem dX8_stay_68 : decode cX8_stay 68 = .ok (.iload_n 1, 1) := by decide +kernel
theorem dX8_stay_69 : decode cX8_stay 69 = .ok (.iload_n 2, 1) := by decide +kernel
theorem dX8_stay_70 : decode cX8_stay 70 = .ok (.iload_n 3, 1) := by decide +kernel
theorem dX8_stay_71 : decode cX8_stay 71 = .ok (.iload 4, 2) := by decide +kernel
theorem dX8_stay_73 : decode cX8_stay 73 = .ok (.iload 5, 2) := by decide +kernel
theorem dX8_stay_75 : decode cX8_stay 75 = .ok (.iload 6, 2) := by decide +kernel
theorem dX8_stay_77 : decode cX8_stay 77 = .ok (.invokevirtual 159, 3) := by decide +kernel
theorem dX8_stay_80 : decode cX8_stay 80 = .ok (.ireturn, 1) := by decide +kernel
theorem dX8_quash_0 : decode cX8_quash 0 = .ok (.iload_n 3, 1) := by decide +kernel
theorem dX8_quash_1 : decode cX8_quash 1 = .ok (.invokestatic 153, 3) := by decide +kernel
theorem dX8_quash_4 : decode cX8_quash 4 = .ok (.ifCond .ne 5, 3) := by decide +kernel
theorem dX8_quash_7 : decode cX8_quash 7 = .ok (.iconst 1, 1) := by decide +kernel
theorem dX8_quash_8 : decode cX8_quash 8 = .ok (.ireturn, 1) := by decide +kernel
theorem dX8_quash_9 : decode cX8_quash 9 = .ok (.aload_n 0, 1) := by decide +kernel
theorem dX8_quash_10 : decode cX8_quash 10 = .ok (.iload_n 1, 1) := by decide +kernel
theorem dX8_quash_11 : decode cX8_quash 11 = .ok (.iload_n 2, 1) := by decide +kernel
theorem dX8_quash_12 : decode cX8_quash 12 = .ok (.invokevirtual 156, 3) := by decide +kernel
theorem dX8_quash_15 : decode cX8_quash 15 = .ok (.istore 4, 2) := by decide +kernel
theorem dX8_quash_17 : decode cX8_quash 17 = .ok (.iload 4, 2) := by decide +kernel
theorem dX8_quash_19 : decode cX8_quash 19 = .ok (.ifCond .le 6, 3) := by decide +kernel
theorem dX8_quash_22 : decode cX8_quash 22 = .ok (.iload 4, 2) := by decide +kernel
theorem dX8_quash_24 : decode cX8_quash 24 = .ok (.ireturn, 1) := by decide +kernel
theorem dX8_quash_25 : decode cX8_quash 25 = .ok (.aload_n 0, 1) := by decide +kernel
theorem dX8_quash_26 : decode cX8_quash 26 = .ok (.getfield 20, 3) := by decide +kernel
theorem dX8_quash_29 : decode cX8_quash 29 = .ok (.iload_n 3, 1) := by decide +kernel
theorem dX8_quash_30 : decode cX8_quash 30 = .ok (.iaload, 1) := by decide +kernel
theorem dX8_quash_31 : decode cX8_quash 31 = .ok (.iconst 2, 1) := by decide +kernel
theorem dX8_quash_32 : decode cX8_quash 32 = .ok (.if_icmp .lt 24, 3) := by decide +kernel
theorem dX8_quash_35 : decode cX8_quash 35 = .ok (.aload_n 0, 1) := by decide +kernel
theorem dX8_quash_36 : decode cX8_quash 36 = .ok (.getfield 20, 3) := by decide +kernel
theorem dX8_quash_39 : decode cX8_quash 39 = .ok (.iload_n 3, 1) := by decide +kernel
theorem dX8_quash_40 : decode cX8_quash 40 = .ok (.iaload, 1) := by decide +kernel
theorem dX8_quash_41 : decode cX8_quash 41 = .ok (.bipush 7, 2) := by decide +kernel
theorem dX8_quash_43 : decode cX8_quash 43 = .ok (.if_icmp .gt 13, 3) := by decide +kernel
theorem dX8_quash_46 : decode cX8_quash 46 = .ok (.aload_n 0, 1) := by decide +kernel
theorem dX8_quash_47 : decode cX8_quash 47 = .ok (.getfield 44, 3) := by decide +kernel
theorem dX8_quash_50 : decode cX8_quash 50 = .ok (.iload_n 3, 1) := by decide +kernel
theorem dX8_quash_51 : decode cX8_quash 51 = .ok (.iaload, 1) := by decide +kernel
theorem dX8_quash_52 : decode cX8_quash 52 = .ok (.iconst (-1), 1) := by decide +kernel
theorem dX8_quash_53 : decode cX8_quash 53 = .ok (.if_icmp .eq 5, 3) := by decide +kernel
theorem dX8_quash_56 : decode cX8_quash 56 = .ok (.iconst 5, 1) := by decide +kernel
theorem dX8_quash_57 : decode cX8_quash 57 = .ok (.ireturn, 1) := by decide +kernel
theorem dX8_quash_58 : decode cX8_quash 58 = .ok (.aload_n 0, 1) := by decide +kernel
theorem dX8_quash_59 : decode cX8_quash 59 = .ok (.iconst 4, 1) := by decide +kernel
theorem dX8_quash_60 : decode cX8_quash 60 = .ok (.iload_n 1, 1) := by decide +kernel
theorem dX8_quash_61 : decode cX8_quash 61 = .ok (.iload_n 2, 1) := by decide +kernel
theorem dX8_quash_62 : decode cX8_quash 62 = .ok (.iload_n 3, 1) := by decide +kernel
theorem dX8_quash_63 : decode cX8_quash 63 = .ok (.iconst 0, 1) := by decide +kernel
theorem dX8_quash_64 : decode cX8_quash 64 = .ok (.iconst 0, 1) := by decide +kernel
theorem dX8_quash_65 : decode cX8_quash 65 = .ok (.iconst 0, 1) := by decide +kernel
theorem dX8_quash_66 : decode cX8_quash 66 = .ok (.invokevirtual 159, 3) := by decide +kernel
theorem dX8_quash_69 : decode cX8_quash 69 = .ok (.ireturn, 1) := by decide +kernel
theorem dX8_month_0 : decode cX8_month 0 = .ok (.aload_n 0, 1) := by decide +kernel
theorem dX8_month_1 : decode cX8_month 1 = .ok (.iload_n 1, 1) := by decide +kernel
theorem dX8_month_2 : decode cX8_month 2 = .ok (.invokevirtual 150, 3) := by decide +kernel
theorem dX8_month_5 : decode cX8_month 5 = .ok (.ifCond .eq 10, 3) := by decide +kernel
theorem dX8_month_8 : decode cX8_month 8 = .ok (.iload_n 2, 1) := by decide +kernel
theorem dX8_month_9 : decode cX8_month 9 = .ok (.invokestatic 186, 3) := by decide +kernel
theorem dX8_month_12 : decode cX8_month 12 = .ok (.ifCond .ne 5, 3) := by decide +kernel
theorem dX8_month_15 : decode cX8_month 15 = .ok (.iconst 1, 1) := by decide +kernel
theorem dX8_month_16 : decode cX8_month 16 = .ok (.ireturn, 1) := by decide +kernel
theorem dX8_month_17 : decode cX8_month 17 = .ok (.iload 4, 2) := by decide +kernel
theorem dX8_month_19 : decode cX8_month 19 = .ok (.ifCond .lt 10, 3) := by decide +kernel
theorem dX8_month_22 : decode cX8_month 22 = .ok (.iload 4, 2) := by decide +kernel
theorem dX8_month_24 : decode cX8_month 24 = .ok (.bipush 30, 2) := by decide +kernel
theorem dX8_month_26 : decode cX8_month 26 = .ok (.if_icmp .le 7, 3) := by decide +kernel
theorem dX8_month_29 : decode cX8_month 29 = .ok (.iconst 3, 1) := by decide +kernel
theorem dX8_month_30 : decode cX8_month 30 = .ok (.goto 23, 3) := by decide +kernel
theorem dX8_month_33 : decode cX8_month 33 = .ok (.aload_n 0, 1) := by decide +kernel
theorem dX8_month_34 : decode cX8_month 34 = .ok (.iconst 5, 1) := by decide +kernel
theorem dX8_month_35 : decode cX8_month 35 = .ok (.iload_n 1, 1) := by decide +kernel
theorem dX8_month_36 : decode cX8_month 36 = .ok (.iload_n 2, 1) := by decide +kernel
theorem dX8_month_37 : decode cX8_month 37 = .ok (.iload_n 3, 1) := by decide +kernel
theorem dX8_month_38 : decode cX8_month 38 = .ok (.ifCond .eq 7, 3) := by decide +kernel
theorem dX8_month_41 : decode cX8_month 41 = .ok (.iconst 1, 1) := by decide +kernel
theorem dX8_month_42 : decode cX8_month 42 = .ok (.goto 4, 3) := by decide +kernel
theorem dX8_month_45 : decode cX8_month 45 = .ok (.iconst 0, 1) := by decide +kernel
theorem dX8_month_46 : decode cX8_month 46 = .ok (.iload 4, 2) := by decide +kernel
theorem dX8_month_48 : decode cX8_month 48 = .ok (.iconst 0, 1) := by decide +kernel
theorem dX8_month_49 : decode cX8_month 49 = .ok (.iconst 0, 1) := by decide +kernel
theorem dX8_month_50 : decode cX8_month 50 = .ok (.invokevirtual 159, 3) := by decide +kernel
theorem dX8_month_53 : decode cX8_month 53 = .ok (.ireturn, 1) := by decide +kernel
theorem dX8_held_0 : decode cX8_held 0 = .ok (.aload_n 0, 1) := by decide +kernel
theorem dX8_held_1 : decode cX8_held 1 = .ok (.iload_n 1, 1) := by decide +kernel
theorem dX8_held_2 : decode cX8_held 2 = .ok (.invokevirtual 150, 3) := by decide +kernel
theorem dX8_held_5 : decode cX8_held 5 = .ok (.ifCond .eq 10, 3) := by decide +kernel
theorem dX8_held_8 : decode cX8_held 8 = .ok (.iload_n 2, 1) := by decide +kernel
theorem dX8_held_9 : decode cX8_held 9 = .ok (.invokestatic 186, 3) := by decide +kernel
theorem dX8_held_12 : decode cX8_held 12 = .ok (.ifCond .ne 5, 3) := by decide +kernel
theorem dX8_held_15 : decode cX8_held 15 = .ok (.iconst 1, 1) := by decide +kernel
theorem dX8_held_16 : decode cX8_held 16 = .ok (.ireturn, 1) := by decide +kernel
theorem dX8_held_17 : decode cX8_held 17 = .ok (.aload_n 0, 1) := by decide +kernel
theorem dX8_held_18 : decode cX8_held 18 = .ok (.iload_n 1, 1) := by decide +kernel
theorem dX8_held_19 : decode cX8_held 19 = .ok (.aload_n 0, 1) := by decide +kernel
theorem dX8_held_20 : decode cX8_held 20 = .ok (.getfield 97, 3) := by decide +kernel
theorem dX8_held_23 : decode cX8_held 23 = .ok (.invokevirtual 140, 3) := by decide +kernel
theorem dX8_held_26 : decode cX8_held 26 = .ok (.bipush 120, 2) := by decide +kernel
theorem dX8_held_28 : decode cX8_held 28 = .ok (.iload_n 1, 1) := by decide +kernel
theorem dX8_held_29 : decode cX8_held 29 = .ok (.imul, 1) := by decide +kernel
theorem dX8_held_30 : decode cX8_held 30 = .ok (.iload_n 2, 1) := by decide +kernel
theorem dX8_held_31 : decode cX8_held 31 = .ok (.iadd, 1) := by decide +kernel
theorem dX8_held_32 : decode cX8_held 32 = .ok (.istore 5, 2) := by decide +kernel
theorem dX8_held_34 : decode cX8_held 34 = .ok (.aload_n 0, 1) := by decide +kernel
theorem dX8_held_35 : decode cX8_held 35 = .ok (.getfield 47, 3) := by decide +kernel
theorem dX8_held_38 : decode cX8_held 38 = .ok (.iload 5, 2) := by decide +kernel
theorem dX8_held_40 : decode cX8_held 40 = .ok (.iaload, 1) := by decide +kernel
theorem dX8_held_41 : decode cX8_held 41 = .ok (.iconst 1, 1) := by decide +kernel
theorem dX8_held_42 : decode cX8_held 42 = .ok (.if_icmp .ne 7, 3) := by decide +kernel
theorem dX8_held_45 : decode cX8_held 45 = .ok (.iconst 1, 1) := by decide +kernel
theorem dX8_held_46 : decode cX8_held 46 = .ok (.goto 4, 3) := by decide +kernel
theorem dX8_held_49 : decode cX8_held 49 = .ok (.iconst 0, 1) := by decide +kernel
theorem dX8_held_50 : decode cX8_held 50 = .ok (.istore 6, 2) := by decide +kernel
theorem dX8_held_52 : decode cX8_held 52 = .ok (.iload 6, 2) := by decide +kernel
theorem dX8_held_54 : decode cX8_held 54 = .ok (.ifCond .eq 19, 3) := by decide +kernel
theorem dX8_held_57 : decode cX8_held 57 = .ok (.aload_n 0, 1) := by decide +kernel
theorem dX8_held_58 : decode cX8_held 58 = .ok (.getfield 50, 3) := by decide +kernel
theorem dX8_held_61 : decode cX8_held 61 = .ok (.iload 5, 2) := by decide +kernel
theorem dX8_held_63 : decode cX8_held 63 = .ok (.baload, 1) := by decide +kernel
theorem dX8_held_64 : decode cX8_held 64 = .ok (.ifCond .eq 9, 3) := by decide +kernel
theorem dX8_held_67 : decode cX8_held 67 = .ok (.sipush 32767, 3) := by decide +kernel
theorem dX8_held_70 : decode cX8_held 70 = .ok (.goto 5, 3) := by decide +kernel
theorem dX8_held_73 : decode cX8_held 73 = .ok (.bipush 127, 2) := by decide +kernel
theorem dX8_held_75 : decode cX8_held 75 = .ok (.istore 7, 2) := by decide +kernel
theorem dX8_held_77 : decode cX8_held 77 = .ok (.iload 6, 2) := by decide +kernel
theorem dX8_held_79 : decode cX8_held 79 = .ok (.ifCond .eq 22, 3) := by decide +kernel
theorem dX8_held_82 : decode cX8_held 82 = .ok (.iload 4, 2) := by decide +kernel
theorem dX8_held_84 : decode cX8_held 84 = .ok (.iload 7, 2) := by decide +kernel
theorem dX8_held_86 : decode cX8_held 86 = .ok (.if_icmp .gt 13, 3) := by decide +kernel
theorem dX8_held_89 : decode cX8_held 89 = .ok (.iload 4, 2) := by decide +kernel
theorem dX8_held_91 : decode cX8_held 91 = .ok (.iload 7, 2) := by decide +kernel
theorem dX8_held_93 : decode cX8_held 93 = .ok (.ineg, 1) := by decide +kernel
theorem dX8_held_94 : decode cX8_held 94 = .ok (.iconst 1, 1) := by decide +kernel
theorem dX8_held_95 : decode cX8_held 95 = .ok (.isub, 1) := by decide +kernel
theorem dX8_held_96 : decode cX8_held 96 = .ok (.if_icmp .ge 5, 3) := by decide +kernel
theorem dX8_held_99 : decode cX8_held 99 = .ok (.iconst 3, 1) := by decide +kernel
theorem dX8_held_100 : decode cX8_held 100 = .ok (.ireturn, 1) := by decide +kernel
theorem dX8_held_101 : decode cX8_held 101 = .ok (.iload 6, 2) := by decide +kernel
theorem dX8_held_103 : decode cX8_held 103 = .ok (.ifCond .eq 18, 3) := by decide +kernel
theorem dX8_held_106 : decode cX8_held 106 = .ok (.iload_n 3, 1) := by decide +kernel
theorem dX8_held_107 : decode cX8_held 107 = .ok (.ifCond .lt 14, 3) := by decide +kernel
theorem dX8_held_110 : decode cX8_held 110 = .ok (.iload_n 3, 1) := by decide +kernel
theorem dX8_held_111 : decode cX8_held 111 = .ok (.aload_n 0, 1) := by decide +kernel
theorem dX8_held_112 : decode cX8_held 112 = .ok (.getfield 54, 3) := by decide +kernel
theorem dX8_held_115 : decode cX8_held 115 = .ok (.iload 5, 2) := by decide +kernel
theorem dX8_held_117 : decode cX8_held 117 = .ok (.iaload, 1) := by decide +kernel
theorem dX8_held_118 : decode cX8_held 118 = .ok (.if_icmp .lt 8, 3) := by decide +kernel
theorem dX8_held_121 : decode cX8_held 121 = .ok (.bipush 6, 2) := by decide +kernel
theorem dX8_held_123 : decode cX8_held 123 = .ok (.goto 16, 3) := by decide +kernel
theorem dX8_held_126 : decode cX8_held 126 = .ok (.aload_n 0, 1) := by decide +kernel
theorem dX8_held_127 : decode cX8_held 127 = .ok (.bipush 6, 2) := by decide +kernel
theorem dX8_held_129 : decode cX8_held 129 = .ok (.iload_n 1, 1) := by decide +kernel
theorem dX8_held_130 : decode cX8_held 130 = .ok (.iload_n 2, 1) := by decide +kernel
theorem dX8_held_131 : decode cX8_held 131 = .ok (.iload_n 3, 1) := by decide +kernel
theorem dX8_held_132 : decode cX8_held 132 = .ok (.iload 4, 2) := by decide +kernel
theorem dX8_held_134 : decode cX8_held 134 = .ok (.iconst 0, 1) := by decide +kernel
theorem dX8_held_135 : decode cX8_held 135 = .ok (.iconst 0, 1) := by decide +kernel
theorem dX8_held_136 : decode cX8_held 136 = .ok (.invokevirtual 159, 3) := by decide +kernel
theorem dX8_held_139 : decode cX8_held 139 = .ok (.ireturn, 1) := by decide +kernel
theorem dX8_tear_0 : decode cX8_tear 0 = .ok (.aload_n 0, 1) := by decide +kernel
theorem dX8_tear_1 : decode cX8_tear 1 = .ok (.iload_n 1, 1) := by decide +kernel
theorem dX8_tear_2 : decode cX8_tear 2 = .ok (.invokevirtual 150, 3) := by decide +kernel
theorem dX8_tear_5 : decode cX8_tear 5 = .ok (.ifCond .eq 10, 3) := by decide +kernel
theorem dX8_tear_8 : decode cX8_tear 8 = .ok (.iload_n 2, 1) := by decide +kernel
theorem dX8_tear_9 : decode cX8_tear 9 = .ok (.invokestatic 186, 3) := by decide +kernel
theorem dX8_tear_12 : decode cX8_tear 12 = .ok (.ifCond .ne 7, 3) := by decide +kernel
theorem dX8_tear_15 : decode cX8_tear 15 = .ok (.iconst 1, 1) := by decide +kernel
theorem dX8_tear_16 : decode cX8_tear 16 = .ok (.goto 15, 3) := by decide +kernel
theorem dX8_tear_19 : decode cX8_tear 19 = .ok (.aload_n 0, 1) := by decide +kernel
theorem dX8_tear_20 : decode cX8_tear 20 = .ok (.bipush 7, 2) := by decide +kernel
theorem dX8_tear_22 : decode cX8_tear 22 = .ok (.iload_n 1, 1) := by decide +kernel
theorem dX8_tear_23 : decode cX8_tear 23 = .ok (.iload_n 2, 1) := by decide +kernel
theorem dX8_tear_24 : decode cX8_tear 24 = .ok (.iconst 0, 1) := by decide +kernel
theorem dX8_tear_25 : decode cX8_tear 25 = .ok (.iconst 0, 1) := by decide +kernel
theorem dX8_tear_26 : decode cX8_tear 26 = .ok (.iconst 0, 1) := by decide +kernel
theorem dX8_tear_27 : decode cX8_tear 27 = .ok (.iconst 0, 1) := by decide +kernel
theorem dX8_tear_28 : decode cX8_tear 28 = .ok (.invokevirtual 159, 3) := by decide +kernel
theorem dX8_tear_31 : decode cX8_tear 31 = .ok (.ireturn, 1) := by decide +kernel
theorem dX8_copy_0 : decode cX8_copy 0 = .ok (.aload_n 0, 1) := by decide +kernel
theorem dX8_copy_1 : decode cX8_copy 1 = .ok (.iload_n 1, 1) := by decide +kernel
theorem dX8_copy_2 : decode cX8_copy 2 = .ok (.invokevirtual 150, 3) := by decide +kernel
theorem dX8_copy_5 : decode cX8_copy 5 = .ok (.ifCond .eq 26, 3) := by decide +kernel
theorem dX8_copy_8 : decode cX8_copy 8 = .ok (.iload_n 2, 1) := by decide +kernel
theorem dX8_copy_9 : decode cX8_copy 9 = .ok (.invokestatic 186, 3) := by decide +kernel
theorem dX8_copy_12 : decode cX8_copy 12 = .ok (.ifCond .eq 19, 3) := by decide +kernel
theorem dX8_copy_15 : decode cX8_copy 15 = .ok (.aload_n 0, 1) := by decide +kernel
theorem dX8_copy_16 : decode cX8_copy 16 = .ok (.iload_n 3, 1) := by decide +kernel
theorem dX8_copy_17 : decode cX8_copy 17 = .ok (.invokevirtual 150, 3) := by decide +kernel
theorem dX8_copy_20 : decode cX8_copy 20 = .ok (.ifCond .eq 11, 3) := by decide +kernel
theorem dX8_copy_23 : decode cX8_copy 23 = .ok (.iload 4, 2) := by decide +kernel
theorem dX8_copy_25 : decode cX8_copy 25 = .ok (.invokestatic 186, 3) := by decide +kernel
theorem dX8_copy_28 : decode cX8_copy 28 = .ok (.ifCond .ne 5, 3) := by decide +kernel
theorem dX8_copy_31 : decode cX8_copy 31 = .ok (.iconst 1, 1) := by decide +kernel
theorem dX8_copy_32 : decode cX8_copy 32 = .ok (.ireturn, 1) := by decide +kernel
theorem dX8_copy_33 : decode cX8_copy 33 = .ok (.aload_n 0, 1) := by decide +kernel
theorem dX8_copy_34 : decode cX8_copy 34 = .ok (.iload_n 1, 1) := by decide +kernel
theorem dX8_copy_35 : decode cX8_copy 35 = .ok (.aload_n 0, 1) := by decide +kernel
theorem dX8_copy_36 : decode cX8_copy 36 = .ok (.getfield 97, 3) := by decide +kernel
theorem dX8_copy_39 : decode cX8_copy 39 = .ok (.invokevirtual 140, 3) := by decide +kernel
theorem dX8_copy_42 : decode cX8_copy 42 = .ok (.aload_n 0, 1) := by decide +kernel
theorem dX8_copy_43 : decode cX8_copy 43 = .ok (.getfield 47, 3) := by decide +kernel
theorem dX8_copy_46 : decode cX8_copy 46 = .ok (.bipush 120, 2) := by decide +kernel
theorem dX8_copy_48 : decode cX8_copy 48 = .ok (.iload_n 1, 1) := by decide +kernel
theorem dX8_copy_49 : decode cX8_copy 49 = .ok (.imul, 1) := by decide +kernel
theorem dX8_copy_50 : decode cX8_copy 50 = .ok (.iload_n 2, 1) := by decide +kernel
theorem dX8_copy_51 : decode cX8_copy 51 = .ok (.iadd, 1) := by decide +kernel
theorem dX8_copy_52 : decode cX8_copy 52 = .ok (.iaload, 1) := by decide +kernel
theorem dX8_copy_53 : decode cX8_copy 53 = .ok (.iconst 1, 1) := by decide +kernel
theorem dX8_copy_54 : decode cX8_copy 54 = .ok (.if_icmp .eq 8, 3) := by decide +kernel
theorem dX8_copy_57 : decode cX8_copy 57 = .ok (.bipush 6, 2) := by decide +kernel
theorem dX8_copy_59 : decode cX8_copy 59 = .ok (.goto 16, 3) := by decide +kernel
theorem dX8_copy_62 : decode cX8_copy 62 = .ok (.aload_n 0, 1) := by decide +kernel
theorem dX8_copy_63 : decode cX8_copy 63 = .ok (.bipush 8, 2) := by decide +kernel
theorem dX8_copy_65 : decode cX8_copy 65 = .ok (.iload_n 1, 1) := by decide +kernel
theorem dX8_copy_66 : decode cX8_copy 66 = .ok (.iload_n 2, 1) := by decide +kernel
theorem dX8_copy_67 : decode cX8_copy 67 = .ok (.iload_n 3, 1) := by decide +kernel
theorem dX8_copy_68 : decode cX8_copy 68 = .ok (.iload 4, 2) := by decide +kernel
theorem dX8_copy_70 : decode cX8_copy 70 = .ok (.iconst 0, 1) := by decide +kernel
theorem dX8_copy_71 : decode cX8_copy 71 = .ok (.iconst 0, 1) := by decide +kernel
theorem dX8_copy_72 : decode cX8_copy 72 = .ok (.invokevirtual 159, 3) := by decide +kernel
theorem dX8_copy_75 : decode cX8_copy 75 = .ok (.ireturn, 1) := by decide +kernel
theorem dX8_isRuled_0 : decode cX8_isRuled 0 = .ok (.aload_n 0, 1) := by decide +kernel
theorem dX8_isRuled_1 : decode cX8_isRuled 1 = .ok (.iload_n 1, 1) := by decide +kernel
theorem dX8_isRuled_2 : decode cX8_isRuled 2 = .ok (.invokevirtual 121, 3) := by decide +kernel
theorem dX8_isRuled_5 : decode cX8_isRuled 5 = .ok (.ifCond .eq 17, 3) := by decide +kernel
theorem dX8_isRuled_8 : decode cX8_isRuled 8 = .ok (.aload_n 0, 1) := by decide +kernel
theorem dX8_isRuled_9 : decode cX8_isRuled 9 = .ok (.getfield 20, 3) := by decide +kernel
theorem dX8_isRuled_12 : decode cX8_isRuled 12 = .ok (.iload_n 1, 1) := by decide +kernel
theorem dX8_isRuled_13 : decode cX8_isRuled 13 = .ok (.iaload, 1) := by decide +kernel
theorem dX8_isRuled_14 : decode cX8_isRuled 14 = .ok (.iconst 5, 1) := by decide +kernel
theorem dX8_isRuled_15 : decode cX8_isRuled 15 = .ok (.if_icmp .eq 7, 3) := by decide +kernel
theorem dX8_isRuled_18 : decode cX8_isRuled 18 = .ok (.iconst 1, 1) := by decide +kernel
theorem dX8_isRuled_19 : decode cX8_isRuled 19 = .ok (.goto 4, 3) := by decide +kernel
theorem dX8_isRuled_22 : decode cX8_isRuled 22 = .ok (.iconst 0, 1) := by decide +kernel
theorem dX8_isRuled_23 : decode cX8_isRuled 23 = .ok (.ireturn, 1) := by decide +kernel
theorem dX8_off_0 : decode cX8_off 0 = .ok (.aload_n 0, 1) := by decide +kernel
theorem dX8_off_1 : decode cX8_off 1 = .ok (.iload_n 1, 1) := by decide +kernel
theorem dX8_off_2 : decode cX8_off 2 = .ok (.invokevirtual 150, 3) := by decide +kernel
theorem dX8_off_5 : decode cX8_off 5 = .ok (.ifCond .eq 10, 3) := by decide +kernel
theorem dX8_off_8 : decode cX8_off 8 = .ok (.iload_n 2, 1) := by decide +kernel
theorem dX8_off_9 : decode cX8_off 9 = .ok (.invokestatic 153, 3) := by decide +kernel
theorem dX8_off_12 : decode cX8_off 12 = .ok (.ifCond .ne 5, 3) := by decide +kernel
theorem dX8_off_15 : decode cX8_off 15 = .ok (.iconst 1, 1) := by decide +kernel
theorem dX8_off_16 : decode cX8_off 16 = .ok (.ireturn, 1) := by decide +kernel
theorem dX8_off_17 : decode cX8_off 17 = .ok (.iload_n 3, 1) := by decide +kernel
theorem dX8_off_18 : decode cX8_off 18 = .ok (.iconst 2, 1) := by decide +kernel
theorem dX8_off_19 : decode cX8_off 19 = .ok (.if_icmp .lt 22, 3) := by decide +kernel
theorem dX8_off_22 : decode cX8_off 22 = .ok (.iload_n 3, 1) := by decide +kernel
theorem dX8_off_23 : decode cX8_off 23 = .ok (.bipush 100, 2) := by decide +kernel
theorem dX8_off_25 : decode cX8_off 25 = .ok (.if_icmp .gt 16, 3) := by decide +kernel
theorem dX8_off_28 : decode cX8_off 28 = .ok (.iload 4, 2) := by decide +kernel
theorem dX8_off_30 : decode cX8_off 30 = .ok (.ifCond .lt 11, 3) := by decide +kernel
theorem dX8_off_33 : decode cX8_off 33 = .ok (.iload 4, 2) := by decide +kernel
theorem dX8_off_35 : decode cX8_off 35 = .ok (.sipush 1000, 3) := by decide +kernel
theorem dX8_off_38 : decode cX8_off 38 = .ok (.if_icmp .le 5, 3) := by decide +kernel
theorem dX8_off_41 : decode cX8_off 41 = .ok (.iconst 3, 1) := by decide +kernel
theorem dX8_off_42 : decode cX8_off 42 = .ok (.ireturn, 1) := by decide +kernel
theorem dX8_off_43 : decode cX8_off 43 = .ok (.aload_n 0, 1) := by decide +kernel
theorem dX8_off_44 : decode cX8_off 44 = .ok (.iload_n 1, 1) := by decide +kernel
theorem dX8_off_45 : decode cX8_off 45 = .ok (.aload_n 0, 1) := by decide +kernel
theorem dX8_off_46 : decode cX8_off 46 = .ok (.getfield 97, 3) := by decide +kernel
theorem dX8_off_49 : decode cX8_off 49 = .ok (.invokevirtual 140, 3) := by decide +kernel
theorem dX8_off_52 : decode cX8_off 52 = .ok (.aload_n 0, 1) := by decide +kernel
theorem dX8_off_53 : decode cX8_off 53 = .ok (.iload_n 2, 1) := by decide +kernel
theorem dX8_off_54 : decode cX8_off 54 = .ok (.invokevirtual 189, 3) := by decide +kernel
theorem dX8_off_57 : decode cX8_off 57 = .ok (.ifCond .ne 7, 3) := by decide +kernel
theorem dX8_off_60 : decode cX8_off 60 = .ok (.iconst 5, 1) := by decide +kernel
theorem dX8_off_61 : decode cX8_off 61 = .ok (.goto 16, 3) := by decide +kernel
theorem dX8_off_64 : decode cX8_off 64 = .ok (.aload_n 0, 1) := by decide +kernel
theorem dX8_off_65 : decode cX8_off 65 = .ok (.bipush 9, 2) := by decide +kernel
theorem dX8_off_67 : decode cX8_off 67 = .ok (.iload_n 1, 1) := by decide +kernel
theorem dX8_off_68 : decode cX8_off 68 = .ok (.iload_n 2, 1) := by decide +kernel
theorem dX8_off_69 : decode cX8_off 69 = .ok (.iload_n 3, 1) := by decide +kernel
theorem dX8_off_70 : decode cX8_off 70 = .ok (.iload 4, 2) := by decide +kernel
theorem dX8_off_72 : decode cX8_off 72 = .ok (.iconst 0, 1) := by decide +kernel
theorem dX8_off_73 : decode cX8_off 73 = .ok (.iconst 0, 1) := by decide +kernel
theorem dX8_off_74 : decode cX8_off 74 = .ok (.invokevirtual 159, 3) := by decide +kernel
theorem dX8_off_77 : decode cX8_off 77 = .ok (.ireturn, 1) := by decide +kernel
theorem dX8_back_0 : decode cX8_back 0 = .ok (.aload_n 0, 1) := by decide +kernel
theorem dX8_back_1 : decode cX8_back 1 = .ok (.iload_n 1, 1) := by decide +kernel
theorem dX8_back_2 : decode cX8_back 2 = .ok (.invokevirtual 150, 3) := by decide +kernel
theorem dX8_back_5 : decode cX8_back 5 = .ok (.ifCond .eq 10, 3) := by decide +kernel
theorem dX8_back_8 : decode cX8_back 8 = .ok (.iload_n 2, 1) := by decide +kernel
theorem dX8_back_9 : decode cX8_back 9 = .ok (.invokestatic 153, 3) := by decide +kernel
theorem dX8_back_12 : decode cX8_back 12 = .ok (.ifCond .ne 5, 3) := by decide +kernel
theorem dX8_back_15 : decode cX8_back 15 = .ok (.iconst 1, 1) := by decide +kernel
theorem dX8_back_16 : decode cX8_back 16 = .ok (.ireturn, 1) := by decide +kernel
theorem dX8_back_17 : decode cX8_back 17 = .ok (.aload_n 0, 1) := by decide +kernel
theorem dX8_back_18 : decode cX8_back 18 = .ok (.iload_n 1, 1) := by decide +kernel
theorem dX8_back_19 : decode cX8_back 19 = .ok (.aload_n 0, 1) := by decide +kernel
theorem dX8_back_20 : decode cX8_back 20 = .ok (.getfield 97, 3) := by decide +kernel
theorem dX8_back_23 : decode cX8_back 23 = .ok (.iconst 0, 1) := by decide +kernel
theorem dX8_back_24 : decode cX8_back 24 = .ok (.invokevirtual 192, 3) := by decide +kernel
theorem dX8_back_27 : decode cX8_back 27 = .ok (.aload_n 0, 1) := by decide +kernel
theorem dX8_back_28 : decode cX8_back 28 = .ok (.iload_n 2, 1) := by decide +kernel
theorem dX8_back_29 : decode cX8_back 29 = .ok (.invokevirtual 189, 3) := by decide +kernel
theorem dX8_back_32 : decode cX8_back 32 = .ok (.ifCond .ne 5, 3) := by decide +kernel
theorem dX8_back_35 : decode cX8_back 35 = .ok (.iconst 5, 1) := by decide +kernel
theorem dX8_back_36 : decode cX8_back 36 = .ok (.ireturn, 1) := by decide +kernel
theorem dX8_back_37 : decode cX8_back 37 = .ok (.aload_n 0, 1) := by decide +kernel
theorem dX8_back_38 : decode cX8_back 38 = .ok (.getfield 41, 3) := by decide +kernel
theorem dX8_back_41 : decode cX8_back 41 = .ok (.iload_n 2, 1) := by decide +kernel
theorem dX8_back_42 : decode cX8_back 42 = .ok (.iaload, 1) := by decide +kernel
theorem dX8_back_43 : decode cX8_back 43 = .ok (.i2l, 1) := by decide +kernel
theorem dX8_back_44 : decode cX8_back 44 = .ok (.iload_n 3, 1) := by decide +kernel
theorem dX8_back_45 : decode cX8_back 45 = .ok (.i2l, 1) := by decide +kernel
theorem dX8_back_46 : decode cX8_back 46 = .ok (.ladd, 1) := by decide +kernel
theorem dX8_back_47 : decode cX8_back 47 = .ok (.lstore 4, 2) := by decide +kernel
theorem dX8_back_49 : decode cX8_back 49 = .ok (.lload 4, 2) := by decide +kernel
theorem dX8_back_51 : decode cX8_back 51 = .ok (.lconst 0, 1) := by decide +kernel
theorem dX8_back_52 : decode cX8_back 52 = .ok (.lcmp, 1) := by decide +kernel
theorem dX8_back_53 : decode cX8_back 53 = .ok (.ifCond .lt 29, 3) := by decide +kernel
theorem dX8_back_56 : decode cX8_back 56 = .ok (.iload_n 3, 1) := by decide +kernel
theorem dX8_back_57 : decode cX8_back 57 = .ok (.ifCond .le 27, 3) := by decide +kernel
theorem dX8_back_60 : decode cX8_back 60 = .ok (.lload 4, 2) := by decide +kernel
theorem dX8_back_62 : decode cX8_back 62 = .ok (.aload_n 0, 1) := by decide +kernel
theorem dX8_back_63 : decode cX8_back 63 = .ok (.getfield 76, 3) := by decide +kernel
theorem dX8_back_66 : decode cX8_back 66 = .ok (.sipush 3600, 3) := by decide +kernel
theorem dX8_back_69 : decode cX8_back 69 = .ok (.iload_n 2, 1) := by decide +kernel
theorem dX8_back_70 : decode cX8_back 70 = .ok (.imul, 1) := by decide +kernel
theorem dX8_back_71 : decode cX8_back 71 = .ok (.aload_n 0, 1) := by decide +kernel
theorem dX8_back_72 : decode cX8_back 72 = .ok (.getfield 97, 3) := by decide +kernel
theorem dX8_back_75 : decode cX8_back 75 = .ok (.iadd, 1) := by decide +kernel
theorem dX8_back_76 : decode cX8_back 76 = .ok (.iaload, 1) := by decide +kernel
theorem dX8_back_77 : decode cX8_back 77 = .ok (.i2l, 1) := by decide +kernel
theorem dX8_back_78 : decode cX8_back 78 = .ok (.lcmp, 1) := by decide +kernel
theorem dX8_back_79 : decode cX8_back 79 = .ok (.ifCond .le 5, 3) := by decide +kernel
theorem dX8_back_82 : decode cX8_back 82 = .ok (.iconst 3, 1) := by decide +kernel
theorem dX8_back_83 : decode cX8_back 83 = .ok (.ireturn, 1) := by decide +kernel
theorem dX8_back_84 : decode cX8_back 84 = .ok (.aload_n 0, 1) := by decide +kernel
theorem dX8_back_85 : decode cX8_back 85 = .ok (.bipush 10, 2) := by decide +kernel
theorem dX8_back_87 : decode cX8_back 87 = .ok (.iload_n 1, 1) := by decide +kernel
theorem dX8_back_88 : decode cX8_back 88 = .ok (.iload_n 2, 1) := by decide +kernel
theorem dX8_back_89 : decode cX8_back 89 = .ok (.iload_n 3, 1) := by decide +kernel
theorem dX8_back_90 : decode cX8_back 90 = .ok (.iconst 0, 1) := by decide +kernel
theorem dX8_back_91 : decode cX8_back 91 = .ok (.iconst 0, 1) := by decide +kernel
theorem dX8_back_92 : decode cX8_back 92 = .ok (.iconst 0, 1) := by decide +kernel
theorem dX8_back_93 : decode cX8_back 93 = .ok (.invokevirtual 159, 3) := by decide +kernel
theorem dX8_back_96 : decode cX8_back 96 = .ok (.ireturn, 1) := by decide +kernel
theorem dX8_grant_0 : decode cX8_grant 0 = .ok (.aload_n 0, 1) := by decide +kernel
theorem dX8_grant_1 : decode cX8_grant 1 = .ok (.iload_n 1, 1) := by decide +kernel
theorem dX8_grant_2 : decode cX8_grant 2 = .ok (.invokevirtual 150, 3) := by decide +kernel
theorem dX8_grant_5 : decode cX8_grant 5 = .ok (.ifCond .ne 5, 3) := by decide +kernel
theorem dX8_grant_8 : decode cX8_grant 8 = .ok (.iconst 1, 1) := by decide +kernel
theorem dX8_grant_9 : decode cX8_grant 9 = .ok (.ireturn, 1) := by decide +kernel
theorem dX8_grant_10 : decode cX8_grant 10 = .ok (.iload_n 2, 1) := by decide +kernel
theorem dX8_grant_11 : decode cX8_grant 11 = .ok (.invokestatic 163, 3) := by decide +kernel
theorem dX8_grant_14 : decode cX8_grant 14 = .ok (.ifCond .ne 5, 3) := by decide +kernel
theorem dX8_grant_17 : decode cX8_grant 17 = .ok (.iconst 3, 1) := by decide +kernel
theorem dX8_grant_18 : decode cX8_grant 18 = .ok (.ireturn, 1) := by decide +kernel
theorem dX8_grant_19 : decode cX8_grant 19 = .ok (.aload_n 0, 1) := by decide +kernel
theorem dX8_grant_20 : decode cX8_grant 20 = .ok (.getfield 106, 3) := by decide +kernel
theorem dX8_grant_23 : decode cX8_grant 23 = .ok (.sipush 400, 3) := by decide +kernel
theorem dX8_grant_26 : decode cX8_grant 26 = .ok (.if_icmp .ne 6, 3) := by decide +kernel
theorem dX8_grant_29 : decode cX8_grant 29 = .ok (.bipush 7, 2) := by decide +kernel
theorem dX8_grant_31 : decode cX8_grant 31 = .ok (.ireturn, 1) := by decide +kernel
theorem dX8_grant_32 : decode cX8_grant 32 = .ok (.aload_n 0, 1) := by decide +kernel
theorem dX8_grant_33 : decode cX8_grant 33 = .ok (.iload_n 1, 1) := by decide +kernel
theorem dX8_grant_34 : decode cX8_grant 34 = .ok (.aload_n 0, 1) := by decide +kernel
theorem dX8_grant_35 : decode cX8_grant 35 = .ok (.getfield 97, 3) := by decide +kernel
theorem dX8_grant_38 : decode cX8_grant 38 = .ok (.iconst 0, 1) := by decide +kernel
theorem dX8_grant_39 : decode cX8_grant 39 = .ok (.invokevirtual 192, 3) := by decide +kernel
theorem dX8_grant_42 : decode cX8_grant 42 = .ok (.aload_n 0, 1) := by decide +kernel
theorem dX8_grant_43 : decode cX8_grant 43 = .ok (.sipush 500, 3) := by decide +kernel
theorem dX8_grant_46 : decode cX8_grant 46 = .ok (.invokevirtual 195, 3) := by decide +kernel
theorem dX8_grant_49 : decode cX8_grant 49 = .ok (.istore_n 3, 1) := by decide +kernel
theorem dX8_grant_50 : decode cX8_grant 50 = .ok (.iload_n 3, 1) := by decide +kernel
theorem dX8_grant_51 : decode cX8_grant 51 = .ok (.iconst (-1), 1) := by decide +kernel
theorem dX8_grant_52 : decode cX8_grant 52 = .ok (.if_icmp .eq 8, 3) := by decide +kernel
theorem dX8_grant_55 : decode cX8_grant 55 = .ok (.iload_n 2, 1) := by decide +kernel
theorem dX8_grant_56 : decode cX8_grant 56 = .ok (.iload_n 3, 1) := by decide +kernel
theorem dX8_grant_57 : decode cX8_grant 57 = .ok (.if_icmp .ge 8, 3) := by decide +kernel
theorem dX8_grant_60 : decode cX8_grant 60 = .ok (.bipush 8, 2) := by decide +kernel
theorem dX8_grant_62 : decode cX8_grant 62 = .ok (.goto 15, 3) := by decide +kernel
theorem dX8_grant_65 : decode cX8_grant 65 = .ok (.aload_n 0, 1) := by decide +kernel
theorem dX8_grant_66 : decode cX8_grant 66 = .ok (.bipush 11, 2) := by decide +kernel
theorem dX8_grant_68 : decode cX8_grant 68 = .ok (.iload_n 1, 1) := by decide +kernel
theorem dX8_grant_69 : decode cX8_grant 69 = .ok (.iload_n 2, 1) := by decide +kernel
theorem dX8_grant_70 : decode cX8_grant 70 = .ok (.iconst 0, 1) := by decide +kernel
theorem dX8_grant_71 : decode cX8_grant 71 = .ok (.iconst 0, 1) := by decide +kernel
theorem dX8_grant_72 : decode cX8_grant 72 = .ok (.iconst 0, 1) := by decide +kernel
theorem dX8_grant_73 : decode cX8_grant 73 = .ok (.iconst 0, 1) := by decide +kernel
theorem dX8_grant_74 : decode cX8_grant 74 = .ok (.invokevirtual 159, 3) := by decide +kernel
theorem dX8_grant_77 : decode cX8_grant 77 = .ok (.ireturn, 1) := by decide +kernel
theorem dX8_recall_0 : decode cX8_recall 0 = .ok (.aload_n 0, 1) := by decide +kernel
theorem dX8_recall_1 : decode cX8_recall 1 = .ok (.iload_n 1, 1) := by decide +kernel
theorem dX8_recall_2 : decode cX8_recall 2 = .ok (.iload_n 2, 1) := by decide +kernel
theorem dX8_recall_3 : decode cX8_recall 3 = .ok (.invokevirtual 156, 3) := by decide +kernel
theorem dX8_recall_6 : decode cX8_recall 6 = .ok (.istore 5, 2) := by decide +kernel
theorem dX8_recall_8 : decode cX8_recall 8 = .ok (.iload 5, 2) := by decide +kernel
theorem dX8_recall_10 : decode cX8_recall 10 = .ok (.ifCond .le 6, 3) := by decide +kernel
theorem dX8_recall_13 : decode cX8_recall 13 = .ok (.iload 5, 2) := by decide +kernel
theorem dX8_recall_15 : decode cX8_recall 15 = .ok (.ireturn, 1) := by decide +kernel
theorem dX8_recall_16 : decode cX8_recall 16 = .ok (.iload_n 3, 1) := by decide +kernel
theorem dX8_recall_17 : decode cX8_recall 17 = .ok (.invokestatic 163, 3) := by decide +kernel
theorem dX8_recall_20 : decode cX8_recall 20 = .ok (.ifCond .eq 17, 3) := by decide +kernel
theorem dX8_recall_23 : decode cX8_recall 23 = .ok (.iload 4, 2) := by decide +kernel
theorem dX8_recall_25 : decode cX8_recall 25 = .ok (.iconst 1, 1) := by decide +kernel
theorem dX8_recall_26 : decode cX8_recall 26 = .ok (.if_icmp .lt 11, 3) := by decide +kernel
theorem dX8_recall_29 : decode cX8_recall 29 = .ok (.iload 4, 2) := by decide +kernel
theorem dX8_recall_31 : decode cX8_recall 31 = .ok (.sipush 1000, 3) := by decide +kernel
theorem dX8_recall_34 : decode cX8_recall 34 = .ok (.if_icmp .le 5, 3) := by decide +kernel
theorem dX8_recall_37 : decode cX8_recall 37 = .ok (.iconst 3, 1) := by decide +kernel
theorem dX8_recall_38 : decode cX8_recall 38 = .ok (.ireturn, 1) := by decide +kernel
theorem dX8_recall_39 : decode cX8_recall 39 = .ok (.aload_n 0, 1) := by decide +kernel
theorem dX8_recall_40 : decode cX8_recall 40 = .ok (.getfield 106, 3) := by decide +kernel
theorem dX8_recall_43 : decode cX8_recall 43 = .ok (.sipush 400, 3) := by decide +kernel
theorem dX8_recall_46 : decode cX8_recall 46 = .ok (.if_icmp .ne 6, 3) := by decide +kernel
theorem dX8_recall_49 : decode cX8_recall 49 = .ok (.bipush 7, 2) := by decide +kernel
theorem dX8_recall_51 : decode cX8_recall 51 = .ok (.ireturn, 1) := by decide +kernel
theorem dX8_recall_52 : decode cX8_recall 52 = .ok (.aload_n 0, 1) := by decide +kernel
theorem dX8_recall_53 : decode cX8_recall 53 = .ok (.iload_n 1, 1) := by decide +kernel
theorem dX8_recall_54 : decode cX8_recall 54 = .ok (.aload_n 0, 1) := by decide +kernel
theorem dX8_recall_55 : decode cX8_recall 55 = .ok (.getfield 97, 3) := by decide +kernel
theorem dX8_recall_58 : decode cX8_recall 58 = .ok (.iconst 0, 1) := by decide +kernel
theorem dX8_recall_59 : decode cX8_recall 59 = .ok (.invokevirtual 192, 3) := by decide +kernel
theorem dX8_recall_62 : decode cX8_recall 62 = .ok (.aload_n 0, 1) := by decide +kernel
theorem dX8_recall_63 : decode cX8_recall 63 = .ok (.invokevirtual 198, 3) := by decide +kernel
theorem dX8_recall_66 : decode cX8_recall 66 = .ok (.istore 6, 2) := by decide +kernel
theorem dX8_recall_68 : decode cX8_recall 68 = .ok (.aload_n 0, 1) := by decide +kernel
theorem dX8_recall_69 : decode cX8_recall 69 = .ok (.getfield 100, 3) := by decide +kernel
theorem dX8_recall_72 : decode cX8_recall 72 = .ok (.iconst (-1), 1) := by decide +kernel
theorem dX8_recall_73 : decode cX8_recall 73 = .ok (.if_icmp .eq 26, 3) := by decide +kernel
theorem dX8_recall_76 : decode cX8_recall 76 = .ok (.iload_n 3, 1) := by decide +kernel
theorem dX8_recall_77 : decode cX8_recall 77 = .ok (.aload_n 0, 1) := by decide +kernel
theorem dX8_recall_78 : decode cX8_recall 78 = .ok (.getfield 100, 3) := by decide +kernel
theorem dX8_recall_81 : decode cX8_recall 81 = .ok (.if_icmp .le 18, 3) := by decide +kernel
theorem dX8_recall_84 : decode cX8_recall 84 = .ok (.iload 6, 2) := by decide +kernel
theorem dX8_recall_86 : decode cX8_recall 86 = .ok (.iconst (-1), 1) := by decide +kernel
theorem dX8_recall_87 : decode cX8_recall 87 = .ok (.if_icmp .eq 12, 3) := by decide +kernel
theorem dX8_recall_90 : decode cX8_recall 90 = .ok (.iload 6, 2) := by decide +kernel
theorem dX8_recall_92 : decode cX8_recall 92 = .ok (.aload_n 0, 1) := by decide +kernel
theorem dX8_recall_93 : decode cX8_recall 93 = .ok (.getfield 100, 3) := by decide +kernel
theorem dX8_recall_96 : decode cX8_recall 96 = .ok (.if_icmp .gt 6, 3) := by decide +kernel
theorem dX8_recall_99 : decode cX8_recall 99 = .ok (.bipush 8, 2) := by decide +kernel
theorem dX8_recall_101 : decode cX8_recall 101 = .ok (.ireturn, 1) := by decide +kernel
theorem dX8_recall_102 : decode cX8_recall 102 = .ok (.iload 6, 2) := by decide +kernel
theorem dX8_recall_104 : decode cX8_recall 104 = .ok (.aload_n 0, 1) := by decide +kernel
theorem dX8_recall_105 : decode cX8_recall 105 = .ok (.getfield 100, 3) := by decide +kernel
theorem dX8_recall_108 : decode cX8_recall 108 = .ok (.isub, 1) := by decide +kernel
theorem dX8_recall_109 : decode cX8_recall 109 = .ok (.iload 4, 2) := by decide +kernel
theorem dX8_recall_111 : decode cX8_recall 111 = .ok (.invokestatic 128, 3) := by decide +kernel
theorem dX8_recall_114 : decode cX8_recall 114 = .ok (.istore 7, 2) := by decide +kernel
theorem dX8_recall_116 : decode cX8_recall 116 = .ok (.aload_n 0, 1) := by decide +kernel
theorem dX8_recall_117 : decode cX8_recall 117 = .ok (.getfield 17, 3) := by decide +kernel
theorem dX8_recall_120 : decode cX8_recall 120 = .ok (.aload_n 0, 1) := by decide +kernel
theorem dX8_recall_121 : decode cX8_recall 121 = .ok (.getfield 106, 3) := by decide +kernel
theorem dX8_recall_124 : decode cX8_recall 124 = .ok (.iload 7, 2) := by decide +kernel
theorem dX8_recall_126 : decode cX8_recall 126 = .ok (.iconst 1, 1) := by decide +kernel
theorem dX8_recall_127 : decode cX8_recall 127 = .ok (.if_icmp .ge 7, 3) := by decide +kernel
theorem dX8_recall_130 : decode cX8_recall 130 = .ok (.iconst 1, 1) := by decide +kernel
theorem dX8_recall_131 : decode cX8_recall 131 = .ok (.goto 5, 3) := by decide +kernel
theorem dX8_recall_134 : decode cX8_recall 134 = .ok (.iload 7, 2) := by decide +kernel
theorem dX8_recall_136 : decode cX8_recall 136 = .ok (.iastore, 1) := by decide +kernel
theorem dX8_recall_137 : decode cX8_recall 137 = .ok (.aload_n 0, 1) := by decide +kernel
theorem dX8_recall_138 : decode cX8_recall 138 = .ok (.bipush 12, 2) := by decide +kernel
theorem dX8_recall_140 : decode cX8_recall 140 = .ok (.iload_n 1, 1) := by decide +kernel
theorem dX8_recall_141 : decode cX8_recall 141 = .ok (.iload_n 2, 1) := by decide +kernel
theorem dX8_recall_142 : decode cX8_recall 142 = .ok (.iload_n 3, 1) := by decide +kernel
theorem dX8_recall_143 : decode cX8_recall 143 = .ok (.iload 4, 2) := by decide +kernel
theorem dX8_recall_145 : decode cX8_recall 145 = .ok (.iconst 0, 1) := by decide +kernel
theorem dX8_recall_146 : decode cX8_recall 146 = .ok (.iconst 0, 1) := by decide +kernel
theorem dX8_recall_147 : decode cX8_recall 147 = .ok (.invokevirtual 159, 3) := by decide +kernel
theorem dX8_recall_150 : decode cX8_recall 150 = .ok (.ireturn, 1) := by decide +kernel
theorem dX8_isThere_0 : decode cX8_isThere 0 = .ok (.aload_n 0, 1) := by decide +kernel
theorem dX8_isThere_1 : decode cX8_isThere 1 = .ok (.iload_n 1, 1) := by decide +kernel
theorem dX8_isThere_2 : decode cX8_isThere 2 = .ok (.invokevirtual 150, 3) := by decide +kernel
theorem dX8_isThere_5 : decode cX8_isThere 5 = .ok (.ifCond .eq 10, 3) := by decide +kernel
theorem dX8_isThere_8 : decode cX8_isThere 8 = .ok (.iload_n 2, 1) := by decide +kernel
theorem dX8_isThere_9 : decode cX8_isThere 9 = .ok (.invokestatic 153, 3) := by decide +kernel
theorem dX8_isThere_12 : decode cX8_isThere 12 = .ok (.ifCond .ne 5, 3) := by decide +kernel
theorem dX8_isThere_15 : decode cX8_isThere 15 = .ok (.iconst 0, 1) := by decide +kernel
theorem dX8_isThere_16 : decode cX8_isThere 16 = .ok (.ireturn, 1) := by decide +kernel
theorem dX8_isThere_17 : decode cX8_isThere 17 = .ok (.aload_n 0, 1) := by decide +kernel
theorem dX8_isThere_18 : decode cX8_isThere 18 = .ok (.iload_n 1, 1) := by decide +kernel
theorem dX8_isThere_19 : decode cX8_isThere 19 = .ok (.aload_n 0, 1) := by decide +kernel
theorem dX8_isThere_20 : decode cX8_isThere 20 = .ok (.invokevirtual 202, 3) := by decide +kernel
theorem dX8_isThere_23 : decode cX8_isThere 23 = .ok (.invokevirtual 140, 3) := by decide +kernel
theorem dX8_isThere_26 : decode cX8_isThere 26 = .ok (.iconst 1, 1) := by decide +kernel
theorem dX8_isThere_27 : decode cX8_isThere 27 = .ok (.ireturn, 1) := by decide +kernel
theorem dX8_kind_0 : decode cX8_kind 0 = .ok (.aload_n 0, 1) := by decide +kernel
theorem dX8_kind_1 : decode cX8_kind 1 = .ok (.iload_n 1, 1) := by decide +kernel
theorem dX8_kind_2 : decode cX8_kind 2 = .ok (.iload_n 2, 1) := by decide +kernel
theorem dX8_kind_3 : decode cX8_kind 3 = .ok (.invokevirtual 205, 3) := by decide +kernel
theorem dX8_kind_6 : decode cX8_kind 6 = .ok (.ifCond .eq 12, 3) := by decide +kernel
theorem dX8_kind_9 : decode cX8_kind 9 = .ok (.aload_n 0, 1) := by decide +kernel
theorem dX8_kind_10 : decode cX8_kind 10 = .ok (.getfield 20, 3) := by decide +kernel
theorem dX8_kind_13 : decode cX8_kind 13 = .ok (.iload_n 2, 1) := by decide +kernel
theorem dX8_kind_14 : decode cX8_kind 14 = .ok (.iaload, 1) := by decide +kernel
theorem dX8_kind_15 : decode cX8_kind 15 = .ok (.goto 4, 3) := by decide +kernel
theorem dX8_kind_18 : decode cX8_kind 18 = .ok (.iconst (-1), 1) := by decide +kernel
theorem dX8_kind_19 : decode cX8_kind 19 = .ok (.ireturn, 1) := by decide +kernel
theorem dX8_isOrder_0 : decode cX8_isOrder 0 = .ok (.aload_n 0, 1) := by decide +kernel
theorem dX8_isOrder_1 : decode cX8_isOrder 1 = .ok (.iload_n 1, 1) := by decide +kernel
theorem dX8_isOrder_2 : decode cX8_isOrder 2 = .ok (.iload_n 2, 1) := by decide +kernel
theorem dX8_isOrder_3 : decode cX8_isOrder 3 = .ok (.invokevirtual 205, 3) := by decide +kernel
theorem dX8_isOrder_6 : decode cX8_isOrder 6 = .ok (.ifCond .eq 11, 3) := by decide +kernel
theorem dX8_isOrder_9 : decode cX8_isOrder 9 = .ok (.aload_n 0, 1) := by decide +kernel
theorem dX8_isOrder_10 : decode cX8_isOrder 10 = .ok (.iload_n 2, 1) := by decide +kernel
theorem dX8_isOrder_11 : decode cX8_isOrder 11 = .ok (.invokevirtual 121, 3) := by decide +kernel
theorem dX8_isOrder_14 : decode cX8_isOrder 14 = .ok (.ifCond .ne 5, 3) := by decide +kernel
theorem dX8_isOrder_17 : decode cX8_isOrder 17 = .ok (.iconst 0, 1) := by decide +kernel
theorem dX8_isOrder_18 : decode cX8_isOrder 18 = .ok (.ireturn, 1) := by decide +kernel
theorem dX8_isOrder_19 : decode cX8_isOrder 19 = .ok (.aload_n 0, 1) := by decide +kernel
theorem dX8_isOrder_20 : decode cX8_isOrder 20 = .ok (.iload_n 1, 1) := by decide +kernel
theorem dX8_isOrder_21 : decode cX8_isOrder 21 = .ok (.aload_n 0, 1) := by decide +kernel
theorem dX8_isOrder_22 : decode cX8_isOrder 22 = .ok (.invokevirtual 202, 3) := by decide +kernel
theorem dX8_isOrder_25 : decode cX8_isOrder 25 = .ok (.iload_n 3, 1) := by decide +kernel
theorem dX8_isOrder_26 : decode cX8_isOrder 26 = .ok (.invokevirtual 192, 3) := by decide +kernel
theorem dX8_isOrder_29 : decode cX8_isOrder 29 = .ok (.iconst 1, 1) := by decide +kernel
theorem dX8_isOrder_30 : decode cX8_isOrder 30 = .ok (.ireturn, 1) := by decide +kernel
theorem dX8_begins_0 : decode cX8_begins 0 = .ok (.aload_n 0, 1) := by decide +kernel
theorem dX8_begins_1 : decode cX8_begins 1 = .ok (.iload_n 1, 1) := by decide +kernel
theorem dX8_begins_2 : decode cX8_begins 2 = .ok (.iload_n 2, 1) := by decide +kernel
theorem dX8_begins_3 : decode cX8_begins 3 = .ok (.iload_n 3, 1) := by decide +kernel
theorem dX8_begins_4 : decode cX8_begins 4 = .ok (.invokevirtual 208, 3) := by decide +kernel
theorem dX8_begins_7 : decode cX8_begins 7 = .ok (.ifCond .eq 12, 3) := by decide +kernel
theorem dX8_begins_10 : decode cX8_begins 10 = .ok (.aload_n 0, 1) := by decide +kernel
theorem dX8_begins_11 : decode cX8_begins 11 = .ok (.getfield 63, 3) := by decide +kernel
theorem dX8_begins_14 : decode cX8_begins 14 = .ok (.iload_n 2, 1) := by decide +kernel
theorem dX8_begins_15 : decode cX8_begins 15 = .ok (.iaload, 1) := by decide +kernel
theorem dX8_begins_16 : decode cX8_begins 16 = .ok (.goto 4, 3) := by decide +kernel
theorem dX8_begins_19 : decode cX8_begins 19 = .ok (.iconst (-1), 1) := by decide +kernel
theorem dX8_begins_20 : decode cX8_begins 20 = .ok (.ireturn, 1) := by decide +kernel
theorem dX8_ends_0 : decode cX8_ends 0 = .ok (.aload_n 0, 1) := by decide +kernel
theorem dX8_ends_1 : decode cX8_ends 1 = .ok (.iload_n 1, 1) := by decide +kernel
theorem dX8_ends_2 : decode cX8_ends 2 = .ok (.iload_n 2, 1) := by decide +kernel
theorem dX8_ends_3 : decode cX8_ends 3 = .ok (.iload_n 3, 1) := by decide +kernel
theorem dX8_ends_4 : decode cX8_ends 4 = .ok (.invokevirtual 208, 3) := by decide +kernel
theorem dX8_ends_7 : decode cX8_ends 7 = .ok (.ifCond .eq 12, 3) := by decide +kernel
theorem dX8_ends_10 : decode cX8_ends 10 = .ok (.aload_n 0, 1) := by decide +kernel
theorem dX8_ends_11 : decode cX8_ends 11 = .ok (.getfield 66, 3) := by decide +kernel
theorem dX8_ends_14 : decode cX8_ends 14 = .ok (.iload_n 2, 1) := by decide +kernel
theorem dX8_ends_15 : decode cX8_ends 15 = .ok (.iaload, 1) := by decide +kernel
theorem dX8_ends_16 : decode cX8_ends 16 = .ok (.goto 4, 3) := by decide +kernel
theorem dX8_ends_19 : decode cX8_ends 19 = .ok (.iconst (-1), 1) := by decide +kernel
theorem dX8_ends_20 : decode cX8_ends 20 = .ok (.ireturn, 1) := by decide +kernel
theorem dX8_counted_0 : decode cX8_counted 0 = .ok (.iload_n 3, 1) := by decide +kernel
theorem dX8_counted_1 : decode cX8_counted 1 = .ok (.invokestatic 163, 3) := by decide +kernel
theorem dX8_counted_4 : decode cX8_counted 4 = .ok (.ifCond .eq 29, 3) := by decide +kernel
theorem dX8_counted_7 : decode cX8_counted 7 = .ok (.aload_n 0, 1) := by decide +kernel
theorem dX8_counted_8 : decode cX8_counted 8 = .ok (.iload_n 1, 1) := by decide +kernel
theorem dX8_counted_9 : decode cX8_counted 9 = .ok (.iload_n 2, 1) := by decide +kernel
theorem dX8_counted_10 : decode cX8_counted 10 = .ok (.iload 4, 2) := by decide +kernel
theorem dX8_counted_12 : decode cX8_counted 12 = .ok (.invokevirtual 208, 3) := by decide +kernel
theorem dX8_counted_15 : decode cX8_counted 15 = .ok (.ifCond .eq 18, 3) := by decide +kernel
theorem dX8_counted_18 : decode cX8_counted 18 = .ok (.aload_n 0, 1) := by decide +kernel
theorem dX8_counted_19 : decode cX8_counted 19 = .ok (.getfield 73, 3) := by decide +kernel
theorem dX8_counted_22 : decode cX8_counted 22 = .ok (.sipush 3600, 3) := by decide +kernel
theorem dX8_counted_25 : decode cX8_counted 25 = .ok (.iload_n 2, 1) := by decide +kernel
theorem dX8_counted_26 : decode cX8_counted 26 = .ok (.imul, 1) := by decide +kernel
theorem dX8_counted_27 : decode cX8_counted 27 = .ok (.iload_n 3, 1) := by decide +kernel
theorem dX8_counted_28 : decode cX8_counted 28 = .ok (.iadd, 1) := by decide +kernel
theorem dX8_counted_29 : decode cX8_counted 29 = .ok (.iaload, 1) := by decide +kernel
theorem dX8_counted_30 : decode cX8_counted 30 = .ok (.goto 4, 3) := by decide +kernel
theorem dX8_counted_33 : decode cX8_counted 33 = .ok (.iconst (-1), 1) := by decide +kernel
theorem dX8_counted_34 : decode cX8_counted 34 = .ok (.ireturn, 1) := by decide +kernel
theorem dX8_taken_0 : decode cX8_taken 0 = .ok (.iload_n 3, 1) := by decide +kernel
theorem dX8_taken_1 : decode cX8_taken 1 = .ok (.invokestatic 163, 3) := by decide +kernel
theorem dX8_taken_4 : decode cX8_taken 4 = .ok (.ifCond .eq 28, 3) := by decide +kernel
theorem dX8_taken_7 : decode cX8_taken 7 = .ok (.aload_n 0, 1) := by decide +kernel
theorem dX8_taken_8 : decode cX8_taken 8 = .ok (.iload_n 1, 1) := by decide +kernel
theorem dX8_taken_9 : decode cX8_taken 9 = .ok (.iload_n 2, 1) := by decide +kernel
theorem dX8_taken_10 : decode cX8_taken 10 = .ok (.iconst 0, 1) := by decide +kernel
theorem dX8_taken_11 : decode cX8_taken 11 = .ok (.invokevirtual 208, 3) := by decide +kernel
theorem dX8_taken_14 : decode cX8_taken 14 = .ok (.ifCond .eq 18, 3) := by decide +kernel
theorem dX8_taken_17 : decode cX8_taken 17 = .ok (.aload_n 0, 1) := by decide +kernel
theorem dX8_taken_18 : decode cX8_taken 18 = .ok (.getfield 76, 3) := by decide +kernel
theorem dX8_taken_21 : decode cX8_taken 21 = .ok (.sipush 3600, 3) := by decide +kernel
theorem dX8_taken_24 : decode cX8_taken 24 = .ok (.iload_n 2, 1) := by decide +kernel
theorem dX8_taken_25 : decode cX8_taken 25 = .ok (.imul, 1) := by decide +kernel
theorem dX8_taken_26 : decode cX8_taken 26 = .ok (.iload_n 3, 1) := by decide +kernel
theorem dX8_taken_27 : decode cX8_taken 27 = .ok (.iadd, 1) := by decide +kernel
theorem dX8_taken_28 : decode cX8_taken 28 = .ok (.iaload, 1) := by decide +kernel
theorem dX8_taken_29 : decode cX8_taken 29 = .ok (.goto 4, 3) := by decide +kernel
theorem dX8_taken_32 : decode cX8_taken 32 = .ok (.iconst (-1), 1) := by decide +kernel
theorem dX8_taken_33 : decode cX8_taken 33 = .ok (.ireturn, 1) := by decide +kernel
theorem dX8_why_0 : decode cX8_why 0 = .ok (.iload_n 3, 1) := by decide +kernel
theorem dX8_why_1 : decode cX8_why 1 = .ok (.invokestatic 163, 3) := by decide +kernel
theorem dX8_why_4 : decode cX8_why 4 = .ok (.ifCond .eq 12, 3) := by decide +kernel
theorem dX8_why_7 : decode cX8_why 7 = .ok (.aload_n 0, 1) := by decide +kernel
theorem dX8_why_8 : decode cX8_why 8 = .ok (.iload_n 1, 1) := by decide +kernel
theorem dX8_why_9 : decode cX8_why 9 = .ok (.iload_n 2, 1) := by decide +kernel
theorem dX8_why_10 : decode cX8_why 10 = .ok (.invokevirtual 205, 3) := by decide +kernel
theorem dX8_why_13 : decode cX8_why 13 = .ok (.ifCond .ne 5, 3) := by decide +kernel
theorem dX8_why_16 : decode cX8_why 16 = .ok (.iconst (-1), 1) := by decide +kernel
theorem dX8_why_17 : decode cX8_why 17 = .ok (.ireturn, 1) := by decide +kernel
theorem dX8_why_18 : decode cX8_why 18 = .ok (.aload_n 0, 1) := by decide +kernel
theorem dX8_why_19 : decode cX8_why 19 = .ok (.iload_n 2, 1) := by decide +kernel
theorem dX8_why_20 : decode cX8_why 20 = .ok (.invokevirtual 117, 3) := by decide +kernel
theorem dX8_why_23 : decode cX8_why 23 = .ok (.ifCond .ne 6, 3) := by decide +kernel
theorem dX8_why_26 : decode cX8_why 26 = .ok (.bipush 7, 2) := by decide +kernel
theorem dX8_why_28 : decode cX8_why 28 = .ok (.ireturn, 1) := by decide +kernel
theorem dX8_why_29 : decode cX8_why 29 = .ok (.aload_n 0, 1) := by decide +kernel
theorem dX8_why_30 : decode cX8_why 30 = .ok (.getfield 44, 3) := by decide +kernel
theorem dX8_why_33 : decode cX8_why 33 = .ok (.iload_n 2, 1) := by decide +kernel
theorem dX8_why_34 : decode cX8_why 34 = .ok (.iaload, 1) := by decide +kernel
theorem dX8_why_35 : decode cX8_why 35 = .ok (.iconst (-1), 1) := by decide +kernel
theorem dX8_why_36 : decode cX8_why 36 = .ok (.if_icmp .eq 6, 3) := by decide +kernel
theorem dX8_why_39 : decode cX8_why 39 = .ok (.bipush 6, 2) := by decide +kernel
theorem dX8_why_41 : decode cX8_why 41 = .ok (.ireturn, 1) := by decide +kernel
theorem dX8_why_42 : decode cX8_why 42 = .ok (.aload_n 0, 1) := by decide +kernel
theorem dX8_why_43 : decode cX8_why 43 = .ok (.iload_n 1, 1) := by decide +kernel
theorem dX8_why_44 : decode cX8_why 44 = .ok (.aload_n 0, 1) := by decide +kernel
theorem dX8_why_45 : decode cX8_why 45 = .ok (.invokevirtual 202, 3) := by decide +kernel
theorem dX8_why_48 : decode cX8_why 48 = .ok (.iconst 0, 1) := by decide +kernel
theorem dX8_why_49 : decode cX8_why 49 = .ok (.invokevirtual 192, 3) := by decide +kernel
theorem dX8_why_52 : decode cX8_why 52 = .ok (.aload_n 0, 1) := by decide +kernel
theorem dX8_why_53 : decode cX8_why 53 = .ok (.getfield 66, 3) := by decide +kernel
theorem dX8_why_56 : decode cX8_why 56 = .ok (.iload_n 2, 1) := by decide +kernel
theorem dX8_why_57 : decode cX8_why 57 = .ok (.iaload, 1) := by decide +kernel
theorem dX8_why_58 : decode cX8_why 58 = .ok (.iconst (-1), 1) := by decide +kernel
theorem dX8_why_59 : decode cX8_why 59 = .ok (.if_icmp .eq 15, 3) := by decide +kernel
theorem dX8_why_62 : decode cX8_why 62 = .ok (.aload_n 0, 1) := by decide +kernel
theorem dX8_why_63 : decode cX8_why 63 = .ok (.getfield 66, 3) := by decide +kernel
theorem dX8_why_66 : decode cX8_why 66 = .ok (.iload_n 2, 1) := by decide +kernel
theorem dX8_why_67 : decode cX8_why 67 = .ok (.iaload, 1) := by decide +kernel
theorem dX8_why_68 : decode cX8_why 68 = .ok (.iload_n 3, 1) := by decide +kernel
theorem dX8_why_69 : decode cX8_why 69 = .ok (.if_icmp .ge 5, 3) := by decide +kernel
theorem dX8_why_72 : decode cX8_why 72 = .ok (.iconst 3, 1) := by decide +kernel
theorem dX8_why_73 : decode cX8_why 73 = .ok (.ireturn, 1) := by decide +kernel
theorem dX8_why_74 : decode cX8_why 74 = .ok (.aload_n 0, 1) := by decide +kernel
theorem dX8_why_75 : decode cX8_why 75 = .ok (.bipush 6, 2) := by decide +kernel
theorem dX8_why_77 : decode cX8_why 77 = .ok (.iload_n 2, 1) := by decide +kernel
theorem dX8_why_78 : decode cX8_why 78 = .ok (.iload_n 3, 1) := by decide +kernel
theorem dX8_why_79 : decode cX8_why 79 = .ok (.invokevirtual 132, 3) := by decide +kernel
theorem dX8_why_82 : decode cX8_why 82 = .ok (.iconst (-1), 1) := by decide +kernel
theorem dX8_why_83 : decode cX8_why 83 = .ok (.if_icmp .eq 5, 3) := by decide +kernel
theorem dX8_why_86 : decode cX8_why 86 = .ok (.iconst 4, 1) := by decide +kernel
theorem dX8_why_87 : decode cX8_why 87 = .ok (.ireturn, 1) := by decide +kernel
theorem dX8_why_88 : decode cX8_why 88 = .ok (.aload_n 0, 1) := by decide +kernel
theorem dX8_why_89 : decode cX8_why 89 = .ok (.bipush 7, 2) := by decide +kernel
theorem dX8_why_91 : decode cX8_why 91 = .ok (.iload_n 2, 1) := by decide +kernel
theorem dX8_why_92 : decode cX8_why 92 = .ok (.iload_n 3, 1) := by decide +kernel
theorem dX8_why_93 : decode cX8_why 93 = .ok (.invokevirtual 132, 3) := by decide +kernel
theorem dX8_why_96 : decode cX8_why 96 = .ok (.iconst (-1), 1) := by decide +kernel
theorem dX8_why_97 : decode cX8_why 97 = .ok (.if_icmp .eq 5, 3) := by decide +kernel
theorem dX8_why_100 : decode cX8_why 100 = .ok (.iconst 1, 1) := by decide +kernel
theorem dX8_why_101 : decode cX8_why 101 = .ok (.ireturn, 1) := by decide +kernel
theorem dX8_why_102 : decode cX8_why 102 = .ok (.aload_n 0, 1) := by decide +kernel
theorem dX8_why_103 : decode cX8_why 103 = .ok (.getfield 63, 3) := by decide +kernel
theorem dX8_why_106 : decode cX8_why 106 = .ok (.iload_n 2, 1) := by decide +kernel
theorem dX8_why_107 : decode cX8_why 107 = .ok (.iaload, 1) := by decide +kernel
theorem dX8_why_108 : decode cX8_why 108 = .ok (.iconst (-1), 1) := by decide +kernel
theorem dX8_why_109 : decode cX8_why 109 = .ok (.if_icmp .eq 13, 3) := by decide +kernel
theorem dX8_why_112 : decode cX8_why 112 = .ok (.aload_n 0, 1) := by decide +kernel
theorem dX8_why_113 : decode cX8_why 113 = .ok (.getfield 63, 3) := by decide +kernel
theorem dX8_why_116 : decode cX8_why 116 = .ok (.iload_n 2, 1) := by decide +kernel
theorem dX8_why_117 : decode cX8_why 117 = .ok (.iaload, 1) := by decide +kernel
theorem dX8_why_118 : decode cX8_why 118 = .ok (.iload_n 3, 1) := by decide +kernel
theorem dX8_why_119 : decode cX8_why 119 = .ok (.if_icmp .le 5, 3) := by decide +kernel
theorem dX8_why_122 : decode cX8_why 122 = .ok (.iconst 2, 1) := by decide +kernel
theorem dX8_why_123 : decode cX8_why 123 = .ok (.ireturn, 1) := by decide +kernel
theorem dX8_why_124 : decode cX8_why 124 = .ok (.aload_n 0, 1) := by decide +kernel
theorem dX8_why_125 : decode cX8_why 125 = .ok (.iload_n 1, 1) := by decide +kernel
theorem dX8_why_126 : decode cX8_why 126 = .ok (.iload_n 3, 1) := by decide +kernel
theorem dX8_why_127 : decode cX8_why 127 = .ok (.iconst 0, 1) := by decide +kernel
theorem dX8_why_128 : decode cX8_why 128 = .ok (.invokevirtual 136, 3) := by decide +kernel
theorem dX8_why_131 : decode cX8_why 131 = .ok (.ifCond .eq 7, 3) := by decide +kernel
theorem dX8_why_134 : decode cX8_why 134 = .ok (.iconst 0, 1) := by decide +kernel
theorem dX8_why_135 : decode cX8_why 135 = .ok (.goto 4, 3) := by decide +kernel
theorem dX8_why_138 : decode cX8_why 138 = .ok (.iconst 5, 1) := by decide +kernel
theorem dX8_why_139 : decode cX8_why 139 = .ok (.ireturn, 1) := by decide +kernel
theorem dX8_by_0 : decode cX8_by 0 = .ok (.aload_n 0, 1) := by decide +kernel
theorem dX8_by_1 : decode cX8_by 1 = .ok (.iload_n 1, 1) := by decide +kernel
theorem dX8_by_2 : decode cX8_by 2 = .ok (.iload_n 2, 1) := by decide +kernel
theorem dX8_by_3 : decode cX8_by 3 = .ok (.iload_n 3, 1) := by decide +kernel
theorem dX8_by_4 : decode cX8_by 4 = .ok (.invokevirtual 211, 3) := by decide +kernel
theorem dX8_by_7 : decode cX8_by 7 = .ok (.istore 4, 2) := by decide +kernel
theorem dX8_by_9 : decode cX8_by 9 = .ok (.iload 4, 2) := by decide +kernel
theorem dX8_by_11 : decode cX8_by 11 = .ok (.bipush 6, 2) := by decide +kernel
theorem dX8_by_13 : decode cX8_by 13 = .ok (.if_icmp .ne 10, 3) := by decide +kernel
theorem dX8_by_16 : decode cX8_by 16 = .ok (.aload_n 0, 1) := by decide +kernel
theorem dX8_by_17 : decode cX8_by 17 = .ok (.getfield 44, 3) := by decide +kernel
theorem dX8_by_20 : decode cX8_by 20 = .ok (.iload_n 2, 1) := by decide +kernel
theorem dX8_by_21 : decode cX8_by 21 = .ok (.iaload, 1) := by decide +kernel
theorem dX8_by_22 : decode cX8_by 22 = .ok (.ireturn, 1) := by decide +kernel
theorem dX8_by_23 : decode cX8_by 23 = .ok (.iload 4, 2) := by decide +kernel
theorem dX8_by_25 : decode cX8_by 25 = .ok (.iconst 4, 1) := by decide +kernel
theorem dX8_by_26 : decode cX8_by 26 = .ok (.if_icmp .ne 14, 3) := by decide +kernel
theorem dX8_by_29 : decode cX8_by 29 = .ok (.aload_n 0, 1) := by decide +kernel
theorem dX8_by_30 : decode cX8_by 30 = .ok (.bipush 6, 2) := by decide +kernel
theorem dX8_by_32 : decode cX8_by 32 = .ok (.iload_n 2, 1) := by decide +kernel
theorem dX8_by_33 : decode cX8_by 33 = .ok (.iload_n 3, 1) := by decide +kernel
theorem dX8_by_34 : decode cX8_by 34 = .ok (.invokevirtual 132, 3) := by decide +kernel
theorem dX8_by_37 : decode cX8_by 37 = .ok (.goto 21, 3) := by decide +kernel
theorem dX8_by_40 : decode cX8_by 40 = .ok (.iload 4, 2) := by decide +kernel
theorem dX8_by_42 : decode cX8_by 42 = .ok (.iconst 1, 1) := by decide +kernel
theorem dX8_by_43 : decode cX8_by 43 = .ok (.if_icmp .ne 14, 3) := by decide +kernel
theorem dX8_by_46 : decode cX8_by 46 = .ok (.aload_n 0, 1) := by decide +kernel
theorem dX8_by_47 : decode cX8_by 47 = .ok (.bipush 7, 2) := by decide +kernel
theorem dX8_by_49 : decode cX8_by 49 = .ok (.iload_n 2, 1) := by decide +kernel
theorem dX8_by_50 : decode cX8_by 50 = .ok (.iload_n 3, 1) := by decide +kernel
theorem dX8_by_51 : decode cX8_by 51 = .ok (.invokevirtual 132, 3) := by decide +kernel
theorem dX8_by_54 : decode cX8_by 54 = .ok (.goto 4, 3) := by decide +kernel
theorem dX8_by_57 : decode cX8_by 57 = .ok (.iconst (-1), 1) := by decide +kernel
theorem dX8_by_58 : decode cX8_by 58 = .ok (.ireturn, 1) := by decide +kernel
theorem dX8_full_0 : decode cX8_full 0 = .ok (.aload_n 0, 1) := by decide +kernel
theorem dX8_full_1 : decode cX8_full 1 = .ok (.iload_n 1, 1) := by decide +kernel
theorem dX8_full_2 : decode cX8_full 2 = .ok (.invokevirtual 150, 3) := by decide +kernel
theorem dX8_full_5 : decode cX8_full 5 = .ok (.ifCond .ne 5, 3) := by decide +kernel
theorem dX8_full_8 : decode cX8_full 8 = .ok (.iconst (-1), 1) := by decide +kernel
theorem dX8_full_9 : decode cX8_full 9 = .ok (.ireturn, 1) := by decide +kernel
theorem dX8_full_10 : decode cX8_full 10 = .ok (.aload_n 0, 1) := by decide +kernel
theorem dX8_full_11 : decode cX8_full 11 = .ok (.iload_n 1, 1) := by decide +kernel
theorem dX8_full_12 : decode cX8_full 12 = .ok (.aload_n 0, 1) := by decide +kernel
theorem dX8_full_13 : decode cX8_full 13 = .ok (.invokevirtual 202, 3) := by decide +kernel
theorem dX8_full_16 : decode cX8_full 16 = .ok (.iload_n 2, 1) := by decide +kernel
theorem dX8_full_17 : decode cX8_full 17 = .ok (.invokevirtual 192, 3) := by decide +kernel
theorem dX8_full_20 : decode cX8_full 20 = .ok (.aload_n 0, 1) := by decide +kernel
theorem dX8_full_21 : decode cX8_full 21 = .ok (.invokevirtual 198, 3) := by decide +kernel
theorem dX8_full_24 : decode cX8_full 24 = .ok (.ireturn, 1) := by decide +kernel
theorem dX8_watched_0 : decode cX8_watched 0 = .ok (.aload_n 0, 1) := by decide +kernel
theorem dX8_watched_1 : decode cX8_watched 1 = .ok (.iload_n 1, 1) := by decide +kernel
theorem dX8_watched_2 : decode cX8_watched 2 = .ok (.invokevirtual 150, 3) := by decide +kernel
theorem dX8_watched_5 : decode cX8_watched 5 = .ok (.ifCond .eq 14, 3) := by decide +kernel
theorem dX8_watched_8 : decode cX8_watched 8 = .ok (.iload_n 2, 1) := by decide +kernel
theorem dX8_watched_9 : decode cX8_watched 9 = .ok (.ifCond .lt 10, 3) := by decide +kernel
theorem dX8_watched_12 : decode cX8_watched 12 = .ok (.iload_n 2, 1) := by decide +kernel
theorem dX8_watched_13 : decode cX8_watched 13 = .ok (.sipush 1000, 3) := by decide +kernel
theorem dX8_watched_16 : decode cX8_watched 16 = .ok (.if_icmp .le 5, 3) := by decide +kernel
theorem dX8_watched_19 : decode cX8_watched 19 = .ok (.iconst (-1), 1) := by decide +kernel
theorem dX8_watched_20 : decode cX8_watched 20 = .ok (.ireturn, 1) := by decide +kernel
theorem dX8_watched_21 : decode cX8_watched 21 = .ok (.aload_n 0, 1) := by decide +kernel
theorem dX8_watched_22 : decode cX8_watched 22 = .ok (.iload_n 1, 1) := by decide +kernel
theorem dX8_watched_23 : decode cX8_watched 23 = .ok (.aload_n 0, 1) := by decide +kernel
theorem dX8_watched_24 : decode cX8_watched 24 = .ok (.invokevirtual 202, 3) := by decide +kernel
theorem dX8_watched_27 : decode cX8_watched 27 = .ok (.iload_n 3, 1) := by decide +kernel
theorem dX8_watched_28 : decode cX8_watched 28 = .ok (.invokevirtual 192, 3) := by decide +kernel
theorem dX8_watched_31 : decode cX8_watched 31 = .ok (.aload_n 0, 1) := by decide +kernel
theorem dX8_watched_32 : decode cX8_watched 32 = .ok (.iload_n 2, 1) := by decide +kernel
theorem dX8_watched_33 : decode cX8_watched 33 = .ok (.invokevirtual 195, 3) := by decide +kernel
theorem dX8_watched_36 : decode cX8_watched 36 = .ok (.ireturn, 1) := by decide +kernel
theorem dX8_open_0 : decode cX8_open 0 = .ok (.aload_n 0, 1) := by decide +kernel
theorem dX8_open_1 : decode cX8_open 1 = .ok (.iload_n 1, 1) := by decide +kernel
theorem dX8_open_2 : decode cX8_open 2 = .ok (.invokevirtual 150, 3) := by decide +kernel
theorem dX8_open_5 : decode cX8_open 5 = .ok (.ifCond .eq 10, 3) := by decide +kernel
theorem dX8_open_8 : decode cX8_open 8 = .ok (.iload_n 2, 1) := by decide +kernel
theorem dX8_open_9 : decode cX8_open 9 = .ok (.invokestatic 186, 3) := by decide +kernel
theorem dX8_open_12 : decode cX8_open 12 = .ok (.ifCond .ne 5, 3) := by decide +kernel
theorem dX8_open_15 : decode cX8_open 15 = .ok (.iconst (-1), 1) := by decide +kernel
theorem dX8_open_16 : decode cX8_open 16 = .ok (.ireturn, 1) := by decide +kernel
theorem dX8_open_17 : decode cX8_open 17 = .ok (.aload_n 0, 1) := by decide +kernel
theorem dX8_open_18 : decode cX8_open 18 = .ok (.iload_n 1, 1) := by decide +kernel
theorem dX8_open_19 : decode cX8_open 19 = .ok (.aload_n 0, 1) := by decide +kernel
theorem dX8_open_20 : decode cX8_open 20 = .ok (.invokevirtual 202, 3) := by decide +kernel
theorem dX8_open_23 : decode cX8_open 23 = .ok (.invokevirtual 140, 3) := by decide +kernel
theorem dX8_open_26 : decode cX8_open 26 = .ok (.bipush 120, 2) := by decide +kernel
theorem dX8_open_28 : decode cX8_open 28 = .ok (.iload_n 1, 1) := by decide +kernel
theorem dX8_open_29 : decode cX8_open 29 = .ok (.imul, 1) := by decide +kernel
theorem dX8_open_30 : decode cX8_open 30 = .ok (.iload_n 2, 1) := by decide +kernel
theorem dX8_open_31 : decode cX8_open 31 = .ok (.iadd, 1) := by decide +kernel
theorem dX8_open_32 : decode cX8_open 32 = .ok (.istore_n 3, 1) := by decide +kernel
theorem dX8_open_33 : decode cX8_open 33 = .ok (.aload_n 0, 1) := by decide +kernel
theorem dX8_open_34 : decode cX8_open 34 = .ok (.getfield 47, 3) := by decide +kernel
theorem dX8_open_37 : decode cX8_open 37 = .ok (.iload_n 3, 1) := by decide +kernel
theorem dX8_open_38 : decode cX8_open 38 = .ok (.iaload, 1) := by decide +kernel
theorem dX8_open_39 : decode cX8_open 39 = .ok (.iconst 2, 1) := by decide +kernel
theorem dX8_open_40 : decode cX8_open 40 = .ok (.if_icmp .eq 24, 3) := by decide +kernel
theorem dX8_open_43 : decode cX8_open 43 = .ok (.aload_n 0, 1) := by decide +kernel
theorem dX8_open_44 : decode cX8_open 44 = .ok (.getfield 47, 3) := by decide +kernel
theorem dX8_open_47 : decode cX8_open 47 = .ok (.iload_n 3, 1) := by decide +kernel
theorem dX8_open_48 : decode cX8_open 48 = .ok (.iaload, 1) := by decide +kernel
theorem dX8_open_49 : decode cX8_open 49 = .ok (.iconst 1, 1) := by decide +kernel
theorem dX8_open_50 : decode cX8_open 50 = .ok (.if_icmp .ne 18, 3) := by decide +kernel
theorem dX8_open_53 : decode cX8_open 53 = .ok (.aload_n 0, 1) := by decide +kernel
theorem dX8_open_54 : decode cX8_open 54 = .ok (.getfield 54, 3) := by decide +kernel
theorem dX8_open_57 : decode cX8_open 57 = .ok (.iload_n 3, 1) := by decide +kernel
theorem dX8_open_58 : decode cX8_open 58 = .ok (.iaload, 1) := by decide +kernel
theorem dX8_open_59 : decode cX8_open 59 = .ok (.bipush 30, 2) := by decide +kernel
theorem dX8_open_61 : decode cX8_open 61 = .ok (.if_icmp .ge 7, 3) := by decide +kernel
theorem dX8_open_64 : decode cX8_open 64 = .ok (.iconst 1, 1) := by decide +kernel
theorem dX8_open_65 : decode cX8_open 65 = .ok (.goto 4, 3) := by decide +kernel
theorem dX8_open_68 : decode cX8_open 68 = .ok (.iconst 0, 1) := by decide +kernel
theorem dX8_open_69 : decode cX8_open 69 = .ok (.ireturn, 1) := by decide +kernel
theorem dX8_over_0 : decode cX8_over 0 = .ok (.aload_n 0, 1) := by decide +kernel
theorem dX8_over_1 : decode cX8_over 1 = .ok (.iload_n 1, 1) := by decide +kernel
theorem dX8_over_2 : decode cX8_over 2 = .ok (.invokevirtual 150, 3) := by decide +kernel
theorem dX8_over_5 : decode cX8_over 5 = .ok (.ifCond .ne 5, 3) := by decide +kernel
theorem dX8_over_8 : decode cX8_over 8 = .ok (.iconst (-1), 1) := by decide +kernel
theorem dX8_over_9 : decode cX8_over 9 = .ok (.ireturn, 1) := by decide +kernel
theorem dX8_over_10 : decode cX8_over 10 = .ok (.aload_n 0, 1) := by decide +kernel
theorem dX8_over_11 : decode cX8_over 11 = .ok (.iload_n 1, 1) := by decide +kernel
theorem dX8_over_12 : decode cX8_over 12 = .ok (.aload_n 0, 1) := by decide +kernel
theorem dX8_over_13 : decode cX8_over 13 = .ok (.invokevirtual 202, 3) := by decide +kernel
theorem dX8_over_16 : decode cX8_over 16 = .ok (.iconst 0, 1) := by decide +kernel
theorem dX8_over_17 : decode cX8_over 17 = .ok (.invokevirtual 192, 3) := by decide +kernel
theorem dX8_over_20 : decode cX8_over 20 = .ok (.aload_n 0, 1) := by decide +kernel
theorem dX8_over_21 : decode cX8_over 21 = .ok (.invokevirtual 198, 3) := by decide +kernel
theorem dX8_over_24 : decode cX8_over 24 = .ok (.istore_n 2, 1) := by decide +kernel
theorem dX8_over_25 : decode cX8_over 25 = .ok (.iconst 0, 1) := by decide +kernel
theorem dX8_over_26 : decode cX8_over 26 = .ok (.istore_n 3, 1) := by decide +kernel
theorem dX8_over_27 : decode cX8_over 27 = .ok (.iconst 0, 1) := by decide +kernel
theorem dX8_over_28 : decode cX8_over 28 = .ok (.istore 4, 2) := by decide +kernel
theorem dX8_over_30 : decode cX8_over 30 = .ok (.iload_n 2, 1) := by decide +kernel
theorem dX8_over_31 : decode cX8_over 31 = .ok (.iconst (-1), 1) := by decide +kernel
theorem dX8_over_32 : decode cX8_over 32 = .ok (.if_icmp .eq 86, 3) := by decide +kernel
theorem dX8_over_35 : decode cX8_over 35 = .ok (.iload 4, 2) := by decide +kernel
theorem dX8_over_37 : decode cX8_over 37 = .ok (.aload_n 0, 1) := by decide +kernel
theorem dX8_over_38 : decode cX8_over 38 = .ok (.invokevirtual 202, 3) := by decide +kernel
theorem dX8_over_41 : decode cX8_over 41 = .ok (.if_icmp .gt 77, 3) := by decide +kernel
theorem dX8_over_44 : decode cX8_over 44 = .ok (.bipush 120, 2) := by decide +kernel
theorem dX8_over_46 : decode cX8_over 46 = .ok (.iload_n 1, 1) := by decide +kernel
theorem dX8_over_47 : decode cX8_over 47 = .ok (.imul, 1) := by decide +kernel
theorem dX8_over_48 : decode cX8_over 48 = .ok (.iload 4, 2) := by decide +kernel
theorem dX8_over_50 : decode cX8_over 50 = .ok (.bipush 30, 2) := by decide +kernel
theorem dX8_over_52 : decode cX8_over 52 = .ok (.idiv, 1) := by decide +kernel
theorem dX8_over_53 : decode cX8_over 53 = .ok (.iadd, 1) := by decide +kernel
theorem dX8_over_54 : decode cX8_over 54 = .ok (.istore 5, 2) := by decide +kernel
theorem dX8_over_56 : decode cX8_over 56 = .ok (.iload_n 3, 1) := by decide +kernel
theorem dX8_over_57 : decode cX8_over 57 = .ok (.iload 4, 2) := by decide +kernel
theorem dX8_over_59 : decode cX8_over 59 = .ok (.iload_n 2, 1) := by decide +kernel
theorem dX8_over_60 : decode cX8_over 60 = .ok (.if_icmp .lt 49, 3) := by decide +kernel
theorem dX8_over_63 : decode cX8_over 63 = .ok (.aload_n 0, 1) := by decide +kernel
theorem dX8_over_64 : decode cX8_over 64 = .ok (.getfield 47, 3) := by decide +kernel
theorem dX8_over_67 : decode cX8_over 67 = .ok (.iload 5, 2) := by decide +kernel
theorem dX8_over_69 : decode cX8_over 69 = .ok (.iaload, 1) := by decide +kernel
theorem dX8_over_70 : decode cX8_over 70 = .ok (.iconst 1, 1) := by decide +kernel
theorem dX8_over_71 : decode cX8_over 71 = .ok (.if_icmp .ne 38, 3) := by decide +kernel
theorem dX8_over_74 : decode cX8_over 74 = .ok (.aload_n 0, 1) := by decide +kernel
theorem dX8_over_75 : decode cX8_over 75 = .ok (.getfield 54, 3) := by decide +kernel
theorem dX8_over_78 : decode cX8_over 78 = .ok (.iload 5, 2) := by decide +kernel
theorem dX8_over_80 : decode cX8_over 80 = .ok (.iaload, 1) := by decide +kernel
theorem dX8_over_81 : decode cX8_over 81 = .ok (.bipush 30, 2) := by decide +kernel
theorem dX8_over_83 : decode cX8_over 83 = .ok (.if_icmp .ne 26, 3) := by decide +kernel
theorem dX8_over_86 : decode cX8_over 86 = .ok (.aload_n 0, 1) := by decide +kernel
theorem dX8_over_87 : decode cX8_over 87 = .ok (.getfield 57, 3) := by decide +kernel
theorem dX8_over_90 : decode cX8_over 90 = .ok (.bipush 30, 2) := by decide +kernel
theorem dX8_over_92 : decode cX8_over 92 = .ok (.iload 5, 2) := by decide +kernel
theorem dX8_over_94 : decode cX8_over 94 = .ok (.imul, 1) := by decide +kernel
theorem dX8_over_95 : decode cX8_over 95 = .ok (.iload 4, 2) := by decide +kernel
theorem dX8_over_97 : decode cX8_over 97 = .ok (.bipush 30, 2) := by decide +kernel
theorem dX8_over_99 : decode cX8_over 99 = .ok (.irem, 1) := by decide +kernel
theorem dX8_over_100 : decode cX8_over 100 = .ok (.iadd, 1) := by decide +kernel
theorem dX8_over_101 : decode cX8_over 101 = .ok (.iaload, 1) := by decide +kernel
theorem dX8_over_102 : decode cX8_over 102 = .ok (.ifCond .eq 7, 3) := by decide +kernel
theorem dX8_over_105 : decode cX8_over 105 = .ok (.iconst 1, 1) := by decide +kernel
theorem dX8_over_106 : decode cX8_over 106 = .ok (.goto 4, 3) := by decide +kernel
theorem dX8_over_109 : decode cX8_over 109 = .ok (.iconst 0, 1) := by decide +kernel
theorem dX8_over_110 : decode cX8_over 110 = .ok (.iadd, 1) := by decide +kernel
theorem dX8_over_111 : decode cX8_over 111 = .ok (.istore_n 3, 1) := by decide +kernel
theorem dX8_over_112 : decode cX8_over 112 = .ok (.iinc 4 1, 3) := by decide +kernel
theorem dX8_over_115 : decode cX8_over 115 = .ok (.goto (-85), 3) := by decide +kernel
theorem dX8_over_118 : decode cX8_over 118 = .ok (.iload_n 3, 1) := by decide +kernel
theorem dX8_over_119 : decode cX8_over 119 = .ok (.ireturn, 1) := by decide +kernel
theorem dX8_ring_0 : decode cX8_ring 0 = .ok (.iload_n 1, 1) := by decide +kernel
theorem dX8_ring_1 : decode cX8_ring 1 = .ok (.ifCond .lt 20, 3) := by decide +kernel
theorem dX8_ring_4 : decode cX8_ring 4 = .ok (.iload_n 1, 1) := by decide +kernel
theorem dX8_ring_5 : decode cX8_ring 5 = .ok (.aload_n 0, 1) := by decide +kernel
theorem dX8_ring_6 : decode cX8_ring 6 = .ok (.getfield 183, 3) := by decide +kernel
theorem dX8_ring_9 : decode cX8_ring 9 = .ok (.if_icmp .ge 12, 3) := by decide +kernel
theorem dX8_ring_12 : decode cX8_ring 12 = .ok (.aload_n 0, 1) := by decide +kernel
theorem dX8_ring_13 : decode cX8_ring 13 = .ok (.getfield 91, 3) := by decide +kernel
theorem dX8_ring_16 : decode cX8_ring 16 = .ok (.iload_n 1, 1) := by decide +kernel
theorem dX8_ring_17 : decode cX8_ring 17 = .ok (.iaload, 1) := by decide +kernel
theorem dX8_ring_18 : decode cX8_ring 18 = .ok (.goto 4, 3) := by decide +kernel
theorem dX8_ring_21 : decode cX8_ring 21 = .ok (.iconst (-1), 1) := by decide +kernel
theorem dX8_ring_22 : decode cX8_ring 22 = .ok (.ireturn, 1) := by decide +kernel
theorem dX8_check_0 : decode cX8_check 0 = .ok (.iload_n 3, 1) := by decide +kernel
theorem dX8_check_1 : decode cX8_check 1 = .ok (.invokestatic 163, 3) := by decide +kernel
theorem dX8_check_4 : decode cX8_check 4 = .ok (.ifCond .eq 20, 3) := by decide +kernel
theorem dX8_check_7 : decode cX8_check 7 = .ok (.aload_n 0, 1) := by decide +kernel
theorem dX8_check_8 : decode cX8_check 8 = .ok (.iload_n 1, 1) := by decide +kernel
theorem dX8_check_9 : decode cX8_check 9 = .ok (.iload_n 2, 1) := by decide +kernel
theorem dX8_check_10 : decode cX8_check 10 = .ok (.invokevirtual 205, 3) := by decide +kernel
theorem dX8_check_13 : decode cX8_check 13 = .ok (.ifCond .eq 11, 3) := by decide +kernel
theorem dX8_check_16 : decode cX8_check 16 = .ok (.aload_n 0, 1) := by decide +kernel
theorem dX8_check_17 : decode cX8_check 17 = .ok (.iload_n 2, 1) := by decide +kernel
theorem dX8_check_18 : decode cX8_check 18 = .ok (.invokevirtual 121, 3) := by decide +kernel
theorem dX8_check_21 : decode cX8_check 21 = .ok (.ifCond .ne 6, 3) := by decide +kernel
theorem dX8_check_24 : decode cX8_check 24 = .ok (.bipush (-2), 2) := by decide +kernel
theorem dX8_check_26 : decode cX8_check 26 = .ok (.ireturn, 1) := by decide +kernel
theorem dX8_check_27 : decode cX8_check 27 = .ok (.aload_n 0, 1) := by decide +kernel
theorem dX8_check_28 : decode cX8_check 28 = .ok (.iload_n 1, 1) := by decide +kernel
theorem dX8_check_29 : decode cX8_check 29 = .ok (.aload_n 0, 1) := by decide +kernel
theorem dX8_check_30 : decode cX8_check 30 = .ok (.invokevirtual 202, 3) := by decide +kernel
theorem dX8_check_33 : decode cX8_check 33 = .ok (.iconst 0, 1) := by decide +kernel
theorem dX8_check_34 : decode cX8_check 34 = .ok (.invokevirtual 192, 3) := by decide +kernel
theorem dX8_check_37 : decode cX8_check 37 = .ok (.iconst 0, 1) := by decide +kernel
theorem dX8_check_38 : decode cX8_check 38 = .ok (.istore 5, 2) := by decide +kernel
theorem dX8_check_40 : decode cX8_check 40 = .ok (.iload 5, 2) := by decide +kernel
theorem dX8_check_42 : decode cX8_check 42 = .ok (.bipush 32, 2) := by decide +kernel
theorem dX8_check_44 : decode cX8_check 44 = .ok (.if_icmp .ge 70, 3) := by decide +kernel
theorem dX8_check_47 : decode cX8_check 47 = .ok (.iload_n 3, 1) := by decide +kernel
theorem dX8_check_48 : decode cX8_check 48 = .ok (.iload 5, 2) := by decide +kernel
theorem dX8_check_50 : decode cX8_check 50 = .ok (.iadd, 1) := by decide +kernel
theorem dX8_check_51 : decode cX8_check 51 = .ok (.sipush 3600, 3) := by decide +kernel
theorem dX8_check_54 : decode cX8_check 54 = .ok (.if_icmp .ge 25, 3) := by decide +kernel
theorem dX8_check_57 : decode cX8_check 57 = .ok (.aload_n 0, 1) := by decide +kernel
theorem dX8_check_58 : decode cX8_check 58 = .ok (.getfield 70, 3) := by decide +kernel
theorem dX8_check_61 : decode cX8_check 61 = .ok (.sipush 3600, 3) := by decide +kernel
theorem dX8_check_64 : decode cX8_check 64 = .ok (.iload_n 2, 1) := by decide +kernel
theorem dX8_check_65 : decode cX8_check 65 = .ok (.imul, 1) := by decide +kernel
theorem dX8_check_66 : decode cX8_check 66 = .ok (.iload_n 3, 1) := by decide +kernel
theorem dX8_check_67 : decode cX8_check 67 = .ok (.iadd, 1) := by decide +kernel
theorem dX8_check_68 : decode cX8_check 68 = .ok (.iload 5, 2) := by decide +kernel
theorem dX8_check_70 : decode cX8_check 70 = .ok (.iadd, 1) := by decide +kernel
theorem dX8_check_71 : decode cX8_check 71 = .ok (.baload, 1) := by decide +kernel
theorem dX8_check_72 : decode cX8_check 72 = .ok (.ifCond .eq 7, 3) := by decide +kernel
theorem dX8_check_75 : decode cX8_check 75 = .ok (.iconst 1, 1) := by decide +kernel
theorem dX8_check_76 : decode cX8_check 76 = .ok (.goto 4, 3) := by decide +kernel
theorem dX8_check_79 : decode cX8_check 79 = .ok (.iconst 0, 1) := by decide +kernel
theorem dX8_check_80 : decode cX8_check 80 = .ok (.istore 6, 2) := by decide +kernel
theorem dX8_check_82 : decode cX8_check 82 = .ok (.iload 6, 2) := by decide +kernel
theorem dX8_check_84 : decode cX8_check 84 = .ok (.iload 4, 2) := by decide +kernel
theorem dX8_check_86 : decode cX8_check 86 = .ok (.iload 5, 2) := by decide +kernel
theorem dX8_check_88 : decode cX8_check 88 = .ok (.ishr, 1) := by decide +kernel
theorem dX8_check_89 : decode cX8_check 89 = .ok (.iconst 1, 1) := by decide +kernel
theorem dX8_check_90 : decode cX8_check 90 = .ok (.iand, 1) := by decide +kernel
theorem dX8_check_91 : decode cX8_check 91 = .ok (.iconst 1, 1) := by decide +kernel
theorem dX8_check_92 : decode cX8_check 92 = .ok (.if_icmp .ne 7, 3) := by decide +kernel
theorem dX8_check_95 : decode cX8_check 95 = .ok (.iconst 1, 1) := by decide +kernel
theorem dX8_check_96 : decode cX8_check 96 = .ok (.goto 4, 3) := by decide +kernel
theorem dX8_check_99 : decode cX8_check 99 = .ok (.iconst 0, 1) := by decide +kernel
theorem dX8_check_100 : decode cX8_check 100 = .ok (.if_icmp .eq 8, 3) := by decide +kernel
theorem dX8_check_103 : decode cX8_check 103 = .ok (.iload_n 3, 1) := by decide +kernel
theorem dX8_check_104 : decode cX8_check 104 = .ok (.iload 5, 2) := by decide +kernel
theorem dX8_check_106 : decode cX8_check 106 = .ok (.iadd, 1) := by decide +kernel
theorem dX8_check_107 : decode cX8_check 107 = .ok (.ireturn, 1) := by decide +kernel
theorem dX8_check_108 : decode cX8_check 108 = .ok (.iinc 5 1, 3) := by decide +kernel
theorem dX8_check_111 : decode cX8_check 111 = .ok (.goto (-71), 3) := by decide +kernel
theorem dX8_check_114 : decode cX8_check 114 = .ok (.iconst (-1), 1) := by decide +kernel
theorem dX8_check_115 : decode cX8_check 115 = .ok (.ireturn, 1) := by decide +kernel
theorem dX8_image_0 : decode cX8_image 0 = .ok (.iload_n 1, 1) := by decide +kernel
theorem dX8_image_1 : decode cX8_image 1 = .ok (.ifCond .lt 35, 3) := by decide +kernel
theorem dX8_image_4 : decode cX8_image 4 = .ok (.iload_n 1, 1) := by decide +kernel
theorem dX8_image_5 : decode cX8_image 5 = .ok (.aload_n 0, 1) := by decide +kernel
theorem dX8_image_6 : decode cX8_image 6 = .ok (.getfield 106, 3) := by decide +kernel
theorem dX8_image_9 : decode cX8_image 9 = .ok (.if_icmp .ge 27, 3) := by decide +kernel
theorem dX8_image_12 : decode cX8_image 12 = .ok (.iload_n 2, 1) := by decide +kernel
theorem dX8_image_13 : decode cX8_image 13 = .ok (.ifCond .lt 23, 3) := by decide +kernel
theorem dX8_image_16 : decode cX8_image 16 = .ok (.iload_n 2, 1) := by decide +kernel
theorem dX8_image_17 : decode cX8_image 17 = .ok (.bipush 7, 2) := by decide +kernel
theorem dX8_image_19 : decode cX8_image 19 = .ok (.if_icmp .gt 17, 3) := by decide +kernel
theorem dX8_image_22 : decode cX8_image 22 = .ok (.aload_n 0, 1) := by decide +kernel
theorem dX8_image_23 : decode cX8_image 23 = .ok (.getfield 13, 3) := by decide +kernel
theorem dX8_image_26 : decode cX8_image 26 = .ok (.bipush 8, 2) := by decide +kernel
theorem dX8_image_28 : decode cX8_image 28 = .ok (.iload_n 1, 1) := by decide +kernel
theorem dX8_image_29 : decode cX8_image 29 = .ok (.imul, 1) := by decide +kernel
theorem dX8_image_30 : decode cX8_image 30 = .ok (.iload_n 2, 1) := by decide +kernel
theorem dX8_image_31 : decode cX8_image 31 = .ok (.iadd, 1) := by decide +kernel
theorem dX8_image_32 : decode cX8_image 32 = .ok (.iaload, 1) := by decide +kernel
theorem dX8_image_33 : decode cX8_image 33 = .ok (.goto 4, 3) := by decide +kernel
theorem dX8_image_36 : decode cX8_image 36 = .ok (.iconst (-1), 1) := by decide +kernel
theorem dX8_image_37 : decode cX8_image 37 = .ok (.ireturn, 1) := by decide +kernel
theorem dX8_take_0 : decode cX8_take 0 = .ok (.iload_n 2, 1) := by decide +kernel
theorem dX8_take_1 : decode cX8_take 1 = .ok (.ifCond .lt 17, 3) := by decide +kernel
theorem dX8_take_4 : decode cX8_take 4 = .ok (.iload_n 2, 1) := by decide +kernel
theorem dX8_take_5 : decode cX8_take 5 = .ok (.bipush 12, 2) := by decide +kernel
theorem dX8_take_7 : decode cX8_take 7 = .ok (.if_icmp .gt 11, 3) := by decide +kernel
theorem dX8_take_10 : decode cX8_take 10 = .ok (.aload_n 0, 1) := by decide +kernel
theorem dX8_take_11 : decode cX8_take 11 = .ok (.iload_n 1, 1) := by decide +kernel
theorem dX8_take_12 : decode cX8_take 12 = .ok (.invokevirtual 214, 3) := by decide +kernel
theorem dX8_take_15 : decode cX8_take 15 = .ok (.ifCond .ne 5, 3) := by decide +kernel
theorem dX8_take_18 : decode cX8_take 18 = .ok (.iconst (-1), 1) := by decide +kernel
theorem dX8_take_19 : decode cX8_take 19 = .ok (.ireturn, 1) := by decide +kernel
theorem dX8_take_20 : decode cX8_take 20 = .ok (.iload_n 2, 1) := by decide +kernel
theorem dX8_take_21 : decode cX8_take 21 = .ok (.tableswitch 207 0 11 #[63, 71, 83, 99, 115, 125, 145, 157, 165, 177, 189, 199], 63) := by decide +kernel
theorem dX8_take_84 : decode cX8_take 84 = .ok (.aload_n 0, 1) := by decide +kernel
theorem dX8_take_85 : decode cX8_take 85 = .ok (.iload_n 3, 1) := by decide +kernel
theorem dX8_take_86 : decode cX8_take 86 = .ok (.iload 4, 2) := by decide +kernel
theorem dX8_take_88 : decode cX8_take 88 = .ok (.invokevirtual 216, 3) := by decide +kernel
theorem dX8_take_91 : decode cX8_take 91 = .ok (.ireturn, 1) := by decide +kernel
theorem dX8_take_92 : decode cX8_take 92 = .ok (.aload_n 0, 1) := by decide +kernel
theorem dX8_take_93 : decode cX8_take 93 = .ok (.iload_n 3, 1) := by decide +kernel
theorem dX8_take_94 : decode cX8_take 94 = .ok (.iload 4, 2) := by decide +kernel
theorem dX8_take_96 : decode cX8_take 96 = .ok (.iload 5, 2) := by decide +kernel
theorem dX8_take_98 : decode cX8_take 98 = .ok (.iload 6, 2) := by decide +kernel
theorem dX8_take_100 : decode cX8_take 100 = .ok (.invokevirtual 219, 3) := by decide +kernel
theorem dX8_take_103 : decode cX8_take 103 = .ok (.ireturn, 1) := by decide +kernel
theorem dX8_take_104 : decode cX8_take 104 = .ok (.aload_n 0, 1) := by decide +kernel
theorem dX8_take_105 : decode cX8_take 105 = .ok (.iload_n 3, 1) := by decide +kernel
theorem dX8_take_106 : decode cX8_take 106 = .ok (.iload 4, 2) := by decide +kernel
theorem dX8_take_108 : decode cX8_take 108 = .ok (.iload 5, 2) := by decide +kernel
theorem dX8_take_110 : decode cX8_take 110 = .ok (.iload 6, 2) := by decide +kernel
theorem dX8_take_112 : decode cX8_take 112 = .ok (.iload 7, 2) := by decide +kernel
theorem dX8_take_114 : decode cX8_take 114 = .ok (.iload 8, 2) := by decide +kernel
theorem dX8_take_116 : decode cX8_take 116 = .ok (.invokevirtual 223, 3) := by decide +kernel
theorem dX8_take_119 : decode cX8_take 119 = .ok (.ireturn, 1) := by decide +kernel
theorem dX8_take_120 : decode cX8_take 120 = .ok (.aload_n 0, 1) := by decide +kernel
theorem dX8_take_121 : decode cX8_take 121 = .ok (.iload_n 3, 1) := by decide +kernel
theorem dX8_take_122 : decode cX8_take 122 = .ok (.iload 4, 2) := by decide +kernel
theorem dX8_take_124 : decode cX8_take 124 = .ok (.iload 5, 2) := by decide +kernel
theorem dX8_take_126 : decode cX8_take 126 = .ok (.iload 6, 2) := by decide +kernel
theorem dX8_take_128 : decode cX8_take 128 = .ok (.iload 7, 2) := by decide +kernel
theorem dX8_take_130 : decode cX8_take 130 = .ok (.iload 8, 2) := by decide +kernel
theorem dX8_take_132 : decode cX8_take 132 = .ok (.invokevirtual 227, 3) := by decide +kernel
theorem dX8_take_135 : decode cX8_take 135 = .ok (.ireturn, 1) := by decide +kernel
theorem dX8_take_136 : decode cX8_take 136 = .ok (.aload_n 0, 1) := by decide +kernel
theorem dX8_take_137 : decode cX8_take 137 = .ok (.iload_n 3, 1) := by decide +kernel
theorem dX8_take_138 : decode cX8_take 138 = .ok (.iload 4, 2) := by decide +kernel
theorem dX8_take_140 : decode cX8_take 140 = .ok (.iload 5, 2) := by decide +kernel
theorem dX8_take_142 : decode cX8_take 142 = .ok (.invokevirtual 230, 3) := by decide +kernel
theorem dX8_take_145 : decode cX8_take 145 = .ok (.ireturn, 1) := by decide +kernel
theorem dX8_take_146 : decode cX8_take 146 = .ok (.aload_n 0, 1) := by decide +kernel
theorem dX8_take_147 : decode cX8_take 147 = .ok (.iload_n 3, 1) := by decide +kernel
theorem dX8_take_148 : decode cX8_take 148 = .ok (.iload 4, 2) := by decide +kernel
theorem dX8_take_150 : decode cX8_take 150 = .ok (.iload 5, 2) := by decide +kernel
theorem dX8_take_152 : decode cX8_take 152 = .ok (.ifCond .eq 7, 3) := by decide +kernel
theorem dX8_take_155 : decode cX8_take 155 = .ok (.iconst 1, 1) := by decide +kernel
theorem dX8_take_156 : decode cX8_take 156 = .ok (.goto 4, 3) := by decide +kernel
theorem dX8_take_159 : decode cX8_take 159 = .ok (.iconst 0, 1) := by decide +kernel
theorem dX8_take_160 : decode cX8_take 160 = .ok (.iload 6, 2) := by decide +kernel
theorem dX8_take_162 : decode cX8_take 162 = .ok (.invokevirtual 233, 3) := by decide +kernel
theorem dX8_take_165 : decode cX8_take 165 = .ok (.ireturn, 1) := by decide +kernel
theorem dX8_take_166 : decode cX8_take 166 = .ok (.aload_n 0, 1) := by decide +kernel
theorem dX8_take_167 : decode cX8_take 167 = .ok (.iload_n 3, 1) := by decide +kernel
theorem dX8_take_168 : decode cX8_take 168 = .ok (.iload 4, 2) := by decide +kernel
theorem dX8_take_170 : decode cX8_take 170 = .ok (.iload 5, 2) := by decide +kernel
theorem dX8_take_172 : decode cX8_take 172 = .ok (.iload 6, 2) := by decide +kernel
theorem dX8_take_174 : decode cX8_take 174 = .ok (.invokevirtual 236, 3) := by decide +kernel
theorem dX8_take_177 : decode cX8_take 177 = .ok (.ireturn, 1) := by decide +kernel
theorem dX8_take_178 : decode cX8_take 178 = .ok (.aload_n 0, 1) := by decide +kernel
theorem dX8_take_179 : decode cX8_take 179 = .ok (.iload_n 3, 1) := by decide +kernel
theorem dX8_take_180 : decode cX8_take 180 = .ok (.iload 4, 2) := by decide +kernel
theorem dX8_take_182 : decode cX8_take 182 = .ok (.invokevirtual 239, 3) := by decide +kernel
theorem dX8_take_185 : decode cX8_take 185 = .ok (.ireturn, 1) := by decide +kernel
theorem dX8_take_186 : decode cX8_take 186 = .ok (.aload_n 0, 1) := by decide +kernel
theorem dX8_take_187 : decode cX8_take 187 = .ok (.iload_n 3, 1) := by decide +kernel
theorem dX8_take_188 : decode cX8_take 188 = .ok (.iload 4, 2) := by decide +kernel
theorem dX8_take_190 : decode cX8_take 190 = .ok (.iload 5, 2) := by decide +kernel
theorem dX8_take_192 : decode cX8_take 192 = .ok (.iload 6, 2) := by decide +kernel
theorem dX8_take_194 : decode cX8_take 194 = .ok (.invokevirtual 242, 3) := by decide +kernel
theorem dX8_take_197 : decode cX8_take 197 = .ok (.ireturn, 1) := by decide +kernel
theorem dX8_take_198 : decode cX8_take 198 = .ok (.aload_n 0, 1) := by decide +kernel
theorem dX8_take_199 : decode cX8_take 199 = .ok (.iload_n 3, 1) := by decide +kernel
theorem dX8_take_200 : decode cX8_take 200 = .ok (.iload 4, 2) := by decide +kernel
theorem dX8_take_202 : decode cX8_take 202 = .ok (.iload 5, 2) := by decide +kernel
theorem dX8_take_204 : decode cX8_take 204 = .ok (.iload 6, 2) := by decide +kernel
theorem dX8_take_206 : decode cX8_take 206 = .ok (.invokevirtual 245, 3) := by decide +kernel
theorem dX8_take_209 : decode cX8_take 209 = .ok (.ireturn, 1) := by decide +kernel
theorem dX8_take_210 : decode cX8_take 210 = .ok (.aload_n 0, 1) := by decide +kernel
theorem dX8_take_211 : decode cX8_take 211 = .ok (.iload_n 3, 1) := by decide +kernel
theorem dX8_take_212 : decode cX8_take 212 = .ok (.iload 4, 2) := by decide +kernel
theorem dX8_take_214 : decode cX8_take 214 = .ok (.iload 5, 2) := by decide +kernel
theorem dX8_take_216 : decode cX8_take 216 = .ok (.invokevirtual 248, 3) := by decide +kernel
theorem dX8_take_219 : decode cX8_take 219 = .ok (.ireturn, 1) := by decide +kernel
theorem dX8_take_220 : decode cX8_take 220 = .ok (.aload_n 0, 1) := by decide +kernel
theorem dX8_take_221 : decode cX8_take 221 = .ok (.iload_n 3, 1) := by decide +kernel
theorem dX8_take_222 : decode cX8_take 222 = .ok (.iload 4, 2) := by decide +kernel
theorem dX8_take_224 : decode cX8_take 224 = .ok (.invokevirtual 251, 3) := by decide +kernel
theorem dX8_take_227 : decode cX8_take 227 = .ok (.ireturn, 1) := by decide +kernel
theorem dX8_take_228 : decode cX8_take 228 = .ok (.aload_n 0, 1) := by decide +kernel
theorem dX8_take_229 : decode cX8_take 229 = .ok (.iload_n 3, 1) := by decide +kernel
theorem dX8_take_230 : decode cX8_take 230 = .ok (.iload 4, 2) := by decide +kernel
theorem dX8_take_232 : decode cX8_take 232 = .ok (.iload 5, 2) := by decide +kernel
theorem dX8_take_234 : decode cX8_take 234 = .ok (.iload 6, 2) := by decide +kernel
theorem dX8_take_236 : decode cX8_take 236 = .ok (.invokevirtual 253, 3) := by decide +kernel
theorem dX8_take_239 : decode cX8_take 239 = .ok (.ireturn, 1) := by decide +kernel
theorem dX8_count_0 : decode cX8_count 0 = .ok (.iload_n 1, 1) := by decide +kernel
theorem dX8_count_1 : decode cX8_count 1 = .ok (.tableswitch 51 0 3 #[31, 36, 41, 46], 31) := by decide +kernel
theorem dX8_count_32 : decode cX8_count 32 = .ok (.aload_n 0, 1) := by decide +kernel
theorem dX8_count_33 : decode cX8_count 33 = .ok (.getfield 97, 3) := by decide +kernel
theorem dX8_count_36 : decode cX8_count 36 = .ok (.ireturn, 1) := by decide +kernel
theorem dX8_count_37 : decode cX8_count 37 = .ok (.aload_n 0, 1) := by decide +kernel
theorem dX8_count_38 : decode cX8_count 38 = .ok (.getfield 94, 3) := by decide +kernel
theorem dX8_count_41 : decode cX8_count 41 = .ok (.ireturn, 1) := by decide +kernel
theorem dX8_count_42 : decode cX8_count 42 = .ok (.aload_n 0, 1) := by decide +kernel
theorem dX8_count_43 : decode cX8_count 43 = .ok (.getfield 106, 3) := by decide +kernel
theorem dX8_count_46 : decode cX8_count 46 = .ok (.ireturn, 1) := by decide +kernel
theorem dX8_count_47 : decode cX8_count 47 = .ok (.aload_n 0, 1) := by decide +kernel
theorem dX8_count_48 : decode cX8_count 48 = .ok (.invokevirtual 202, 3) := by decide +kernel
theorem dX8_count_51 : decode cX8_count 51 = .ok (.ireturn, 1) := by decide +kernel
theorem dX8_count_52 : decode cX8_count 52 = .ok (.iconst (-1), 1) := by decide +kernel
theorem dX8_count_53 : decode cX8_count 53 = .ok (.ireturn, 1) := by decide +kernel
theorem dJ6_numberOfTrailingZeros_0f7a4_0 : decode cJ6_numberOfTrailingZeros_0f7a4 0 = .ok (.iload_n 0, 1) := by decide +kernel
theorem dJ6_numberOfTrailingZeros_0f7a4_1 : decode cJ6_numberOfTrailingZeros_0f7a4 1 = .ok (.iconst (-1), 1) := by decide +kernel
theorem dJ6_numberOfTrailingZeros_0f7a4_2 : decode cJ6_numberOfTrailingZeros_0f7a4 2 = .ok (.ixor, 1) := by decide +kernel
theorem dJ6_numberOfTrailingZeros_0f7a4_3 : decode cJ6_numberOfTrailingZeros_0f7a4 3 = .ok (.iload_n 0, 1) := by decide +kernel
theorem dJ6_numberOfTrailingZeros_0f7a4_4 : decode cJ6_numberOfTrailingZeros_0f7a4 4 = .ok (.iconst 1, 1) := by decide +kernel
theorem dJ6_numberOfTrailingZeros_0f7a4_5 : decode cJ6_numberOfTrailingZeros_0f7a4 5 = .ok (.isub, 1) := by decide +kernel
theorem dJ6_numberOfTrailingZeros_0f7a4_6 : decode cJ6_numberOfTrailingZeros_0f7a4 6 = .ok (.iand, 1) := by decide +kernel
theorem dJ6_numberOfTrailingZeros_0f7a4_7 : decode cJ6_numberOfTrailingZeros_0f7a4 7 = .ok (.istore_n 0, 1) := by decide +kernel
theorem dJ6_numberOfTrailingZeros_0f7a4_8 : decode cJ6_numberOfTrailingZeros_0f7a4 8 = .ok (.iload_n 0, 1) := by decide +kernel
theorem dJ6_numberOfTrailingZeros_0f7a4_9 : decode cJ6_numberOfTrailingZeros_0f7a4 9 = .ok (.ifCond .gt 8, 3) := by decide +kernel
theorem dJ6_numberOfTrailingZeros_0f7a4_12 : decode cJ6_numberOfTrailingZeros_0f7a4 12 = .ok (.iload_n 0, 1) := by decide +kernel
theorem dJ6_numberOfTrailingZeros_0f7a4_13 : decode cJ6_numberOfTrailingZeros_0f7a4 13 = .ok (.bipush 32, 2) := by decide +kernel
theorem dJ6_numberOfTrailingZeros_0f7a4_15 : decode cJ6_numberOfTrailingZeros_0f7a4 15 = .ok (.iand, 1) := by decide +kernel
theorem dJ6_numberOfTrailingZeros_0f7a4_16 : decode cJ6_numberOfTrailingZeros_0f7a4 16 = .ok (.ireturn, 1) := by decide +kernel
theorem dJ6_numberOfTrailingZeros_0f7a4_17 : decode cJ6_numberOfTrailingZeros_0f7a4 17 = .ok (.iconst 1, 1) := by decide +kernel
theorem dJ6_numberOfTrailingZeros_0f7a4_18 : decode cJ6_numberOfTrailingZeros_0f7a4 18 = .ok (.istore_n 1, 1) := by decide +kernel
theorem dJ6_numberOfTrailingZeros_0f7a4_19 : decode cJ6_numberOfTrailingZeros_0f7a4 19 = .ok (.iload_n 0, 1) := by decide +kernel
theorem dJ6_numberOfTrailingZeros_0f7a4_20 : decode cJ6_numberOfTrailingZeros_0f7a4 20 = .ok (.ldc_w 264, 3) := by decide +kernel
theorem dJ6_numberOfTrailingZeros_0f7a4_23 : decode cJ6_numberOfTrailingZeros_0f7a4 23 = .ok (.if_icmp .le 11, 3) := by decide +kernel
theorem dJ6_numberOfTrailingZeros_0f7a4_26 : decode cJ6_numberOfTrailingZeros_0f7a4 26 = .ok (.iinc 1 16, 3) := by decide +kernel
theorem dJ6_numberOfTrailingZeros_0f7a4_29 : decode cJ6_numberOfTrailingZeros_0f7a4 29 = .ok (.iload_n 0, 1) := by decide +kernel
theorem dJ6_numberOfTrailingZeros_0f7a4_30 : decode cJ6_numberOfTrailingZeros_0f7a4 30 = .ok (.bipush 16, 2) := by decide +kernel
theorem dJ6_numberOfTrailingZeros_0f7a4_32 : decode cJ6_numberOfTrailingZeros_0f7a4 32 = .ok (.iushr, 1) := by decide +kernel
theorem dJ6_numberOfTrailingZeros_0f7a4_33 : decode cJ6_numberOfTrailingZeros_0f7a4 33 = .ok (.istore_n 0, 1) := by decide +kernel
theorem dJ6_numberOfTrailingZeros_0f7a4_34 : decode cJ6_numberOfTrailingZeros_0f7a4 34 = .ok (.iload_n 0, 1) := by decide +kernel
theorem dJ6_numberOfTrailingZeros_0f7a4_35 : decode cJ6_numberOfTrailingZeros_0f7a4 35 = .ok (.sipush 256, 3) := by decide +kernel
theorem dJ6_numberOfTrailingZeros_0f7a4_38 : decode cJ6_numberOfTrailingZeros_0f7a4 38 = .ok (.if_icmp .le 11, 3) := by decide +kernel
theorem dJ6_numberOfTrailingZeros_0f7a4_41 : decode cJ6_numberOfTrailingZeros_0f7a4 41 = .ok (.iinc 1 8, 3) := by decide +kernel
theorem dJ6_numberOfTrailingZeros_0f7a4_44 : decode cJ6_numberOfTrailingZeros_0f7a4 44 = .ok (.iload_n 0, 1) := by decide +kernel
theorem dJ6_numberOfTrailingZeros_0f7a4_45 : decode cJ6_numberOfTrailingZeros_0f7a4 45 = .ok (.bipush 8, 2) := by decide +kernel
theorem dJ6_numberOfTrailingZeros_0f7a4_47 : decode cJ6_numberOfTrailingZeros_0f7a4 47 = .ok (.iushr, 1) := by decide +kernel
theorem dJ6_numberOfTrailingZeros_0f7a4_48 : decode cJ6_numberOfTrailingZeros_0f7a4 48 = .ok (.istore_n 0, 1) := by decide +kernel
theorem dJ6_numberOfTrailingZeros_0f7a4_49 : decode cJ6_numberOfTrailingZeros_0f7a4 49 = .ok (.iload_n 0, 1) := by decide +kernel
theorem dJ6_numberOfTrailingZeros_0f7a4_50 : decode cJ6_numberOfTrailingZeros_0f7a4 50 = .ok (.bipush 16, 2) := by decide +kernel
theorem dJ6_numberOfTrailingZeros_0f7a4_52 : decode cJ6_numberOfTrailingZeros_0f7a4 52 = .ok (.if_icmp .le 10, 3) := by decide +kernel
theorem dJ6_numberOfTrailingZeros_0f7a4_55 : decode cJ6_numberOfTrailingZeros_0f7a4 55 = .ok (.iinc 1 4, 3) := by decide +kernel
theorem dJ6_numberOfTrailingZeros_0f7a4_58 : decode cJ6_numberOfTrailingZeros_0f7a4 58 = .ok (.iload_n 0, 1) := by decide +kernel
theorem dJ6_numberOfTrailingZeros_0f7a4_59 : decode cJ6_numberOfTrailingZeros_0f7a4 59 = .ok (.iconst 4, 1) := by decide +kernel
theorem dJ6_numberOfTrailingZeros_0f7a4_60 : decode cJ6_numberOfTrailingZeros_0f7a4 60 = .ok (.iushr, 1) := by decide +kernel
theorem dJ6_numberOfTrailingZeros_0f7a4_61 : decode cJ6_numberOfTrailingZeros_0f7a4 61 = .ok (.istore_n 0, 1) := by decide +kernel
theorem dJ6_numberOfTrailingZeros_0f7a4_62 : decode cJ6_numberOfTrailingZeros_0f7a4 62 = .ok (.iload_n 0, 1) := by decide +kernel
theorem dJ6_numberOfTrailingZeros_0f7a4_63 : decode cJ6_numberOfTrailingZeros_0f7a4 63 = .ok (.iconst 4, 1) := by decide +kernel
theorem dJ6_numberOfTrailingZeros_0f7a4_64 : decode cJ6_numberOfTrailingZeros_0f7a4 64 = .ok (.if_icmp .le 10, 3) := by decide +kernel
theorem dJ6_numberOfTrailingZeros_0f7a4_67 : decode cJ6_numberOfTrailingZeros_0f7a4 67 = .ok (.iinc 1 2, 3) := by decide +kernel
theorem dJ6_numberOfTrailingZeros_0f7a4_70 : decode cJ6_numberOfTrailingZeros_0f7a4 70 = .ok (.iload_n 0, 1) := by decide +kernel
theorem dJ6_numberOfTrailingZeros_0f7a4_71 : decode cJ6_numberOfTrailingZeros_0f7a4 71 = .ok (.iconst 2, 1) := by decide +kernel
theorem dJ6_numberOfTrailingZeros_0f7a4_72 : decode cJ6_numberOfTrailingZeros_0f7a4 72 = .ok (.iushr, 1) := by decide +kernel
theorem dJ6_numberOfTrailingZeros_0f7a4_73 : decode cJ6_numberOfTrailingZeros_0f7a4 73 = .ok (.istore_n 0, 1) := by decide +kernel
theorem dJ6_numberOfTrailingZeros_0f7a4_74 : decode cJ6_numberOfTrailingZeros_0f7a4 74 = .ok (.iload_n 1, 1) := by decide +kernel
theorem dJ6_numberOfTrailingZeros_0f7a4_75 : decode cJ6_numberOfTrailingZeros_0f7a4 75 = .ok (.iload_n 0, 1) := by decide +kernel
theorem dJ6_numberOfTrailingZeros_0f7a4_76 : decode cJ6_numberOfTrailingZeros_0f7a4 76 = .ok (.iconst 1, 1) := by decide +kernel
theorem dJ6_numberOfTrailingZeros_0f7a4_77 : decode cJ6_numberOfTrailingZeros_0f7a4 77 = .ok (.iushr, 1) := by decide +kernel
theorem dJ6_numberOfTrailingZeros_0f7a4_78 : decode cJ6_numberOfTrailingZeros_0f7a4 78 = .ok (.iadd, 1) := by decide +kernel
theorem dJ6_numberOfTrailingZeros_0f7a4_79 : decode cJ6_numberOfTrailingZeros_0f7a4 79 = .ok (.ireturn, 1) := by decide +kernel
theorem dJ6_bitCount_0f7a4_0 : decode cJ6_bitCount_0f7a4 0 = .ok (.iload_n 0, 1) := by decide +kernel
theorem dJ6_bitCount_0f7a4_1 : decode cJ6_bitCount_0f7a4 1 = .ok (.iload_n 0, 1) := by decide +kernel
theorem dJ6_bitCount_0f7a4_2 : decode cJ6_bitCount_0f7a4 2 = .ok (.iconst 1, 1) := by decide +kernel
theorem dJ6_bitCount_0f7a4_3 : decode cJ6_bitCount_0f7a4 3 = .ok (.iushr, 1) := by decide +kernel
theorem dJ6_bitCount_0f7a4_4 : decode cJ6_bitCount_0f7a4 4 = .ok (.ldc_w 265, 3) := by decide +kernel
theorem dJ6_bitCount_0f7a4_7 : decode cJ6_bitCount_0f7a4 7 = .ok (.iand, 1) := by decide +kernel
theorem dJ6_bitCount_0f7a4_8 : decode cJ6_bitCount_0f7a4 8 = .ok (.isub, 1) := by decide +kernel
theorem dJ6_bitCount_0f7a4_9 : decode cJ6_bitCount_0f7a4 9 = .ok (.istore_n 0, 1) := by decide +kernel
theorem dJ6_bitCount_0f7a4_10 : decode cJ6_bitCount_0f7a4 10 = .ok (.iload_n 0, 1) := by decide +kernel
theorem dJ6_bitCount_0f7a4_11 : decode cJ6_bitCount_0f7a4 11 = .ok (.ldc_w 266, 3) := by decide +kernel
theorem dJ6_bitCount_0f7a4_14 : decode cJ6_bitCount_0f7a4 14 = .ok (.iand, 1) := by decide +kernel
theorem dJ6_bitCount_0f7a4_15 : decode cJ6_bitCount_0f7a4 15 = .ok (.iload_n 0, 1) := by decide +kernel
theorem dJ6_bitCount_0f7a4_16 : decode cJ6_bitCount_0f7a4 16 = .ok (.iconst 2, 1) := by decide +kernel
theorem dJ6_bitCount_0f7a4_17 : decode cJ6_bitCount_0f7a4 17 = .ok (.iushr, 1) := by decide +kernel
theorem dJ6_bitCount_0f7a4_18 : decode cJ6_bitCount_0f7a4 18 = .ok (.ldc_w 266, 3) := by decide +kernel
theorem dJ6_bitCount_0f7a4_21 : decode cJ6_bitCount_0f7a4 21 = .ok (.iand, 1) := by decide +kernel
theorem dJ6_bitCount_0f7a4_22 : decode cJ6_bitCount_0f7a4 22 = .ok (.iadd, 1) := by decide +kernel
theorem dJ6_bitCount_0f7a4_23 : decode cJ6_bitCount_0f7a4 23 = .ok (.istore_n 0, 1) := by decide +kernel
theorem dJ6_bitCount_0f7a4_24 : decode cJ6_bitCount_0f7a4 24 = .ok (.iload_n 0, 1) := by decide +kernel
theorem dJ6_bitCount_0f7a4_25 : decode cJ6_bitCount_0f7a4 25 = .ok (.iload_n 0, 1) := by decide +kernel
theorem dJ6_bitCount_0f7a4_26 : decode cJ6_bitCount_0f7a4 26 = .ok (.iconst 4, 1) := by decide +kernel
theorem dJ6_bitCount_0f7a4_27 : decode cJ6_bitCount_0f7a4 27 = .ok (.iushr, 1) := by decide +kernel
theorem dJ6_bitCount_0f7a4_28 : decode cJ6_bitCount_0f7a4 28 = .ok (.iadd, 1) := by decide +kernel
theorem dJ6_bitCount_0f7a4_29 : decode cJ6_bitCount_0f7a4 29 = .ok (.ldc_w 267, 3) := by decide +kernel
theorem dJ6_bitCount_0f7a4_32 : decode cJ6_bitCount_0f7a4 32 = .ok (.iand, 1) := by decide +kernel
theorem dJ6_bitCount_0f7a4_33 : decode cJ6_bitCount_0f7a4 33 = .ok (.istore_n 0, 1) := by decide +kernel
theorem dJ6_bitCount_0f7a4_34 : decode cJ6_bitCount_0f7a4 34 = .ok (.iload_n 0, 1) := by decide +kernel
theorem dJ6_bitCount_0f7a4_35 : decode cJ6_bitCount_0f7a4 35 = .ok (.iload_n 0, 1) := by decide +kernel
theorem dJ6_bitCount_0f7a4_36 : decode cJ6_bitCount_0f7a4 36 = .ok (.bipush 8, 2) := by decide +kernel
theorem dJ6_bitCount_0f7a4_38 : decode cJ6_bitCount_0f7a4 38 = .ok (.iushr, 1) := by decide +kernel
theorem dJ6_bitCount_0f7a4_39 : decode cJ6_bitCount_0f7a4 39 = .ok (.iadd, 1) := by decide +kernel
theorem dJ6_bitCount_0f7a4_40 : decode cJ6_bitCount_0f7a4 40 = .ok (.istore_n 0, 1) := by decide +kernel
theorem dJ6_bitCount_0f7a4_41 : decode cJ6_bitCount_0f7a4 41 = .ok (.iload_n 0, 1) := by decide +kernel
theorem dJ6_bitCount_0f7a4_42 : decode cJ6_bitCount_0f7a4 42 = .ok (.iload_n 0, 1) := by decide +kernel
theorem dJ6_bitCount_0f7a4_43 : decode cJ6_bitCount_0f7a4 43 = .ok (.bipush 16, 2) := by decide +kernel
theorem dJ6_bitCount_0f7a4_45 : decode cJ6_bitCount_0f7a4 45 = .ok (.iushr, 1) := by decide +kernel
theorem dJ6_bitCount_0f7a4_46 : decode cJ6_bitCount_0f7a4 46 = .ok (.iadd, 1) := by decide +kernel
theorem dJ6_bitCount_0f7a4_47 : decode cJ6_bitCount_0f7a4 47 = .ok (.istore_n 0, 1) := by decide +kernel
theorem dJ6_bitCount_0f7a4_48 : decode cJ6_bitCount_0f7a4 48 = .ok (.iload_n 0, 1) := by decide +kernel
theorem dJ6_bitCount_0f7a4_49 : decode cJ6_bitCount_0f7a4 49 = .ok (.bipush 63, 2) := by decide +kernel
theorem dJ6_bitCount_0f7a4_51 : decode cJ6_bitCount_0f7a4 51 = .ok (.iand, 1) := by decide +kernel
theorem dJ6_bitCount_0f7a4_52 : decode cJ6_bitCount_0f7a4 52 = .ok (.ireturn, 1) := by decide +kernel
theorem dJ9_max_7cf53_0 : decode cJ9_max_7cf53 0 = .ok (.iload_n 0, 1) := by decide +kernel
theorem dJ9_max_7cf53_1 : decode cJ9_max_7cf53 1 = .ok (.iload_n 1, 1) := by decide +kernel
theorem dJ9_max_7cf53_2 : decode cJ9_max_7cf53 2 = .ok (.if_icmp .lt 7, 3) := by decide +kernel
theorem dJ9_max_7cf53_5 : decode cJ9_max_7cf53 5 = .ok (.iload_n 0, 1) := by decide +kernel
theorem dJ9_max_7cf53_6 : decode cJ9_max_7cf53 6 = .ok (.goto 4, 3) := by decide +kernel
theorem dJ9_max_7cf53_9 : decode cJ9_max_7cf53 9 = .ok (.iload_n 1, 1) := by decide +kernel
theorem dJ9_max_7cf53_10 : decode cJ9_max_7cf53 10 = .ok (.ireturn, 1) := by decide +kernel
theorem dJ9_min_7cf53_0 : decode cJ9_min_7cf53 0 = .ok (.iload_n 0, 1) := by decide +kernel
theorem dJ9_min_7cf53_1 : decode cJ9_min_7cf53 1 = .ok (.iload_n 1, 1) := by decide +kernel
theorem dJ9_min_7cf53_2 : decode cJ9_min_7cf53 2 = .ok (.if_icmp .gt 7, 3) := by decide +kernel
theorem dJ9_min_7cf53_5 : decode cJ9_min_7cf53 5 = .ok (.iload_n 0, 1) := by decide +kernel
theorem dJ9_min_7cf53_6 : decode cJ9_min_7cf53 6 = .ok (.goto 4, 3) := by decide +kernel
theorem dJ9_min_7cf53_9 : decode cJ9_min_7cf53 9 = .ok (.iload_n 1, 1) := by decide +kernel
theorem dJ9_min_7cf53_10 : decode cJ9_min_7cf53 10 = .ok (.ireturn, 1) := by decide +kernel
theorem dJ7_fill_53178_0 : decode cJ7_fill_53178 0 = .ok (.iconst 0, 1) := by decide +kernel
theorem dJ7_fill_53178_1 : decode cJ7_fill_53178 1 = .ok (.istore_n 2, 1) := by decide +kernel
theorem dJ7_fill_53178_2 : decode cJ7_fill_53178 2 = .ok (.aload_n 0, 1) := by decide +kernel
theorem dJ7_fill_53178_3 : decode cJ7_fill_53178 3 = .ok (.arraylength, 1) := by decide +kernel
theorem dJ7_fill_53178_4 : decode cJ7_fill_53178 4 = .ok (.istore_n 3, 1) := by decide +kernel
theorem dJ7_fill_53178_5 : decode cJ7_fill_53178 5 = .ok (.iload_n 2, 1) := by decide +kernel
theorem dJ7_fill_53178_6 : decode cJ7_fill_53178 6 = .ok (.iload_n 3, 1) := by decide +kernel
theorem dJ7_fill_53178_7 : decode cJ7_fill_53178 7 = .ok (.if_icmp .ge 13, 3) := by decide +kernel
theorem dJ7_fill_53178_10 : decode cJ7_fill_53178 10 = .ok (.aload_n 0, 1) := by decide +kernel
theorem dJ7_fill_53178_11 : decode cJ7_fill_53178 11 = .ok (.iload_n 2, 1) := by decide +kernel
theorem dJ7_fill_53178_12 : decode cJ7_fill_53178 12 = .ok (.iload_n 1, 1) := by decide +kernel
theorem dJ7_fill_53178_13 : decode cJ7_fill_53178 13 = .ok (.iastore, 1) := by decide +kernel
theorem dJ7_fill_53178_14 : decode cJ7_fill_53178 14 = .ok (.iinc 2 1, 3) := by decide +kernel
theorem dJ7_fill_53178_17 : decode cJ7_fill_53178 17 = .ok (.goto (-12), 3) := by decide +kernel
theorem dJ7_fill_53178_20 : decode cJ7_fill_53178 20 = .ok (.return_, 1) := by decide +kernel
end
section
theorem dL_law_0 : decode cL_law 0 = .ok (.new 7, 3) := by decide +kernel
theorem dL_law_3 : decode cL_law 3 = .ok (.dup, 1) := by decide +kernel
theorem dL_law_4 : decode cL_law 4 = .ok (.invokespecial 9, 3) := by decide +kernel
theorem dL_law_7 : decode cL_law 7 = .ok (.astore_n 1, 1) := by decide +kernel
theorem dL_law_8 : decode cL_law 8 = .ok (.new 10, 3) := by decide +kernel
theorem dL_law_11 : decode cL_law 11 = .ok (.dup, 1) := by decide +kernel
theorem dL_law_12 : decode cL_law 12 = .ok (.invokespecial 12, 3) := by decide +kernel
theorem dL_law_15 : decode cL_law 15 = .ok (.astore_n 2, 1) := by decide +kernel
theorem dL_law_16 : decode cL_law 16 = .ok (.iconst 0, 1) := by decide +kernel
theorem dL_law_17 : decode cL_law 17 = .ok (.istore_n 3, 1) := by decide +kernel
theorem dL_law_18 : decode cL_law 18 = .ok (.iload_n 3, 1) := by decide +kernel
theorem dL_law_19 : decode cL_law 19 = .ok (.aload_n 0, 1) := by decide +kernel
theorem dL_law_20 : decode cL_law 20 = .ok (.arraylength, 1) := by decide +kernel
theorem dL_law_21 : decode cL_law 21 = .ok (.bipush 9, 2) := by decide +kernel
theorem dL_law_23 : decode cL_law 23 = .ok (.isub, 1) := by decide +kernel
theorem dL_law_24 : decode cL_law 24 = .ok (.if_icmp .gt 1630, 3) := by decide +kernel
theorem dL_law_27 : decode cL_law 27 = .ok (.aload_n 0, 1) := by decide +kernel
theorem dL_law_28 : decode cL_law 28 = .ok (.iload_n 3, 1) := by decide +kernel
theorem dL_law_29 : decode cL_law 29 = .ok (.iaload, 1) := by decide +kernel
theorem dL_law_30 : decode cL_law 30 = .ok (.bipush 31, 2) := by decide +kernel
theorem dL_law_32 : decode cL_law 32 = .ok (.iand, 1) := by decide +kernel
theorem dL_law_33 : decode cL_law 33 = .ok (.tableswitch 1615 0 31 #[143, 156, 179, 202, 235, 288, 363, 438, 481, 550, 603, 636, 689, 742, 785, 818, 871, 904, 963, 1022, 1091, 1134, 1177, 1220, 1269, 1328, 1361, 1384, 1407, 1460, 1493, 1592], 143) := by decide +kernel
theorem dL_law_176 : decode cL_law 176 = .ok (.aload_n 1, 1) := by decide +kernel
theorem dL_law_177 : decode cL_law 177 = .ok (.invokevirtual 13, 3) := by decide +kernel
theorem dL_law_180 : decode cL_law 180 = .ok (.aload_n 2, 1) := by decide +kernel
theorem dL_law_181 : decode cL_law 181 = .ok (.invokevirtual 17, 3) := by decide +kernel
theorem dL_law_184 : decode cL_law 184 = .ok (.if_icmp .eq 1464, 3) := by decide +kernel
theorem dL_law_187 : decode cL_law 187 = .ok (.iconst 0, 1) := by decide +kernel
theorem dL_law_188 : decode cL_law 188 = .ok (.ireturn, 1) := by decide +kernel
theorem dL_law_189 : decode cL_law 189 = .ok (.aload_n 1, 1) := by decide +kernel
theorem dL_law_190 : decode cL_law 190 = .ok (.aload_n 0, 1) := by decide +kernel
theorem dL_law_191 : decode cL_law 191 = .ok (.iload_n 3, 1) := by decide +kernel
theorem dL_law_192 : decode cL_law 192 = .ok (.iconst 1, 1) := by decide +kernel
theorem dL_law_193 : decode cL_law 193 = .ok (.iadd, 1) := by decide +kernel
theorem dL_law_194 : decode cL_law 194 = .ok (.iaload, 1) := by decide +kernel
theorem dL_law_195 : decode cL_law 195 = .ok (.invokevirtual 18, 3) := by decide +kernel
theorem dL_law_198 : decode cL_law 198 = .ok (.aload_n 2, 1) := by decide +kernel
theorem dL_law_199 : decode cL_law 199 = .ok (.aload_n 0, 1) := by decide +kernel
theorem dL_law_200 : decode cL_law 200 = .ok (.iload_n 3, 1) := by decide +kernel
theorem dL_law_201 : decode cL_law 201 = .ok (.iconst 1, 1) := by decide +kernel
theorem dL_law_202 : decode cL_law 202 = .ok (.iadd, 1) := by decide +kernel
theorem dL_law_203 : decode cL_law 203 = .ok (.iaload, 1) := by decide +kernel
theorem dL_law_204 : decode cL_law 204 = .ok (.invokevirtual 22, 3) := by decide +kernel
theorem dL_law_207 : decode cL_law 207 = .ok (.if_icmp .eq 1441, 3) := by decide +kernel
theorem dL_law_210 : decode cL_law 210 = .ok (.iconst 0, 1) := by decide +kernel
theorem dL_law_211 : decode cL_law 211 = .ok (.ireturn, 1) := by decide +kernel
theorem dL_law_212 : decode cL_law 212 = .ok (.aload_n 1, 1) := by decide +kernel
theorem dL_law_213 : decode cL_law 213 = .ok (.aload_n 0, 1) := by decide +kernel
theorem dL_law_214 : decode cL_law 214 = .ok (.iload_n 3, 1) := by decide +kernel
theorem dL_law_215 : decode cL_law 215 = .ok (.iconst 1, 1) := by decide +kernel
theorem dL_law_216 : decode cL_law 216 = .ok (.iadd, 1) := by decide +kernel
theorem dL_law_217 : decode cL_law 217 = .ok (.iaload, 1) := by decide +kernel
theorem dL_law_218 : decode cL_law 218 = .ok (.invokevirtual 23, 3) := by decide +kernel
theorem dL_law_221 : decode cL_law 221 = .ok (.aload_n 2, 1) := by decide +kernel
theorem dL_law_222 : decode cL_law 222 = .ok (.aload_n 0, 1) := by decide +kernel
theorem dL_law_223 : decode cL_law 223 = .ok (.iload_n 3, 1) := by decide +kernel
theorem dL_law_224 : decode cL_law 224 = .ok (.iconst 1, 1) := by decide +kernel
theorem dL_law_225 : decode cL_law 225 = .ok (.iadd, 1) := by decide +kernel
theorem dL_law_226 : decode cL_law 226 = .ok (.iaload, 1) := by decide +kernel
theorem dL_law_227 : decode cL_law 227 = .ok (.invokevirtual 27, 3) := by decide +kernel
theorem dL_law_230 : decode cL_law 230 = .ok (.if_icmp .eq 1418, 3) := by decide +kernel
theorem dL_law_233 : decode cL_law 233 = .ok (.iconst 0, 1) := by decide +kernel
theorem dL_law_234 : decode cL_law 234 = .ok (.ireturn, 1) := by decide +kernel
theorem dL_law_235 : decode cL_law 235 = .ok (.aload_n 1, 1) := by decide +kernel
theorem dL_law_236 : decode cL_law 236 = .ok (.aload_n 0, 1) := by decide +kernel
theorem dL_law_237 : decode cL_law 237 = .ok (.iload_n 3, 1) := by decide +kernel
theorem dL_law_238 : decode cL_law 238 = .ok (.iconst 1, 1) := by decide +kernel
theorem dL_law_239 : decode cL_law 239 = .ok (.iadd, 1) := by decide +kernel
theorem dL_law_240 : decode cL_law 240 = .ok (.iaload, 1) := by decide +kernel
theorem dL_law_241 : decode cL_law 241 = .ok (.aload_n 0, 1) := by decide +kernel
theorem dL_law_242 : decode cL_law 242 = .ok (.iload_n 3, 1) := by decide +kernel
theorem dL_law_243 : decode cL_law 243 = .ok (.iconst 2, 1) := by decide +kernel
theorem dL_law_244 : decode cL_law 244 = .ok (.iadd, 1) := by decide +kernel
theorem dL_law_245 : decode cL_law 245 = .ok (.iaload, 1) := by decide +kernel
theorem dL_law_246 : decode cL_law 246 = .ok (.invokevirtual 28, 3) := by decide +kernel
theorem dL_law_249 : decode cL_law 249 = .ok (.aload_n 2, 1) := by decide +kernel
theorem dL_law_250 : decode cL_law 250 = .ok (.aload_n 0, 1) := by decide +kernel
theorem dL_law_251 : decode cL_law 251 = .ok (.iload_n 3, 1) := by decide +kernel
theorem dL_law_252 : decode cL_law 252 = .ok (.iconst 1, 1) := by decide +kernel
theorem dL_law_253 : decode cL_law 253 = .ok (.iadd, 1) := by decide +kernel
theorem dL_law_254 : decode cL_law 254 = .ok (.iaload, 1) := by decide +kernel
theorem dL_law_255 : decode cL_law 255 = .ok (.aload_n 0, 1) := by decide +kernel
theorem dL_law_256 : decode cL_law 256 = .ok (.iload_n 3, 1) := by decide +kernel
theorem dL_law_257 : decode cL_law 257 = .ok (.iconst 2, 1) := by decide +kernel
theorem dL_law_258 : decode cL_law 258 = .ok (.iadd, 1) := by decide +kernel
theorem dL_law_259 : decode cL_law 259 = .ok (.iaload, 1) := by decide +kernel
theorem dL_law_260 : decode cL_law 260 = .ok (.invokevirtual 32, 3) := by decide +kernel
theorem dL_law_263 : decode cL_law 263 = .ok (.if_icmp .eq 1385, 3) := by decide +kernel
theorem dL_law_266 : decode cL_law 266 = .ok (.iconst 0, 1) := by decide +kernel
theorem dL_law_267 : decode cL_law 267 = .ok (.ireturn, 1) := by decide +kernel
theorem dL_law_268 : decode cL_law 268 = .ok (.aload_n 1, 1) := by decide +kernel
theorem dL_law_269 : decode cL_law 269 = .ok (.aload_n 0, 1) := by decide +kernel
theorem dL_law_270 : decode cL_law 270 = .ok (.iload_n 3, 1) := by decide +kernel
theorem dL_law_271 : decode cL_law 271 = .ok (.iconst 1, 1) := by decide +kernel
theorem dL_law_272 : decode cL_law 272 = .ok (.iadd, 1) := by decide +kernel
theorem dL_law_273 : decode cL_law 273 = .ok (.iaload, 1) := by decide +kernel
theorem dL_law_274 : decode cL_law 274 = .ok (.aload_n 0, 1) := by decide +kernel
theorem dL_law_275 : decode cL_law 275 = .ok (.iload_n 3, 1) := by decide +kernel
theorem dL_law_276 : decode cL_law 276 = .ok (.iconst 2, 1) := by decide +kernel
theorem dL_law_277 : decode cL_law 277 = .ok (.iadd, 1) := by decide +kernel
theorem dL_law_278 : decode cL_law 278 = .ok (.iaload, 1) := by decide +kernel
theorem dL_law_279 : decode cL_law 279 = .ok (.aload_n 0, 1) := by decide +kernel
theorem dL_law_280 : decode cL_law 280 = .ok (.iload_n 3, 1) := by decide +kernel
theorem dL_law_281 : decode cL_law 281 = .ok (.iconst 3, 1) := by decide +kernel
theorem dL_law_282 : decode cL_law 282 = .ok (.iadd, 1) := by decide +kernel
theorem dL_law_283 : decode cL_law 283 = .ok (.iaload, 1) := by decide +kernel
theorem dL_law_284 : decode cL_law 284 = .ok (.aload_n 0, 1) := by decide +kernel
theorem dL_law_285 : decode cL_law 285 = .ok (.iload_n 3, 1) := by decide +kernel
theorem dL_law_286 : decode cL_law 286 = .ok (.iconst 4, 1) := by decide +kernel
theorem dL_law_287 : decode cL_law 287 = .ok (.iadd, 1) := by decide +kernel
theorem dL_law_288 : decode cL_law 288 = .ok (.iaload, 1) := by decide +kernel
theorem dL_law_289 : decode cL_law 289 = .ok (.invokevirtual 33, 3) := by decide +kernel
theorem dL_law_292 : decode cL_law 292 = .ok (.aload_n 2, 1) := by decide +kernel
theorem dL_law_293 : decode cL_law 293 = .ok (.aload_n 0, 1) := by decide +kernel
theorem dL_law_294 : decode cL_law 294 = .ok (.iload_n 3, 1) := by decide +kernel
theorem dL_law_295 : decode cL_law 295 = .ok (.iconst 1, 1) := by decide +kernel
theorem dL_law_296 : decode cL_law 296 = .ok (.iadd, 1) := by decide +kernel
theorem dL_law_297 : decode cL_law 297 = .ok (.iaload, 1) := by decide +kernel
theorem dL_law_298 : decode cL_law 298 = .ok (.aload_n 0, 1) := by decide +kernel
theorem dL_law_299 : decode cL_law 299 = .ok (.iload_n 3, 1) := by decide +kernel
theorem dL_law_300 : decode cL_law 300 = .ok (.iconst 2, 1) := by decide +kernel
theorem dL_law_301 : decode cL_law 301 = .ok (.iadd, 1) := by decide +kernel
theorem dL_law_302 : decode cL_law 302 = .ok (.iaload, 1) := by decide +kernel
theorem dL_law_303 : decode cL_law 303 = .ok (.aload_n 0, 1) := by decide +kernel
theorem dL_law_304 : decode cL_law 304 = .ok (.iload_n 3, 1) := by decide +kernel
theorem dL_law_305 : decode cL_law 305 = .ok (.iconst 3, 1) := by decide +kernel
theorem dL_law_306 : decode cL_law 306 = .ok (.iadd, 1) := by decide +kernel
theorem dL_law_307 : decode cL_law 307 = .ok (.iaload, 1) := by decide +kernel
theorem dL_law_308 : decode cL_law 308 = .ok (.aload_n 0, 1) := by decide +kernel
theorem dL_law_309 : decode cL_law 309 = .ok (.iload_n 3, 1) := by decide +kernel
theorem dL_law_310 : decode cL_law 310 = .ok (.iconst 4, 1) := by decide +kernel
theorem dL_law_311 : decode cL_law 311 = .ok (.iadd, 1) := by decide +kernel
theorem dL_law_312 : decode cL_law 312 = .ok (.iaload, 1) := by decide +kernel
theorem dL_law_313 : decode cL_law 313 = .ok (.invokevirtual 37, 3) := by decide +kernel
theorem dL_law_316 : decode cL_law 316 = .ok (.if_icmp .eq 1332, 3) := by decide +kernel
theorem dL_law_319 : decode cL_law 319 = .ok (.iconst 0, 1) := by decide +kernel
theorem dL_law_320 : decode cL_law 320 = .ok (.ireturn, 1) := by decide +kernel
theorem dL_law_321 : decode cL_law 321 = .ok (.aload_n 1, 1) := by decide +kernel
theorem dL_law_322 : decode cL_law 322 = .ok (.aload_n 0, 1) := by decide +kernel
theorem dL_law_323 : decode cL_law 323 = .ok (.iload_n 3, 1) := by decide +kernel
theorem dL_law_324 : decode cL_law 324 = .ok (.iconst 1, 1) := by decide +kernel
theorem dL_law_325 : decode cL_law 325 = .ok (.iadd, 1) := by decide +kernel
theorem dL_law_326 : decode cL_law 326 = .ok (.iaload, 1) := by decide +kernel
theorem dL_law_327 : decode cL_law 327 = .ok (.aload_n 0, 1) := by decide +kernel
theorem dL_law_328 : decode cL_law 328 = .ok (.iload_n 3, 1) := by decide +kernel
theorem dL_law_329 : decode cL_law 329 = .ok (.iconst 2, 1) := by decide +kernel
theorem dL_law_330 : decode cL_law 330 = .ok (.iadd, 1) := by decide +kernel
theorem dL_law_331 : decode cL_law 331 = .ok (.iaload, 1) := by decide +kernel
theorem dL_law_332 : decode cL_law 332 = .ok (.aload_n 0, 1) := by decide +kernel
theorem dL_law_333 : decode cL_law 333 = .ok (.iload_n 3, 1) := by decide +kernel
theorem dL_law_334 : decode cL_law 334 = .ok (.iconst 3, 1) := by decide +kernel
theorem dL_law_335 : decode cL_law 335 = .ok (.iadd, 1) := by decide +kernel
theorem dL_law_336 : decode cL_law 336 = .ok (.iaload, 1) := by decide +kernel
theorem dL_law_337 : decode cL_law 337 = .ok (.aload_n 0, 1) := by decide +kernel
theorem dL_law_338 : decode cL_law 338 = .ok (.iload_n 3, 1) := by decide +kernel
theorem dL_law_339 : decode cL_law 339 = .ok (.iconst 4, 1) := by decide +kernel
theorem dL_law_340 : decode cL_law 340 = .ok (.iadd, 1) := by decide +kernel
theorem dL_law_341 : decode cL_law 341 = .ok (.iaload, 1) := by decide +kernel
theorem dL_law_342 : decode cL_law 342 = .ok (.aload_n 0, 1) := by decide +kernel
theorem dL_law_343 : decode cL_law 343 = .ok (.iload_n 3, 1) := by decide +kernel
theorem dL_law_344 : decode cL_law 344 = .ok (.iconst 5, 1) := by decide +kernel
theorem dL_law_345 : decode cL_law 345 = .ok (.iadd, 1) := by decide +kernel
theorem dL_law_346 : decode cL_law 346 = .ok (.iaload, 1) := by decide +kernel
theorem dL_law_347 : decode cL_law 347 = .ok (.aload_n 0, 1) := by decide +kernel
theorem dL_law_348 : decode cL_law 348 = .ok (.iload_n 3, 1) := by decide +kernel
theorem dL_law_349 : decode cL_law 349 = .ok (.bipush 6, 2) := by decide +kernel
theorem dL_law_351 : decode cL_law 351 = .ok (.iadd, 1) := by decide +kernel
theorem dL_law_352 : decode cL_law 352 = .ok (.iaload, 1) := by decide +kernel
theorem dL_law_353 : decode cL_law 353 = .ok (.invokevirtual 38, 3) := by decide +kernel
theorem dL_law_356 : decode cL_law 356 = .ok (.aload_n 2, 1) := by decide +kernel
theorem dL_law_357 : decode cL_law 357 = .ok (.aload_n 0, 1) := by decide +kernel
theorem dL_law_358 : decode cL_law 358 = .ok (.iload_n 3, 1) := by decide +kernel
theorem dL_law_359 : decode cL_law 359 = .ok (.iconst 1, 1) := by decide +kernel
theorem dL_law_360 : decode cL_law 360 = .ok (.iadd, 1) := by decide +kernel
theorem dL_law_361 : decode cL_law 361 = .ok (.iaload, 1) := by decide +kernel
theorem dL_law_362 : decode cL_law 362 = .ok (.aload_n 0, 1) := by decide +kernel
theorem dL_law_363 : decode cL_law 363 = .ok (.iload_n 3, 1) := by decide +kernel
theorem dL_law_364 : decode cL_law 364 = .ok (.iconst 2, 1) := by decide +kernel
theorem dL_law_365 : decode cL_law 365 = .ok (.iadd, 1) := by decide +kernel
theorem dL_law_366 : decode cL_law 366 = .ok (.iaload, 1) := by decide +kernel
theorem dL_law_367 : decode cL_law 367 = .ok (.aload_n 0, 1) := by decide +kernel
theorem dL_law_368 : decode cL_law 368 = .ok (.iload_n 3, 1) := by decide +kernel
theorem dL_law_369 : decode cL_law 369 = .ok (.iconst 3, 1) := by decide +kernel
theorem dL_law_370 : decode cL_law 370 = .ok (.iadd, 1) := by decide +kernel
theorem dL_law_371 : decode cL_law 371 = .ok (.iaload, 1) := by decide +kernel
theorem dL_law_372 : decode cL_law 372 = .ok (.aload_n 0, 1) := by decide +kernel
theorem dL_law_373 : decode cL_law 373 = .ok (.iload_n 3, 1) := by decide +kernel
theorem dL_law_374 : decode cL_law 374 = .ok (.iconst 4, 1) := by decide +kernel
theorem dL_law_375 : decode cL_law 375 = .ok (.iadd, 1) := by decide +kernel
theorem dL_law_376 : decode cL_law 376 = .ok (.iaload, 1) := by decide +kernel
theorem dL_law_377 : decode cL_law 377 = .ok (.aload_n 0, 1) := by decide +kernel
theorem dL_law_378 : decode cL_law 378 = .ok (.iload_n 3, 1) := by decide +kernel
theorem dL_law_379 : decode cL_law 379 = .ok (.iconst 5, 1) := by decide +kernel
theorem dL_law_380 : decode cL_law 380 = .ok (.iadd, 1) := by decide +kernel
theorem dL_law_381 : decode cL_law 381 = .ok (.iaload, 1) := by decide +kernel
theorem dL_law_382 : decode cL_law 382 = .ok (.aload_n 0, 1) := by decide +kernel
theorem dL_law_383 : decode cL_law 383 = .ok (.iload_n 3, 1) := by decide +kernel
theorem dL_law_384 : decode cL_law 384 = .ok (.bipush 6, 2) := by decide +kernel
theorem dL_law_386 : decode cL_law 386 = .ok (.iadd, 1) := by decide +kernel
theorem dL_law_387 : decode cL_law 387 = .ok (.iaload, 1) := by decide +kernel
theorem dL_law_388 : decode cL_law 388 = .ok (.invokevirtual 42, 3) := by decide +kernel
theorem dL_law_391 : decode cL_law 391 = .ok (.if_icmp .eq 1257, 3) := by decide +kernel
theorem dL_law_394 : decode cL_law 394 = .ok (.iconst 0, 1) := by decide +kernel
theorem dL_law_395 : decode cL_law 395 = .ok (.ireturn, 1) := by decide +kernel
theorem dL_law_396 : decode cL_law 396 = .ok (.aload_n 1, 1) := by decide +kernel
theorem dL_law_397 : decode cL_law 397 = .ok (.aload_n 0, 1) := by decide +kernel
theorem dL_law_398 : decode cL_law 398 = .ok (.iload_n 3, 1) := by decide +kernel
theorem dL_law_399 : decode cL_law 399 = .ok (.iconst 1, 1) := by decide +kernel
theorem dL_law_400 : decode cL_law 400 = .ok (.iadd, 1) := by decide +kernel
theorem dL_law_401 : decode cL_law 401 = .ok (.iaload, 1) := by decide +kernel
theorem dL_law_402 : decode cL_law 402 = .ok (.aload_n 0, 1) := by decide +kernel
theorem dL_law_403 : decode cL_law 403 = .ok (.iload_n 3, 1) := by decide +kernel
theorem dL_law_404 : decode cL_law 404 = .ok (.iconst 2, 1) := by decide +kernel
theorem dL_law_405 : decode cL_law 405 = .ok (.iadd, 1) := by decide +kernel
theorem dL_law_406 : decode cL_law 406 = .ok (.iaload, 1) := by decide +kernel
theorem dL_law_407 : decode cL_law 407 = .ok (.aload_n 0, 1) := by decide +kernel
theorem dL_law_408 : decode cL_law 408 = .ok (.iload_n 3, 1) := by decide +kernel
theorem dL_law_409 : decode cL_law 409 = .ok (.iconst 3, 1) := by decide +kernel
theorem dL_law_410 : decode cL_law 410 = .ok (.iadd, 1) := by decide +kernel
theorem dL_law_411 : decode cL_law 411 = .ok (.iaload, 1) := by decide +kernel
theorem dL_law_412 : decode cL_law 412 = .ok (.aload_n 0, 1) := by decide +kernel
theorem dL_law_413 : decode cL_law 413 = .ok (.iload_n 3, 1) := by decide +kernel
theorem dL_law_414 : decode cL_law 414 = .ok (.iconst 4, 1) := by decide +kernel
theorem dL_law_415 : decode cL_law 415 = .ok (.iadd, 1) := by decide +kernel
theorem dL_law_416 : decode cL_law 416 = .ok (.iaload, 1) := by decide +kernel
theorem dL_law_417 : decode cL_law 417 = .ok (.aload_n 0, 1) := by decide +kernel
theorem dL_law_418 : decode cL_law 418 = .ok (.iload_n 3, 1) := by decide +kernel
theorem dL_law_419 : decode cL_law 419 = .ok (.iconst 5, 1) := by decide +kernel
theorem dL_law_420 : decode cL_law 420 = .ok (.iadd, 1) := by decide +kernel
theorem dL_law_421 : decode cL_law 421 = .ok (.iaload, 1) := by decide +kernel
theorem dL_law_422 : decode cL_law 422 = .ok (.aload_n 0, 1) := by decide +kernel
theorem dL_law_423 : decode cL_law 423 = .ok (.iload_n 3, 1) := by decide +kernel
theorem dL_law_424 : decode cL_law 424 = .ok (.bipush 6, 2) := by decide +kernel
theorem dL_law_426 : decode cL_law 426 = .ok (.iadd, 1) := by decide +kernel
theorem dL_law_427 : decode cL_law 427 = .ok (.iaload, 1) := by decide +kernel
theorem dL_law_428 : decode cL_law 428 = .ok (.invokevirtual 43, 3) := by decide +kernel
theorem dL_law_431 : decode cL_law 431 = .ok (.aload_n 2, 1) := by decide +kernel
theorem dL_law_432 : decode cL_law 432 = .ok (.aload_n 0, 1) := by decide +kernel
theorem dL_law_433 : decode cL_law 433 = .ok (.iload_n 3, 1) := by decide +kernel
theorem dL_law_434 : decode cL_law 434 = .ok (.iconst 1, 1) := by decide +kernel
theorem dL_law_435 : decode cL_law 435 = .ok (.iadd, 1) := by decide +kernel
theorem dL_law_436 : decode cL_law 436 = .ok (.iaload, 1) := by decide +kernel
theorem dL_law_437 : decode cL_law 437 = .ok (.aload_n 0, 1) := by decide +kernel
theorem dL_law_438 : decode cL_law 438 = .ok (.iload_n 3, 1) := by decide +kernel
theorem dL_law_439 : decode cL_law 439 = .ok (.iconst 2, 1) := by decide +kernel
theorem dL_law_440 : decode cL_law 440 = .ok (.iadd, 1) := by decide +kernel
theorem dL_law_441 : decode cL_law 441 = .ok (.iaload, 1) := by decide +kernel
theorem dL_law_442 : decode cL_law 442 = .ok (.aload_n 0, 1) := by decide +kernel
theorem dL_law_443 : decode cL_law 443 = .ok (.iload_n 3, 1) := by decide +kernel
theorem dL_law_444 : decode cL_law 444 = .ok (.iconst 3, 1) := by decide +kernel
theorem dL_law_445 : decode cL_law 445 = .ok (.iadd, 1) := by decide +kernel
theorem dL_law_446 : decode cL_law 446 = .ok (.iaload, 1) := by decide +kernel
theorem dL_law_447 : decode cL_law 447 = .ok (.aload_n 0, 1) := by decide +kernel
theorem dL_law_448 : decode cL_law 448 = .ok (.iload_n 3, 1) := by decide +kernel
theorem dL_law_449 : decode cL_law 449 = .ok (.iconst 4, 1) := by decide +kernel
theorem dL_law_450 : decode cL_law 450 = .ok (.iadd, 1) := by decide +kernel
theorem dL_law_451 : decode cL_law 451 = .ok (.iaload, 1) := by decide +kernel
theorem dL_law_452 : decode cL_law 452 = .ok (.aload_n 0, 1) := by decide +kernel
theorem dL_law_453 : decode cL_law 453 = .ok (.iload_n 3, 1) := by decide +kernel
theorem dL_law_454 : decode cL_law 454 = .ok (.iconst 5, 1) := by decide +kernel
theorem dL_law_455 : decode cL_law 455 = .ok (.iadd, 1) := by decide +kernel
theorem dL_law_456 : decode cL_law 456 = .ok (.iaload, 1) := by decide +kernel
theorem dL_law_457 : decode cL_law 457 = .ok (.aload_n 0, 1) := by decide +kernel
theorem dL_law_458 : decode cL_law 458 = .ok (.iload_n 3, 1) := by decide +kernel
theorem dL_law_459 : decode cL_law 459 = .ok (.bipush 6, 2) := by decide +kernel
theorem dL_law_461 : decode cL_law 461 = .ok (.iadd, 1) := by decide +kernel
theorem dL_law_462 : decode cL_law 462 = .ok (.iaload, 1) := by decide +kernel
theorem dL_law_463 : decode cL_law 463 = .ok (.invokevirtual 46, 3) := by decide +kernel
theorem dL_law_466 : decode cL_law 466 = .ok (.if_icmp .eq 1182, 3) := by decide +kernel
theorem dL_law_469 : decode cL_law 469 = .ok (.iconst 0, 1) := by decide +kernel
theorem dL_law_470 : decode cL_law 470 = .ok (.ireturn, 1) := by decide +kernel
theorem dL_law_471 : decode cL_law 471 = .ok (.aload_n 1, 1) := by decide +kernel
theorem dL_law_472 : decode cL_law 472 = .ok (.aload_n 0, 1) := by decide +kernel
theorem dL_law_473 : decode cL_law 473 = .ok (.iload_n 3, 1) := by decide +kernel
theorem dL_law_474 : decode cL_law 474 = .ok (.iconst 1, 1) := by decide +kernel
theorem dL_law_475 : decode cL_law 475 = .ok (.iadd, 1) := by decide +kernel
theorem dL_law_476 : decode cL_law 476 = .ok (.iaload, 1) := by decide +kernel
theorem dL_law_477 : decode cL_law 477 = .ok (.aload_n 0, 1) := by decide +kernel
theorem dL_law_478 : decode cL_law 478 = .ok (.iload_n 3, 1) := by decide +kernel
theorem dL_law_479 : decode cL_law 479 = .ok (.iconst 2, 1) := by decide +kernel
theorem dL_law_480 : decode cL_law 480 = .ok (.iadd, 1) := by decide +kernel
theorem dL_law_481 : decode cL_law 481 = .ok (.iaload, 1) := by decide +kernel
theorem dL_law_482 : decode cL_law 482 = .ok (.aload_n 0, 1) := by decide +kernel
theorem dL_law_483 : decode cL_law 483 = .ok (.iload_n 3, 1) := by decide +kernel
theorem dL_law_484 : decode cL_law 484 = .ok (.iconst 3, 1) := by decide +kernel
theorem dL_law_485 : decode cL_law 485 = .ok (.iadd, 1) := by decide +kernel
theorem dL_law_486 : decode cL_law 486 = .ok (.iaload, 1) := by decide +kernel
theorem dL_law_487 : decode cL_law 487 = .ok (.invokevirtual 47, 3) := by decide +kernel
theorem dL_law_490 : decode cL_law 490 = .ok (.aload_n 2, 1) := by decide +kernel
theorem dL_law_491 : decode cL_law 491 = .ok (.aload_n 0, 1) := by decide +kernel
theorem dL_law_492 : decode cL_law 492 = .ok (.iload_n 3, 1) := by decide +kernel
theorem dL_law_493 : decode cL_law 493 = .ok (.iconst 1, 1) := by decide +kernel
theorem dL_law_494 : decode cL_law 494 = .ok (.iadd, 1) := by decide +kernel
theorem dL_law_495 : decode cL_law 495 = .ok (.iaload, 1) := by decide +kernel
theorem dL_law_496 : decode cL_law 496 = .ok (.aload_n 0, 1) := by decide +kernel
theorem dL_law_497 : decode cL_law 497 = .ok (.iload_n 3, 1) := by decide +kernel
theorem dL_law_498 : decode cL_law 498 = .ok (.iconst 2, 1) := by decide +kernel
theorem dL_law_499 : decode cL_law 499 = .ok (.iadd, 1) := by decide +kernel
theorem dL_law_500 : decode cL_law 500 = .ok (.iaload, 1) := by decide +kernel
theorem dL_law_501 : decode cL_law 501 = .ok (.aload_n 0, 1) := by decide +kernel
theorem dL_law_502 : decode cL_law 502 = .ok (.iload_n 3, 1) := by decide +kernel
theorem dL_law_503 : decode cL_law 503 = .ok (.iconst 3, 1) := by decide +kernel
theorem dL_law_504 : decode cL_law 504 = .ok (.iadd, 1) := by decide +kernel
theorem dL_law_505 : decode cL_law 505 = .ok (.iaload, 1) := by decide +kernel
theorem dL_law_506 : decode cL_law 506 = .ok (.invokevirtual 51, 3) := by decide +kernel
theorem dL_law_509 : decode cL_law 509 = .ok (.if_icmp .eq 1139, 3) := by decide +kernel
theorem dL_law_512 : decode cL_law 512 = .ok (.iconst 0, 1) := by decide +kernel
theorem dL_law_513 : decode cL_law 513 = .ok (.ireturn, 1) := by decide +kernel
theorem dL_law_514 : decode cL_law 514 = .ok (.aload_n 1, 1) := by decide +kernel
theorem dL_law_515 : decode cL_law 515 = .ok (.aload_n 0, 1) := by decide +kernel
theorem dL_law_516 : decode cL_law 516 = .ok (.iload_n 3, 1) := by decide +kernel
theorem dL_law_517 : decode cL_law 517 = .ok (.iconst 1, 1) := by decide +kernel
theorem dL_law_518 : decode cL_law 518 = .ok (.iadd, 1) := by decide +kernel
theorem dL_law_519 : decode cL_law 519 = .ok (.iaload, 1) := by decide +kernel
theorem dL_law_520 : decode cL_law 520 = .ok (.aload_n 0, 1) := by decide +kernel
theorem dL_law_521 : decode cL_law 521 = .ok (.iload_n 3, 1) := by decide +kernel
theorem dL_law_522 : decode cL_law 522 = .ok (.iconst 2, 1) := by decide +kernel
theorem dL_law_523 : decode cL_law 523 = .ok (.iadd, 1) := by decide +kernel
theorem dL_law_524 : decode cL_law 524 = .ok (.iaload, 1) := by decide +kernel
theorem dL_law_525 : decode cL_law 525 = .ok (.aload_n 0, 1) := by decide +kernel
theorem dL_law_526 : decode cL_law 526 = .ok (.iload_n 3, 1) := by decide +kernel
theorem dL_law_527 : decode cL_law 527 = .ok (.iconst 3, 1) := by decide +kernel
theorem dL_law_528 : decode cL_law 528 = .ok (.iadd, 1) := by decide +kernel
theorem dL_law_529 : decode cL_law 529 = .ok (.iaload, 1) := by decide +kernel
theorem dL_law_530 : decode cL_law 530 = .ok (.ifCond .eq 7, 3) := by decide +kernel
theorem dL_law_533 : decode cL_law 533 = .ok (.iconst 1, 1) := by decide +kernel
theorem dL_law_534 : decode cL_law 534 = .ok (.goto 4, 3) := by decide +kernel
theorem dL_law_537 : decode cL_law 537 = .ok (.iconst 0, 1) := by decide +kernel
theorem dL_law_538 : decode cL_law 538 = .ok (.aload_n 0, 1) := by decide +kernel
theorem dL_law_539 : decode cL_law 539 = .ok (.iload_n 3, 1) := by decide +kernel
theorem dL_law_540 : decode cL_law 540 = .ok (.iconst 4, 1) := by decide +kernel
theorem dL_law_541 : decode cL_law 541 = .ok (.iadd, 1) := by decide +kernel
theorem dL_law_542 : decode cL_law 542 = .ok (.iaload, 1) := by decide +kernel
theorem dL_law_543 : decode cL_law 543 = .ok (.invokevirtual 52, 3) := by decide +kernel
theorem dL_law_546 : decode cL_law 546 = .ok (.aload_n 2, 1) := by decide +kernel
theorem dL_law_547 : decode cL_law 547 = .ok (.aload_n 0, 1) := by decide +kernel
theorem dL_law_548 : decode cL_law 548 = .ok (.iload_n 3, 1) := by decide +kernel
theorem dL_law_549 : decode cL_law 549 = .ok (.iconst 1, 1) := by decide +kernel
theorem dL_law_550 : decode cL_law 550 = .ok (.iadd, 1) := by decide +kernel
theorem dL_law_551 : decode cL_law 551 = .ok (.iaload, 1) := by decide +kernel
theorem dL_law_552 : decode cL_law 552 = .ok (.aload_n 0, 1) := by decide +kernel
theorem dL_law_553 : decode cL_law 553 = .ok (.iload_n 3, 1) := by decide +kernel
theorem dL_law_554 : decode cL_law 554 = .ok (.iconst 2, 1) := by decide +kernel
theorem dL_law_555 : decode cL_law 555 = .ok (.iadd, 1) := by decide +kernel
theorem dL_law_556 : decode cL_law 556 = .ok (.iaload, 1) := by decide +kernel
theorem dL_law_557 : decode cL_law 557 = .ok (.aload_n 0, 1) := by decide +kernel
theorem dL_law_558 : decode cL_law 558 = .ok (.iload_n 3, 1) := by decide +kernel
theorem dL_law_559 : decode cL_law 559 = .ok (.iconst 3, 1) := by decide +kernel
theorem dL_law_560 : decode cL_law 560 = .ok (.iadd, 1) := by decide +kernel
theorem dL_law_561 : decode cL_law 561 = .ok (.iaload, 1) := by decide +kernel
theorem dL_law_562 : decode cL_law 562 = .ok (.ifCond .eq 7, 3) := by decide +kernel
theorem dL_law_565 : decode cL_law 565 = .ok (.iconst 1, 1) := by decide +kernel
theorem dL_law_566 : decode cL_law 566 = .ok (.goto 4, 3) := by decide +kernel
theorem dL_law_569 : decode cL_law 569 = .ok (.iconst 0, 1) := by decide +kernel
theorem dL_law_570 : decode cL_law 570 = .ok (.aload_n 0, 1) := by decide +kernel
theorem dL_law_571 : decode cL_law 571 = .ok (.iload_n 3, 1) := by decide +kernel
theorem dL_law_572 : decode cL_law 572 = .ok (.iconst 4, 1) := by decide +kernel
theorem dL_law_573 : decode cL_law 573 = .ok (.iadd, 1) := by decide +kernel
theorem dL_law_574 : decode cL_law 574 = .ok (.iaload, 1) := by decide +kernel
theorem dL_law_575 : decode cL_law 575 = .ok (.invokevirtual 56, 3) := by decide +kernel
theorem dL_law_578 : decode cL_law 578 = .ok (.if_icmp .eq 1070, 3) := by decide +kernel
theorem dL_law_581 : decode cL_law 581 = .ok (.iconst 0, 1) := by decide +kernel
theorem dL_law_582 : decode cL_law 582 = .ok (.ireturn, 1) := by decide +kernel
theorem dL_law_583 : decode cL_law 583 = .ok (.aload_n 1, 1) := by decide +kernel
theorem dL_law_584 : decode cL_law 584 = .ok (.aload_n 0, 1) := by decide +kernel
theorem dL_law_585 : decode cL_law 585 = .ok (.iload_n 3, 1) := by decide +kernel
theorem dL_law_586 : decode cL_law 586 = .ok (.iconst 1, 1) := by decide +kernel
theorem dL_law_587 : decode cL_law 587 = .ok (.iadd, 1) := by decide +kernel
theorem dL_law_588 : decode cL_law 588 = .ok (.iaload, 1) := by decide +kernel
theorem dL_law_589 : decode cL_law 589 = .ok (.aload_n 0, 1) := by decide +kernel
theorem dL_law_590 : decode cL_law 590 = .ok (.iload_n 3, 1) := by decide +kernel
theorem dL_law_591 : decode cL_law 591 = .ok (.iconst 2, 1) := by decide +kernel
theorem dL_law_592 : decode cL_law 592 = .ok (.iadd, 1) := by decide +kernel
theorem dL_law_593 : decode cL_law 593 = .ok (.iaload, 1) := by decide +kernel
theorem dL_law_594 : decode cL_law 594 = .ok (.aload_n 0, 1) := by decide +kernel
theorem dL_law_595 : decode cL_law 595 = .ok (.iload_n 3, 1) := by decide +kernel
theorem dL_law_596 : decode cL_law 596 = .ok (.iconst 3, 1) := by decide +kernel
theorem dL_law_597 : decode cL_law 597 = .ok (.iadd, 1) := by decide +kernel
theorem dL_law_598 : decode cL_law 598 = .ok (.iaload, 1) := by decide +kernel
theorem dL_law_599 : decode cL_law 599 = .ok (.aload_n 0, 1) := by decide +kernel
theorem dL_law_600 : decode cL_law 600 = .ok (.iload_n 3, 1) := by decide +kernel
theorem dL_law_601 : decode cL_law 601 = .ok (.iconst 4, 1) := by decide +kernel
theorem dL_law_602 : decode cL_law 602 = .ok (.iadd, 1) := by decide +kernel
theorem dL_law_603 : decode cL_law 603 = .ok (.iaload, 1) := by decide +kernel
theorem dL_law_604 : decode cL_law 604 = .ok (.invokevirtual 57, 3) := by decide +kernel
theorem dL_law_607 : decode cL_law 607 = .ok (.aload_n 2, 1) := by decide +kernel
theorem dL_law_608 : decode cL_law 608 = .ok (.aload_n 0, 1) := by decide +kernel
theorem dL_law_609 : decode cL_law 609 = .ok (.iload_n 3, 1) := by decide +kernel
theorem dL_law_610 : decode cL_law 610 = .ok (.iconst 1, 1) := by decide +kernel
theorem dL_law_611 : decode cL_law 611 = .ok (.iadd, 1) := by decide +kernel
theorem dL_law_612 : decode cL_law 612 = .ok (.iaload, 1) := by decide +kernel
theorem dL_law_613 : decode cL_law 613 = .ok (.aload_n 0, 1) := by decide +kernel
theorem dL_law_614 : decode cL_law 614 = .ok (.iload_n 3, 1) := by decide +kernel
theorem dL_law_615 : decode cL_law 615 = .ok (.iconst 2, 1) := by decide +kernel
theorem dL_law_616 : decode cL_law 616 = .ok (.iadd, 1) := by decide +kernel
theorem dL_law_617 : decode cL_law 617 = .ok (.iaload, 1) := by decide +kernel
theorem dL_law_618 : decode cL_law 618 = .ok (.aload_n 0, 1) := by decide +kernel
theorem dL_law_619 : decode cL_law 619 = .ok (.iload_n 3, 1) := by decide +kernel
theorem dL_law_620 : decode cL_law 620 = .ok (.iconst 3, 1) := by decide +kernel
theorem dL_law_621 : decode cL_law 621 = .ok (.iadd, 1) := by decide +kernel
theorem dL_law_622 : decode cL_law 622 = .ok (.iaload, 1) := by decide +kernel
theorem dL_law_623 : decode cL_law 623 = .ok (.aload_n 0, 1) := by decide +kernel
theorem dL_law_624 : decode cL_law 624 = .ok (.iload_n 3, 1) := by decide +kernel
theorem dL_law_625 : decode cL_law 625 = .ok (.iconst 4, 1) := by decide +kernel
theorem dL_law_626 : decode cL_law 626 = .ok (.iadd, 1) := by decide +kernel
theorem dL_law_627 : decode cL_law 627 = .ok (.iaload, 1) := by decide +kernel
theorem dL_law_628 : decode cL_law 628 = .ok (.invokevirtual 60, 3) := by decide +kernel
theorem dL_law_631 : decode cL_law 631 = .ok (.if_icmp .eq 1017, 3) := by decide +kernel
theorem dL_law_634 : decode cL_law 634 = .ok (.iconst 0, 1) := by decide +kernel
theorem dL_law_635 : decode cL_law 635 = .ok (.ireturn, 1) := by decide +kernel
theorem dL_law_636 : decode cL_law 636 = .ok (.aload_n 1, 1) := by decide +kernel
theorem dL_law_637 : decode cL_law 637 = .ok (.aload_n 0, 1) := by decide +kernel
theorem dL_law_638 : decode cL_law 638 = .ok (.iload_n 3, 1) := by decide +kernel
theorem dL_law_639 : decode cL_law 639 = .ok (.iconst 1, 1) := by decide +kernel
theorem dL_law_640 : decode cL_law 640 = .ok (.iadd, 1) := by decide +kernel
theorem dL_law_641 : decode cL_law 641 = .ok (.iaload, 1) := by decide +kernel
theorem dL_law_642 : decode cL_law 642 = .ok (.aload_n 0, 1) := by decide +kernel
theorem dL_law_643 : decode cL_law 643 = .ok (.iload_n 3, 1) := by decide +kernel
theorem dL_law_644 : decode cL_law 644 = .ok (.iconst 2, 1) := by decide +kernel
theorem dL_law_645 : decode cL_law 645 = .ok (.iadd, 1) := by decide +kernel
theorem dL_law_646 : decode cL_law 646 = .ok (.iaload, 1) := by decide +kernel
theorem dL_law_647 : decode cL_law 647 = .ok (.invokevirtual 61, 3) := by decide +kernel
theorem dL_law_650 : decode cL_law 650 = .ok (.aload_n 2, 1) := by decide +kernel
theorem dL_law_651 : decode cL_law 651 = .ok (.aload_n 0, 1) := by decide +kernel
theorem dL_law_652 : decode cL_law 652 = .ok (.iload_n 3, 1) := by decide +kernel
theorem dL_law_653 : decode cL_law 653 = .ok (.iconst 1, 1) := by decide +kernel
theorem dL_law_654 : decode cL_law 654 = .ok (.iadd, 1) := by decide +kernel
theorem dL_law_655 : decode cL_law 655 = .ok (.iaload, 1) := by decide +kernel
theorem dL_law_656 : decode cL_law 656 = .ok (.aload_n 0, 1) := by decide +kernel
theorem dL_law_657 : decode cL_law 657 = .ok (.iload_n 3, 1) := by decide +kernel
theorem dL_law_658 : decode cL_law 658 = .ok (.iconst 2, 1) := by decide +kernel
theorem dL_law_659 : decode cL_law 659 = .ok (.iadd, 1) := by decide +kernel
theorem dL_law_660 : decode cL_law 660 = .ok (.iaload, 1) := by decide +kernel
theorem dL_law_661 : decode cL_law 661 = .ok (.invokevirtual 64, 3) := by decide +kernel
theorem dL_law_664 : decode cL_law 664 = .ok (.if_icmp .eq 984, 3) := by decide +kernel
theorem dL_law_667 : decode cL_law 667 = .ok (.iconst 0, 1) := by decide +kernel
theorem dL_law_668 : decode cL_law 668 = .ok (.ireturn, 1) := by decide +kernel
theorem dL_law_669 : decode cL_law 669 = .ok (.aload_n 1, 1) := by decide +kernel
theorem dL_law_670 : decode cL_law 670 = .ok (.aload_n 0, 1) := by decide +kernel
theorem dL_law_671 : decode cL_law 671 = .ok (.iload_n 3, 1) := by decide +kernel
theorem dL_law_672 : decode cL_law 672 = .ok (.iconst 1, 1) := by decide +kernel
theorem dL_law_673 : decode cL_law 673 = .ok (.iadd, 1) := by decide +kernel
theorem dL_law_674 : decode cL_law 674 = .ok (.iaload, 1) := by decide +kernel
theorem dL_law_675 : decode cL_law 675 = .ok (.aload_n 0, 1) := by decide +kernel
theorem dL_law_676 : decode cL_law 676 = .ok (.iload_n 3, 1) := by decide +kernel
theorem dL_law_677 : decode cL_law 677 = .ok (.iconst 2, 1) := by decide +kernel
theorem dL_law_678 : decode cL_law 678 = .ok (.iadd, 1) := by decide +kernel
theorem dL_law_679 : decode cL_law 679 = .ok (.iaload, 1) := by decide +kernel
theorem dL_law_680 : decode cL_law 680 = .ok (.aload_n 0, 1) := by decide +kernel
theorem dL_law_681 : decode cL_law 681 = .ok (.iload_n 3, 1) := by decide +kernel
theorem dL_law_682 : decode cL_law 682 = .ok (.iconst 3, 1) := by decide +kernel
theorem dL_law_683 : decode cL_law 683 = .ok (.iadd, 1) := by decide +kernel
theorem dL_law_684 : decode cL_law 684 = .ok (.iaload, 1) := by decide +kernel
theorem dL_law_685 : decode cL_law 685 = .ok (.aload_n 0, 1) := by decide +kernel
theorem dL_law_686 : decode cL_law 686 = .ok (.iload_n 3, 1) := by decide +kernel
theorem dL_law_687 : decode cL_law 687 = .ok (.iconst 4, 1) := by decide +kernel
theorem dL_law_688 : decode cL_law 688 = .ok (.iadd, 1) := by decide +kernel
theorem dL_law_689 : decode cL_law 689 = .ok (.iaload, 1) := by decide +kernel
theorem dL_law_690 : decode cL_law 690 = .ok (.invokevirtual 65, 3) := by decide +kernel
theorem dL_law_693 : decode cL_law 693 = .ok (.aload_n 2, 1) := by decide +kernel
theorem dL_law_694 : decode cL_law 694 = .ok (.aload_n 0, 1) := by decide +kernel
theorem dL_law_695 : decode cL_law 695 = .ok (.iload_n 3, 1) := by decide +kernel
theorem dL_law_696 : decode cL_law 696 = .ok (.iconst 1, 1) := by decide +kernel
theorem dL_law_697 : decode cL_law 697 = .ok (.iadd, 1) := by decide +kernel
theorem dL_law_698 : decode cL_law 698 = .ok (.iaload, 1) := by decide +kernel
theorem dL_law_699 : decode cL_law 699 = .ok (.aload_n 0, 1) := by decide +kernel
theorem dL_law_700 : decode cL_law 700 = .ok (.iload_n 3, 1) := by decide +kernel
theorem dL_law_701 : decode cL_law 701 = .ok (.iconst 2, 1) := by decide +kernel
theorem dL_law_702 : decode cL_law 702 = .ok (.iadd, 1) := by decide +kernel
theorem dL_law_703 : decode cL_law 703 = .ok (.iaload, 1) := by decide +kernel
theorem dL_law_704 : decode cL_law 704 = .ok (.aload_n 0, 1) := by decide +kernel
theorem dL_law_705 : decode cL_law 705 = .ok (.iload_n 3, 1) := by decide +kernel
theorem dL_law_706 : decode cL_law 706 = .ok (.iconst 3, 1) := by decide +kernel
theorem dL_law_707 : decode cL_law 707 = .ok (.iadd, 1) := by decide +kernel
theorem dL_law_708 : decode cL_law 708 = .ok (.iaload, 1) := by decide +kernel
theorem dL_law_709 : decode cL_law 709 = .ok (.aload_n 0, 1) := by decide +kernel
theorem dL_law_710 : decode cL_law 710 = .ok (.iload_n 3, 1) := by decide +kernel
theorem dL_law_711 : decode cL_law 711 = .ok (.iconst 4, 1) := by decide +kernel
theorem dL_law_712 : decode cL_law 712 = .ok (.iadd, 1) := by decide +kernel
theorem dL_law_713 : decode cL_law 713 = .ok (.iaload, 1) := by decide +kernel
theorem dL_law_714 : decode cL_law 714 = .ok (.invokevirtual 68, 3) := by decide +kernel
theorem dL_law_717 : decode cL_law 717 = .ok (.if_icmp .eq 931, 3) := by decide +kernel
theorem dL_law_720 : decode cL_law 720 = .ok (.iconst 0, 1) := by decide +kernel
theorem dL_law_721 : decode cL_law 721 = .ok (.ireturn, 1) := by decide +kernel
theorem dL_law_722 : decode cL_law 722 = .ok (.aload_n 1, 1) := by decide +kernel
theorem dL_law_723 : decode cL_law 723 = .ok (.aload_n 0, 1) := by decide +kernel
theorem dL_law_724 : decode cL_law 724 = .ok (.iload_n 3, 1) := by decide +kernel
theorem dL_law_725 : decode cL_law 725 = .ok (.iconst 1, 1) := by decide +kernel
theorem dL_law_726 : decode cL_law 726 = .ok (.iadd, 1) := by decide +kernel
theorem dL_law_727 : decode cL_law 727 = .ok (.iaload, 1) := by decide +kernel
theorem dL_law_728 : decode cL_law 728 = .ok (.aload_n 0, 1) := by decide +kernel
theorem dL_law_729 : decode cL_law 729 = .ok (.iload_n 3, 1) := by decide +kernel
theorem dL_law_730 : decode cL_law 730 = .ok (.iconst 2, 1) := by decide +kernel
theorem dL_law_731 : decode cL_law 731 = .ok (.iadd, 1) := by decide +kernel
theorem dL_law_732 : decode cL_law 732 = .ok (.iaload, 1) := by decide +kernel
theorem dL_law_733 : decode cL_law 733 = .ok (.aload_n 0, 1) := by decide +kernel
theorem dL_law_734 : decode cL_law 734 = .ok (.iload_n 3, 1) := by decide +kernel
theorem dL_law_735 : decode cL_law 735 = .ok (.iconst 3, 1) := by decide +kernel
theorem dL_law_736 : decode cL_law 736 = .ok (.iadd, 1) := by decide +kernel
theorem dL_law_737 : decode cL_law 737 = .ok (.iaload, 1) := by decide +kernel
theorem dL_law_738 : decode cL_law 738 = .ok (.aload_n 0, 1) := by decide +kernel
theorem dL_law_739 : decode cL_law 739 = .ok (.iload_n 3, 1) := by decide +kernel
theorem dL_law_740 : decode cL_law 740 = .ok (.iconst 4, 1) := by decide +kernel
theorem dL_law_741 : decode cL_law 741 = .ok (.iadd, 1) := by decide +kernel
theorem dL_law_742 : decode cL_law 742 = .ok (.iaload, 1) := by decide +kernel
theorem dL_law_743 : decode cL_law 743 = .ok (.invokevirtual 69, 3) := by decide +kernel
theorem dL_law_746 : decode cL_law 746 = .ok (.aload_n 2, 1) := by decide +kernel
theorem dL_law_747 : decode cL_law 747 = .ok (.aload_n 0, 1) := by decide +kernel
theorem dL_law_748 : decode cL_law 748 = .ok (.iload_n 3, 1) := by decide +kernel
theorem dL_law_749 : decode cL_law 749 = .ok (.iconst 1, 1) := by decide +kernel
theorem dL_law_750 : decode cL_law 750 = .ok (.iadd, 1) := by decide +kernel
theorem dL_law_751 : decode cL_law 751 = .ok (.iaload, 1) := by decide +kernel
theorem dL_law_752 : decode cL_law 752 = .ok (.aload_n 0, 1) := by decide +kernel
theorem dL_law_753 : decode cL_law 753 = .ok (.iload_n 3, 1) := by decide +kernel
theorem dL_law_754 : decode cL_law 754 = .ok (.iconst 2, 1) := by decide +kernel
theorem dL_law_755 : decode cL_law 755 = .ok (.iadd, 1) := by decide +kernel
theorem dL_law_756 : decode cL_law 756 = .ok (.iaload, 1) := by decide +kernel
theorem dL_law_757 : decode cL_law 757 = .ok (.aload_n 0, 1) := by decide +kernel
theorem dL_law_758 : decode cL_law 758 = .ok (.iload_n 3, 1) := by decide +kernel
theorem dL_law_759 : decode cL_law 759 = .ok (.iconst 3, 1) := by decide +kernel
theorem dL_law_760 : decode cL_law 760 = .ok (.iadd, 1) := by decide +kernel
theorem dL_law_761 : decode cL_law 761 = .ok (.iaload, 1) := by decide +kernel
theorem dL_law_762 : decode cL_law 762 = .ok (.aload_n 0, 1) := by decide +kernel
theorem dL_law_763 : decode cL_law 763 = .ok (.iload_n 3, 1) := by decide +kernel
theorem dL_law_764 : decode cL_law 764 = .ok (.iconst 4, 1) := by decide +kernel
theorem dL_law_765 : decode cL_law 765 = .ok (.iadd, 1) := by decide +kernel
theorem dL_law_766 : decode cL_law 766 = .ok (.iaload, 1) := by decide +kernel
theorem dL_law_767 : decode cL_law 767 = .ok (.invokevirtual 72, 3) := by decide +kernel
theorem dL_law_770 : decode cL_law 770 = .ok (.if_icmp .eq 878, 3) := by decide +kernel
theorem dL_law_773 : decode cL_law 773 = .ok (.iconst 0, 1) := by decide +kernel
theorem dL_law_774 : decode cL_law 774 = .ok (.ireturn, 1) := by decide +kernel
theorem dL_law_775 : decode cL_law 775 = .ok (.aload_n 1, 1) := by decide +kernel
theorem dL_law_776 : decode cL_law 776 = .ok (.aload_n 0, 1) := by decide +kernel
theorem dL_law_777 : decode cL_law 777 = .ok (.iload_n 3, 1) := by decide +kernel
theorem dL_law_778 : decode cL_law 778 = .ok (.iconst 1, 1) := by decide +kernel
theorem dL_law_779 : decode cL_law 779 = .ok (.iadd, 1) := by decide +kernel
theorem dL_law_780 : decode cL_law 780 = .ok (.iaload, 1) := by decide +kernel
theorem dL_law_781 : decode cL_law 781 = .ok (.aload_n 0, 1) := by decide +kernel
theorem dL_law_782 : decode cL_law 782 = .ok (.iload_n 3, 1) := by decide +kernel
theorem dL_law_783 : decode cL_law 783 = .ok (.iconst 2, 1) := by decide +kernel
theorem dL_law_784 : decode cL_law 784 = .ok (.iadd, 1) := by decide +kernel
theorem dL_law_785 : decode cL_law 785 = .ok (.iaload, 1) := by decide +kernel
theorem dL_law_786 : decode cL_law 786 = .ok (.aload_n 0, 1) := by decide +kernel
theorem dL_law_787 : decode cL_law 787 = .ok (.iload_n 3, 1) := by decide +kernel
theorem dL_law_788 : decode cL_law 788 = .ok (.iconst 3, 1) := by decide +kernel
theorem dL_law_789 : decode cL_law 789 = .ok (.iadd, 1) := by decide +kernel
theorem dL_law_790 : decode cL_law 790 = .ok (.iaload, 1) := by decide +kernel
theorem dL_law_791 : decode cL_law 791 = .ok (.invokevirtual 73, 3) := by decide +kernel
theorem dL_law_794 : decode cL_law 794 = .ok (.aload_n 2, 1) := by decide +kernel
theorem dL_law_795 : decode cL_law 795 = .ok (.aload_n 0, 1) := by decide +kernel
theorem dL_law_796 : decode cL_law 796 = .ok (.iload_n 3, 1) := by decide +kernel
theorem dL_law_797 : decode cL_law 797 = .ok (.iconst 1, 1) := by decide +kernel
theorem dL_law_798 : decode cL_law 798 = .ok (.iadd, 1) := by decide +kernel
theorem dL_law_799 : decode cL_law 799 = .ok (.iaload, 1) := by decide +kernel
theorem dL_law_800 : decode cL_law 800 = .ok (.aload_n 0, 1) := by decide +kernel
theorem dL_law_801 : decode cL_law 801 = .ok (.iload_n 3, 1) := by decide +kernel
theorem dL_law_802 : decode cL_law 802 = .ok (.iconst 2, 1) := by decide +kernel
theorem dL_law_803 : decode cL_law 803 = .ok (.iadd, 1) := by decide +kernel
theorem dL_law_804 : decode cL_law 804 = .ok (.iaload, 1) := by decide +kernel
theorem dL_law_805 : decode cL_law 805 = .ok (.aload_n 0, 1) := by decide +kernel
theorem dL_law_806 : decode cL_law 806 = .ok (.iload_n 3, 1) := by decide +kernel
theorem dL_law_807 : decode cL_law 807 = .ok (.iconst 3, 1) := by decide +kernel
theorem dL_law_808 : decode cL_law 808 = .ok (.iadd, 1) := by decide +kernel
theorem dL_law_809 : decode cL_law 809 = .ok (.iaload, 1) := by decide +kernel
theorem dL_law_810 : decode cL_law 810 = .ok (.invokevirtual 76, 3) := by decide +kernel
theorem dL_law_813 : decode cL_law 813 = .ok (.if_icmp .eq 835, 3) := by decide +kernel
theorem dL_law_816 : decode cL_law 816 = .ok (.iconst 0, 1) := by decide +kernel
theorem dL_law_817 : decode cL_law 817 = .ok (.ireturn, 1) := by decide +kernel
theorem dL_law_818 : decode cL_law 818 = .ok (.aload_n 1, 1) := by decide +kernel
theorem dL_law_819 : decode cL_law 819 = .ok (.aload_n 0, 1) := by decide +kernel
theorem dL_law_820 : decode cL_law 820 = .ok (.iload_n 3, 1) := by decide +kernel
theorem dL_law_821 : decode cL_law 821 = .ok (.iconst 1, 1) := by decide +kernel
theorem dL_law_822 : decode cL_law 822 = .ok (.iadd, 1) := by decide +kernel
theorem dL_law_823 : decode cL_law 823 = .ok (.iaload, 1) := by decide +kernel
theorem dL_law_824 : decode cL_law 824 = .ok (.aload_n 0, 1) := by decide +kernel
theorem dL_law_825 : decode cL_law 825 = .ok (.iload_n 3, 1) := by decide +kernel
theorem dL_law_826 : decode cL_law 826 = .ok (.iconst 2, 1) := by decide +kernel
theorem dL_law_827 : decode cL_law 827 = .ok (.iadd, 1) := by decide +kernel
theorem dL_law_828 : decode cL_law 828 = .ok (.iaload, 1) := by decide +kernel
theorem dL_law_829 : decode cL_law 829 = .ok (.invokevirtual 77, 3) := by decide +kernel
theorem dL_law_832 : decode cL_law 832 = .ok (.aload_n 2, 1) := by decide +kernel
theorem dL_law_833 : decode cL_law 833 = .ok (.aload_n 0, 1) := by decide +kernel
theorem dL_law_834 : decode cL_law 834 = .ok (.iload_n 3, 1) := by decide +kernel
theorem dL_law_835 : decode cL_law 835 = .ok (.iconst 1, 1) := by decide +kernel
theorem dL_law_836 : decode cL_law 836 = .ok (.iadd, 1) := by decide +kernel
theorem dL_law_837 : decode cL_law 837 = .ok (.iaload, 1) := by decide +kernel
theorem dL_law_838 : decode cL_law 838 = .ok (.aload_n 0, 1) := by decide +kernel
theorem dL_law_839 : decode cL_law 839 = .ok (.iload_n 3, 1) := by decide +kernel
theorem dL_law_840 : decode cL_law 840 = .ok (.iconst 2, 1) := by decide +kernel
theorem dL_law_841 : decode cL_law 841 = .ok (.iadd, 1) := by decide +kernel
theorem dL_law_842 : decode cL_law 842 = .ok (.iaload, 1) := by decide +kernel
theorem dL_law_843 : decode cL_law 843 = .ok (.invokevirtual 80, 3) := by decide +kernel
theorem dL_law_846 : decode cL_law 846 = .ok (.if_icmp .eq 802, 3) := by decide +kernel
theorem dL_law_849 : decode cL_law 849 = .ok (.iconst 0, 1) := by decide +kernel
theorem dL_law_850 : decode cL_law 850 = .ok (.ireturn, 1) := by decide +kernel
theorem dL_law_851 : decode cL_law 851 = .ok (.aload_n 1, 1) := by decide +kernel
theorem dL_law_852 : decode cL_law 852 = .ok (.aload_n 0, 1) := by decide +kernel
theorem dL_law_853 : decode cL_law 853 = .ok (.iload_n 3, 1) := by decide +kernel
theorem dL_law_854 : decode cL_law 854 = .ok (.iconst 1, 1) := by decide +kernel
theorem dL_law_855 : decode cL_law 855 = .ok (.iadd, 1) := by decide +kernel
theorem dL_law_856 : decode cL_law 856 = .ok (.iaload, 1) := by decide +kernel
theorem dL_law_857 : decode cL_law 857 = .ok (.aload_n 0, 1) := by decide +kernel
theorem dL_law_858 : decode cL_law 858 = .ok (.iload_n 3, 1) := by decide +kernel
theorem dL_law_859 : decode cL_law 859 = .ok (.iconst 2, 1) := by decide +kernel
theorem dL_law_860 : decode cL_law 860 = .ok (.iadd, 1) := by decide +kernel
theorem dL_law_861 : decode cL_law 861 = .ok (.iaload, 1) := by decide +kernel
theorem dL_law_862 : decode cL_law 862 = .ok (.aload_n 0, 1) := by decide +kernel
theorem dL_law_863 : decode cL_law 863 = .ok (.iload_n 3, 1) := by decide +kernel
theorem dL_law_864 : decode cL_law 864 = .ok (.iconst 3, 1) := by decide +kernel
theorem dL_law_865 : decode cL_law 865 = .ok (.iadd, 1) := by decide +kernel
theorem dL_law_866 : decode cL_law 866 = .ok (.iaload, 1) := by decide +kernel
theorem dL_law_867 : decode cL_law 867 = .ok (.aload_n 0, 1) := by decide +kernel
theorem dL_law_868 : decode cL_law 868 = .ok (.iload_n 3, 1) := by decide +kernel
theorem dL_law_869 : decode cL_law 869 = .ok (.iconst 4, 1) := by decide +kernel
theorem dL_law_870 : decode cL_law 870 = .ok (.iadd, 1) := by decide +kernel
theorem dL_law_871 : decode cL_law 871 = .ok (.iaload, 1) := by decide +kernel
theorem dL_law_872 : decode cL_law 872 = .ok (.invokevirtual 81, 3) := by decide +kernel
theorem dL_law_875 : decode cL_law 875 = .ok (.aload_n 2, 1) := by decide +kernel
theorem dL_law_876 : decode cL_law 876 = .ok (.aload_n 0, 1) := by decide +kernel
theorem dL_law_877 : decode cL_law 877 = .ok (.iload_n 3, 1) := by decide +kernel
theorem dL_law_878 : decode cL_law 878 = .ok (.iconst 1, 1) := by decide +kernel
theorem dL_law_879 : decode cL_law 879 = .ok (.iadd, 1) := by decide +kernel
theorem dL_law_880 : decode cL_law 880 = .ok (.iaload, 1) := by decide +kernel
theorem dL_law_881 : decode cL_law 881 = .ok (.aload_n 0, 1) := by decide +kernel
theorem dL_law_882 : decode cL_law 882 = .ok (.iload_n 3, 1) := by decide +kernel
theorem dL_law_883 : decode cL_law 883 = .ok (.iconst 2, 1) := by decide +kernel
theorem dL_law_884 : decode cL_law 884 = .ok (.iadd, 1) := by decide +kernel
theorem dL_law_885 : decode cL_law 885 = .ok (.iaload, 1) := by decide +kernel
theorem dL_law_886 : decode cL_law 886 = .ok (.aload_n 0, 1) := by decide +kernel
theorem dL_law_887 : decode cL_law 887 = .ok (.iload_n 3, 1) := by decide +kernel
theorem dL_law_888 : decode cL_law 888 = .ok (.iconst 3, 1) := by decide +kernel
theorem dL_law_889 : decode cL_law 889 = .ok (.iadd, 1) := by decide +kernel
theorem dL_law_890 : decode cL_law 890 = .ok (.iaload, 1) := by decide +kernel
theorem dL_law_891 : decode cL_law 891 = .ok (.aload_n 0, 1) := by decide +kernel
theorem dL_law_892 : decode cL_law 892 = .ok (.iload_n 3, 1) := by decide +kernel
theorem dL_law_893 : decode cL_law 893 = .ok (.iconst 4, 1) := by decide +kernel
theorem dL_law_894 : decode cL_law 894 = .ok (.iadd, 1) := by decide +kernel
theorem dL_law_895 : decode cL_law 895 = .ok (.iaload, 1) := by decide +kernel
theorem dL_law_896 : decode cL_law 896 = .ok (.invokevirtual 84, 3) := by decide +kernel
theorem dL_law_899 : decode cL_law 899 = .ok (.if_icmp .eq 749, 3) := by decide +kernel
theorem dL_law_902 : decode cL_law 902 = .ok (.iconst 0, 1) := by decide +kernel
theorem dL_law_903 : decode cL_law 903 = .ok (.ireturn, 1) := by decide +kernel
theorem dL_law_904 : decode cL_law 904 = .ok (.aload_n 1, 1) := by decide +kernel
theorem dL_law_905 : decode cL_law 905 = .ok (.aload_n 0, 1) := by decide +kernel
theorem dL_law_906 : decode cL_law 906 = .ok (.iload_n 3, 1) := by decide +kernel
theorem dL_law_907 : decode cL_law 907 = .ok (.iconst 1, 1) := by decide +kernel
theorem dL_law_908 : decode cL_law 908 = .ok (.iadd, 1) := by decide +kernel
theorem dL_law_909 : decode cL_law 909 = .ok (.iaload, 1) := by decide +kernel
theorem dL_law_910 : decode cL_law 910 = .ok (.aload_n 0, 1) := by decide +kernel
theorem dL_law_911 : decode cL_law 911 = .ok (.iload_n 3, 1) := by decide +kernel
theorem dL_law_912 : decode cL_law 912 = .ok (.iconst 2, 1) := by decide +kernel
theorem dL_law_913 : decode cL_law 913 = .ok (.iadd, 1) := by decide +kernel
theorem dL_law_914 : decode cL_law 914 = .ok (.iaload, 1) := by decide +kernel
theorem dL_law_915 : decode cL_law 915 = .ok (.invokevirtual 85, 3) := by decide +kernel
theorem dL_law_918 : decode cL_law 918 = .ok (.aload_n 2, 1) := by decide +kernel
theorem dL_law_919 : decode cL_law 919 = .ok (.aload_n 0, 1) := by decide +kernel
theorem dL_law_920 : decode cL_law 920 = .ok (.iload_n 3, 1) := by decide +kernel
theorem dL_law_921 : decode cL_law 921 = .ok (.iconst 1, 1) := by decide +kernel
theorem dL_law_922 : decode cL_law 922 = .ok (.iadd, 1) := by decide +kernel
theorem dL_law_923 : decode cL_law 923 = .ok (.iaload, 1) := by decide +kernel
theorem dL_law_924 : decode cL_law 924 = .ok (.aload_n 0, 1) := by decide +kernel
theorem dL_law_925 : decode cL_law 925 = .ok (.iload_n 3, 1) := by decide +kernel
theorem dL_law_926 : decode cL_law 926 = .ok (.iconst 2, 1) := by decide +kernel
theorem dL_law_927 : decode cL_law 927 = .ok (.iadd, 1) := by decide +kernel
theorem dL_law_928 : decode cL_law 928 = .ok (.iaload, 1) := by decide +kernel
theorem dL_law_929 : decode cL_law 929 = .ok (.invokevirtual 88, 3) := by decide +kernel
theorem dL_law_932 : decode cL_law 932 = .ok (.if_icmp .eq 716, 3) := by decide +kernel
theorem dL_law_935 : decode cL_law 935 = .ok (.iconst 0, 1) := by decide +kernel
theorem dL_law_936 : decode cL_law 936 = .ok (.ireturn, 1) := by decide +kernel
theorem dL_law_937 : decode cL_law 937 = .ok (.aload_n 1, 1) := by decide +kernel
theorem dL_law_938 : decode cL_law 938 = .ok (.aload_n 0, 1) := by decide +kernel
theorem dL_law_939 : decode cL_law 939 = .ok (.iload_n 3, 1) := by decide +kernel
theorem dL_law_940 : decode cL_law 940 = .ok (.iconst 1, 1) := by decide +kernel
theorem dL_law_941 : decode cL_law 941 = .ok (.iadd, 1) := by decide +kernel
theorem dL_law_942 : decode cL_law 942 = .ok (.iaload, 1) := by decide +kernel
theorem dL_law_943 : decode cL_law 943 = .ok (.aload_n 0, 1) := by decide +kernel
theorem dL_law_944 : decode cL_law 944 = .ok (.iload_n 3, 1) := by decide +kernel
theorem dL_law_945 : decode cL_law 945 = .ok (.iconst 2, 1) := by decide +kernel
theorem dL_law_946 : decode cL_law 946 = .ok (.iadd, 1) := by decide +kernel
theorem dL_law_947 : decode cL_law 947 = .ok (.iaload, 1) := by decide +kernel
theorem dL_law_948 : decode cL_law 948 = .ok (.aload_n 0, 1) := by decide +kernel
theorem dL_law_949 : decode cL_law 949 = .ok (.iload_n 3, 1) := by decide +kernel
theorem dL_law_950 : decode cL_law 950 = .ok (.iconst 3, 1) := by decide +kernel
theorem dL_law_951 : decode cL_law 951 = .ok (.iadd, 1) := by decide +kernel
theorem dL_law_952 : decode cL_law 952 = .ok (.iaload, 1) := by decide +kernel
theorem dL_law_953 : decode cL_law 953 = .ok (.ifCond .eq 7, 3) := by decide +kernel
theorem dL_law_956 : decode cL_law 956 = .ok (.iconst 1, 1) := by decide +kernel
theorem dL_law_957 : decode cL_law 957 = .ok (.goto 4, 3) := by decide +kernel
theorem dL_law_960 : decode cL_law 960 = .ok (.iconst 0, 1) := by decide +kernel
theorem dL_law_961 : decode cL_law 961 = .ok (.invokevirtual 89, 3) := by decide +kernel
theorem dL_law_964 : decode cL_law 964 = .ok (.aload_n 2, 1) := by decide +kernel
theorem dL_law_965 : decode cL_law 965 = .ok (.aload_n 0, 1) := by decide +kernel
theorem dL_law_966 : decode cL_law 966 = .ok (.iload_n 3, 1) := by decide +kernel
theorem dL_law_967 : decode cL_law 967 = .ok (.iconst 1, 1) := by decide +kernel
theorem dL_law_968 : decode cL_law 968 = .ok (.iadd, 1) := by decide +kernel
theorem dL_law_969 : decode cL_law 969 = .ok (.iaload, 1) := by decide +kernel
theorem dL_law_970 : decode cL_law 970 = .ok (.aload_n 0, 1) := by decide +kernel
theorem dL_law_971 : decode cL_law 971 = .ok (.iload_n 3, 1) := by decide +kernel
theorem dL_law_972 : decode cL_law 972 = .ok (.iconst 2, 1) := by decide +kernel
theorem dL_law_973 : decode cL_law 973 = .ok (.iadd, 1) := by decide +kernel
theorem dL_law_974 : decode cL_law 974 = .ok (.iaload, 1) := by decide +kernel
theorem dL_law_975 : decode cL_law 975 = .ok (.aload_n 0, 1) := by decide +kernel
theorem dL_law_976 : decode cL_law 976 = .ok (.iload_n 3, 1) := by decide +kernel
theorem dL_law_977 : decode cL_law 977 = .ok (.iconst 3, 1) := by decide +kernel
theorem dL_law_978 : decode cL_law 978 = .ok (.iadd, 1) := by decide +kernel
theorem dL_law_979 : decode cL_law 979 = .ok (.iaload, 1) := by decide +kernel
theorem dL_law_980 : decode cL_law 980 = .ok (.ifCond .eq 7, 3) := by decide +kernel
theorem dL_law_983 : decode cL_law 983 = .ok (.iconst 1, 1) := by decide +kernel
theorem dL_law_984 : decode cL_law 984 = .ok (.goto 4, 3) := by decide +kernel
theorem dL_law_987 : decode cL_law 987 = .ok (.iconst 0, 1) := by decide +kernel
theorem dL_law_988 : decode cL_law 988 = .ok (.invokevirtual 93, 3) := by decide +kernel
theorem dL_law_991 : decode cL_law 991 = .ok (.if_icmp .eq 657, 3) := by decide +kernel
theorem dL_law_994 : decode cL_law 994 = .ok (.iconst 0, 1) := by decide +kernel
theorem dL_law_995 : decode cL_law 995 = .ok (.ireturn, 1) := by decide +kernel
theorem dL_law_996 : decode cL_law 996 = .ok (.aload_n 1, 1) := by decide +kernel
theorem dL_law_997 : decode cL_law 997 = .ok (.aload_n 0, 1) := by decide +kernel
theorem dL_law_998 : decode cL_law 998 = .ok (.iload_n 3, 1) := by decide +kernel
theorem dL_law_999 : decode cL_law 999 = .ok (.iconst 1, 1) := by decide +kernel
theorem dL_law_1000 : decode cL_law 1000 = .ok (.iadd, 1) := by decide +kernel
theorem dL_law_1001 : decode cL_law 1001 = .ok (.iaload, 1) := by decide +kernel
theorem dL_law_1002 : decode cL_law 1002 = .ok (.aload_n 0, 1) := by decide +kernel
theorem dL_law_1003 : decode cL_law 1003 = .ok (.iload_n 3, 1) := by decide +kernel
theorem dL_law_1004 : decode cL_law 1004 = .ok (.iconst 2, 1) := by decide +kernel
theorem dL_law_1005 : decode cL_law 1005 = .ok (.iadd, 1) := by decide +kernel
theorem dL_law_1006 : decode cL_law 1006 = .ok (.iaload, 1) := by decide +kernel
theorem dL_law_1007 : decode cL_law 1007 = .ok (.aload_n 0, 1) := by decide +kernel
theorem dL_law_1008 : decode cL_law 1008 = .ok (.iload_n 3, 1) := by decide +kernel
theorem dL_law_1009 : decode cL_law 1009 = .ok (.iconst 3, 1) := by decide +kernel
theorem dL_law_1010 : decode cL_law 1010 = .ok (.iadd, 1) := by decide +kernel
theorem dL_law_1011 : decode cL_law 1011 = .ok (.iaload, 1) := by decide +kernel
theorem dL_law_1012 : decode cL_law 1012 = .ok (.ifCond .eq 7, 3) := by decide +kernel
theorem dL_law_1015 : decode cL_law 1015 = .ok (.iconst 1, 1) := by decide +kernel
theorem dL_law_1016 : decode cL_law 1016 = .ok (.goto 4, 3) := by decide +kernel
theorem dL_law_1019 : decode cL_law 1019 = .ok (.iconst 0, 1) := by decide +kernel
theorem dL_law_1020 : decode cL_law 1020 = .ok (.invokevirtual 94, 3) := by decide +kernel
theorem dL_law_1023 : decode cL_law 1023 = .ok (.aload_n 2, 1) := by decide +kernel
theorem dL_law_1024 : decode cL_law 1024 = .ok (.aload_n 0, 1) := by decide +kernel
theorem dL_law_1025 : decode cL_law 1025 = .ok (.iload_n 3, 1) := by decide +kernel
theorem dL_law_1026 : decode cL_law 1026 = .ok (.iconst 1, 1) := by decide +kernel
theorem dL_law_1027 : decode cL_law 1027 = .ok (.iadd, 1) := by decide +kernel
theorem dL_law_1028 : decode cL_law 1028 = .ok (.iaload, 1) := by decide +kernel
theorem dL_law_1029 : decode cL_law 1029 = .ok (.aload_n 0, 1) := by decide +kernel
theorem dL_law_1030 : decode cL_law 1030 = .ok (.iload_n 3, 1) := by decide +kernel
theorem dL_law_1031 : decode cL_law 1031 = .ok (.iconst 2, 1) := by decide +kernel
theorem dL_law_1032 : decode cL_law 1032 = .ok (.iadd, 1) := by decide +kernel
theorem dL_law_1033 : decode cL_law 1033 = .ok (.iaload, 1) := by decide +kernel
theorem dL_law_1034 : decode cL_law 1034 = .ok (.aload_n 0, 1) := by decide +kernel
theorem dL_law_1035 : decode cL_law 1035 = .ok (.iload_n 3, 1) := by decide +kernel
theorem dL_law_1036 : decode cL_law 1036 = .ok (.iconst 3, 1) := by decide +kernel
theorem dL_law_1037 : decode cL_law 1037 = .ok (.iadd, 1) := by decide +kernel
theorem dL_law_1038 : decode cL_law 1038 = .ok (.iaload, 1) := by decide +kernel
theorem dL_law_1039 : decode cL_law 1039 = .ok (.ifCond .eq 7, 3) := by decide +kernel
theorem dL_law_1042 : decode cL_law 1042 = .ok (.iconst 1, 1) := by decide +kernel
theorem dL_law_1043 : decode cL_law 1043 = .ok (.goto 4, 3) := by decide +kernel
theorem dL_law_1046 : decode cL_law 1046 = .ok (.iconst 0, 1) := by decide +kernel
theorem dL_law_1047 : decode cL_law 1047 = .ok (.invokevirtual 97, 3) := by decide +kernel
theorem dL_law_1050 : decode cL_law 1050 = .ok (.if_icmp .eq 598, 3) := by decide +kernel
theorem dL_law_1053 : decode cL_law 1053 = .ok (.iconst 0, 1) := by decide +kernel
theorem dL_law_1054 : decode cL_law 1054 = .ok (.ireturn, 1) := by decide +kernel
theorem dL_law_1055 : decode cL_law 1055 = .ok (.aload_n 1, 1) := by decide +kernel
theorem dL_law_1056 : decode cL_law 1056 = .ok (.aload_n 0, 1) := by decide +kernel
theorem dL_law_1057 : decode cL_law 1057 = .ok (.iload_n 3, 1) := by decide +kernel
theorem dL_law_1058 : decode cL_law 1058 = .ok (.iconst 1, 1) := by decide +kernel
theorem dL_law_1059 : decode cL_law 1059 = .ok (.iadd, 1) := by decide +kernel
theorem dL_law_1060 : decode cL_law 1060 = .ok (.iaload, 1) := by decide +kernel
theorem dL_law_1061 : decode cL_law 1061 = .ok (.aload_n 0, 1) := by decide +kernel
theorem dL_law_1062 : decode cL_law 1062 = .ok (.iload_n 3, 1) := by decide +kernel
theorem dL_law_1063 : decode cL_law 1063 = .ok (.iconst 2, 1) := by decide +kernel
theorem dL_law_1064 : decode cL_law 1064 = .ok (.iadd, 1) := by decide +kernel
theorem dL_law_1065 : decode cL_law 1065 = .ok (.iaload, 1) := by decide +kernel
theorem dL_law_1066 : decode cL_law 1066 = .ok (.aload_n 0, 1) := by decide +kernel
theorem dL_law_1067 : decode cL_law 1067 = .ok (.iload_n 3, 1) := by decide +kernel
theorem dL_law_1068 : decode cL_law 1068 = .ok (.iconst 3, 1) := by decide +kernel
theorem dL_law_1069 : decode cL_law 1069 = .ok (.iadd, 1) := by decide +kernel
theorem dL_law_1070 : decode cL_law 1070 = .ok (.iaload, 1) := by decide +kernel
theorem dL_law_1071 : decode cL_law 1071 = .ok (.aload_n 0, 1) := by decide +kernel
theorem dL_law_1072 : decode cL_law 1072 = .ok (.iload_n 3, 1) := by decide +kernel
theorem dL_law_1073 : decode cL_law 1073 = .ok (.iconst 4, 1) := by decide +kernel
theorem dL_law_1074 : decode cL_law 1074 = .ok (.iadd, 1) := by decide +kernel
theorem dL_law_1075 : decode cL_law 1075 = .ok (.iaload, 1) := by decide +kernel
theorem dL_law_1076 : decode cL_law 1076 = .ok (.ifCond .eq 7, 3) := by decide +kernel
theorem dL_law_1079 : decode cL_law 1079 = .ok (.iconst 1, 1) := by decide +kernel
theorem dL_law_1080 : decode cL_law 1080 = .ok (.goto 4, 3) := by decide +kernel
theorem dL_law_1083 : decode cL_law 1083 = .ok (.iconst 0, 1) := by decide +kernel
theorem dL_law_1084 : decode cL_law 1084 = .ok (.invokevirtual 98, 3) := by decide +kernel
theorem dL_law_1087 : decode cL_law 1087 = .ok (.aload_n 2, 1) := by decide +kernel
theorem dL_law_1088 : decode cL_law 1088 = .ok (.aload_n 0, 1) := by decide +kernel
theorem dL_law_1089 : decode cL_law 1089 = .ok (.iload_n 3, 1) := by decide +kernel
theorem dL_law_1090 : decode cL_law 1090 = .ok (.iconst 1, 1) := by decide +kernel
theorem dL_law_1091 : decode cL_law 1091 = .ok (.iadd, 1) := by decide +kernel
theorem dL_law_1092 : decode cL_law 1092 = .ok (.iaload, 1) := by decide +kernel
theorem dL_law_1093 : decode cL_law 1093 = .ok (.aload_n 0, 1) := by decide +kernel
theorem dL_law_1094 : decode cL_law 1094 = .ok (.iload_n 3, 1) := by decide +kernel
theorem dL_law_1095 : decode cL_law 1095 = .ok (.iconst 2, 1) := by decide +kernel
theorem dL_law_1096 : decode cL_law 1096 = .ok (.iadd, 1) := by decide +kernel
theorem dL_law_1097 : decode cL_law 1097 = .ok (.iaload, 1) := by decide +kernel
theorem dL_law_1098 : decode cL_law 1098 = .ok (.aload_n 0, 1) := by decide +kernel
theorem dL_law_1099 : decode cL_law 1099 = .ok (.iload_n 3, 1) := by decide +kernel
theorem dL_law_1100 : decode cL_law 1100 = .ok (.iconst 3, 1) := by decide +kernel
theorem dL_law_1101 : decode cL_law 1101 = .ok (.iadd, 1) := by decide +kernel
theorem dL_law_1102 : decode cL_law 1102 = .ok (.iaload, 1) := by decide +kernel
theorem dL_law_1103 : decode cL_law 1103 = .ok (.aload_n 0, 1) := by decide +kernel
theorem dL_law_1104 : decode cL_law 1104 = .ok (.iload_n 3, 1) := by decide +kernel
theorem dL_law_1105 : decode cL_law 1105 = .ok (.iconst 4, 1) := by decide +kernel
theorem dL_law_1106 : decode cL_law 1106 = .ok (.iadd, 1) := by decide +kernel
theorem dL_law_1107 : decode cL_law 1107 = .ok (.iaload, 1) := by decide +kernel
theorem dL_law_1108 : decode cL_law 1108 = .ok (.ifCond .eq 7, 3) := by decide +kernel
theorem dL_law_1111 : decode cL_law 1111 = .ok (.iconst 1, 1) := by decide +kernel
theorem dL_law_1112 : decode cL_law 1112 = .ok (.goto 4, 3) := by decide +kernel
theorem dL_law_1115 : decode cL_law 1115 = .ok (.iconst 0, 1) := by decide +kernel
theorem dL_law_1116 : decode cL_law 1116 = .ok (.invokevirtual 102, 3) := by decide +kernel
theorem dL_law_1119 : decode cL_law 1119 = .ok (.if_icmp .eq 529, 3) := by decide +kernel
theorem dL_law_1122 : decode cL_law 1122 = .ok (.iconst 0, 1) := by decide +kernel
theorem dL_law_1123 : decode cL_law 1123 = .ok (.ireturn, 1) := by decide +kernel
theorem dL_law_1124 : decode cL_law 1124 = .ok (.aload_n 1, 1) := by decide +kernel
theorem dL_law_1125 : decode cL_law 1125 = .ok (.aload_n 0, 1) := by decide +kernel
theorem dL_law_1126 : decode cL_law 1126 = .ok (.iload_n 3, 1) := by decide +kernel
theorem dL_law_1127 : decode cL_law 1127 = .ok (.iconst 1, 1) := by decide +kernel
theorem dL_law_1128 : decode cL_law 1128 = .ok (.iadd, 1) := by decide +kernel
theorem dL_law_1129 : decode cL_law 1129 = .ok (.iaload, 1) := by decide +kernel
theorem dL_law_1130 : decode cL_law 1130 = .ok (.aload_n 0, 1) := by decide +kernel
theorem dL_law_1131 : decode cL_law 1131 = .ok (.iload_n 3, 1) := by decide +kernel
theorem dL_law_1132 : decode cL_law 1132 = .ok (.iconst 2, 1) := by decide +kernel
theorem dL_law_1133 : decode cL_law 1133 = .ok (.iadd, 1) := by decide +kernel
theorem dL_law_1134 : decode cL_law 1134 = .ok (.iaload, 1) := by decide +kernel
theorem dL_law_1135 : decode cL_law 1135 = .ok (.aload_n 0, 1) := by decide +kernel
theorem dL_law_1136 : decode cL_law 1136 = .ok (.iload_n 3, 1) := by decide +kernel
theorem dL_law_1137 : decode cL_law 1137 = .ok (.iconst 3, 1) := by decide +kernel
theorem dL_law_1138 : decode cL_law 1138 = .ok (.iadd, 1) := by decide +kernel
theorem dL_law_1139 : decode cL_law 1139 = .ok (.iaload, 1) := by decide +kernel
theorem dL_law_1140 : decode cL_law 1140 = .ok (.invokevirtual 103, 3) := by decide +kernel
theorem dL_law_1143 : decode cL_law 1143 = .ok (.aload_n 2, 1) := by decide +kernel
theorem dL_law_1144 : decode cL_law 1144 = .ok (.aload_n 0, 1) := by decide +kernel
theorem dL_law_1145 : decode cL_law 1145 = .ok (.iload_n 3, 1) := by decide +kernel
theorem dL_law_1146 : decode cL_law 1146 = .ok (.iconst 1, 1) := by decide +kernel
theorem dL_law_1147 : decode cL_law 1147 = .ok (.iadd, 1) := by decide +kernel
theorem dL_law_1148 : decode cL_law 1148 = .ok (.iaload, 1) := by decide +kernel
theorem dL_law_1149 : decode cL_law 1149 = .ok (.aload_n 0, 1) := by decide +kernel
theorem dL_law_1150 : decode cL_law 1150 = .ok (.iload_n 3, 1) := by decide +kernel
theorem dL_law_1151 : decode cL_law 1151 = .ok (.iconst 2, 1) := by decide +kernel
theorem dL_law_1152 : decode cL_law 1152 = .ok (.iadd, 1) := by decide +kernel
theorem dL_law_1153 : decode cL_law 1153 = .ok (.iaload, 1) := by decide +kernel
theorem dL_law_1154 : decode cL_law 1154 = .ok (.aload_n 0, 1) := by decide +kernel
theorem dL_law_1155 : decode cL_law 1155 = .ok (.iload_n 3, 1) := by decide +kernel
theorem dL_law_1156 : decode cL_law 1156 = .ok (.iconst 3, 1) := by decide +kernel
theorem dL_law_1157 : decode cL_law 1157 = .ok (.iadd, 1) := by decide +kernel
theorem dL_law_1158 : decode cL_law 1158 = .ok (.iaload, 1) := by decide +kernel
theorem dL_law_1159 : decode cL_law 1159 = .ok (.invokevirtual 106, 3) := by decide +kernel
theorem dL_law_1162 : decode cL_law 1162 = .ok (.if_icmp .eq 486, 3) := by decide +kernel
theorem dL_law_1165 : decode cL_law 1165 = .ok (.iconst 0, 1) := by decide +kernel
theorem dL_law_1166 : decode cL_law 1166 = .ok (.ireturn, 1) := by decide +kernel
theorem dL_law_1167 : decode cL_law 1167 = .ok (.aload_n 1, 1) := by decide +kernel
theorem dL_law_1168 : decode cL_law 1168 = .ok (.aload_n 0, 1) := by decide +kernel
theorem dL_law_1169 : decode cL_law 1169 = .ok (.iload_n 3, 1) := by decide +kernel
theorem dL_law_1170 : decode cL_law 1170 = .ok (.iconst 1, 1) := by decide +kernel
theorem dL_law_1171 : decode cL_law 1171 = .ok (.iadd, 1) := by decide +kernel
theorem dL_law_1172 : decode cL_law 1172 = .ok (.iaload, 1) := by decide +kernel
theorem dL_law_1173 : decode cL_law 1173 = .ok (.aload_n 0, 1) := by decide +kernel
theorem dL_law_1174 : decode cL_law 1174 = .ok (.iload_n 3, 1) := by decide +kernel
theorem dL_law_1175 : decode cL_law 1175 = .ok (.iconst 2, 1) := by decide +kernel
theorem dL_law_1176 : decode cL_law 1176 = .ok (.iadd, 1) := by decide +kernel
theorem dL_law_1177 : decode cL_law 1177 = .ok (.iaload, 1) := by decide +kernel
theorem dL_law_1178 : decode cL_law 1178 = .ok (.aload_n 0, 1) := by decide +kernel
theorem dL_law_1179 : decode cL_law 1179 = .ok (.iload_n 3, 1) := by decide +kernel
theorem dL_law_1180 : decode cL_law 1180 = .ok (.iconst 3, 1) := by decide +kernel
theorem dL_law_1181 : decode cL_law 1181 = .ok (.iadd, 1) := by decide +kernel
theorem dL_law_1182 : decode cL_law 1182 = .ok (.iaload, 1) := by decide +kernel
theorem dL_law_1183 : decode cL_law 1183 = .ok (.invokevirtual 107, 3) := by decide +kernel
theorem dL_law_1186 : decode cL_law 1186 = .ok (.aload_n 2, 1) := by decide +kernel
theorem dL_law_1187 : decode cL_law 1187 = .ok (.aload_n 0, 1) := by decide +kernel
theorem dL_law_1188 : decode cL_law 1188 = .ok (.iload_n 3, 1) := by decide +kernel
theorem dL_law_1189 : decode cL_law 1189 = .ok (.iconst 1, 1) := by decide +kernel
theorem dL_law_1190 : decode cL_law 1190 = .ok (.iadd, 1) := by decide +kernel
theorem dL_law_1191 : decode cL_law 1191 = .ok (.iaload, 1) := by decide +kernel
theorem dL_law_1192 : decode cL_law 1192 = .ok (.aload_n 0, 1) := by decide +kernel
theorem dL_law_1193 : decode cL_law 1193 = .ok (.iload_n 3, 1) := by decide +kernel
theorem dL_law_1194 : decode cL_law 1194 = .ok (.iconst 2, 1) := by decide +kernel
theorem dL_law_1195 : decode cL_law 1195 = .ok (.iadd, 1) := by decide +kernel
theorem dL_law_1196 : decode cL_law 1196 = .ok (.iaload, 1) := by decide +kernel
theorem dL_law_1197 : decode cL_law 1197 = .ok (.aload_n 0, 1) := by decide +kernel
theorem dL_law_1198 : decode cL_law 1198 = .ok (.iload_n 3, 1) := by decide +kernel
theorem dL_law_1199 : decode cL_law 1199 = .ok (.iconst 3, 1) := by decide +kernel
theorem dL_law_1200 : decode cL_law 1200 = .ok (.iadd, 1) := by decide +kernel
theorem dL_law_1201 : decode cL_law 1201 = .ok (.iaload, 1) := by decide +kernel
theorem dL_law_1202 : decode cL_law 1202 = .ok (.invokevirtual 110, 3) := by decide +kernel
theorem dL_law_1205 : decode cL_law 1205 = .ok (.if_icmp .eq 443, 3) := by decide +kernel
theorem dL_law_1208 : decode cL_law 1208 = .ok (.iconst 0, 1) := by decide +kernel
theorem dL_law_1209 : decode cL_law 1209 = .ok (.ireturn, 1) := by decide +kernel
theorem dL_law_1210 : decode cL_law 1210 = .ok (.aload_n 1, 1) := by decide +kernel
theorem dL_law_1211 : decode cL_law 1211 = .ok (.aload_n 0, 1) := by decide +kernel
theorem dL_law_1212 : decode cL_law 1212 = .ok (.iload_n 3, 1) := by decide +kernel
theorem dL_law_1213 : decode cL_law 1213 = .ok (.iconst 1, 1) := by decide +kernel
theorem dL_law_1214 : decode cL_law 1214 = .ok (.iadd, 1) := by decide +kernel
theorem dL_law_1215 : decode cL_law 1215 = .ok (.iaload, 1) := by decide +kernel
theorem dL_law_1216 : decode cL_law 1216 = .ok (.aload_n 0, 1) := by decide +kernel
theorem dL_law_1217 : decode cL_law 1217 = .ok (.iload_n 3, 1) := by decide +kernel
theorem dL_law_1218 : decode cL_law 1218 = .ok (.iconst 2, 1) := by decide +kernel
theorem dL_law_1219 : decode cL_law 1219 = .ok (.iadd, 1) := by decide +kernel
theorem dL_law_1220 : decode cL_law 1220 = .ok (.iaload, 1) := by decide +kernel
theorem dL_law_1221 : decode cL_law 1221 = .ok (.aload_n 0, 1) := by decide +kernel
theorem dL_law_1222 : decode cL_law 1222 = .ok (.iload_n 3, 1) := by decide +kernel
theorem dL_law_1223 : decode cL_law 1223 = .ok (.iconst 3, 1) := by decide +kernel
theorem dL_law_1224 : decode cL_law 1224 = .ok (.iadd, 1) := by decide +kernel
theorem dL_law_1225 : decode cL_law 1225 = .ok (.iaload, 1) := by decide +kernel
theorem dL_law_1226 : decode cL_law 1226 = .ok (.invokevirtual 111, 3) := by decide +kernel
theorem dL_law_1229 : decode cL_law 1229 = .ok (.aload_n 2, 1) := by decide +kernel
theorem dL_law_1230 : decode cL_law 1230 = .ok (.aload_n 0, 1) := by decide +kernel
theorem dL_law_1231 : decode cL_law 1231 = .ok (.iload_n 3, 1) := by decide +kernel
theorem dL_law_1232 : decode cL_law 1232 = .ok (.iconst 1, 1) := by decide +kernel
theorem dL_law_1233 : decode cL_law 1233 = .ok (.iadd, 1) := by decide +kernel
theorem dL_law_1234 : decode cL_law 1234 = .ok (.iaload, 1) := by decide +kernel
theorem dL_law_1235 : decode cL_law 1235 = .ok (.aload_n 0, 1) := by decide +kernel
theorem dL_law_1236 : decode cL_law 1236 = .ok (.iload_n 3, 1) := by decide +kernel
theorem dL_law_1237 : decode cL_law 1237 = .ok (.iconst 2, 1) := by decide +kernel
theorem dL_law_1238 : decode cL_law 1238 = .ok (.iadd, 1) := by decide +kernel
theorem dL_law_1239 : decode cL_law 1239 = .ok (.iaload, 1) := by decide +kernel
theorem dL_law_1240 : decode cL_law 1240 = .ok (.aload_n 0, 1) := by decide +kernel
theorem dL_law_1241 : decode cL_law 1241 = .ok (.iload_n 3, 1) := by decide +kernel
theorem dL_law_1242 : decode cL_law 1242 = .ok (.iconst 3, 1) := by decide +kernel
theorem dL_law_1243 : decode cL_law 1243 = .ok (.iadd, 1) := by decide +kernel
theorem dL_law_1244 : decode cL_law 1244 = .ok (.iaload, 1) := by decide +kernel
theorem dL_law_1245 : decode cL_law 1245 = .ok (.invokevirtual 114, 3) := by decide +kernel
theorem dL_law_1248 : decode cL_law 1248 = .ok (.if_icmp .eq 400, 3) := by decide +kernel
theorem dL_law_1251 : decode cL_law 1251 = .ok (.iconst 0, 1) := by decide +kernel
theorem dL_law_1252 : decode cL_law 1252 = .ok (.ireturn, 1) := by decide +kernel
theorem dL_law_1253 : decode cL_law 1253 = .ok (.aload_n 1, 1) := by decide +kernel
theorem dL_law_1254 : decode cL_law 1254 = .ok (.aload_n 0, 1) := by decide +kernel
theorem dL_law_1255 : decode cL_law 1255 = .ok (.iload_n 3, 1) := by decide +kernel
theorem dL_law_1256 : decode cL_law 1256 = .ok (.iconst 1, 1) := by decide +kernel
theorem dL_law_1257 : decode cL_law 1257 = .ok (.iadd, 1) := by decide +kernel
theorem dL_law_1258 : decode cL_law 1258 = .ok (.iaload, 1) := by decide +kernel
theorem dL_law_1259 : decode cL_law 1259 = .ok (.aload_n 0, 1) := by decide +kernel
theorem dL_law_1260 : decode cL_law 1260 = .ok (.iload_n 3, 1) := by decide +kernel
theorem dL_law_1261 : decode cL_law 1261 = .ok (.iconst 2, 1) := by decide +kernel
theorem dL_law_1262 : decode cL_law 1262 = .ok (.iadd, 1) := by decide +kernel
theorem dL_law_1263 : decode cL_law 1263 = .ok (.iaload, 1) := by decide +kernel
theorem dL_law_1264 : decode cL_law 1264 = .ok (.ifCond .eq 7, 3) := by decide +kernel
theorem dL_law_1267 : decode cL_law 1267 = .ok (.iconst 1, 1) := by decide +kernel
theorem dL_law_1268 : decode cL_law 1268 = .ok (.goto 4, 3) := by decide +kernel
theorem dL_law_1271 : decode cL_law 1271 = .ok (.iconst 0, 1) := by decide +kernel
theorem dL_law_1272 : decode cL_law 1272 = .ok (.invokevirtual 115, 3) := by decide +kernel
theorem dL_law_1275 : decode cL_law 1275 = .ok (.aload_n 2, 1) := by decide +kernel
theorem dL_law_1276 : decode cL_law 1276 = .ok (.aload_n 0, 1) := by decide +kernel
theorem dL_law_1277 : decode cL_law 1277 = .ok (.iload_n 3, 1) := by decide +kernel
theorem dL_law_1278 : decode cL_law 1278 = .ok (.iconst 1, 1) := by decide +kernel
theorem dL_law_1279 : decode cL_law 1279 = .ok (.iadd, 1) := by decide +kernel
theorem dL_law_1280 : decode cL_law 1280 = .ok (.iaload, 1) := by decide +kernel
theorem dL_law_1281 : decode cL_law 1281 = .ok (.aload_n 0, 1) := by decide +kernel
theorem dL_law_1282 : decode cL_law 1282 = .ok (.iload_n 3, 1) := by decide +kernel
theorem dL_law_1283 : decode cL_law 1283 = .ok (.iconst 2, 1) := by decide +kernel
theorem dL_law_1284 : decode cL_law 1284 = .ok (.iadd, 1) := by decide +kernel
theorem dL_law_1285 : decode cL_law 1285 = .ok (.iaload, 1) := by decide +kernel
theorem dL_law_1286 : decode cL_law 1286 = .ok (.ifCond .eq 7, 3) := by decide +kernel
theorem dL_law_1289 : decode cL_law 1289 = .ok (.iconst 1, 1) := by decide +kernel
theorem dL_law_1290 : decode cL_law 1290 = .ok (.goto 4, 3) := by decide +kernel
theorem dL_law_1293 : decode cL_law 1293 = .ok (.iconst 0, 1) := by decide +kernel
theorem dL_law_1294 : decode cL_law 1294 = .ok (.invokevirtual 119, 3) := by decide +kernel
theorem dL_law_1297 : decode cL_law 1297 = .ok (.if_icmp .eq 351, 3) := by decide +kernel
theorem dL_law_1300 : decode cL_law 1300 = .ok (.iconst 0, 1) := by decide +kernel
theorem dL_law_1301 : decode cL_law 1301 = .ok (.ireturn, 1) := by decide +kernel
theorem dL_law_1302 : decode cL_law 1302 = .ok (.aload_n 1, 1) := by decide +kernel
theorem dL_law_1303 : decode cL_law 1303 = .ok (.aload_n 0, 1) := by decide +kernel
theorem dL_law_1304 : decode cL_law 1304 = .ok (.iload_n 3, 1) := by decide +kernel
theorem dL_law_1305 : decode cL_law 1305 = .ok (.iconst 1, 1) := by decide +kernel
theorem dL_law_1306 : decode cL_law 1306 = .ok (.iadd, 1) := by decide +kernel
theorem dL_law_1307 : decode cL_law 1307 = .ok (.iaload, 1) := by decide +kernel
theorem dL_law_1308 : decode cL_law 1308 = .ok (.aload_n 0, 1) := by decide +kernel
theorem dL_law_1309 : decode cL_law 1309 = .ok (.iload_n 3, 1) := by decide +kernel
theorem dL_law_1310 : decode cL_law 1310 = .ok (.iconst 2, 1) := by decide +kernel
theorem dL_law_1311 : decode cL_law 1311 = .ok (.iadd, 1) := by decide +kernel
theorem dL_law_1312 : decode cL_law 1312 = .ok (.iaload, 1) := by decide +kernel
theorem dL_law_1313 : decode cL_law 1313 = .ok (.aload_n 0, 1) := by decide +kernel
theorem dL_law_1314 : decode cL_law 1314 = .ok (.iload_n 3, 1) := by decide +kernel
theorem dL_law_1315 : decode cL_law 1315 = .ok (.iconst 3, 1) := by decide +kernel
theorem dL_law_1316 : decode cL_law 1316 = .ok (.iadd, 1) := by decide +kernel
theorem dL_law_1317 : decode cL_law 1317 = .ok (.iaload, 1) := by decide +kernel
theorem dL_law_1318 : decode cL_law 1318 = .ok (.ifCond .eq 7, 3) := by decide +kernel
theorem dL_law_1321 : decode cL_law 1321 = .ok (.iconst 1, 1) := by decide +kernel
theorem dL_law_1322 : decode cL_law 1322 = .ok (.goto 4, 3) := by decide +kernel
theorem dL_law_1325 : decode cL_law 1325 = .ok (.iconst 0, 1) := by decide +kernel
theorem dL_law_1326 : decode cL_law 1326 = .ok (.invokevirtual 120, 3) := by decide +kernel
theorem dL_law_1329 : decode cL_law 1329 = .ok (.aload_n 2, 1) := by decide +kernel
theorem dL_law_1330 : decode cL_law 1330 = .ok (.aload_n 0, 1) := by decide +kernel
theorem dL_law_1331 : decode cL_law 1331 = .ok (.iload_n 3, 1) := by decide +kernel
theorem dL_law_1332 : decode cL_law 1332 = .ok (.iconst 1, 1) := by decide +kernel
theorem dL_law_1333 : decode cL_law 1333 = .ok (.iadd, 1) := by decide +kernel
theorem dL_law_1334 : decode cL_law 1334 = .ok (.iaload, 1) := by decide +kernel
theorem dL_law_1335 : decode cL_law 1335 = .ok (.aload_n 0, 1) := by decide +kernel
theorem dL_law_1336 : decode cL_law 1336 = .ok (.iload_n 3, 1) := by decide +kernel
theorem dL_law_1337 : decode cL_law 1337 = .ok (.iconst 2, 1) := by decide +kernel
theorem dL_law_1338 : decode cL_law 1338 = .ok (.iadd, 1) := by decide +kernel
theorem dL_law_1339 : decode cL_law 1339 = .ok (.iaload, 1) := by decide +kernel
theorem dL_law_1340 : decode cL_law 1340 = .ok (.aload_n 0, 1) := by decide +kernel
theorem dL_law_1341 : decode cL_law 1341 = .ok (.iload_n 3, 1) := by decide +kernel
theorem dL_law_1342 : decode cL_law 1342 = .ok (.iconst 3, 1) := by decide +kernel
theorem dL_law_1343 : decode cL_law 1343 = .ok (.iadd, 1) := by decide +kernel
theorem dL_law_1344 : decode cL_law 1344 = .ok (.iaload, 1) := by decide +kernel
theorem dL_law_1345 : decode cL_law 1345 = .ok (.ifCond .eq 7, 3) := by decide +kernel
theorem dL_law_1348 : decode cL_law 1348 = .ok (.iconst 1, 1) := by decide +kernel
theorem dL_law_1349 : decode cL_law 1349 = .ok (.goto 4, 3) := by decide +kernel
theorem dL_law_1352 : decode cL_law 1352 = .ok (.iconst 0, 1) := by decide +kernel
theorem dL_law_1353 : decode cL_law 1353 = .ok (.invokevirtual 123, 3) := by decide +kernel
theorem dL_law_1356 : decode cL_law 1356 = .ok (.if_icmp .eq 292, 3) := by decide +kernel
theorem dL_law_1359 : decode cL_law 1359 = .ok (.iconst 0, 1) := by decide +kernel
theorem dL_law_1360 : decode cL_law 1360 = .ok (.ireturn, 1) := by decide +kernel
theorem dL_law_1361 : decode cL_law 1361 = .ok (.aload_n 1, 1) := by decide +kernel
theorem dL_law_1362 : decode cL_law 1362 = .ok (.aload_n 0, 1) := by decide +kernel
theorem dL_law_1363 : decode cL_law 1363 = .ok (.iload_n 3, 1) := by decide +kernel
theorem dL_law_1364 : decode cL_law 1364 = .ok (.iconst 1, 1) := by decide +kernel
theorem dL_law_1365 : decode cL_law 1365 = .ok (.iadd, 1) := by decide +kernel
theorem dL_law_1366 : decode cL_law 1366 = .ok (.iaload, 1) := by decide +kernel
theorem dL_law_1367 : decode cL_law 1367 = .ok (.aload_n 0, 1) := by decide +kernel
theorem dL_law_1368 : decode cL_law 1368 = .ok (.iload_n 3, 1) := by decide +kernel
theorem dL_law_1369 : decode cL_law 1369 = .ok (.iconst 2, 1) := by decide +kernel
theorem dL_law_1370 : decode cL_law 1370 = .ok (.iadd, 1) := by decide +kernel
theorem dL_law_1371 : decode cL_law 1371 = .ok (.iaload, 1) := by decide +kernel
theorem dL_law_1372 : decode cL_law 1372 = .ok (.invokevirtual 124, 3) := by decide +kernel
theorem dL_law_1375 : decode cL_law 1375 = .ok (.aload_n 2, 1) := by decide +kernel
theorem dL_law_1376 : decode cL_law 1376 = .ok (.aload_n 0, 1) := by decide +kernel
theorem dL_law_1377 : decode cL_law 1377 = .ok (.iload_n 3, 1) := by decide +kernel
theorem dL_law_1378 : decode cL_law 1378 = .ok (.iconst 1, 1) := by decide +kernel
theorem dL_law_1379 : decode cL_law 1379 = .ok (.iadd, 1) := by decide +kernel
theorem dL_law_1380 : decode cL_law 1380 = .ok (.iaload, 1) := by decide +kernel
theorem dL_law_1381 : decode cL_law 1381 = .ok (.aload_n 0, 1) := by decide +kernel
theorem dL_law_1382 : decode cL_law 1382 = .ok (.iload_n 3, 1) := by decide +kernel
theorem dL_law_1383 : decode cL_law 1383 = .ok (.iconst 2, 1) := by decide +kernel
theorem dL_law_1384 : decode cL_law 1384 = .ok (.iadd, 1) := by decide +kernel
theorem dL_law_1385 : decode cL_law 1385 = .ok (.iaload, 1) := by decide +kernel
theorem dL_law_1386 : decode cL_law 1386 = .ok (.invokevirtual 127, 3) := by decide +kernel
theorem dL_law_1389 : decode cL_law 1389 = .ok (.if_icmp .eq 259, 3) := by decide +kernel
theorem dL_law_1392 : decode cL_law 1392 = .ok (.iconst 0, 1) := by decide +kernel
theorem dL_law_1393 : decode cL_law 1393 = .ok (.ireturn, 1) := by decide +kernel
theorem dL_law_1394 : decode cL_law 1394 = .ok (.aload_n 1, 1) := by decide +kernel
theorem dL_law_1395 : decode cL_law 1395 = .ok (.aload_n 0, 1) := by decide +kernel
theorem dL_law_1396 : decode cL_law 1396 = .ok (.iload_n 3, 1) := by decide +kernel
theorem dL_law_1397 : decode cL_law 1397 = .ok (.iconst 1, 1) := by decide +kernel
theorem dL_law_1398 : decode cL_law 1398 = .ok (.iadd, 1) := by decide +kernel
theorem dL_law_1399 : decode cL_law 1399 = .ok (.iaload, 1) := by decide +kernel
theorem dL_law_1400 : decode cL_law 1400 = .ok (.invokevirtual 128, 3) := by decide +kernel
theorem dL_law_1403 : decode cL_law 1403 = .ok (.aload_n 2, 1) := by decide +kernel
theorem dL_law_1404 : decode cL_law 1404 = .ok (.aload_n 0, 1) := by decide +kernel
theorem dL_law_1405 : decode cL_law 1405 = .ok (.iload_n 3, 1) := by decide +kernel
theorem dL_law_1406 : decode cL_law 1406 = .ok (.iconst 1, 1) := by decide +kernel
theorem dL_law_1407 : decode cL_law 1407 = .ok (.iadd, 1) := by decide +kernel
theorem dL_law_1408 : decode cL_law 1408 = .ok (.iaload, 1) := by decide +kernel
theorem dL_law_1409 : decode cL_law 1409 = .ok (.invokevirtual 131, 3) := by decide +kernel
theorem dL_law_1412 : decode cL_law 1412 = .ok (.if_icmp .eq 236, 3) := by decide +kernel
theorem dL_law_1415 : decode cL_law 1415 = .ok (.iconst 0, 1) := by decide +kernel
theorem dL_law_1416 : decode cL_law 1416 = .ok (.ireturn, 1) := by decide +kernel
theorem dL_law_1417 : decode cL_law 1417 = .ok (.aload_n 1, 1) := by decide +kernel
theorem dL_law_1418 : decode cL_law 1418 = .ok (.aload_n 0, 1) := by decide +kernel
theorem dL_law_1419 : decode cL_law 1419 = .ok (.iload_n 3, 1) := by decide +kernel
theorem dL_law_1420 : decode cL_law 1420 = .ok (.iconst 1, 1) := by decide +kernel
theorem dL_law_1421 : decode cL_law 1421 = .ok (.iadd, 1) := by decide +kernel
theorem dL_law_1422 : decode cL_law 1422 = .ok (.iaload, 1) := by decide +kernel
theorem dL_law_1423 : decode cL_law 1423 = .ok (.invokevirtual 132, 3) := by decide +kernel
theorem dL_law_1426 : decode cL_law 1426 = .ok (.aload_n 2, 1) := by decide +kernel
theorem dL_law_1427 : decode cL_law 1427 = .ok (.aload_n 0, 1) := by decide +kernel
theorem dL_law_1428 : decode cL_law 1428 = .ok (.iload_n 3, 1) := by decide +kernel
theorem dL_law_1429 : decode cL_law 1429 = .ok (.iconst 1, 1) := by decide +kernel
theorem dL_law_1430 : decode cL_law 1430 = .ok (.iadd, 1) := by decide +kernel
theorem dL_law_1431 : decode cL_law 1431 = .ok (.iaload, 1) := by decide +kernel
theorem dL_law_1432 : decode cL_law 1432 = .ok (.invokevirtual 135, 3) := by decide +kernel
theorem dL_law_1435 : decode cL_law 1435 = .ok (.if_icmp .eq 213, 3) := by decide +kernel
theorem dL_law_1438 : decode cL_law 1438 = .ok (.iconst 0, 1) := by decide +kernel
theorem dL_law_1439 : decode cL_law 1439 = .ok (.ireturn, 1) := by decide +kernel
theorem dL_law_1440 : decode cL_law 1440 = .ok (.aload_n 1, 1) := by decide +kernel
theorem dL_law_1441 : decode cL_law 1441 = .ok (.aload_n 0, 1) := by decide +kernel
theorem dL_law_1442 : decode cL_law 1442 = .ok (.iload_n 3, 1) := by decide +kernel
theorem dL_law_1443 : decode cL_law 1443 = .ok (.iconst 1, 1) := by decide +kernel
theorem dL_law_1444 : decode cL_law 1444 = .ok (.iadd, 1) := by decide +kernel
theorem dL_law_1445 : decode cL_law 1445 = .ok (.iaload, 1) := by decide +kernel
theorem dL_law_1446 : decode cL_law 1446 = .ok (.aload_n 0, 1) := by decide +kernel
theorem dL_law_1447 : decode cL_law 1447 = .ok (.iload_n 3, 1) := by decide +kernel
theorem dL_law_1448 : decode cL_law 1448 = .ok (.iconst 2, 1) := by decide +kernel
theorem dL_law_1449 : decode cL_law 1449 = .ok (.iadd, 1) := by decide +kernel
theorem dL_law_1450 : decode cL_law 1450 = .ok (.iaload, 1) := by decide +kernel
theorem dL_law_1451 : decode cL_law 1451 = .ok (.aload_n 0, 1) := by decide +kernel
theorem dL_law_1452 : decode cL_law 1452 = .ok (.iload_n 3, 1) := by decide +kernel
theorem dL_law_1453 : decode cL_law 1453 = .ok (.iconst 3, 1) := by decide +kernel
theorem dL_law_1454 : decode cL_law 1454 = .ok (.iadd, 1) := by decide +kernel
theorem dL_law_1455 : decode cL_law 1455 = .ok (.iaload, 1) := by decide +kernel
theorem dL_law_1456 : decode cL_law 1456 = .ok (.aload_n 0, 1) := by decide +kernel
theorem dL_law_1457 : decode cL_law 1457 = .ok (.iload_n 3, 1) := by decide +kernel
theorem dL_law_1458 : decode cL_law 1458 = .ok (.iconst 4, 1) := by decide +kernel
theorem dL_law_1459 : decode cL_law 1459 = .ok (.iadd, 1) := by decide +kernel
theorem dL_law_1460 : decode cL_law 1460 = .ok (.iaload, 1) := by decide +kernel
theorem dL_law_1461 : decode cL_law 1461 = .ok (.invokevirtual 136, 3) := by decide +kernel
theorem dL_law_1464 : decode cL_law 1464 = .ok (.aload_n 2, 1) := by decide +kernel
theorem dL_law_1465 : decode cL_law 1465 = .ok (.aload_n 0, 1) := by decide +kernel
theorem dL_law_1466 : decode cL_law 1466 = .ok (.iload_n 3, 1) := by decide +kernel
theorem dL_law_1467 : decode cL_law 1467 = .ok (.iconst 1, 1) := by decide +kernel
theorem dL_law_1468 : decode cL_law 1468 = .ok (.iadd, 1) := by decide +kernel
theorem dL_law_1469 : decode cL_law 1469 = .ok (.iaload, 1) := by decide +kernel
theorem dL_law_1470 : decode cL_law 1470 = .ok (.aload_n 0, 1) := by decide +kernel
theorem dL_law_1471 : decode cL_law 1471 = .ok (.iload_n 3, 1) := by decide +kernel
theorem dL_law_1472 : decode cL_law 1472 = .ok (.iconst 2, 1) := by decide +kernel
theorem dL_law_1473 : decode cL_law 1473 = .ok (.iadd, 1) := by decide +kernel
theorem dL_law_1474 : decode cL_law 1474 = .ok (.iaload, 1) := by decide +kernel
theorem dL_law_1475 : decode cL_law 1475 = .ok (.aload_n 0, 1) := by decide +kernel
theorem dL_law_1476 : decode cL_law 1476 = .ok (.iload_n 3, 1) := by decide +kernel
theorem dL_law_1477 : decode cL_law 1477 = .ok (.iconst 3, 1) := by decide +kernel
theorem dL_law_1478 : decode cL_law 1478 = .ok (.iadd, 1) := by decide +kernel
theorem dL_law_1479 : decode cL_law 1479 = .ok (.iaload, 1) := by decide +kernel
theorem dL_law_1480 : decode cL_law 1480 = .ok (.aload_n 0, 1) := by decide +kernel
theorem dL_law_1481 : decode cL_law 1481 = .ok (.iload_n 3, 1) := by decide +kernel
theorem dL_law_1482 : decode cL_law 1482 = .ok (.iconst 4, 1) := by decide +kernel
theorem dL_law_1483 : decode cL_law 1483 = .ok (.iadd, 1) := by decide +kernel
theorem dL_law_1484 : decode cL_law 1484 = .ok (.iaload, 1) := by decide +kernel
theorem dL_law_1485 : decode cL_law 1485 = .ok (.invokevirtual 139, 3) := by decide +kernel
theorem dL_law_1488 : decode cL_law 1488 = .ok (.if_icmp .eq 160, 3) := by decide +kernel
theorem dL_law_1491 : decode cL_law 1491 = .ok (.iconst 0, 1) := by decide +kernel
theorem dL_law_1492 : decode cL_law 1492 = .ok (.ireturn, 1) := by decide +kernel
theorem dL_law_1493 : decode cL_law 1493 = .ok (.aload_n 1, 1) := by decide +kernel
theorem dL_law_1494 : decode cL_law 1494 = .ok (.aload_n 0, 1) := by decide +kernel
theorem dL_law_1495 : decode cL_law 1495 = .ok (.iload_n 3, 1) := by decide +kernel
theorem dL_law_1496 : decode cL_law 1496 = .ok (.iconst 1, 1) := by decide +kernel
theorem dL_law_1497 : decode cL_law 1497 = .ok (.iadd, 1) := by decide +kernel
theorem dL_law_1498 : decode cL_law 1498 = .ok (.iaload, 1) := by decide +kernel
theorem dL_law_1499 : decode cL_law 1499 = .ok (.aload_n 0, 1) := by decide +kernel
theorem dL_law_1500 : decode cL_law 1500 = .ok (.iload_n 3, 1) := by decide +kernel
theorem dL_law_1501 : decode cL_law 1501 = .ok (.iconst 2, 1) := by decide +kernel
theorem dL_law_1502 : decode cL_law 1502 = .ok (.iadd, 1) := by decide +kernel
theorem dL_law_1503 : decode cL_law 1503 = .ok (.iaload, 1) := by decide +kernel
theorem dL_law_1504 : decode cL_law 1504 = .ok (.invokevirtual 140, 3) := by decide +kernel
theorem dL_law_1507 : decode cL_law 1507 = .ok (.aload_n 2, 1) := by decide +kernel
theorem dL_law_1508 : decode cL_law 1508 = .ok (.aload_n 0, 1) := by decide +kernel
theorem dL_law_1509 : decode cL_law 1509 = .ok (.iload_n 3, 1) := by decide +kernel
theorem dL_law_1510 : decode cL_law 1510 = .ok (.iconst 1, 1) := by decide +kernel
theorem dL_law_1511 : decode cL_law 1511 = .ok (.iadd, 1) := by decide +kernel
theorem dL_law_1512 : decode cL_law 1512 = .ok (.iaload, 1) := by decide +kernel
theorem dL_law_1513 : decode cL_law 1513 = .ok (.aload_n 0, 1) := by decide +kernel
theorem dL_law_1514 : decode cL_law 1514 = .ok (.iload_n 3, 1) := by decide +kernel
theorem dL_law_1515 : decode cL_law 1515 = .ok (.iconst 2, 1) := by decide +kernel
theorem dL_law_1516 : decode cL_law 1516 = .ok (.iadd, 1) := by decide +kernel
theorem dL_law_1517 : decode cL_law 1517 = .ok (.iaload, 1) := by decide +kernel
theorem dL_law_1518 : decode cL_law 1518 = .ok (.invokevirtual 143, 3) := by decide +kernel
theorem dL_law_1521 : decode cL_law 1521 = .ok (.if_icmp .eq 127, 3) := by decide +kernel
theorem dL_law_1524 : decode cL_law 1524 = .ok (.iconst 0, 1) := by decide +kernel
theorem dL_law_1525 : decode cL_law 1525 = .ok (.ireturn, 1) := by decide +kernel
theorem dL_law_1526 : decode cL_law 1526 = .ok (.aload_n 1, 1) := by decide +kernel
theorem dL_law_1527 : decode cL_law 1527 = .ok (.aload_n 0, 1) := by decide +kernel
theorem dL_law_1528 : decode cL_law 1528 = .ok (.iload_n 3, 1) := by decide +kernel
theorem dL_law_1529 : decode cL_law 1529 = .ok (.iconst 1, 1) := by decide +kernel
theorem dL_law_1530 : decode cL_law 1530 = .ok (.iadd, 1) := by decide +kernel
theorem dL_law_1531 : decode cL_law 1531 = .ok (.iaload, 1) := by decide +kernel
theorem dL_law_1532 : decode cL_law 1532 = .ok (.aload_n 0, 1) := by decide +kernel
theorem dL_law_1533 : decode cL_law 1533 = .ok (.iload_n 3, 1) := by decide +kernel
theorem dL_law_1534 : decode cL_law 1534 = .ok (.iconst 2, 1) := by decide +kernel
theorem dL_law_1535 : decode cL_law 1535 = .ok (.iadd, 1) := by decide +kernel
theorem dL_law_1536 : decode cL_law 1536 = .ok (.iaload, 1) := by decide +kernel
theorem dL_law_1537 : decode cL_law 1537 = .ok (.aload_n 0, 1) := by decide +kernel
theorem dL_law_1538 : decode cL_law 1538 = .ok (.iload_n 3, 1) := by decide +kernel
theorem dL_law_1539 : decode cL_law 1539 = .ok (.iconst 3, 1) := by decide +kernel
theorem dL_law_1540 : decode cL_law 1540 = .ok (.iadd, 1) := by decide +kernel
theorem dL_law_1541 : decode cL_law 1541 = .ok (.iaload, 1) := by decide +kernel
theorem dL_law_1542 : decode cL_law 1542 = .ok (.aload_n 0, 1) := by decide +kernel
theorem dL_law_1543 : decode cL_law 1543 = .ok (.iload_n 3, 1) := by decide +kernel
theorem dL_law_1544 : decode cL_law 1544 = .ok (.iconst 4, 1) := by decide +kernel
theorem dL_law_1545 : decode cL_law 1545 = .ok (.iadd, 1) := by decide +kernel
theorem dL_law_1546 : decode cL_law 1546 = .ok (.iaload, 1) := by decide +kernel
theorem dL_law_1547 : decode cL_law 1547 = .ok (.aload_n 0, 1) := by decide +kernel
theorem dL_law_1548 : decode cL_law 1548 = .ok (.iload_n 3, 1) := by decide +kernel
theorem dL_law_1549 : decode cL_law 1549 = .ok (.iconst 5, 1) := by decide +kernel
theorem dL_law_1550 : decode cL_law 1550 = .ok (.iadd, 1) := by decide +kernel
theorem dL_law_1551 : decode cL_law 1551 = .ok (.iaload, 1) := by decide +kernel
theorem dL_law_1552 : decode cL_law 1552 = .ok (.aload_n 0, 1) := by decide +kernel
theorem dL_law_1553 : decode cL_law 1553 = .ok (.iload_n 3, 1) := by decide +kernel
theorem dL_law_1554 : decode cL_law 1554 = .ok (.bipush 6, 2) := by decide +kernel
theorem dL_law_1556 : decode cL_law 1556 = .ok (.iadd, 1) := by decide +kernel
theorem dL_law_1557 : decode cL_law 1557 = .ok (.iaload, 1) := by decide +kernel
theorem dL_law_1558 : decode cL_law 1558 = .ok (.aload_n 0, 1) := by decide +kernel
theorem dL_law_1559 : decode cL_law 1559 = .ok (.iload_n 3, 1) := by decide +kernel
theorem dL_law_1560 : decode cL_law 1560 = .ok (.bipush 7, 2) := by decide +kernel
theorem dL_law_1562 : decode cL_law 1562 = .ok (.iadd, 1) := by decide +kernel
theorem dL_law_1563 : decode cL_law 1563 = .ok (.iaload, 1) := by decide +kernel
theorem dL_law_1564 : decode cL_law 1564 = .ok (.aload_n 0, 1) := by decide +kernel
theorem dL_law_1565 : decode cL_law 1565 = .ok (.iload_n 3, 1) := by decide +kernel
theorem dL_law_1566 : decode cL_law 1566 = .ok (.bipush 8, 2) := by decide +kernel
theorem dL_law_1568 : decode cL_law 1568 = .ok (.iadd, 1) := by decide +kernel
theorem dL_law_1569 : decode cL_law 1569 = .ok (.iaload, 1) := by decide +kernel
theorem dL_law_1570 : decode cL_law 1570 = .ok (.invokevirtual 144, 3) := by decide +kernel
theorem dL_law_1573 : decode cL_law 1573 = .ok (.aload_n 2, 1) := by decide +kernel
theorem dL_law_1574 : decode cL_law 1574 = .ok (.aload_n 0, 1) := by decide +kernel
theorem dL_law_1575 : decode cL_law 1575 = .ok (.iload_n 3, 1) := by decide +kernel
theorem dL_law_1576 : decode cL_law 1576 = .ok (.iconst 1, 1) := by decide +kernel
theorem dL_law_1577 : decode cL_law 1577 = .ok (.iadd, 1) := by decide +kernel
theorem dL_law_1578 : decode cL_law 1578 = .ok (.iaload, 1) := by decide +kernel
theorem dL_law_1579 : decode cL_law 1579 = .ok (.aload_n 0, 1) := by decide +kernel
theorem dL_law_1580 : decode cL_law 1580 = .ok (.iload_n 3, 1) := by decide +kernel
theorem dL_law_1581 : decode cL_law 1581 = .ok (.iconst 2, 1) := by decide +kernel
theorem dL_law_1582 : decode cL_law 1582 = .ok (.iadd, 1) := by decide +kernel
theorem dL_law_1583 : decode cL_law 1583 = .ok (.iaload, 1) := by decide +kernel
theorem dL_law_1584 : decode cL_law 1584 = .ok (.aload_n 0, 1) := by decide +kernel
theorem dL_law_1585 : decode cL_law 1585 = .ok (.iload_n 3, 1) := by decide +kernel
theorem dL_law_1586 : decode cL_law 1586 = .ok (.iconst 3, 1) := by decide +kernel
theorem dL_law_1587 : decode cL_law 1587 = .ok (.iadd, 1) := by decide +kernel
theorem dL_law_1588 : decode cL_law 1588 = .ok (.iaload, 1) := by decide +kernel
theorem dL_law_1589 : decode cL_law 1589 = .ok (.aload_n 0, 1) := by decide +kernel
theorem dL_law_1590 : decode cL_law 1590 = .ok (.iload_n 3, 1) := by decide +kernel
theorem dL_law_1591 : decode cL_law 1591 = .ok (.iconst 4, 1) := by decide +kernel
theorem dL_law_1592 : decode cL_law 1592 = .ok (.iadd, 1) := by decide +kernel
theorem dL_law_1593 : decode cL_law 1593 = .ok (.iaload, 1) := by decide +kernel
theorem dL_law_1594 : decode cL_law 1594 = .ok (.aload_n 0, 1) := by decide +kernel
theorem dL_law_1595 : decode cL_law 1595 = .ok (.iload_n 3, 1) := by decide +kernel
theorem dL_law_1596 : decode cL_law 1596 = .ok (.iconst 5, 1) := by decide +kernel
theorem dL_law_1597 : decode cL_law 1597 = .ok (.iadd, 1) := by decide +kernel
theorem dL_law_1598 : decode cL_law 1598 = .ok (.iaload, 1) := by decide +kernel
theorem dL_law_1599 : decode cL_law 1599 = .ok (.aload_n 0, 1) := by decide +kernel
theorem dL_law_1600 : decode cL_law 1600 = .ok (.iload_n 3, 1) := by decide +kernel
theorem dL_law_1601 : decode cL_law 1601 = .ok (.bipush 6, 2) := by decide +kernel
theorem dL_law_1603 : decode cL_law 1603 = .ok (.iadd, 1) := by decide +kernel
theorem dL_law_1604 : decode cL_law 1604 = .ok (.iaload, 1) := by decide +kernel
theorem dL_law_1605 : decode cL_law 1605 = .ok (.aload_n 0, 1) := by decide +kernel
theorem dL_law_1606 : decode cL_law 1606 = .ok (.iload_n 3, 1) := by decide +kernel
theorem dL_law_1607 : decode cL_law 1607 = .ok (.bipush 7, 2) := by decide +kernel
theorem dL_law_1609 : decode cL_law 1609 = .ok (.iadd, 1) := by decide +kernel
theorem dL_law_1610 : decode cL_law 1610 = .ok (.iaload, 1) := by decide +kernel
theorem dL_law_1611 : decode cL_law 1611 = .ok (.aload_n 0, 1) := by decide +kernel
theorem dL_law_1612 : decode cL_law 1612 = .ok (.iload_n 3, 1) := by decide +kernel
theorem dL_law_1613 : decode cL_law 1613 = .ok (.bipush 8, 2) := by decide +kernel
theorem dL_law_1615 : decode cL_law 1615 = .ok (.iadd, 1) := by decide +kernel
theorem dL_law_1616 : decode cL_law 1616 = .ok (.iaload, 1) := by decide +kernel
theorem dL_law_1617 : decode cL_law 1617 = .ok (.invokevirtual 148, 3) := by decide +kernel
theorem dL_law_1620 : decode cL_law 1620 = .ok (.if_icmp .eq 28, 3) := by decide +kernel
theorem dL_law_1623 : decode cL_law 1623 = .ok (.iconst 0, 1) := by decide +kernel
theorem dL_law_1624 : decode cL_law 1624 = .ok (.ireturn, 1) := by decide +kernel
theorem dL_law_1625 : decode cL_law 1625 = .ok (.aload_n 1, 1) := by decide +kernel
theorem dL_law_1626 : decode cL_law 1626 = .ok (.aload_n 0, 1) := by decide +kernel
theorem dL_law_1627 : decode cL_law 1627 = .ok (.iload_n 3, 1) := by decide +kernel
theorem dL_law_1628 : decode cL_law 1628 = .ok (.iconst 1, 1) := by decide +kernel
theorem dL_law_1629 : decode cL_law 1629 = .ok (.iadd, 1) := by decide +kernel
theorem dL_law_1630 : decode cL_law 1630 = .ok (.iaload, 1) := by decide +kernel
theorem dL_law_1631 : decode cL_law 1631 = .ok (.invokevirtual 149, 3) := by decide +kernel
theorem dL_law_1634 : decode cL_law 1634 = .ok (.aload_n 2, 1) := by decide +kernel
theorem dL_law_1635 : decode cL_law 1635 = .ok (.aload_n 0, 1) := by decide +kernel
theorem dL_law_1636 : decode cL_law 1636 = .ok (.iload_n 3, 1) := by decide +kernel
theorem dL_law_1637 : decode cL_law 1637 = .ok (.iconst 1, 1) := by decide +kernel
theorem dL_law_1638 : decode cL_law 1638 = .ok (.iadd, 1) := by decide +kernel
theorem dL_law_1639 : decode cL_law 1639 = .ok (.iaload, 1) := by decide +kernel
theorem dL_law_1640 : decode cL_law 1640 = .ok (.invokevirtual 152, 3) := by decide +kernel
theorem dL_law_1643 : decode cL_law 1643 = .ok (.if_icmp .eq 5, 3) := by decide +kernel
theorem dL_law_1646 : decode cL_law 1646 = .ok (.iconst 0, 1) := by decide +kernel
theorem dL_law_1647 : decode cL_law 1647 = .ok (.ireturn, 1) := by decide +kernel
theorem dL_law_1648 : decode cL_law 1648 = .ok (.iinc 3 9, 3) := by decide +kernel
theorem dL_law_1651 : decode cL_law 1651 = .ok (.goto (-1633), 3) := by decide +kernel
theorem dL_law_1654 : decode cL_law 1654 = .ok (.iconst 1, 1) := by decide +kernel
theorem dL_law_1655 : decode cL_law 1655 = .ok (.ireturn, 1) := by decide +kernel
end
section
/-! The system's world as roles: r < 248 the class's and the reference's cells, 248 + i the i-th entry -/
abbrev St : Type := (Nat → Nat → Int32) × Nat × Nat × (Nat → Nat)
abbrev Cx : Type := Program × Launch × Env × Room × State × MethodId × Array Value × List Frame × Method × Code × va_G × (Nat → ClassId) × Nat × (Nat → Nat) × (State → Prop)
def xp (X : Cx) : Program := X.1
def xl (X : Cx) : Launch := X.2.1
def xe (X : Cx) : Env := X.2.2.1
def xR (X : Cx) : Room := X.2.2.2.1
def xs (X : Cx) : State := X.2.2.2.2.1
def xm (X : Cx) : MethodId := X.2.2.2.2.2.1
def xa (X : Cx) : Array Value := X.2.2.2.2.2.2.1
def xb (X : Cx) : List Frame := X.2.2.2.2.2.2.2.1
def xmt (X : Cx) : Method := X.2.2.2.2.2.2.2.2.1
def xc (X : Cx) : Code := X.2.2.2.2.2.2.2.2.2.1
def xD (X : Cx) : va_G := X.2.2.2.2.2.2.2.2.2.2.1
def xac (X : Cx) : Nat → ClassId := X.2.2.2.2.2.2.2.2.2.2.2.1
def xbs (X : Cx) : Nat := X.2.2.2.2.2.2.2.2.2.2.2.2.1
def xlay (X : Cx) : Nat → Nat := X.2.2.2.2.2.2.2.2.2.2.2.2.2.1
def xQ (X : Cx) : State → Prop := X.2.2.2.2.2.2.2.2.2.2.2.2.2.2
/-- the kind of a role: 0 to 8 an object of that class of vwCl, 10 int row, 11 boolean row, 12 log, 13 files, 14 places -/
def kd (r : Nat) : Nat :=
  if r = 0 then 7 else if r = 1 then 12
  else if r < 210 then (if (r - 2) % 104 = 0 then 4 else if (r - 2) % 104 = 1 then 13 else if ((r - 2) % 104 - 2) % 17 = 0 then 1 else if ((r - 2) % 104 - 2) % 17 = 1 then 14 else if ((r - 2) % 104 - 2) % 17 < 5 then 10 else 2)
  else if r = 210 then 3 else if r < 216 then 10 else if r = 216 then 6 else if r = 217 then 5 else if r < 221 then 10
  else if r = 221 then 8 else if r = 234 then 11 else if r = 237 then 11 else if r = 240 then 11 else if r < 248 then 10 else 0
/-- how long a row is -/
def ln (r : Nat) : Nat :=
  if r < 210 then 120 else if r < 213 then 12 else if r = 213 then 1440 else if r < 216 then 120 else if r < 220 then 12 else if r = 220 then 13
  else if r = 222 then 3200 else if r = 223 then 400 else if r < 233 then 12 else if r < 236 then 720 else if r = 236 then 21600
  else if r < 240 then 12 else if r < 243 then 43200 else 12
def modelFs (f : Nat → Int32) (lay : Nat → Nat) : List Value :=
  [.int (f 0), .int (f 1), .int (f 2), .ref (lay 222), .ref (lay 223), .int (f 5), .ref (lay 224), .ref (lay 225), .ref (lay 226), .ref (lay 227), .ref (lay 228), .ref (lay 229), .ref (lay 230), .ref (lay 231), .ref (lay 232), .int (f 15), .ref (lay 233), .ref (lay 234), .ref (lay 235), .ref (lay 236), .ref (lay 237), .ref (lay 238), .ref (lay 239), .ref (lay 240), .ref (lay 241), .ref (lay 242), .ref (lay 243), .ref (lay 244), .ref (lay 245), .ref (lay 246), .int (f 30), .ref (lay 247), .int (f 32)]
/-- the cell of a role that holds the numbers f -/
def cellF (ac : Nat → ClassId) (lay : Nat → Nat) (z : Nat × Nat × (Nat → Nat)) (f : Nat → Int32) (r : Nat) : va_E :=
  if kd r = 0 then .inr (0, [.int (f 0), .int (f 1), .int (f 2), .int (f 3), .int (f 4), .int (f 5), .int (f 6), .int (f 7), .int (f 8)])
  else if kd r = 1 then .inr (1, [.ref (lay (r + 1)), .ref (lay (r + 2)), .ref (lay (r + 3)), .ref (lay (r + 4)), .int (f 4)])
  else if kd r = 2 then .inr (2, [.int (f 0), .int (f 1), .int (f 2), .int (f 3), .int (f 4), .int (f 5), .int (f 6), .int (f 7), .int (f 8)])
  else if kd r = 3 then .inr (3, [.ref (lay (r + 1)), .ref (lay (r + 2)), .ref (lay (r + 3)), .ref (lay (r + 4)), .ref (lay (r + 5)), .ref (lay (r + 6)), .int (f 6)])
  else if kd r = 4 then .inr (4, [.ref (lay (r + 1)), .int (f 1)])
  else if kd r = 5 then .inr (5, [.ref (lay (r + 1)), .int (f 1), .ref (lay (r + 2)), .ref (lay (r + 3))])
  else if kd r = 6 then .inr (6, [.int (f 0), .int (f 1), .int (f 2), .int (f 3), .int (f 4), .int (f 5)])
  else if kd r = 7 then .inr (7, [.ref (lay 1), .int (f 1), .int (f 2), .int (f 3), .int (f 4), .ref (lay 2), .ref (lay 106), .ref (lay 210), .ref (lay 217)])
  else if kd r = 8 then .inr (8, modelFs f lay)
  else if kd r = 10 then .inl (ac 0, ln r, .inl f)
  else if kd r = 11 then .inl (ac 1, ln r, .inl f)
  else if kd r = 12 then .inl (ac 2, 400, .inr (.inr (.inr (.inr (fun j => if j < z.1 then some (z.2.2 j) else none)))))
  else if kd r = 13 then .inl (ac 3, 6, .inr (.inr (.inr (.inr (fun j => some (lay (r + 1 + 17 * j)))))))
  else .inl (ac 4, 12, .inr (.inr (.inr (.inr (fun j => some (lay (r + 4 + j)))))))
def cell (ac : Nat → ClassId) (lay : Nat → Nat) (w : St) (r : Nat) : va_E := cellF ac lay w.2 (w.1 r) r
def adr (lay : Nat → Nat) (w : St) (r : Nat) : Nat := if r < 248 then lay r else w.2.2.2 (r - 248)
def wl (ac : Nat → ClassId) (lay : Nat → Nat) (w : St) : va_W := (List.range (248 + w.2.2.1)).map (fun r => (adr lay w r, cell ac lay w r))
def tya (ac : Nat → ClassId) : List (ClassId × FieldType) := [(ac 0, .int), (ac 1, .boolean), (ac 2, .object "TermReckoner$Entry"), (ac 3, .object "TermReckoner$File"), (ac 4, .object "TermReckoner$Place")]
/-- the world -/
def Wd (D : va_G) (ac : Nat → ClassId) (bs : Nat) (lay : Nat → Nat) (w : St) (H : Heap) : Prop := va_P D vwCl (wl ac lay w) H ∧ va_D (fun q => bs ≤ q) (wl ac lay w)
/-- the tables' words that calls hand on -/
def wU : List Cond := lw_tbl.filter goodWord
def nestW : Cond → Bool
  | .methodLinkNest _ _ _ _ => true
  | _ => false
def nwl : List Cond := lw_tbl.filter nestW
def NW (U : State) : Prop := ∀ w ∈ nwl, va_Nw w U
theorem NW.vm {u U : State} (h : u.vm = U.vm) (hN : NW u) : NW U := by
  intro w hw
  have h1 := (List.mem_filter.mp hw).2
  have h2 := hN w hw
  cases w <;> first | (exact va_Nw.same rfl h h2) | (cases h1)
theorem NW.warm {s U : State} (hW : s.WarmedH U.vm) (hN : NW s) : NW U := by
  intro w hw
  have h1 := (List.mem_filter.mp hw).2
  have h2 := hN w hw
  cases w <;> first | (exact va_Nw.warmM hW h2) | (cases h1)
theorem mw {i : Nat} {w : Cond} (h : lw_tbl[i]? = some w) (g : goodWord w = true) : w ∈ wU := List.mem_filter.mpr ⟨List.mem_of_getElem? h, g⟩
theorem mn {i : Nat} {w : Cond} (h : lw_tbl[i]? = some w) (g : nestW w = true) : w ∈ nwl := List.mem_filter.mpr ⟨List.mem_of_getElem? h, g⟩
theorem goodU {big ws : List Cond} (hb : ∀ w ∈ wU, w ∈ big) (h : ∀ w ∈ ws, w ∈ wU) : GoodIn big ws := fun w hw => ⟨hb w (h w hw), good_of_word (List.mem_filter.mp (h w hw)).2⟩
/-- what is known of the locals -/
def Lv (arr : Array Slot) (ls : List (Option Value)) : Prop := lv_has arr ls.length [] ∧ ∀ (k : Nat) (v : Value), ls[k]? = some (some v) → arr[k]? = some (.val v) ∧ v.category = 1
def knl (ls : List (Option Value)) : List (Nat × Value) := (List.range ls.length).filterMap (fun j => match ls[j]? with | some (some v) => some (j, v) | _ => none)
theorem knl_in {ls : List (Option Value)} {q : Nat × Value} : q ∈ knl ls ↔ ls[q.1]? = some (some q.2) := by
  constructor
  · intro h
    obtain ⟨j, -, h2⟩ := List.mem_filterMap.mp h
    split at h2
    · next v hv => cases h2; exact hv
    · cases h2
  · intro h
    refine List.mem_filterMap.mpr ⟨q.1, List.mem_range.mpr (List.getElem?_eq_some_iff.mp h).1, ?_⟩
    rw [h]
theorem Lv.has {arr : Array Slot} {ls : List (Option Value)} (h : Lv arr ls) : lv_has arr ls.length (knl ls) := ⟨h.1.1, h.1.2.1, fun q hq => (h.2 q.1 q.2 (knl_in.mp hq)).1⟩
theorem Lv.st {arr arr' : Array Slot} {ls : List (Option Value)} {i : Nat} {v : Value} (h : Lv arr ls) (hv : v.category = 1) (h2 : lv_has arr' ls.length ((i, v) :: (knl ls).filter (fun q => !(q.1 == i) && !(q.1 + 1 == i && q.2.category == 2)))) : Lv arr' (ls.set i (some v)) := by
  refine ⟨⟨by rw [List.length_set]; exact h2.1, h2.2.1, fun q hq => by cases hq⟩, fun k u hk => ?_⟩
  by_cases hki : k = i
  · subst hki
    have hlt : k < ls.length := by
      have := (List.getElem?_eq_some_iff.mp hk).1
      rwa [List.length_set] at this
    rw [List.getElem?_set_self hlt] at hk
    cases hk
    exact ⟨h2.2.2 (k, v) List.mem_cons_self, hv⟩
  · rw [List.getElem?_set_ne (Ne.symm hki)] at hk
    have hc := (h.2 k u hk).2
    refine ⟨h2.2.2 (k, u) (List.mem_cons_of_mem _ (List.mem_filter.mpr ⟨knl_in.mpr hk, ?_⟩)), hc⟩
    simp [hki, hc]
/-- THE JUDGEMENT: from here the method comes to its end -/
def A (X : Cx) (k n pc : Nat) (ls : List (Option Value)) (st : List Value) (w : St) : Prop :=
  ∀ (H : Heap) (locs : List Loc) (arr : Array Slot), Wd (xD X) (xac X) (xbs X) (xlay X) w H → va_S (fun q => xbs X ≤ q) (xs X).heap H locs → Lv arr ls → (k ≤ (xR X).cells ∧ n ≤ (xR X).slots) →
    W (xp X) (xl X) (xe X) (xR X) (xs X) (xm X) (xa X) (xb X) (xmt X) (xc X) H locs k n (xQ X) (F0 (xm X) pc arr st)
/-- what holds in a method's body -/
def Kx (X : Cx) (cc : ByteArray) (own : String) (nL d : Nat) : Prop := (xp X).tables.exec = Jvm.exec ∧ (xc X).code = cc ∧ (xc X).maxLocals = nL ∧ (xs X).vm.findClass own = some (xm X).cls ∧ (∀ w ∈ wU, w.before (xa X) (xs X) = true) ∧ va_K (xD X) vwCl (tya (xac X)) (xs X) ∧ NW (xs X) ∧ d ≤ (xR X).frames ∧ 40 * d ≤ (xR X).locals
def PcA (D : va_G) (ac : Nat → ClassId) (bs : Nat) (lay : Nat → Nat) (av : List Value) (w : St) : Array Value → State → Prop := va_Pc av (fun U => Wd D ac bs lay w U.heap ∧ va_K D vwCl (tya ac) U ∧ NW U)
def QcA (D : va_G) (ac : Nat → ClassId) (bs : Nat) (lay : Nat → Nat) (Po : Option Value → St → Prop) : Array Value → State → Outcome → State → Prop := fun _ st oc t => (∃ (r : Option Value) (w' : St), oc = .returned r ∧ Po r w' ∧ Wd D ac bs lay w' t.heap) ∧ va_F (fun q => bs ≤ q) st t
abbrev Tr : Type := (Nat → Nat) → List Value → St → (Option Value → St → Prop) → Prop
/-- A CONTRACT: T lay av w Po: called at w with av it returns, and Po holds of the answer and the state behind -/
def Ct (y : MethodName) (cc : ByteArray) (nL : Nat) (ret : Option FieldType) (d mc ms : Nat) (T : Tr) : Prop :=
  ∀ (l : Launch) (D : va_G) (ac : Nat → ClassId) (bs : Nat) (lay : Nat → Nat) (av : List Value) (w : St) (Po : Option Value → St → Prop), T lay av w Po →
    Met l y (.code y cc nL ret :: wU) { frames := d, cells := mc, slots := ms, locals := 40 * d } (PcA D ac bs lay av w) (QcA D ac bs lay Po) mc ms (fun q => bs ≤ q)
/-- at a method's return -/
def Rx (X : Cx) (ret : Option FieldType) (mc ms : Nat) (Po : Option Value → St → Prop) : Prop := (xmt X).sig.returnType = ret ∧ (xmt X).locks = false ∧ xQ X = MQ (xb X) (QcA (xD X) (xac X) (xbs X) (xlay X) Po) (xa X) (xs X) mc ms (fun q => xbs X ≤ q)
theorem blindA {D : va_G} {ac : Nat → ClassId} {bs : Nat} {lay : Nat → Nat} {av : List Value} {w : St} : FrameBlind (PcA D ac bs lay av w) := fun a U g mk q => ⟨q.1, q.2.1, va_K.moved (u := U) (U := U.calling g mk a) (Vm.Alike.refl U.vm) q.2.2.1, NW.vm (u := U) (U := U.calling g mk a) rfl q.2.2.2⟩
set_option maxHeartbeats 1000000 in
theorem Ct.mk {y : MethodName} {cc : ByteArray} {nL d mc ms : Nat} {ret : Option FieldType} {T : Tr} (hy : plainName y.cls = true)
    (body : ∀ (X : Cx) (av : List Value) (w : St) (Po : Option Value → St → Prop), Kx X cc y.cls nL d → Rx X ret mc ms Po → T (xlay X) av w Po → (av.all (fun v => v.category == 1) && decide (av.length ≤ nL)) = true ∧ A X 0 0 0 (av.map some ++ List.replicate (nL - av.length) none) [] w) : Ct y cc nL ret d mc ms T := by
  intro l D ac bs lay av w Po hT
  refine Met.ofW (cc := cc) (maxL := nL) (ret := ret) hy rfl ?_
  intro p e s m args below meth c s₁ B hml hv
  obtain ⟨rfl, hP, hK, hN⟩ := hv
  have hts := atoms_spec (ws := .code y cc nL ret :: wU) B.pre
  have hown : s.vm.findClass y.cls = some m.cls := findClass_of_methodNamed B.named
  let X : Cx := (p, l, e, (headSpec (.code y cc nL ret :: wU) { frames := d, cells := mc, slots := ms, locals := 40 * d }).room, s, m, av.toArray, below, meth, c, D, ac, bs, lay, MQ below (QcA D ac bs lay Po) av.toArray s mc ms (fun q => bs ≤ q))
  obtain ⟨h1, h2⟩ := body X av w Po ⟨B.exec, B.bytes, hml, hown, fun w hw => hts w (List.mem_cons_of_mem _ hw), hK, hN, Nat.le_refl _, Nat.le_refl _⟩ ⟨B.returns, B.notSynchronized, rfl⟩ hT
  rw [Bool.and_eq_true, List.all_eq_true, decide_eq_true_eq] at h1
  have hc1 : ∀ v ∈ av, v.category = 1 := fun v hv => by simpa using h1.1 v hv
  have hsl : lg_sl av = av.map Slot.val := by
    have : ∀ (u : List Value), (∀ v ∈ u, v.category = 1) → lg_sl u = u.map Slot.val := by
      intro u
      induction u with
      | nil => intro _; rfl
      | cons a u ih =>
        intro h
        have ha : ¬ a.category = 2 := by rw [h a List.mem_cons_self]; decide
        have hu := ih (fun v hv => h v (List.mem_cons_of_mem _ hv))
        unfold lg_sl at hu ⊢
        rw [List.flatMap_cons, if_neg ha, hu]; rfl
    exact this av hc1
  have hlen : (lg_sl av).length = av.length := by rw [hsl, List.length_map]
  have hl := lv_entry av (n := nL) (by rw [hlen]; exact h1.2)
  rw [lg_entry_eq]
  rw [hlen] at hl ⊢
  refine h2 s.heap [] _ hP va_S.rf ?_ ⟨Nat.zero_le _, Nat.zero_le _⟩
  have hL1 : (av.map some ++ List.replicate (nL - av.length) none).length = nL := by
    rw [List.length_append, List.length_map, List.length_replicate]; omega
  refine ⟨⟨by rw [hL1]; exact hl.1, hl.2.1, fun q hq => by cases hq⟩, fun j v hj => ?_⟩
  by_cases hja : j < av.length
  · rw [List.getElem?_append_left (by rw [List.length_map]; exact hja), List.getElem?_map] at hj
    cases hq : av[j]? with
    | none => rw [hq] at hj; cases hj
    | some u =>
      rw [hq] at hj
      cases hj
      refine ⟨?_, hc1 _ (List.mem_of_getElem? hq)⟩
      rw [hsl, List.getElem?_toArray, List.getElem?_append_left (by rw [List.length_map]; exact hja), List.getElem?_map, hq]; rfl
  · rw [List.getElem?_append_right (by rw [List.length_map]; omega)] at hj
    have := List.getElem?_eq_some_iff.mp hj
    obtain ⟨_, h9⟩ := this
    rw [List.getElem_replicate] at h9
    cases h9
section ROWS
variable {X : Cx} {cc : ByteArray} {own : String} {nL d k n pc : Nat} {ls ls' : List (Option Value)} {st : List Value} {w : St}
theorem a_iadd {x y : Int32} (hX : Kx X cc own nL d) (hd : decode cc pc = .ok (.iadd, 1)) (kk : A X k n (pc + 1) ls (.int (x + y) :: st) w) : A X k n pc ls (.int y :: .int x :: st) w := fun H locs arr hW hS hL hk => lv_iadd hX.1 hX.2.1 hd (kk H locs arr hW hS hL hk)
theorem a_isub {x y : Int32} (hX : Kx X cc own nL d) (hd : decode cc pc = .ok (.isub, 1)) (kk : A X k n (pc + 1) ls (.int (x - y) :: st) w) : A X k n pc ls (.int y :: .int x :: st) w := fun H locs arr hW hS hL hk => lv_isub hX.1 hX.2.1 hd (kk H locs arr hW hS hL hk)
theorem a_imul {x y : Int32} (hX : Kx X cc own nL d) (hd : decode cc pc = .ok (.imul, 1)) (kk : A X k n (pc + 1) ls (.int (x * y) :: st) w) : A X k n pc ls (.int y :: .int x :: st) w := fun H locs arr hW hS hL hk => lv_imul hX.1 hX.2.1 hd (kk H locs arr hW hS hL hk)
theorem a_iand {x y : Int32} (hX : Kx X cc own nL d) (hd : decode cc pc = .ok (.iand, 1)) (kk : A X k n (pc + 1) ls (.int (x &&& y) :: st) w) : A X k n pc ls (.int y :: .int x :: st) w := fun H locs arr hW hS hL hk => lv_iand hX.1 hX.2.1 hd (kk H locs arr hW hS hL hk)
theorem a_ior {x y : Int32} (hX : Kx X cc own nL d) (hd : decode cc pc = .ok (.ior, 1)) (kk : A X k n (pc + 1) ls (.int (x ||| y) :: st) w) : A X k n pc ls (.int y :: .int x :: st) w := fun H locs arr hW hS hL hk => lv_ior hX.1 hX.2.1 hd (kk H locs arr hW hS hL hk)
theorem a_ixor {x y : Int32} (hX : Kx X cc own nL d) (hd : decode cc pc = .ok (.ixor, 1)) (kk : A X k n (pc + 1) ls (.int (x ^^^ y) :: st) w) : A X k n pc ls (.int y :: .int x :: st) w := fun H locs arr hW hS hL hk => lv_ixor hX.1 hX.2.1 hd (kk H locs arr hW hS hL hk)
theorem a_ishl {x y : Int32} (hX : Kx X cc own nL d) (hd : decode cc pc = .ok (.ishl, 1)) (kk : A X k n (pc + 1) ls (.int (x <<< (y &&& 31)) :: st) w) : A X k n pc ls (.int y :: .int x :: st) w := fun H locs arr hW hS hL hk => lv_ishl hX.1 hX.2.1 hd (kk H locs arr hW hS hL hk)
theorem a_ishr {x y : Int32} (hX : Kx X cc own nL d) (hd : decode cc pc = .ok (.ishr, 1)) (kk : A X k n (pc + 1) ls (.int (x >>> (y &&& 31)) :: st) w) : A X k n pc ls (.int y :: .int x :: st) w := fun H locs arr hW hS hL hk => lv_ishr hX.1 hX.2.1 hd (kk H locs arr hW hS hL hk)
theorem a_idiv {x y : Int32} (hX : Kx X cc own nL d) (hd : decode cc pc = .ok (.idiv, 1)) (hy : ¬ y = 0) (kk : A X k n (pc + 1) ls (.int (x / y) :: st) w) : A X k n pc ls (.int y :: .int x :: st) w := fun H locs arr hW hS hL hk => lv_idiv hX.1 hX.2.1 hd hy (kk H locs arr hW hS hL hk)
theorem a_irem {x y : Int32} (hX : Kx X cc own nL d) (hd : decode cc pc = .ok (.irem, 1)) (hy : ¬ y = 0) (kk : A X k n (pc + 1) ls (.int (x - x / y * y) :: st) w) : A X k n pc ls (.int y :: .int x :: st) w := fun H locs arr hW hS hL hk => lv_irem hX.1 hX.2.1 hd hy (kk H locs arr hW hS hL hk)
theorem a_ineg {x : Int32} (hX : Kx X cc own nL d) (hd : decode cc pc = .ok (.ineg, 1)) (kk : A X k n (pc + 1) ls (.int (-x) :: st) w) : A X k n pc ls (.int x :: st) w := fun H locs arr hW hS hL hk => lv_ineg hX.1 hX.2.1 hd (kk H locs arr hW hS hL hk)
theorem a_iushr {x y : Int32} (hX : Kx X cc own nL d) (hd : decode cc pc = .ok (.iushr, 1)) (kk : A X k n (pc + 1) ls (.int ((x.toUInt32 >>> (y.toUInt32 &&& Int32.toUInt32 31)).toInt32) :: st) w) : A X k n pc ls (.int y :: .int x :: st) w := fun H locs arr hW hS hL hk => lv_iushr hX.1 hX.2.1 hd rfl (kk H locs arr hW hS hL hk)
theorem a_iconst {c : Int} (v : Int32) (hX : Kx X cc own nL d) (hd : decode cc pc = .ok (.iconst c, 1)) (hv : Int32.ofInt c = v) (kk : A X k n (pc + 1) ls (.int v :: st) w) : A X k n pc ls st w := fun H locs arr hW hS hL hk => lv_iconst hX.1 hX.2.1 hd hv (kk H locs arr hW hS hL hk)
theorem a_bipush {c : Int} (v : Int32) (hX : Kx X cc own nL d) (hd : decode cc pc = .ok (.bipush c, 2)) (hv : (Int8.ofInt c).toInt32 = v) (kk : A X k n (pc + 2) ls (.int v :: st) w) : A X k n pc ls st w := fun H locs arr hW hS hL hk => lv_bipush hX.1 hX.2.1 hd hv (kk H locs arr hW hS hL hk)
theorem a_sipush {c : Int} (v : Int32) (hX : Kx X cc own nL d) (hd : decode cc pc = .ok (.sipush c, 3)) (hv : (Int16.ofInt c).toInt32 = v) (kk : A X k n (pc + 3) ls (.int v :: st) w) : A X k n pc ls st w := fun H locs arr hW hS hL hk => lv_sipush hX.1 hX.2.1 hd hv (kk H locs arr hW hS hL hk)
theorem a_ldc {i : Nat} {v : Int32} (hX : Kx X cc own nL d) (hd : decode cc pc = .ok (.ldc i, 2)) (hc : Cond.constant own i v ∈ wU) (kk : A X k n (pc + 2) ls (.int v :: st) w) : A X k n pc ls st w := fun H locs arr hW hS hL hk => lv_ldc hX.1 hX.2.1 hX.2.2.2.1 (hX.2.2.2.2.1 _ hc) hd (kk H locs arr hW hS hL hk)
theorem a_ldcw {i : Nat} {v : Int32} (hX : Kx X cc own nL d) (hd : decode cc pc = .ok (.ldc_w i, 3)) (hc : Cond.constant own i v ∈ wU) (kk : A X k n (pc + 3) ls (.int v :: st) w) : A X k n pc ls st w := fun H locs arr hW hS hL hk => lv_ldcw hX.1 hX.2.1 hX.2.2.2.1 (hX.2.2.2.2.1 _ hc) hd (kk H locs arr hW hS hL hk)
theorem a_null (hX : Kx X cc own nL d) (hd : decode cc pc = .ok (.aconst_null, 1)) (kk : A X k n (pc + 1) ls (.null :: st) w) : A X k n pc ls st w := fun H locs arr hW hS hL hk => lv_null hX.1 hX.2.1 hd (kk H locs arr hW hS hL hk)
theorem a_dup {v : Value} (hX : Kx X cc own nL d) (hd : decode cc pc = .ok (.dup, 1)) (hv : v.category = 1) (kk : A X k n (pc + 1) ls (v :: v :: st) w) : A X k n pc ls (v :: st) w := fun H locs arr hW hS hL hk => lv_dup hX.1 hX.2.1 hd hv (kk H locs arr hW hS hL hk)
theorem a_dup2 {u v : Value} (hX : Kx X cc own nL d) (hd : decode cc pc = .ok (.dup2, 1)) (hu : u.category = 1) (hv : v.category = 1) (kk : A X k n (pc + 1) ls (u :: v :: u :: v :: st) w) : A X k n pc ls (u :: v :: st) w := fun H locs arr hW hS hL hk => lv_dup2_11 hX.1 hX.2.1 hd hu hv (kk H locs arr hW hS hL hk)
theorem a_pop {v : Value} (hX : Kx X cc own nL d) (hd : decode cc pc = .ok (.pop, 1)) (hv : v.category = 1) (kk : A X k n (pc + 1) ls st w) : A X k n pc ls (v :: st) w := fun H locs arr hW hS hL hk => lv_pop hX.1 hX.2.1 hd hv (kk H locs arr hW hS hL hk)
theorem a_goto {off : Int} (tgt : Nat) (hX : Kx X cc own nL d) (hd : decode cc pc = .ok (.goto off, 3)) (ht : (pc : Int) + off = (tgt : Int)) (kk : A X k n tgt ls st w) : A X k n pc ls st w := fun H locs arr hW hS hL hk => lv_goto hX.1 hX.2.1 hd ht (kk H locs arr hW hS hL hk)
theorem a_ifnonnull {a : Nat} {off : Int} (tgt : Nat) (hX : Kx X cc own nL d) (hd : decode cc pc = .ok (.ifnonnull off, 3)) (ht : (pc : Int) + off = (tgt : Int)) (kk : A X k n tgt ls st w) : A X k n pc ls (.ref a :: st) w := fun H locs arr hW hS hL hk => lv_ifnonnull hX.1 hX.2.1 hd ht (kk H locs arr hW hS hL hk)
theorem a_ifnonnullN {off : Int} (hX : Kx X cc own nL d) (hd : decode cc pc = .ok (.ifnonnull off, 3)) (kk : A X k n (pc + 3) ls st w) : A X k n pc ls (.null :: st) w := fun H locs arr hW hS hL hk => lv_ifnonnullN hX.1 hX.2.1 hd (kk H locs arr hW hS hL hk)
theorem a_ifnull {a : Nat} {off : Int} (hX : Kx X cc own nL d) (hd : decode cc pc = .ok (.ifnull off, 3)) (kk : A X k n (pc + 3) ls st w) : A X k n pc ls (.ref a :: st) w := fun H locs arr hW hS hL hk => lv_ifnull hX.1 hX.2.1 hd (kk H locs arr hW hS hL hk)
theorem a_ifnullN {off : Int} (tgt : Nat) (hX : Kx X cc own nL d) (hd : decode cc pc = .ok (.ifnull off, 3)) (ht : (pc : Int) + off = (tgt : Int)) (kk : A X k n tgt ls st w) : A X k n pc ls (.null :: st) w := fun H locs arr hW hS hL hk => lv_ifnullN hX.1 hX.2.1 hd ht (kk H locs arr hW hS hL hk)
theorem a_if_eq {x : Int32} {off : Int} (tgt : Nat) (hX : Kx X cc own nL d) (hd : decode cc pc = .ok (.ifCond .eq off, 3)) (ht : (pc : Int) + off = (tgt : Int)) (kt : x = 0 → A X k n tgt ls st w) (kf : ¬ x = 0 → A X k n (pc + 3) ls st w) : A X k n pc ls (.int x :: st) w := fun H locs arr hW hS hL hk => lv_if_eq hX.1 hX.2.1 hd ht (fun q => kt q H locs arr hW hS hL hk) (fun q => kf q H locs arr hW hS hL hk)
theorem a_icmp_eq {x y : Int32} {off : Int} (tgt : Nat) (hX : Kx X cc own nL d) (hd : decode cc pc = .ok (.if_icmp .eq off, 3)) (ht : (pc : Int) + off = (tgt : Int)) (kt : x = y → A X k n tgt ls st w) (kf : ¬ x = y → A X k n (pc + 3) ls st w) : A X k n pc ls (.int y :: .int x :: st) w := fun H locs arr hW hS hL hk => lv_icmp_eq hX.1 hX.2.1 hd ht (fun q => kt q H locs arr hW hS hL hk) (fun q => kf q H locs arr hW hS hL hk)
theorem a_if_ne {x : Int32} {off : Int} (tgt : Nat) (hX : Kx X cc own nL d) (hd : decode cc pc = .ok (.ifCond .ne off, 3)) (ht : (pc : Int) + off = (tgt : Int)) (kt : ¬ x = 0 → A X k n tgt ls st w) (kf : x = 0 → A X k n (pc + 3) ls st w) : A X k n pc ls (.int x :: st) w := fun H locs arr hW hS hL hk => lv_if_ne hX.1 hX.2.1 hd ht (fun q => kt q H locs arr hW hS hL hk) (fun q => kf q H locs arr hW hS hL hk)
theorem a_icmp_ne {x y : Int32} {off : Int} (tgt : Nat) (hX : Kx X cc own nL d) (hd : decode cc pc = .ok (.if_icmp .ne off, 3)) (ht : (pc : Int) + off = (tgt : Int)) (kt : ¬ x = y → A X k n tgt ls st w) (kf : x = y → A X k n (pc + 3) ls st w) : A X k n pc ls (.int y :: .int x :: st) w := fun H locs arr hW hS hL hk => lv_icmp_ne hX.1 hX.2.1 hd ht (fun q => kt q H locs arr hW hS hL hk) (fun q => kf q H locs arr hW hS hL hk)
theorem a_if_lt {x : Int32} {off : Int} (tgt : Nat) (hX : Kx X cc own nL d) (hd : decode cc pc = .ok (.ifCond .lt off, 3)) (ht : (pc : Int) + off = (tgt : Int)) (kt : x < 0 → A X k n tgt ls st w) (kf : ¬ x < 0 → A X k n (pc + 3) ls st w) : A X k n pc ls (.int x :: st) w := fun H locs arr hW hS hL hk => lv_if_lt hX.1 hX.2.1 hd ht (fun q => kt q H locs arr hW hS hL hk) (fun q => kf q H locs arr hW hS hL hk)
theorem a_icmp_lt {x y : Int32} {off : Int} (tgt : Nat) (hX : Kx X cc own nL d) (hd : decode cc pc = .ok (.if_icmp .lt off, 3)) (ht : (pc : Int) + off = (tgt : Int)) (kt : x < y → A X k n tgt ls st w) (kf : ¬ x < y → A X k n (pc + 3) ls st w) : A X k n pc ls (.int y :: .int x :: st) w := fun H locs arr hW hS hL hk => lv_icmp_lt hX.1 hX.2.1 hd ht (fun q => kt q H locs arr hW hS hL hk) (fun q => kf q H locs arr hW hS hL hk)
theorem a_if_ge {x : Int32} {off : Int} (tgt : Nat) (hX : Kx X cc own nL d) (hd : decode cc pc = .ok (.ifCond .ge off, 3)) (ht : (pc : Int) + off = (tgt : Int)) (kt : 0 ≤ x → A X k n tgt ls st w) (kf : ¬ 0 ≤ x → A X k n (pc + 3) ls st w) : A X k n pc ls (.int x :: st) w := fun H locs arr hW hS hL hk => lv_if_ge hX.1 hX.2.1 hd ht (fun q => kt q H locs arr hW hS hL hk) (fun q => kf q H locs arr hW hS hL hk)
theorem a_icmp_ge {x y : Int32} {off : Int} (tgt : Nat) (hX : Kx X cc own nL d) (hd : decode cc pc = .ok (.if_icmp .ge off, 3)) (ht : (pc : Int) + off = (tgt : Int)) (kt : y ≤ x → A X k n tgt ls st w) (kf : ¬ y ≤ x → A X k n (pc + 3) ls st w) : A X k n pc ls (.int y :: .int x :: st) w := fun H locs arr hW hS hL hk => lv_icmp_ge hX.1 hX.2.1 hd ht (fun q => kt q H locs arr hW hS hL hk) (fun q => kf q H locs arr hW hS hL hk)
theorem a_if_gt {x : Int32} {off : Int} (tgt : Nat) (hX : Kx X cc own nL d) (hd : decode cc pc = .ok (.ifCond .gt off, 3)) (ht : (pc : Int) + off = (tgt : Int)) (kt : 0 < x → A X k n tgt ls st w) (kf : ¬ 0 < x → A X k n (pc + 3) ls st w) : A X k n pc ls (.int x :: st) w := fun H locs arr hW hS hL hk => lv_if_gt hX.1 hX.2.1 hd ht (fun q => kt q H locs arr hW hS hL hk) (fun q => kf q H locs arr hW hS hL hk)
theorem a_icmp_gt {x y : Int32} {off : Int} (tgt : Nat) (hX : Kx X cc own nL d) (hd : decode cc pc = .ok (.if_icmp .gt off, 3)) (ht : (pc : Int) + off = (tgt : Int)) (kt : y < x → A X k n tgt ls st w) (kf : ¬ y < x → A X k n (pc + 3) ls st w) : A X k n pc ls (.int y :: .int x :: st) w := fun H locs arr hW hS hL hk => lv_icmp_gt hX.1 hX.2.1 hd ht (fun q => kt q H locs arr hW hS hL hk) (fun q => kf q H locs arr hW hS hL hk)
theorem a_if_le {x : Int32} {off : Int} (tgt : Nat) (hX : Kx X cc own nL d) (hd : decode cc pc = .ok (.ifCond .le off, 3)) (ht : (pc : Int) + off = (tgt : Int)) (kt : x ≤ 0 → A X k n tgt ls st w) (kf : ¬ x ≤ 0 → A X k n (pc + 3) ls st w) : A X k n pc ls (.int x :: st) w := fun H locs arr hW hS hL hk => lv_if_le hX.1 hX.2.1 hd ht (fun q => kt q H locs arr hW hS hL hk) (fun q => kf q H locs arr hW hS hL hk)
theorem a_icmp_le {x y : Int32} {off : Int} (tgt : Nat) (hX : Kx X cc own nL d) (hd : decode cc pc = .ok (.if_icmp .le off, 3)) (ht : (pc : Int) + off = (tgt : Int)) (kt : x ≤ y → A X k n tgt ls st w) (kf : ¬ x ≤ y → A X k n (pc + 3) ls st w) : A X k n pc ls (.int y :: .int x :: st) w := fun H locs arr hW hS hL hk => lv_icmp_le hX.1 hX.2.1 hd ht (fun q => kt q H locs arr hW hS hL hk) (fun q => kf q H locs arr hW hS hL hk)
theorem a_iload_n {i : Fin 4} {v : Int32} (hX : Kx X cc own nL d) (hd : decode cc pc = .ok (.iload_n i, 1)) (hv : ls[(i : Nat)]? = some (some (.int v))) (kk : A X k n (pc + 1) ls (.int v :: st) w) : A X k n pc ls st w := fun H locs arr hW hS hL hk => lv_iload_n hX.1 hX.2.1 hd rfl (hL.2 _ _ hv).1 (kk H locs arr hW hS hL hk)
theorem a_iload {i : Nat} {v : Int32} (hX : Kx X cc own nL d) (hd : decode cc pc = .ok (.iload i, 2)) (hv : ls[i]? = some (some (.int v))) (kk : A X k n (pc + 2) ls (.int v :: st) w) : A X k n pc ls st w := fun H locs arr hW hS hL hk => lv_iload hX.1 hX.2.1 hd (hL.2 _ _ hv).1 (kk H locs arr hW hS hL hk)
theorem a_aload_n {i : Fin 4} {v : Nat} (hX : Kx X cc own nL d) (hd : decode cc pc = .ok (.aload_n i, 1)) (hv : ls[(i : Nat)]? = some (some (.ref v))) (kk : A X k n (pc + 1) ls (.ref v :: st) w) : A X k n pc ls st w := fun H locs arr hW hS hL hk => lv_aload_n hX.1 hX.2.1 hd rfl (hL.2 _ _ hv).1 (kk H locs arr hW hS hL hk)
theorem a_aload {i : Nat} {v : Nat} (hX : Kx X cc own nL d) (hd : decode cc pc = .ok (.aload i, 2)) (hv : ls[i]? = some (some (.ref v))) (kk : A X k n (pc + 2) ls (.ref v :: st) w) : A X k n pc ls st w := fun H locs arr hW hS hL hk => lv_aload hX.1 hX.2.1 hd (hL.2 _ _ hv).1 (kk H locs arr hW hS hL hk)
theorem a_aload_nN {i : Fin 4} (hX : Kx X cc own nL d) (hd : decode cc pc = .ok (.aload_n i, 1)) (hv : ls[(i : Nat)]? = some (some .null)) (kk : A X k n (pc + 1) ls (.null :: st) w) : A X k n pc ls st w := fun H locs arr hW hS hL hk => lv_aload_nN hX.1 hX.2.1 hd rfl (hL.2 _ _ hv).1 (kk H locs arr hW hS hL hk)
theorem a_aloadN {i : Nat} (hX : Kx X cc own nL d) (hd : decode cc pc = .ok (.aload i, 2)) (hv : ls[i]? = some (some .null)) (kk : A X k n (pc + 2) ls (.null :: st) w) : A X k n pc ls st w := fun H locs arr hW hS hL hk => lv_aloadN hX.1 hX.2.1 hd (hL.2 _ _ hv).1 (kk H locs arr hW hS hL hk)
theorem a_istore_n {i : Fin 4} {v : Int32} (hX : Kx X cc own nL d) (hd : decode cc pc = .ok (.istore_n i, 1)) (hn : (i : Nat) < ls.length) (he : ls.set (i : Nat) (some (.int v)) = ls') (kk : A X k n (pc + 1) ls' st w) : A X k n pc ls (.int v :: st) w := by
  subst he
  exact fun H locs arr hW hS hL hk => lv_istore_n hX.1 hX.2.1 hd rfl hL.has hn rfl (fun arr' hL' => kk H locs arr' hW hS (hL.st rfl hL') hk)
theorem a_istore {i : Nat} {v : Int32} (hX : Kx X cc own nL d) (hd : decode cc pc = .ok (.istore i, 2)) (hn : i < ls.length) (he : ls.set i (some (.int v)) = ls') (kk : A X k n (pc + 2) ls' st w) : A X k n pc ls (.int v :: st) w := by
  subst he
  exact fun H locs arr hW hS hL hk => lv_istore hX.1 hX.2.1 hd hL.has hn rfl (fun arr' hL' => kk H locs arr' hW hS (hL.st rfl hL') hk)
theorem a_astore_n {i : Fin 4} {v : Nat} (hX : Kx X cc own nL d) (hd : decode cc pc = .ok (.astore_n i, 1)) (hn : (i : Nat) < ls.length) (he : ls.set (i : Nat) (some (.ref v)) = ls') (kk : A X k n (pc + 1) ls' st w) : A X k n pc ls (.ref v :: st) w := by
  subst he
  exact fun H locs arr hW hS hL hk => lv_astore_n hX.1 hX.2.1 hd rfl hL.has hn rfl (fun arr' hL' => kk H locs arr' hW hS (hL.st rfl hL') hk)
theorem a_astore {i : Nat} {v : Nat} (hX : Kx X cc own nL d) (hd : decode cc pc = .ok (.astore i, 2)) (hn : i < ls.length) (he : ls.set i (some (.ref v)) = ls') (kk : A X k n (pc + 2) ls' st w) : A X k n pc ls (.ref v :: st) w := by
  subst he
  exact fun H locs arr hW hS hL hk => lv_astore hX.1 hX.2.1 hd hL.has hn rfl (fun arr' hL' => kk H locs arr' hW hS (hL.st rfl hL') hk)
theorem a_astore_nN {i : Fin 4} (hX : Kx X cc own nL d) (hd : decode cc pc = .ok (.astore_n i, 1)) (hn : (i : Nat) < ls.length) (he : ls.set (i : Nat) (some (.null)) = ls') (kk : A X k n (pc + 1) ls' st w) : A X k n pc ls (.null :: st) w := by
  subst he
  exact fun H locs arr hW hS hL hk => lv_astore_nN hX.1 hX.2.1 hd rfl hL.has hn rfl (fun arr' hL' => kk H locs arr' hW hS (hL.st rfl hL') hk)
theorem a_astoreN {i : Nat} (hX : Kx X cc own nL d) (hd : decode cc pc = .ok (.astore i, 2)) (hn : i < ls.length) (he : ls.set i (some (.null)) = ls') (kk : A X k n (pc + 2) ls' st w) : A X k n pc ls (.null :: st) w := by
  subst he
  exact fun H locs arr hW hS hL hk => lv_astoreN hX.1 hX.2.1 hd hL.has hn rfl (fun arr' hL' => kk H locs arr' hW hS (hL.st rfl hL') hk)
theorem a_iinc {i : Nat} {c : Int} {x : Int32} (v : Int32) (hX : Kx X cc own nL d) (hd : decode cc pc = .ok (.iinc i c, 3)) (hx : ls[i]? = some (some (.int x))) (hv : x + Int32.ofInt c = v) (he : ls.set i (some (.int v)) = ls') (kk : A X k n (pc + 3) ls' st w) : A X k n pc ls st w := by
  subst he
  intro H locs arr hW hS hL hk
  obtain ⟨j, hj⟩ := List.getElem?_of_mem (knl_in (q := (i, .int x)).mpr hx)
  exact lv_iinc hX.1 hX.2.1 hd hL.has hj hv (List.getElem?_eq_some_iff.mp hx).1 rfl (fun arr' hL' => kk H locs arr' hW hS (hL.st rfl hL') hk)
theorem a_tableIn {dflt lo hi : Int} {offs : Array Int} {len : Nat} {x : Int32} {off : Int} (tgt : Nat) (hX : Kx X cc own nL d) (hd : decode cc pc = .ok (.tableswitch dflt lo hi offs, len)) (h1 : ¬ x.toInt < lo) (h2 : ¬ hi < x.toInt) (ho : offs[(x.toInt - lo).toNat]? = some off) (ht : (pc : Int) + off = (tgt : Int)) (kk : A X k n tgt ls st w) : A X k n pc ls (.int x :: st) w := fun H locs arr hW hS hL hk => lv_tableIn hX.1 hX.2.1 hd h1 h2 ho ht (kk H locs arr hW hS hL hk)
theorem a_tableOut {dflt lo hi : Int} {offs : Array Int} {len : Nat} {x : Int32} (tgt : Nat) (hX : Kx X cc own nL d) (hd : decode cc pc = .ok (.tableswitch dflt lo hi offs, len)) (h : x.toInt < lo ∨ hi < x.toInt) (ht : (pc : Int) + dflt = (tgt : Int)) (kk : A X k n tgt ls st w) : A X k n pc ls (.int x :: st) w := fun H locs arr hW hS hL hk => lv_tableOut hX.1 hX.2.1 hd h ht (kk H locs arr hW hS hL hk)
theorem a_lookup {dflt : Int} {ps : Array (Int × Int)} {len : Nat} {x : Int32} {off : Int} (tgt : Nat) (hX : Kx X cc own nL d) (hd : decode cc pc = .ok (.lookupswitch dflt ps, len)) (hp : (ps.toList.zip (ps.toList.drop 1)).all (fun (a, next) => a.1 < next.1) = true) (ho : Op.lookupswitch.offset ps.toList dflt x.toInt = off) (ht : (pc : Int) + off = (tgt : Int)) (kk : A X k n tgt ls st w) : A X k n pc ls (.int x :: st) w := fun H locs arr hW hS hL hk => lv_lookup hX.1 hX.2.1 hd hp ho ht (kk H locs arr hW hS hL hk)
/-- the ends -/
theorem a_iret {v : Int32} {mc ms : Nat} {ty : FieldType} {Po : Option Value → St → Prop} (hX : Kx X cc own nL d) (hR : Rx X (some ty) mc ms Po) (hd : decode cc pc = .ok (.ireturn, 1)) (hk1 : k ≤ mc ∧ n ≤ ms) (hn : narrow ty (.int v) = .int v) (hPo : Po (some (.int v)) w) : A X k n pc ls [.int v] w := by
  intro H locs arr hW hS hL hk
  obtain ⟨hr, hlk, hQ⟩ := hR
  rw [hQ]
  refine W.widen hk1.1 hk1.2 ?_
  exact W.zret hX.1 hX.2.1 hr hn (fun t ht hwm => ⟨⟨_, w, rfl, hPo, by rw [ht]; exact hW⟩, hS.F ht⟩) hS.2.2 hd hlk
theorem a_vret {mc ms : Nat} {Po : Option Value → St → Prop} (hX : Kx X cc own nL d) (hR : Rx X none mc ms Po) (hd : decode cc pc = .ok (.return_, 1)) (hk1 : k ≤ mc ∧ n ≤ ms) (hPo : Po none w) : A X k n pc ls [] w := by
  intro H locs arr hW hS hL hk
  obtain ⟨hr, hlk, hQ⟩ := hR
  rw [hQ]
  refine W.widen hk1.1 hk1.2 ?_
  exact W.vret hX.1 hX.2.1 hr (fun t ht hwm => ⟨⟨_, w, rfl, hPo, by rw [ht]; exact hW⟩, hS.F ht⟩) hS.2.2 hd hlk
theorem a_aret {v : Value} {mc ms : Nat} {cn : String} {Po : Option Value → St → Prop} (hX : Kx X cc own nL d) (hR : Rx X (some (.object cn)) mc ms Po) (hd : decode cc pc = .ok (.areturn, 1)) (hk1 : k ≤ mc ∧ n ≤ ms) (hv : v = .null ∨ ∃ a, v = .ref a) (hPo : Po (some v) w) : A X k n pc ls [v] w := by
  intro H locs arr hW hS hL hk
  obtain ⟨hr, hlk, hQ⟩ := hR
  rw [hQ]
  refine W.widen hk1.1 hk1.2 ?_
  exact W.aret hX.1 hX.2.1 hr (Or.inl ⟨_, rfl⟩) hv (fun t ht hwm => ⟨⟨_, w, rfl, hPo, by rw [ht]; exact hW⟩, hS.F ht⟩) hS.2.2 hd hlk
end ROWS
end
section
/-! fields, rows and calls over the world of roles -/
def wset (w : St) (r j : Nat) (v : Int32) : St := (fun r' => if r' = r then upd (w.1 r) j v else w.1 r', w.2)
theorem wset_1 (w : St) (r j : Nat) (v : Int32) (r' j' : Nat) : (wset w r j v).1 r' j' = if r' = r ∧ j' = j then v else w.1 r' j' := by
  unfold wset
  by_cases h : r' = r
  · subst h
    by_cases h2 : j' = j
    · subst h2; simp [upd]
    · simp [upd, h2]
  · simp [h]
theorem wset_2 (w : St) (r j : Nat) (v : Int32) : (wset w r j v).2 = w.2 := rfl
theorem wset_row (w : St) (r j : Nat) (v : Int32) : (wset w r j v).1 r = upd (w.1 r) j v := by simp [wset]
theorem wset_ne (w : St) (r j : Nat) (v : Int32) {r' : Nat} (h : r' ≠ r) : (wset w r j v).1 r' = w.1 r' := by simp [wset, h]
theorem kd_lt {r c : Nat} (h : kd r = c) (hc : c ≠ 0) : r < 248 := by
  by_cases h1 : r < 248
  · exact h1
  · exfalso
    apply hc
    rw [← h]
    unfold kd
    repeat (first | rw [if_neg (by omega)] | rfl)
theorem ln_lt (r : Nat) : ln r < 2 ^ 31 := by
  unfold ln
  repeat' split
  all_goals decide
theorem wl_get {ac : Nat → ClassId} {lay : Nat → Nat} {w : St} {r : Nat} (hr : r < 248 + w.2.2.1) : (wl ac lay w)[r]? = some (adr lay w r, cell ac lay w r) := by
  simp [wl, hr]
theorem adr_lt {lay : Nat → Nat} {w : St} {r : Nat} (h : r < 248) : adr lay w r = lay r := by simp [adr, h]
theorem adr_ge {lay : Nat → Nat} {w : St} {i : Nat} : adr lay w (248 + i) = w.2.2.2 i := by
  unfold adr
  rw [if_neg (by omega), Nat.add_sub_cancel_left]
theorem wl_set {ac : Nat → ClassId} {lay : Nat → Nat} {w : St} {r j : Nat} {v : Int32} {e : va_E} (he : e = cellF ac lay w.2 (upd (w.1 r) j v) r) : (wl ac lay w).set r (adr lay w r, e) = wl ac lay (wset w r j v) := by
  apply List.ext_getElem?
  intro i
  by_cases hi : i < 248 + w.2.2.1
  · rw [wl_get (w := wset w r j v) (show i < 248 + (wset w r j v).2.2.1 from hi)]
    by_cases hir : i = r
    · subst hir
      rw [List.getElem?_set_self (by simp [wl]; exact hi)]
      show some (adr lay w i, e) = some (adr lay w i, cellF ac lay w.2 ((wset w i j v).1 i) i)
      rw [wset_row, he]
    · rw [List.getElem?_set_ne (Ne.symm hir), wl_get hi]
      show some (adr lay w i, cellF ac lay w.2 (w.1 i) i) = some (adr lay w i, cellF ac lay w.2 ((wset w r j v).1 i) i)
      rw [wset_ne w r j v hir]
  · rw [List.getElem?_eq_none (by simp [wl]; omega), List.getElem?_eq_none (by simp [wl, wset]; omega)]
theorem cell_0 {ac : Nat → ClassId} {lay : Nat → Nat} {w : St} {r : Nat} (h : kd r = 0) : cell ac lay w r = .inr (0, [.int (w.1 r 0), .int (w.1 r 1), .int (w.1 r 2), .int (w.1 r 3), .int (w.1 r 4), .int (w.1 r 5), .int (w.1 r 6), .int (w.1 r 7), .int (w.1 r 8)]) := by simp [cell, cellF, h]
theorem cell_1 {ac : Nat → ClassId} {lay : Nat → Nat} {w : St} {r : Nat} (h : kd r = 1) : cell ac lay w r = .inr (1, [.ref (lay (r + 1)), .ref (lay (r + 2)), .ref (lay (r + 3)), .ref (lay (r + 4)), .int (w.1 r 4)]) := by simp [cell, cellF, h]
theorem cell_2 {ac : Nat → ClassId} {lay : Nat → Nat} {w : St} {r : Nat} (h : kd r = 2) : cell ac lay w r = .inr (2, [.int (w.1 r 0), .int (w.1 r 1), .int (w.1 r 2), .int (w.1 r 3), .int (w.1 r 4), .int (w.1 r 5), .int (w.1 r 6), .int (w.1 r 7), .int (w.1 r 8)]) := by simp [cell, cellF, h]
theorem cell_3 {ac : Nat → ClassId} {lay : Nat → Nat} {w : St} {r : Nat} (h : kd r = 3) : cell ac lay w r = .inr (3, [.ref (lay (r + 1)), .ref (lay (r + 2)), .ref (lay (r + 3)), .ref (lay (r + 4)), .ref (lay (r + 5)), .ref (lay (r + 6)), .int (w.1 r 6)]) := by simp [cell, cellF, h]
theorem cell_4 {ac : Nat → ClassId} {lay : Nat → Nat} {w : St} {r : Nat} (h : kd r = 4) : cell ac lay w r = .inr (4, [.ref (lay (r + 1)), .int (w.1 r 1)]) := by simp [cell, cellF, h]
theorem cell_5 {ac : Nat → ClassId} {lay : Nat → Nat} {w : St} {r : Nat} (h : kd r = 5) : cell ac lay w r = .inr (5, [.ref (lay (r + 1)), .int (w.1 r 1), .ref (lay (r + 2)), .ref (lay (r + 3))]) := by simp [cell, cellF, h]
theorem cell_6 {ac : Nat → ClassId} {lay : Nat → Nat} {w : St} {r : Nat} (h : kd r = 6) : cell ac lay w r = .inr (6, [.int (w.1 r 0), .int (w.1 r 1), .int (w.1 r 2), .int (w.1 r 3), .int (w.1 r 4), .int (w.1 r 5)]) := by simp [cell, cellF, h]
theorem cell_7 {ac : Nat → ClassId} {lay : Nat → Nat} {w : St} {r : Nat} (h : kd r = 7) : cell ac lay w r = .inr (7, [.ref (lay 1), .int (w.1 r 1), .int (w.1 r 2), .int (w.1 r 3), .int (w.1 r 4), .ref (lay 2), .ref (lay 106), .ref (lay 210), .ref (lay 217)]) := by simp [cell, cellF, h]
theorem cell_8 {ac : Nat → ClassId} {lay : Nat → Nat} {w : St} {r : Nat} (h : kd r = 8) : cell ac lay w r = .inr (8, modelFs (w.1 r) lay) := by simp [cell, cellF, h]
theorem cell_10 {ac : Nat → ClassId} {lay : Nat → Nat} {w : St} {r : Nat} (h : kd r = 10) : cell ac lay w r = .inl (ac 0, ln r, .inl (w.1 r)) := by simp [cell, cellF, h]
theorem cell_11 {ac : Nat → ClassId} {lay : Nat → Nat} {w : St} {r : Nat} (h : kd r = 11) : cell ac lay w r = .inl (ac 1, ln r, .inl (w.1 r)) := by simp [cell, cellF, h]
theorem cell_12 {ac : Nat → ClassId} {lay : Nat → Nat} {w : St} {r : Nat} (h : kd r = 12) : cell ac lay w r = .inl (ac 2, 400, .inr (.inr (.inr (.inr (fun j => if j < w.2.1 then some (w.2.2.2 j) else none))))) := by simp [cell, cellF, h]
theorem cell_13 {ac : Nat → ClassId} {lay : Nat → Nat} {w : St} {r : Nat} (h : kd r = 13) : cell ac lay w r = .inl (ac 3, 6, .inr (.inr (.inr (.inr (fun j => some (lay (r + 1 + 17 * j))))))) := by simp [cell, cellF, h]
theorem cell_14 {ac : Nat → ClassId} {lay : Nat → Nat} {w : St} {r : Nat} (h : kd r = 14) : cell ac lay w r = .inl (ac 4, 12, .inr (.inr (.inr (.inr (fun j => some (lay (r + 4 + j))))))) := by simp [cell, cellF, h]
section ROWS2
variable {X : Cx} {cc : ByteArray} {own : String} {nL d k n pc : Nat} {ls ls' : List (Option Value)} {st : List Value} {w : St}
theorem a_get {r a ci j idx N : Nat} {v : Value} {ref C : String} {fs : List Value} {T : u_T} (hX : Kx X cc own nL d) (hr : r < 248 + w.2.2.1) (ha : adr (xlay X) w r = a) (hc : cell (xac X) (xlay X) w r = .inr (ci, fs)) (hcl : vwCl[ci]? = some (C, T, N)) (hin : ∀ q ∈ u_ws C T N, q ∈ wU) (hj : j < N) (hl : Cond.fieldLink own idx ref (T j).2.1 (T j).2.2.1 ∈ wU) (hs : ref = (T j).1) (hv : fs[j]? = some v) (hd : decode cc pc = .ok (.getfield idx, 3)) (kk : A X k n (pc + 3) ls (v :: st) w) : A X k n pc ls (.ref a :: st) w := by
  subst ha; subst hs
  intro H locs arr hW hS hL hk
  exact va_get hX.1 hX.2.1 hX.2.2.2.2.1 hin hX.2.2.2.1 hX.2.2.2.2.2.1 hW.1 r ((wl_get hr).trans (by rw [hc])) hcl j hj (hX.2.2.2.2.1 _ hl) (fun _ h9 => h9) hv hd (kk H locs arr hW hS hL hk)
theorem a_put {r a ci j idx N : Nat} {v : Int32} {ref C : String} {fs : List Value} {T : u_T} (ty0 : Nat → FieldType) (hX : Kx X cc own nL d) (hr : r < 248 + w.2.2.1) (ha : adr (xlay X) w r = a) (hc : cell (xac X) (xlay X) w r = .inr (ci, fs)) (hcl : vwCl[ci]? = some (C, T, N)) (hin : ∀ q ∈ u_ws C T N, q ∈ wU) (hty : ∀ k, k < N → parseFieldDescriptor (T k).2.2.1 = some (ty0 k)) (hnm : ∀ a, a < N → ∀ b, b < N → a ≠ b → (T a).2.1 ≠ (T b).2.1) (hj : j < N) (hl : Cond.fieldLink own idx ref (T j).2.1 (T j).2.2.1 ∈ wU) (hs : ref = (T j).1) (hfin : (T j).2.2.2 = false) (hI : parseFieldDescriptor (T j).2.2.1 = some .int) (hlen : j < fs.length) (he : (.inr (ci, fs.set j (.int v)) : va_E) = cellF (xac X) (xlay X) w.2 (upd (w.1 r) j v) r) (hd : decode cc pc = .ok (.putfield idx, 3)) (kk : A X k n (pc + 3) ls st (wset w r j v)) : A X k n pc ls (.int v :: .ref a :: st) w := by
  subst ha; subst hs
  intro H locs arr hW hS hL hk
  refine va_put (ty := .int) (v := .int v) hX.1 hX.2.1 hX.2.2.2.2.1 hin ty0 hty hnm hX.2.2.2.1 hX.2.2.2.2.2.1 hW.1 hW.2 hS r ((wl_get hr).trans (by rw [hc])) hcl j hj (hX.2.2.2.2.1 _ hl) (fun _ h9 => h9) hfin hI rfl rfl hlen hd (fun H1 locs1 hP hD hS1 => ?_)
  rw [wl_set (v := v) (j := j) he] at hP hD
  exact kk H1 locs1 arr ⟨hP, hD⟩ hS1 hL hk
theorem nI_cl {j : Nat} {r : Nat} (h : j < ln r) : (nI j).toNatClampNeg = j := nI_clamp (Nat.lt_trans h (ln_lt r))
theorem a_iald {r : Nat} {i : Int32} (j : Nat) (hX : Kx X cc own nL d) (hk0 : kd r = 10) (hi : i = nI j) (hj : j < ln r) (hd : decode cc pc = .ok (.iaload, 1)) (kk : A X k n (pc + 1) ls (.int (w.1 r j) :: st) w) : A X k n pc ls (.int i :: .ref (xlay X r) :: st) w := by
  subst hi
  intro H locs arr hW hS hL hk
  have hr : r < 248 + w.2.2.1 := Nat.lt_of_lt_of_le (kd_lt hk0 (by decide)) (Nat.le_add_right _ _)
  have e := wl_get (ac := xac X) (lay := xlay X) hr
  rw [adr_lt (kd_lt hk0 (by decide)), cell_10 hk0] at e
  refine va_iald hX.1 hX.2.1 hX.2.2.2.2.2.1 hW.1 r 0 e rfl (vp_in_nI hj (ln_lt r)) hd ?_
  rw [nI_cl hj]
  exact kk H locs arr hW hS hL hk
theorem a_zald {r : Nat} {i : Int32} (j : Nat) (hX : Kx X cc own nL d) (hk0 : kd r = 11) (hi : i = nI j) (hj : j < ln r) (hd : decode cc pc = .ok (.baload, 1)) (kk : A X k n (pc + 1) ls (.int (w.1 r j) :: st) w) : A X k n pc ls (.int i :: .ref (xlay X r) :: st) w := by
  subst hi
  intro H locs arr hW hS hL hk
  have hr : r < 248 + w.2.2.1 := Nat.lt_of_lt_of_le (kd_lt hk0 (by decide)) (Nat.le_add_right _ _)
  have e := wl_get (ac := xac X) (lay := xlay X) hr
  rw [adr_lt (kd_lt hk0 (by decide)), cell_11 hk0] at e
  refine va_zald hX.1 hX.2.1 hX.2.2.2.2.2.1 hW.1 r 1 e rfl (vp_in_nI hj (ln_lt r)) hd ?_
  rw [nI_cl hj]
  exact kk H locs arr hW hS hL hk
theorem a_iast {r : Nat} {i v : Int32} (j : Nat) (hX : Kx X cc own nL d) (hk0 : kd r = 10) (hi : i = nI j) (hj : j < ln r) (hd : decode cc pc = .ok (.iastore, 1)) (kk : A X k n (pc + 1) ls st (wset w r j v)) : A X k n pc ls (.int v :: .int i :: .ref (xlay X r) :: st) w := by
  subst hi
  intro H locs arr hW hS hL hk
  have hr : r < 248 + w.2.2.1 := Nat.lt_of_lt_of_le (kd_lt hk0 (by decide)) (Nat.le_add_right _ _)
  have e := wl_get (ac := xac X) (lay := xlay X) hr
  have ea : adr (xlay X) w r = xlay X r := adr_lt (kd_lt hk0 (by decide))
  rw [ea, cell_10 hk0] at e
  refine va_iast hX.1 hX.2.1 hX.2.2.2.2.2.1 hW.1 hW.2 hS r 0 e rfl (vp_in_nI hj (ln_lt r)) hd (fun H1 locs1 hP hD hS1 => ?_)
  rw [nI_cl hj, ← ea, wl_set (v := v) (j := j) (by simp [cellF, hk0])] at hP hD
  exact kk H1 locs1 arr ⟨hP, hD⟩ hS1 hL hk
theorem a_zast {r : Nat} {i v : Int32} (j : Nat) (hX : Kx X cc own nL d) (hk0 : kd r = 11) (hi : i = nI j) (hj : j < ln r) (hv : vp_nar .boolean v = v) (hd : decode cc pc = .ok (.bastore, 1)) (kk : A X k n (pc + 1) ls st (wset w r j v)) : A X k n pc ls (.int v :: .int i :: .ref (xlay X r) :: st) w := by
  subst hi
  intro H locs arr hW hS hL hk
  have hr : r < 248 + w.2.2.1 := Nat.lt_of_lt_of_le (kd_lt hk0 (by decide)) (Nat.le_add_right _ _)
  have e := wl_get (ac := xac X) (lay := xlay X) hr
  have ea : adr (xlay X) w r = xlay X r := adr_lt (kd_lt hk0 (by decide))
  rw [ea, cell_11 hk0] at e
  refine va_zast hX.1 hX.2.1 hX.2.2.2.2.2.1 hW.1 hW.2 hS r 1 e rfl (vp_in_nI hj (ln_lt r)) hd (fun H1 locs1 hP hD hS1 => ?_)
  rw [hv, nI_cl hj, ← ea, wl_set (v := v) (j := j) (by simp [cellF, hk0])] at hP hD
  exact kk H1 locs1 arr ⟨hP, hD⟩ hS1 hL hk
theorem a_ilen {r : Nat} (hX : Kx X cc own nL d) (hk0 : kd r = 10) (hd : decode cc pc = .ok (.arraylength, 1)) (kk : A X k n (pc + 1) ls (.int (nI (ln r)) :: st) w) : A X k n pc ls (.ref (xlay X r) :: st) w := by
  intro H locs arr hW hS hL hk
  have hr : r < 248 + w.2.2.1 := Nat.lt_of_lt_of_le (kd_lt hk0 (by decide)) (Nat.le_add_right _ _)
  have e := wl_get (ac := xac X) (lay := xlay X) hr
  rw [adr_lt (kd_lt hk0 (by decide)), cell_10 hk0] at e
  exact va_alen hX.1 hX.2.1 hX.2.2.2.2.2.1 hW.1 r 0 e (ty := .int) rfl rfl hd (kk H locs arr hW hS hL hk)
theorem a_llen (hX : Kx X cc own nL d) (hd : decode cc pc = .ok (.arraylength, 1)) (kk : A X k n (pc + 1) ls (.int 400 :: st) w) : A X k n pc ls (.ref (xlay X 1) :: st) w := by
  intro H locs arr hW hS hL hk
  have hr : 1 < 248 + w.2.2.1 := by omega
  have e := wl_get (ac := xac X) (lay := xlay X) hr
  rw [adr_lt (by decide), cell_12 rfl] at e
  exact va_alen hX.1 hX.2.1 hX.2.2.2.2.2.1 hW.1 1 2 e (ty := .object "TermReckoner$Entry") rfl rfl hd (kk H locs arr hW hS hL hk)
theorem a_ald_log {i : Int32} (j : Nat) (hX : Kx X cc own nL d) (hi : i = nI j) (hj : j < 400) (hn : j < w.2.1) (hd : decode cc pc = .ok (.aaload, 1)) (kk : A X k n (pc + 1) ls (.ref (w.2.2.2 j) :: st) w) : A X k n pc ls (.int i :: .ref (xlay X 1) :: st) w := by
  subst hi
  intro H locs arr hW hS hL hk
  have hr : 1 < 248 + w.2.2.1 := by omega
  have e := wl_get (ac := xac X) (lay := xlay X) hr
  rw [adr_lt (by decide), cell_12 rfl] at e
  refine va_aldq hX.1 hX.2.1 hX.2.2.2.2.2.1 hW.1 1 2 e (C := "TermReckoner$Entry") rfl (vp_in_nI hj (by decide)) hd ?_
  rw [nI_clamp (by omega), if_pos hn]
  exact kk H locs arr hW hS hL hk
theorem a_ald_files {i : Int32} {r : Nat} (j : Nat) (hX : Kx X cc own nL d) (hk0 : kd r = 13) (hi : i = nI j) (hj : j < 6) (hd : decode cc pc = .ok (.aaload, 1)) (kk : A X k n (pc + 1) ls (.ref (xlay X (r + 1 + 17 * j)) :: st) w) : A X k n pc ls (.int i :: .ref (xlay X r) :: st) w := by
  subst hi
  intro H locs arr hW hS hL hk
  have hr : r < 248 + w.2.2.1 := Nat.lt_of_lt_of_le (kd_lt hk0 (by decide)) (Nat.le_add_right _ _)
  have e := wl_get (ac := xac X) (lay := xlay X) hr
  rw [adr_lt (kd_lt hk0 (by decide)), cell_13 hk0] at e
  refine va_aldq hX.1 hX.2.1 hX.2.2.2.2.2.1 hW.1 r 3 e (C := "TermReckoner$File") rfl (vp_in_nI hj (by decide)) hd ?_
  rw [nI_clamp (by omega)]
  exact kk H locs arr hW hS hL hk
theorem a_ald_places {i : Int32} {r : Nat} (j : Nat) (hX : Kx X cc own nL d) (hk0 : kd r = 14) (hi : i = nI j) (hj : j < 12) (hd : decode cc pc = .ok (.aaload, 1)) (kk : A X k n (pc + 1) ls (.ref (xlay X (r + 4 + j)) :: st) w) : A X k n pc ls (.int i :: .ref (xlay X r) :: st) w := by
  subst hi
  intro H locs arr hW hS hL hk
  have hr : r < 248 + w.2.2.1 := Nat.lt_of_lt_of_le (kd_lt hk0 (by decide)) (Nat.le_add_right _ _)
  have e := wl_get (ac := xac X) (lay := xlay X) hr
  rw [adr_lt (kd_lt hk0 (by decide)), cell_14 hk0] at e
  refine va_aldq hX.1 hX.2.1 hX.2.2.2.2.2.1 hW.1 r 4 e (C := "TermReckoner$Place") rfl (vp_in_nI hj (by decide)) hd ?_
  rw [nI_clamp (by omega)]
  exact kk H locs arr hW hS hL hk
/-- calls -/
def MI (y : MethodName) (cc : ByteArray) (nL : Nat) (ret : Option FieldType) (np : Nat) : Prop := Cond.code y cc nL ret ∈ wU ∧ Cond.initialized y.cls ∈ wU ∧ (y.cls ≠ "java/lang/invoke/MethodHandle" ∧ y.cls ≠ "java/lang/invoke/VarHandle") ∧ (parseMethodDescriptor y.desc).map (fun d => d.parameters.length) = some np ∧ nL ≤ 21
theorem MI.len {y : MethodName} {cc : ByteArray} {nL np : Nat} {ret : Option FieldType} (h : MI y cc nL ret np) : ∀ sig, parseMethodDescriptor y.desc = some sig → np = sig.parameters.length := by
  intro sig hs
  have h2 := h.2.2.2.1
  rw [hs] at h2
  exact (Option.some.inj h2).symm
theorem a_pay {T : Tr} {y : MethodName} {bytes : ByteArray} {maxL d' mc ms np : Nat} {ret : Option FieldType} (hX : Kx X cc own nL d) (mi : MI y bytes maxL ret np) : ∀ q ∈ (Cond.code y bytes maxL ret :: wU), ∀ (a' : Array Value) (U : State), (xs X).WarmedH U.vm → q.before a' U = true := by
  refine pay_in (big := wU) (args := xa X) hX.2.2.2.2.1 (fun q hq => ?_)
  have hq : q ∈ wU := by
    rcases List.mem_cons.mp hq with rfl | h
    · exact mi.1
    · exact h
  exact ⟨hq, good_of_word (List.mem_filter.mp hq).2⟩
theorem a_callB {y : MethodName} {bytes : ByteArray} {maxL d' mc ms np idx : Nat} {ret : Option FieldType} (hX : Kx X cc own nL d) (mi : MI y bytes maxL ret np) (hl : Cond.methodLink own idx y ∈ wU) (hd : d' < d) : CallB (xR X) (xs X) (xa X) own idx y bytes maxL ret (.code y bytes maxL ret :: wU) { frames := d', cells := mc, slots := ms, locals := 40 * d' } mc ms np := by
  have h1 := hX.2.2.2.2.2.2.2.1
  have h2 := hX.2.2.2.2.2.2.2.2
  have h3 := mi.2.2.2.2
  exact ⟨rfl, rfl, by show d' + 1 ≤ _; omega, by show 8 + (maxL + 11) + 40 * d' ≤ _; omega, a_pay (T := fun _ _ _ _ => True) (d' := 0) (mc := 0) (ms := 0) hX mi, List.mem_cons_self, hX.2.2.2.2.1 _ mi.1, hX.2.2.2.2.1 _ mi.2.1, mi.2.2.1, mi.len, hX.2.2.2.2.1 _ hl⟩
theorem a_callN {y : MethodName} {bytes : ByteArray} {maxL d' mc ms np idx : Nat} {host : String} {ret : Option FieldType} (hX : Kx X cc own nL d) (mi : MI y bytes maxL ret np) (hl : Cond.methodLinkNest own idx y host ∈ nwl) (hd : d' < d) : va_CN (xR X) (xs X) (xa X) own idx y host bytes maxL ret (.code y bytes maxL ret :: wU) { frames := d', cells := mc, slots := ms, locals := 40 * d' } mc ms np := by
  have h1 := hX.2.2.2.2.2.2.2.1
  have h2 := hX.2.2.2.2.2.2.2.2
  have h3 := mi.2.2.2.2
  exact ⟨⟨rfl, rfl, by show d' + 1 ≤ _; omega, by show 8 + (maxL + 11) + 40 * d' ≤ _; omega, a_pay (T := fun _ _ _ _ => True) (d' := 0) (mc := 0) (ms := 0) hX mi, List.mem_cons_self⟩, hX.2.2.2.2.1 _ mi.1, hX.2.2.2.2.1 _ mi.2.1, mi.2.2.1, mi.len, va_Nw.use rfl (hX.2.2.2.2.2.2.1 _ hl)⟩
theorem a_cont {mc ms : Nat} {st0 : List Value} {H : Heap} {locs : List Loc} {arr : Array Slot} {av : Array Value} {Po : Option Value → St → Prop}
    (hr : va_Run (xp X) (xl X) (xe X) (xR X) (xs X) (xm X) (xa X) (xb X) (xmt X) (xc X) H locs k n mc ms (F0 (xm X) pc arr st0) st (QcA (xD X) (xac X) (xbs X) (xlay X) Po av) (fun q => xbs X ≤ q)) (hS : va_S (fun q => xbs X ≤ q) (xs X).heap H locs) (hL : Lv arr ls) (hk : k + mc ≤ (xR X).cells ∧ n + ms ≤ (xR X).slots)
    (kk : ∀ (r : Option Value) (w' : St), Po r w' → A X (k + mc) (n + ms) (pc + 3) ls (r.toList ++ st) w') : W (xp X) (xl X) (xe X) (xR X) (xs X) (xm X) (xa X) (xb X) (xmt X) (xc X) H locs k n (xQ X) (F0 (xm X) pc arr st0) := by
  intro T hT Y
  obtain ⟨v, st₀, t, T', L, h0, Y', hL', e1, e2, ⟨⟨r, w', hv, hPo, hWd⟩, hz, hkeep⟩, stp⟩ := hr T hT Y
  cases hv
  rw [h0] at hz hkeep
  have hS' : va_S (fun q => xbs X ≤ q) (xs X).heap T'.heap (locs ++ L) := by
    refine ⟨Nat.le_trans hS.1 (by rw [e1]; exact hz), fun q h1 h2 => by rw [e1, hkeep q (Nat.lt_of_lt_of_le h1 hS.1) h2]; exact hS.2.1 q h1 h2, fun q hq => ?_⟩
    rcases List.mem_append.mp hq with h | h
    · exact hS.2.2 q h
    · exact hL' q h
  obtain ⟨t2, a1, b1⟩ := kk _ _ hPo T'.heap (locs ++ L) arr (by rw [e1]; exact hWd) hS' hL hk T' rfl Y'
  exact ⟨t2, stp t2 a1, b1⟩
theorem a_preS {H : Heap} {av : List Value} (hX : Kx X cc own nL d) (hW : Wd (xD X) (xac X) (xbs X) (xlay X) w H) : PreS (xs X) H (PcA (xD X) (xac X) (xbs X) (xlay X) av w) av :=
  ⟨blindA, fun U hU hWm => ⟨rfl, by rw [hU]; exact hW, va_K.moved hWm.alike hX.2.2.2.2.2.1, NW.warm hWm hX.2.2.2.2.2.2.1⟩⟩
theorem a_callS {T : Tr} {y : MethodName} {bytes : ByteArray} {maxL d' mc ms np idx : Nat} {ret : Option FieldType} (As : List Value) (hX : Kx X cc own nL d) (hct : Ct y bytes maxL ret d' mc ms T) (mi : MI y bytes maxL ret np) (hst : Cond.static y ∈ wU) (hl : Cond.methodLink own idx y ∈ wU) (hdd : d' < d) (hnp : As.length = np) (hls : ls.length = nL) (hsm : (st.map fun v => v.category).sum ≤ 8) (hcs : k ≤ (xR X).cells ∧ n ≤ (xR X).slots → k + mc ≤ (xR X).cells ∧ n + ms ≤ (xR X).slots) (hd : decode cc pc = .ok (.invokestatic idx, 3))
    (hT : T (xlay X) As w (fun r w' => A X (k + mc) (n + ms) (pc + 3) ls (r.toList ++ st) w')) : A X k n pc ls (As.reverse ++ st) w := by
  intro H locs arr hW hS hL hk
  have hM := hct (xl X) (xD X) (xac X) (xbs X) (xlay X) As w _ hT
  exact a_cont (va_runS ⟨hX.1, hX.2.1, hX.2.2.1, hX.2.2.2.1, hX.2.2.2.2.1⟩ hM ⟨a_callB hX mi hl hdd, hX.2.2.2.2.1 _ hst⟩ (a_preS hX hW) rfl hnp (by rw [← hls]; exact hL.1.1) rfl (lv_room hsm) hd (hcs hk)) hS hL (hcs hk) (fun r w' h => h)
theorem a_callSN {T : Tr} {y : MethodName} {bytes : ByteArray} {maxL d' mc ms np idx : Nat} {host : String} {ret : Option FieldType} (As : List Value) (hX : Kx X cc own nL d) (hct : Ct y bytes maxL ret d' mc ms T) (mi : MI y bytes maxL ret np) (hst : Cond.static y ∈ wU) (hl : Cond.methodLinkNest own idx y host ∈ nwl) (hdd : d' < d) (hnp : As.length = np) (hls : ls.length = nL) (hsm : (st.map fun v => v.category).sum ≤ 8) (hcs : k ≤ (xR X).cells ∧ n ≤ (xR X).slots → k + mc ≤ (xR X).cells ∧ n + ms ≤ (xR X).slots) (hd : decode cc pc = .ok (.invokestatic idx, 3))
    (hT : T (xlay X) As w (fun r w' => A X (k + mc) (n + ms) (pc + 3) ls (r.toList ++ st) w')) : A X k n pc ls (As.reverse ++ st) w := by
  intro H locs arr hW hS hL hk
  have hM := hct (xl X) (xD X) (xac X) (xbs X) (xlay X) As w _ hT
  exact a_cont (va_runSN ⟨hX.1, hX.2.1, hX.2.2.1, hX.2.2.2.1, hX.2.2.2.2.1⟩ hM ⟨a_callN hX mi hl hdd, hX.2.2.2.2.1 _ hst, trivial⟩ (a_preS hX hW) rfl hnp (by rw [← hls]; exact hL.1.1) rfl (lv_room hsm) hd (hcs hk)) hS hL (hcs hk) (fun r w' h => h)
theorem a_preV {H : Heap} {b ci r N : Nat} {C : String} {TT : u_T} {fs av : List Value} (hX : Kx X cc own nL d) (hW : Wd (xD X) (xac X) (xbs X) (xlay X) w H) (hr : r < 248 + w.2.2.1) (ha : adr (xlay X) w r = b) (hc : cell (xac X) (xlay X) w r = .inr (ci, fs)) (hcl : vwCl[ci]? = some (C, TT, N)) : PreV (xs X) H C b (PcA (xD X) (xac X) (xbs X) (xlay X) (.ref b :: av) w) av := by
  refine ⟨blindA, ?_, (a_preS hX hW).2⟩
  exact va_recv (q := (C, TT, N)) hX.2.2.2.2.2.1 hW.1 hcl ((wl_get hr).trans (by rw [hc, ha]))
theorem a_callV {T : Tr} {y : MethodName} {bytes : ByteArray} {maxL d' mc ms np idx b ci r N : Nat} {C : String} {TT : u_T} {fs : List Value} {ret : Option FieldType} (As : List Value) (hX : Kx X cc own nL d) (hct : Ct y bytes maxL ret d' mc ms T) (mi : MI y bytes maxL ret np) (hin : Cond.instanceMethod y ∈ wU) (hse : Cond.selects C y y ∈ wU) (hr : r < 248 + w.2.2.1) (ha : adr (xlay X) w r = b) (hc : cell (xac X) (xlay X) w r = .inr (ci, fs)) (hcl : vwCl[ci]? = some (C, TT, N)) (hl : Cond.methodLink own idx y ∈ wU) (hdd : d' < d) (hnp : As.length = np) (hls : ls.length = nL) (hsm : (st.map fun v => v.category).sum ≤ 8) (hcs : k ≤ (xR X).cells ∧ n ≤ (xR X).slots → k + mc ≤ (xR X).cells ∧ n + ms ≤ (xR X).slots) (hd : decode cc pc = .ok (.invokevirtual idx, 3))
    (hT : T (xlay X) (.ref b :: As) w (fun r w' => A X (k + mc) (n + ms) (pc + 3) ls (r.toList ++ st) w')) : A X k n pc ls (As.reverse ++ .ref b :: st) w := by
  intro H locs arr hW hS hL hk
  have hM := hct (xl X) (xD X) (xac X) (xbs X) (xlay X) (.ref b :: As) w _ hT
  exact a_cont (va_runV (C := C) ⟨hX.1, hX.2.1, hX.2.2.1, hX.2.2.2.1, hX.2.2.2.2.1⟩ hM ⟨a_callB hX mi hl hdd, hX.2.2.2.2.1 _ hin, hX.2.2.2.2.1 _ hse⟩ (a_preV hX hW hr ha hc hcl) rfl hnp (by rw [← hls]; exact hL.1.1) rfl (lv_room hsm) hd (hcs hk)) hS hL (hcs hk) (fun r w' h => h)
end ROWS2
end
section
theorem klt {r c : Nat} {w : St} (h : kd r = c) (hc : c ≠ 0) : r < 248 + w.2.2.1 := Nat.lt_of_lt_of_le (kd_lt h hc) (Nat.le_add_right _ _)
theorem kd_ge (i : Nat) : kd (248 + i) = 0 := by
  unfold kd
  repeat (first | rw [if_neg (by omega)] | rfl)
theorem layin {C : String} {T : u_T} {N : Nat} (h : ∀ k, k < N → u_lay C T k ∈ wU) : ∀ q ∈ u_ws C T N, q ∈ wU := by
  intro q hq
  obtain ⟨k, hk, rfl⟩ := List.mem_map.mp hq
  exact h k (List.mem_range.mp hk)
theorem ly_X0_0 : u_lay RX0 TX0 0 ∈ wU := mw (i := 337) (by decide +kernel) (by decide +kernel)
theorem ly_X0_1 : u_lay RX0 TX0 1 ∈ wU := mw (i := 339) (by decide +kernel) (by decide +kernel)
theorem ly_X0_2 : u_lay RX0 TX0 2 ∈ wU := mw (i := 341) (by decide +kernel) (by decide +kernel)
theorem ly_X0_3 : u_lay RX0 TX0 3 ∈ wU := mw (i := 343) (by decide +kernel) (by decide +kernel)
theorem ly_X0_4 : u_lay RX0 TX0 4 ∈ wU := mw (i := 345) (by decide +kernel) (by decide +kernel)
theorem ly_X0_5 : u_lay RX0 TX0 5 ∈ wU := mw (i := 347) (by decide +kernel) (by decide +kernel)
theorem ly_X0_6 : u_lay RX0 TX0 6 ∈ wU := mw (i := 349) (by decide +kernel) (by decide +kernel)
theorem ly_X0_7 : u_lay RX0 TX0 7 ∈ wU := mw (i := 351) (by decide +kernel) (by decide +kernel)
theorem ly_X0_8 : u_lay RX0 TX0 8 ∈ wU := mw (i := 353) (by decide +kernel) (by decide +kernel)
theorem inU_X0 : ∀ q ∈ u_ws RX0 TX0 9, q ∈ wU := layin (fun k hk => match k, hk with
  | 0, _ => ly_X0_0
  | 1, _ => ly_X0_1
  | 2, _ => ly_X0_2
  | 3, _ => ly_X0_3
  | 4, _ => ly_X0_4
  | 5, _ => ly_X0_5
  | 6, _ => ly_X0_6
  | 7, _ => ly_X0_7
  | 8, _ => ly_X0_8
  | k + 9, hk => absurd hk (by omega))
theorem ly_X1_0 : u_lay RX1 TX1 0 ∈ wU := mw (i := 145) (by decide +kernel) (by decide +kernel)
theorem ly_X1_1 : u_lay RX1 TX1 1 ∈ wU := mw (i := 147) (by decide +kernel) (by decide +kernel)
theorem ly_X1_2 : u_lay RX1 TX1 2 ∈ wU := mw (i := 149) (by decide +kernel) (by decide +kernel)
theorem ly_X1_3 : u_lay RX1 TX1 3 ∈ wU := mw (i := 151) (by decide +kernel) (by decide +kernel)
theorem ly_X1_4 : u_lay RX1 TX1 4 ∈ wU := mw (i := 153) (by decide +kernel) (by decide +kernel)
theorem inU_X1 : ∀ q ∈ u_ws RX1 TX1 5, q ∈ wU := layin (fun k hk => match k, hk with
  | 0, _ => ly_X1_0
  | 1, _ => ly_X1_1
  | 2, _ => ly_X1_2
  | 3, _ => ly_X1_3
  | 4, _ => ly_X1_4
  | k + 5, hk => absurd hk (by omega))
theorem ly_X2_0 : u_lay RX2 TX2 0 ∈ wU := mw (i := 118) (by decide +kernel) (by decide +kernel)
theorem ly_X2_1 : u_lay RX2 TX2 1 ∈ wU := mw (i := 120) (by decide +kernel) (by decide +kernel)
theorem ly_X2_2 : u_lay RX2 TX2 2 ∈ wU := mw (i := 122) (by decide +kernel) (by decide +kernel)
theorem ly_X2_3 : u_lay RX2 TX2 3 ∈ wU := mw (i := 124) (by decide +kernel) (by decide +kernel)
theorem ly_X2_4 : u_lay RX2 TX2 4 ∈ wU := mw (i := 126) (by decide +kernel) (by decide +kernel)
theorem ly_X2_5 : u_lay RX2 TX2 5 ∈ wU := mw (i := 128) (by decide +kernel) (by decide +kernel)
theorem ly_X2_6 : u_lay RX2 TX2 6 ∈ wU := mw (i := 130) (by decide +kernel) (by decide +kernel)
theorem ly_X2_7 : u_lay RX2 TX2 7 ∈ wU := mw (i := 132) (by decide +kernel) (by decide +kernel)
theorem ly_X2_8 : u_lay RX2 TX2 8 ∈ wU := mw (i := 134) (by decide +kernel) (by decide +kernel)
theorem inU_X2 : ∀ q ∈ u_ws RX2 TX2 9, q ∈ wU := layin (fun k hk => match k, hk with
  | 0, _ => ly_X2_0
  | 1, _ => ly_X2_1
  | 2, _ => ly_X2_2
  | 3, _ => ly_X2_3
  | 4, _ => ly_X2_4
  | 5, _ => ly_X2_5
  | 6, _ => ly_X2_6
  | 7, _ => ly_X2_7
  | 8, _ => ly_X2_8
  | k + 9, hk => absurd hk (by omega))
theorem ly_X3_0 : u_lay RX3 TX3 0 ∈ wU := mw (i := 201) (by decide +kernel) (by decide +kernel)
theorem ly_X3_1 : u_lay RX3 TX3 1 ∈ wU := mw (i := 203) (by decide +kernel) (by decide +kernel)
theorem ly_X3_2 : u_lay RX3 TX3 2 ∈ wU := mw (i := 205) (by decide +kernel) (by decide +kernel)
theorem ly_X3_3 : u_lay RX3 TX3 3 ∈ wU := mw (i := 207) (by decide +kernel) (by decide +kernel)
theorem ly_X3_4 : u_lay RX3 TX3 4 ∈ wU := mw (i := 209) (by decide +kernel) (by decide +kernel)
theorem ly_X3_5 : u_lay RX3 TX3 5 ∈ wU := mw (i := 211) (by decide +kernel) (by decide +kernel)
theorem ly_X3_6 : u_lay RX3 TX3 6 ∈ wU := mw (i := 213) (by decide +kernel) (by decide +kernel)
theorem inU_X3 : ∀ q ∈ u_ws RX3 TX3 7, q ∈ wU := layin (fun k hk => match k, hk with
  | 0, _ => ly_X3_0
  | 1, _ => ly_X3_1
  | 2, _ => ly_X3_2
  | 3, _ => ly_X3_3
  | 4, _ => ly_X3_4
  | 5, _ => ly_X3_5
  | 6, _ => ly_X3_6
  | k + 7, hk => absurd hk (by omega))
theorem ly_X4_0 : u_lay RX4 TX4 0 ∈ wU := mw (i := 158) (by decide +kernel) (by decide +kernel)
theorem ly_X4_1 : u_lay RX4 TX4 1 ∈ wU := mw (i := 160) (by decide +kernel) (by decide +kernel)
theorem inU_X4 : ∀ q ∈ u_ws RX4 TX4 2, q ∈ wU := layin (fun k hk => match k, hk with
  | 0, _ => ly_X4_0
  | 1, _ => ly_X4_1
  | k + 2, hk => absurd hk (by omega))
theorem ly_X5_0 : u_lay RX5 TX5 0 ∈ wU := mw (i := 226) (by decide +kernel) (by decide +kernel)
theorem ly_X5_1 : u_lay RX5 TX5 1 ∈ wU := mw (i := 228) (by decide +kernel) (by decide +kernel)
theorem ly_X5_2 : u_lay RX5 TX5 2 ∈ wU := mw (i := 230) (by decide +kernel) (by decide +kernel)
theorem ly_X5_3 : u_lay RX5 TX5 3 ∈ wU := mw (i := 232) (by decide +kernel) (by decide +kernel)
theorem inU_X5 : ∀ q ∈ u_ws RX5 TX5 4, q ∈ wU := layin (fun k hk => match k, hk with
  | 0, _ => ly_X5_0
  | 1, _ => ly_X5_1
  | 2, _ => ly_X5_2
  | 3, _ => ly_X5_3
  | k + 4, hk => absurd hk (by omega))
theorem ly_X6_0 : u_lay RX6 TX6 0 ∈ wU := mw (i := 181) (by decide +kernel) (by decide +kernel)
theorem ly_X6_1 : u_lay RX6 TX6 1 ∈ wU := mw (i := 183) (by decide +kernel) (by decide +kernel)
theorem ly_X6_2 : u_lay RX6 TX6 2 ∈ wU := mw (i := 185) (by decide +kernel) (by decide +kernel)
theorem ly_X6_3 : u_lay RX6 TX6 3 ∈ wU := mw (i := 187) (by decide +kernel) (by decide +kernel)
theorem ly_X6_4 : u_lay RX6 TX6 4 ∈ wU := mw (i := 189) (by decide +kernel) (by decide +kernel)
theorem ly_X6_5 : u_lay RX6 TX6 5 ∈ wU := mw (i := 191) (by decide +kernel) (by decide +kernel)
theorem inU_X6 : ∀ q ∈ u_ws RX6 TX6 6, q ∈ wU := layin (fun k hk => match k, hk with
  | 0, _ => ly_X6_0
  | 1, _ => ly_X6_1
  | 2, _ => ly_X6_2
  | 3, _ => ly_X6_3
  | 4, _ => ly_X6_4
  | 5, _ => ly_X6_5
  | k + 6, hk => absurd hk (by omega))
theorem ly_X7_0 : u_lay RX7 TX7 0 ∈ wU := mw (i := 244) (by decide +kernel) (by decide +kernel)
theorem ly_X7_1 : u_lay RX7 TX7 1 ∈ wU := mw (i := 246) (by decide +kernel) (by decide +kernel)
theorem ly_X7_2 : u_lay RX7 TX7 2 ∈ wU := mw (i := 248) (by decide +kernel) (by decide +kernel)
theorem ly_X7_3 : u_lay RX7 TX7 3 ∈ wU := mw (i := 250) (by decide +kernel) (by decide +kernel)
theorem ly_X7_4 : u_lay RX7 TX7 4 ∈ wU := mw (i := 252) (by decide +kernel) (by decide +kernel)
theorem ly_X7_5 : u_lay RX7 TX7 5 ∈ wU := mw (i := 254) (by decide +kernel) (by decide +kernel)
theorem ly_X7_6 : u_lay RX7 TX7 6 ∈ wU := mw (i := 256) (by decide +kernel) (by decide +kernel)
theorem ly_X7_7 : u_lay RX7 TX7 7 ∈ wU := mw (i := 258) (by decide +kernel) (by decide +kernel)
theorem ly_X7_8 : u_lay RX7 TX7 8 ∈ wU := mw (i := 260) (by decide +kernel) (by decide +kernel)
theorem inU_X7 : ∀ q ∈ u_ws RX7 TX7 9, q ∈ wU := layin (fun k hk => match k, hk with
  | 0, _ => ly_X7_0
  | 1, _ => ly_X7_1
  | 2, _ => ly_X7_2
  | 3, _ => ly_X7_3
  | 4, _ => ly_X7_4
  | 5, _ => ly_X7_5
  | 6, _ => ly_X7_6
  | 7, _ => ly_X7_7
  | 8, _ => ly_X7_8
  | k + 9, hk => absurd hk (by omega))
theorem ly_X8_0 : u_lay RX8 TX8 0 ∈ wU := mw (i := 836) (by decide +kernel) (by decide +kernel)
theorem ly_X8_1 : u_lay RX8 TX8 1 ∈ wU := mw (i := 838) (by decide +kernel) (by decide +kernel)
theorem ly_X8_2 : u_lay RX8 TX8 2 ∈ wU := mw (i := 840) (by decide +kernel) (by decide +kernel)
theorem ly_X8_3 : u_lay RX8 TX8 3 ∈ wU := mw (i := 842) (by decide +kernel) (by decide +kernel)
theorem ly_X8_4 : u_lay RX8 TX8 4 ∈ wU := mw (i := 844) (by decide +kernel) (by decide +kernel)
theorem ly_X8_5 : u_lay RX8 TX8 5 ∈ wU := mw (i := 846) (by decide +kernel) (by decide +kernel)
theorem ly_X8_6 : u_lay RX8 TX8 6 ∈ wU := mw (i := 848) (by decide +kernel) (by decide +kernel)
theorem ly_X8_7 : u_lay RX8 TX8 7 ∈ wU := mw (i := 850) (by decide +kernel) (by decide +kernel)
theorem ly_X8_8 : u_lay RX8 TX8 8 ∈ wU := mw (i := 852) (by decide +kernel) (by decide +kernel)
theorem ly_X8_9 : u_lay RX8 TX8 9 ∈ wU := mw (i := 854) (by decide +kernel) (by decide +kernel)
theorem ly_X8_10 : u_lay RX8 TX8 10 ∈ wU := mw (i := 856) (by decide +kernel) (by decide +kernel)
theorem ly_X8_11 : u_lay RX8 TX8 11 ∈ wU := mw (i := 858) (by decide +kernel) (by decide +kernel)
theorem ly_X8_12 : u_lay RX8 TX8 12 ∈ wU := mw (i := 860) (by decide +kernel) (by decide +kernel)
theorem ly_X8_13 : u_lay RX8 TX8 13 ∈ wU := mw (i := 862) (by decide +kernel) (by decide +kernel)
theorem ly_X8_14 : u_lay RX8 TX8 14 ∈ wU := mw (i := 864) (by decide +kernel) (by decide +kernel)
theorem ly_X8_15 : u_lay RX8 TX8 15 ∈ wU := mw (i := 866) (by decide +kernel) (by decide +kernel)
theorem ly_X8_16 : u_lay RX8 TX8 16 ∈ wU := mw (i := 868) (by decide +kernel) (by decide +kernel)
theorem ly_X8_17 : u_lay RX8 TX8 17 ∈ wU := mw (i := 870) (by decide +kernel) (by decide +kernel)
theorem ly_X8_18 : u_lay RX8 TX8 18 ∈ wU := mw (i := 872) (by decide +kernel) (by decide +kernel)
theorem ly_X8_19 : u_lay RX8 TX8 19 ∈ wU := mw (i := 874) (by decide +kernel) (by decide +kernel)
theorem ly_X8_20 : u_lay RX8 TX8 20 ∈ wU := mw (i := 876) (by decide +kernel) (by decide +kernel)
theorem ly_X8_21 : u_lay RX8 TX8 21 ∈ wU := mw (i := 878) (by decide +kernel) (by decide +kernel)
theorem ly_X8_22 : u_lay RX8 TX8 22 ∈ wU := mw (i := 880) (by decide +kernel) (by decide +kernel)
theorem ly_X8_23 : u_lay RX8 TX8 23 ∈ wU := mw (i := 882) (by decide +kernel) (by decide +kernel)
theorem ly_X8_24 : u_lay RX8 TX8 24 ∈ wU := mw (i := 884) (by decide +kernel) (by decide +kernel)
theorem ly_X8_25 : u_lay RX8 TX8 25 ∈ wU := mw (i := 886) (by decide +kernel) (by decide +kernel)
theorem ly_X8_26 : u_lay RX8 TX8 26 ∈ wU := mw (i := 888) (by decide +kernel) (by decide +kernel)
theorem ly_X8_27 : u_lay RX8 TX8 27 ∈ wU := mw (i := 890) (by decide +kernel) (by decide +kernel)
theorem ly_X8_28 : u_lay RX8 TX8 28 ∈ wU := mw (i := 892) (by decide +kernel) (by decide +kernel)
theorem ly_X8_29 : u_lay RX8 TX8 29 ∈ wU := mw (i := 894) (by decide +kernel) (by decide +kernel)
theorem ly_X8_30 : u_lay RX8 TX8 30 ∈ wU := mw (i := 896) (by decide +kernel) (by decide +kernel)
theorem ly_X8_31 : u_lay RX8 TX8 31 ∈ wU := mw (i := 898) (by decide +kernel) (by decide +kernel)
theorem ly_X8_32 : u_lay RX8 TX8 32 ∈ wU := mw (i := 900) (by decide +kernel) (by decide +kernel)
theorem inU_X8 : ∀ q ∈ u_ws RX8 TX8 33, q ∈ wU := layin (fun k hk => match k, hk with
  | 0, _ => ly_X8_0
  | 1, _ => ly_X8_1
  | 2, _ => ly_X8_2
  | 3, _ => ly_X8_3
  | 4, _ => ly_X8_4
  | 5, _ => ly_X8_5
  | 6, _ => ly_X8_6
  | 7, _ => ly_X8_7
  | 8, _ => ly_X8_8
  | 9, _ => ly_X8_9
  | 10, _ => ly_X8_10
  | 11, _ => ly_X8_11
  | 12, _ => ly_X8_12
  | 13, _ => ly_X8_13
  | 14, _ => ly_X8_14
  | 15, _ => ly_X8_15
  | 16, _ => ly_X8_16
  | 17, _ => ly_X8_17
  | 18, _ => ly_X8_18
  | 19, _ => ly_X8_19
  | 20, _ => ly_X8_20
  | 21, _ => ly_X8_21
  | 22, _ => ly_X8_22
  | 23, _ => ly_X8_23
  | 24, _ => ly_X8_24
  | 25, _ => ly_X8_25
  | 26, _ => ly_X8_26
  | 27, _ => ly_X8_27
  | 28, _ => ly_X8_28
  | 29, _ => ly_X8_29
  | 30, _ => ly_X8_30
  | 31, _ => ly_X8_31
  | 32, _ => ly_X8_32
  | k + 33, hk => absurd hk (by omega))
section FIELDS
variable {X : Cx} {cc : ByteArray} {nL d k n pc : Nat} {ls : List (Option Value)} {st : List Value} {w : St}
theorem fl_X0_9 : Cond.fieldLink RX0 9 "TermReckoner$Entry" "c" "I" ∈ wU := mw (i := 322) (by decide +kernel) (by decide +kernel)
theorem gf_X0_9 {i : Nat} (hi : i < w.2.2.1) (hX : Kx X cc RX0 nL d) (hd : decode cc pc = .ok (.getfield 9, 3)) (kk : A X k n (pc + 3) ls (.int (w.1 (248 + i) 4) :: st) w) : A X k n pc ls (.ref (w.2.2.2 i) :: st) w := a_get hX (Nat.add_lt_add_left hi 248) adr_ge (cell_0 (kd_ge i)) rfl inU_X0 (j := 4) (by decide) fl_X0_9 rfl rfl hd kk
theorem pf_X0_9 {v : Int32} {i : Nat} (hi : i < w.2.2.1) (hX : Kx X cc RX0 nL d) (hd : decode cc pc = .ok (.putfield 9, 3)) (kk : A X k n (pc + 3) ls st (wset w (248 + i) 4 v)) : A X k n pc ls (.int v :: .ref (w.2.2.2 i) :: st) w := a_put tyX0 hX (Nat.add_lt_add_left hi 248) adr_ge (cell_0 (kd_ge i)) rfl inU_X0 tyX0_ok nmX0 (j := 4) (by decide) fl_X0_9 rfl rfl rfl (Nat.le_of_ble_eq_true rfl) (by simp [cellF, kd_ge, upd]) hd kk
theorem fl_X0_15 : Cond.fieldLink RX0 15 "TermReckoner$Entry" "d" "I" ∈ wU := mw (i := 325) (by decide +kernel) (by decide +kernel)
theorem gf_X0_15 {i : Nat} (hi : i < w.2.2.1) (hX : Kx X cc RX0 nL d) (hd : decode cc pc = .ok (.getfield 15, 3)) (kk : A X k n (pc + 3) ls (.int (w.1 (248 + i) 5) :: st) w) : A X k n pc ls (.ref (w.2.2.2 i) :: st) w := a_get hX (Nat.add_lt_add_left hi 248) adr_ge (cell_0 (kd_ge i)) rfl inU_X0 (j := 5) (by decide) fl_X0_15 rfl rfl hd kk
theorem pf_X0_15 {v : Int32} {i : Nat} (hi : i < w.2.2.1) (hX : Kx X cc RX0 nL d) (hd : decode cc pc = .ok (.putfield 15, 3)) (kk : A X k n (pc + 3) ls st (wset w (248 + i) 5 v)) : A X k n pc ls (.int v :: .ref (w.2.2.2 i) :: st) w := a_put tyX0 hX (Nat.add_lt_add_left hi 248) adr_ge (cell_0 (kd_ge i)) rfl inU_X0 tyX0_ok nmX0 (j := 5) (by decide) fl_X0_15 rfl rfl rfl (Nat.le_of_ble_eq_true rfl) (by simp [cellF, kd_ge, upd]) hd kk
theorem fl_X0_18 : Cond.fieldLink RX0 18 "TermReckoner$Entry" "e" "I" ∈ wU := mw (i := 328) (by decide +kernel) (by decide +kernel)
theorem gf_X0_18 {i : Nat} (hi : i < w.2.2.1) (hX : Kx X cc RX0 nL d) (hd : decode cc pc = .ok (.getfield 18, 3)) (kk : A X k n (pc + 3) ls (.int (w.1 (248 + i) 6) :: st) w) : A X k n pc ls (.ref (w.2.2.2 i) :: st) w := a_get hX (Nat.add_lt_add_left hi 248) adr_ge (cell_0 (kd_ge i)) rfl inU_X0 (j := 6) (by decide) fl_X0_18 rfl rfl hd kk
theorem pf_X0_18 {v : Int32} {i : Nat} (hi : i < w.2.2.1) (hX : Kx X cc RX0 nL d) (hd : decode cc pc = .ok (.putfield 18, 3)) (kk : A X k n (pc + 3) ls st (wset w (248 + i) 6 v)) : A X k n pc ls (.int v :: .ref (w.2.2.2 i) :: st) w := a_put tyX0 hX (Nat.add_lt_add_left hi 248) adr_ge (cell_0 (kd_ge i)) rfl inU_X0 tyX0_ok nmX0 (j := 6) (by decide) fl_X0_18 rfl rfl rfl (Nat.le_of_ble_eq_true rfl) (by simp [cellF, kd_ge, upd]) hd kk
theorem fl_X0_21 : Cond.fieldLink RX0 21 "TermReckoner$Entry" "f" "I" ∈ wU := mw (i := 331) (by decide +kernel) (by decide +kernel)
theorem gf_X0_21 {i : Nat} (hi : i < w.2.2.1) (hX : Kx X cc RX0 nL d) (hd : decode cc pc = .ok (.getfield 21, 3)) (kk : A X k n (pc + 3) ls (.int (w.1 (248 + i) 7) :: st) w) : A X k n pc ls (.ref (w.2.2.2 i) :: st) w := a_get hX (Nat.add_lt_add_left hi 248) adr_ge (cell_0 (kd_ge i)) rfl inU_X0 (j := 7) (by decide) fl_X0_21 rfl rfl hd kk
theorem pf_X0_21 {v : Int32} {i : Nat} (hi : i < w.2.2.1) (hX : Kx X cc RX0 nL d) (hd : decode cc pc = .ok (.putfield 21, 3)) (kk : A X k n (pc + 3) ls st (wset w (248 + i) 7 v)) : A X k n pc ls (.int v :: .ref (w.2.2.2 i) :: st) w := a_put tyX0 hX (Nat.add_lt_add_left hi 248) adr_ge (cell_0 (kd_ge i)) rfl inU_X0 tyX0_ok nmX0 (j := 7) (by decide) fl_X0_21 rfl rfl rfl (Nat.le_of_ble_eq_true rfl) (by simp [cellF, kd_ge, upd]) hd kk
theorem fl_X0_24 : Cond.fieldLink RX0 24 "TermReckoner$Entry" "need" "I" ∈ wU := mw (i := 334) (by decide +kernel) (by decide +kernel)
theorem pf_X0_24 {v : Int32} {i : Nat} (hi : i < w.2.2.1) (hX : Kx X cc RX0 nL d) (hd : decode cc pc = .ok (.putfield 24, 3)) (kk : A X k n (pc + 3) ls st (wset w (248 + i) 8 v)) : A X k n pc ls (.int v :: .ref (w.2.2.2 i) :: st) w := a_put tyX0 hX (Nat.add_lt_add_left hi 248) adr_ge (cell_0 (kd_ge i)) rfl inU_X0 tyX0_ok nmX0 (j := 8) (by decide) fl_X0_24 rfl rfl rfl (Nat.le_of_ble_eq_true rfl) (by simp [cellF, kd_ge, upd]) hd kk
theorem fl_X0_27 : Cond.fieldLink RX0 27 "TermReckoner$Entry" "today" "I" ∈ wU := mw (i := 314) (by decide +kernel) (by decide +kernel)
theorem gf_X0_27 {i : Nat} (hi : i < w.2.2.1) (hX : Kx X cc RX0 nL d) (hd : decode cc pc = .ok (.getfield 27, 3)) (kk : A X k n (pc + 3) ls (.int (w.1 (248 + i) 0) :: st) w) : A X k n pc ls (.ref (w.2.2.2 i) :: st) w := a_get hX (Nat.add_lt_add_left hi 248) adr_ge (cell_0 (kd_ge i)) rfl inU_X0 (j := 0) (by decide) fl_X0_27 rfl rfl hd kk
theorem fl_X0_30 : Cond.fieldLink RX0 30 "TermReckoner$Entry" "call" "I" ∈ wU := mw (i := 316) (by decide +kernel) (by decide +kernel)
theorem gf_X0_30 {i : Nat} (hi : i < w.2.2.1) (hX : Kx X cc RX0 nL d) (hd : decode cc pc = .ok (.getfield 30, 3)) (kk : A X k n (pc + 3) ls (.int (w.1 (248 + i) 1) :: st) w) : A X k n pc ls (.ref (w.2.2.2 i) :: st) w := a_get hX (Nat.add_lt_add_left hi 248) adr_ge (cell_0 (kd_ge i)) rfl inU_X0 (j := 1) (by decide) fl_X0_30 rfl rfl hd kk
theorem fl_X0_33 : Cond.fieldLink RX0 33 "TermReckoner$Entry" "a" "I" ∈ wU := mw (i := 318) (by decide +kernel) (by decide +kernel)
theorem gf_X0_33 {i : Nat} (hi : i < w.2.2.1) (hX : Kx X cc RX0 nL d) (hd : decode cc pc = .ok (.getfield 33, 3)) (kk : A X k n (pc + 3) ls (.int (w.1 (248 + i) 2) :: st) w) : A X k n pc ls (.ref (w.2.2.2 i) :: st) w := a_get hX (Nat.add_lt_add_left hi 248) adr_ge (cell_0 (kd_ge i)) rfl inU_X0 (j := 2) (by decide) fl_X0_33 rfl rfl hd kk
theorem fl_X0_36 : Cond.fieldLink RX0 36 "TermReckoner$Entry" "b" "I" ∈ wU := mw (i := 320) (by decide +kernel) (by decide +kernel)
theorem gf_X0_36 {i : Nat} (hi : i < w.2.2.1) (hX : Kx X cc RX0 nL d) (hd : decode cc pc = .ok (.getfield 36, 3)) (kk : A X k n (pc + 3) ls (.int (w.1 (248 + i) 3) :: st) w) : A X k n pc ls (.ref (w.2.2.2 i) :: st) w := a_get hX (Nat.add_lt_add_left hi 248) adr_ge (cell_0 (kd_ge i)) rfl inU_X0 (j := 3) (by decide) fl_X0_36 rfl rfl hd kk
theorem fl_X1_11 : Cond.fieldLink RX1 11 "TermReckoner$File" "places" "[LTermReckoner$Place;" ∈ wU := mw (i := 138) (by decide +kernel) (by decide +kernel)
theorem gf_X1_11 {r : Nat} (hk0 : kd r = 1) (hX : Kx X cc RX1 nL d) (hd : decode cc pc = .ok (.getfield 11, 3)) (kk : A X k n (pc + 3) ls (.ref (xlay X (r + 1)) :: st) w) : A X k n pc ls (.ref (xlay X r) :: st) w := a_get hX (klt hk0 (by decide)) (adr_lt (kd_lt hk0 (by decide))) (cell_1 hk0) rfl inU_X1 (j := 0) (by decide) fl_X1_11 rfl rfl hd kk
theorem fl_X1_17 : Cond.fieldLink RX1 17 "TermReckoner$File" "shapes" "[I" ∈ wU := mw (i := 139) (by decide +kernel) (by decide +kernel)
theorem gf_X1_17 {r : Nat} (hk0 : kd r = 1) (hX : Kx X cc RX1 nL d) (hd : decode cc pc = .ok (.getfield 17, 3)) (kk : A X k n (pc + 3) ls (.ref (xlay X (r + 2)) :: st) w) : A X k n pc ls (.ref (xlay X r) :: st) w := a_get hX (klt hk0 (by decide)) (adr_lt (kd_lt hk0 (by decide))) (cell_1 hk0) rfl inU_X1 (j := 1) (by decide) fl_X1_17 rfl rfl hd kk
theorem fl_X1_21 : Cond.fieldLink RX1 21 "TermReckoner$File" "lengths" "[I" ∈ wU := mw (i := 140) (by decide +kernel) (by decide +kernel)
theorem gf_X1_21 {r : Nat} (hk0 : kd r = 1) (hX : Kx X cc RX1 nL d) (hd : decode cc pc = .ok (.getfield 21, 3)) (kk : A X k n (pc + 3) ls (.ref (xlay X (r + 3)) :: st) w) : A X k n pc ls (.ref (xlay X r) :: st) w := a_get hX (klt hk0 (by decide)) (adr_lt (kd_lt hk0 (by decide))) (cell_1 hk0) rfl inU_X1 (j := 2) (by decide) fl_X1_21 rfl rfl hd kk
theorem fl_X1_24 : Cond.fieldLink RX1 24 "TermReckoner$File" "told" "[I" ∈ wU := mw (i := 141) (by decide +kernel) (by decide +kernel)
theorem gf_X1_24 {r : Nat} (hk0 : kd r = 1) (hX : Kx X cc RX1 nL d) (hd : decode cc pc = .ok (.getfield 24, 3)) (kk : A X k n (pc + 3) ls (.ref (xlay X (r + 4)) :: st) w) : A X k n pc ls (.ref (xlay X r) :: st) w := a_get hX (klt hk0 (by decide)) (adr_lt (kd_lt hk0 (by decide))) (cell_1 hk0) rfl inU_X1 (j := 3) (by decide) fl_X1_24 rfl rfl hd kk
theorem fl_X1_27 : Cond.fieldLink RX1 27 "TermReckoner$File" "granted" "I" ∈ wU := mw (i := 142) (by decide +kernel) (by decide +kernel)
theorem pf_X1_27 {v : Int32} {r : Nat} (hk0 : kd r = 1) (hX : Kx X cc RX1 nL d) (hd : decode cc pc = .ok (.putfield 27, 3)) (kk : A X k n (pc + 3) ls st (wset w r 4 v)) : A X k n pc ls (.int v :: .ref (xlay X r) :: st) w := a_put tyX1 hX (klt hk0 (by decide)) (adr_lt (kd_lt hk0 (by decide))) (cell_1 hk0) rfl inU_X1 tyX1_ok nmX1 (j := 4) (by decide) fl_X1_27 rfl rfl rfl (Nat.le_of_ble_eq_true rfl) (by simp [cellF, hk0, modelFs, upd]) hd kk
theorem fl_X1_74 : Cond.fieldLink RX1 74 "TermReckoner$Place" "from" "I" ∈ wU := mw (i := 94) (by decide +kernel) (by decide +kernel)
theorem gf_X1_74 {r : Nat} (hk0 : kd r = 2) (hX : Kx X cc RX1 nL d) (hd : decode cc pc = .ok (.getfield 74, 3)) (kk : A X k n (pc + 3) ls (.int (w.1 r 1) :: st) w) : A X k n pc ls (.ref (xlay X r) :: st) w := a_get hX (klt hk0 (by decide)) (adr_lt (kd_lt hk0 (by decide))) (cell_2 hk0) rfl inU_X2 (j := 1) (by decide) fl_X1_74 rfl rfl hd kk
theorem fl_X1_77 : Cond.fieldLink RX1 77 "TermReckoner$Place" "to" "I" ∈ wU := mw (i := 98) (by decide +kernel) (by decide +kernel)
theorem gf_X1_77 {r : Nat} (hk0 : kd r = 2) (hX : Kx X cc RX1 nL d) (hd : decode cc pc = .ok (.getfield 77, 3)) (kk : A X k n (pc + 3) ls (.int (w.1 r 2) :: st) w) : A X k n pc ls (.ref (xlay X r) :: st) w := a_get hX (klt hk0 (by decide)) (adr_lt (kd_lt hk0 (by decide))) (cell_2 hk0) rfl inU_X2 (j := 2) (by decide) fl_X1_77 rfl rfl hd kk
theorem fl_X2_9 : Cond.fieldLink RX2 9 "TermReckoner$Place" "kind" "I" ∈ wU := mw (i := 87) (by decide +kernel) (by decide +kernel)
theorem gf_X2_9 {r : Nat} (hk0 : kd r = 2) (hX : Kx X cc RX2 nL d) (hd : decode cc pc = .ok (.getfield 9, 3)) (kk : A X k n (pc + 3) ls (.int (w.1 r 0) :: st) w) : A X k n pc ls (.ref (xlay X r) :: st) w := a_get hX (klt hk0 (by decide)) (adr_lt (kd_lt hk0 (by decide))) (cell_2 hk0) rfl inU_X2 (j := 0) (by decide) fl_X2_9 rfl rfl hd kk
theorem pf_X2_9 {v : Int32} {r : Nat} (hk0 : kd r = 2) (hX : Kx X cc RX2 nL d) (hd : decode cc pc = .ok (.putfield 9, 3)) (kk : A X k n (pc + 3) ls st (wset w r 0 v)) : A X k n pc ls (.int v :: .ref (xlay X r) :: st) w := a_put tyX2 hX (klt hk0 (by decide)) (adr_lt (kd_lt hk0 (by decide))) (cell_2 hk0) rfl inU_X2 tyX2_ok nmX2 (j := 0) (by decide) fl_X2_9 rfl rfl rfl (Nat.le_of_ble_eq_true rfl) (by simp [cellF, hk0, modelFs, upd]) hd kk
theorem fl_X2_15 : Cond.fieldLink RX2 15 "TermReckoner$Place" "from" "I" ∈ wU := mw (i := 91) (by decide +kernel) (by decide +kernel)
theorem pf_X2_15 {v : Int32} {r : Nat} (hk0 : kd r = 2) (hX : Kx X cc RX2 nL d) (hd : decode cc pc = .ok (.putfield 15, 3)) (kk : A X k n (pc + 3) ls st (wset w r 1 v)) : A X k n pc ls (.int v :: .ref (xlay X r) :: st) w := a_put tyX2 hX (klt hk0 (by decide)) (adr_lt (kd_lt hk0 (by decide))) (cell_2 hk0) rfl inU_X2 tyX2_ok nmX2 (j := 1) (by decide) fl_X2_15 rfl rfl rfl (Nat.le_of_ble_eq_true rfl) (by simp [cellF, hk0, modelFs, upd]) hd kk
theorem fl_X2_18 : Cond.fieldLink RX2 18 "TermReckoner$Place" "to" "I" ∈ wU := mw (i := 95) (by decide +kernel) (by decide +kernel)
theorem pf_X2_18 {v : Int32} {r : Nat} (hk0 : kd r = 2) (hX : Kx X cc RX2 nL d) (hd : decode cc pc = .ok (.putfield 18, 3)) (kk : A X k n (pc + 3) ls st (wset w r 2 v)) : A X k n pc ls (.int v :: .ref (xlay X r) :: st) w := a_put tyX2 hX (klt hk0 (by decide)) (adr_lt (kd_lt hk0 (by decide))) (cell_2 hk0) rfl inU_X2 tyX2_ok nmX2 (j := 2) (by decide) fl_X2_18 rfl rfl rfl (Nat.le_of_ble_eq_true rfl) (by simp [cellF, hk0, modelFs, upd]) hd kk
theorem fl_X2_21 : Cond.fieldLink RX2 21 "TermReckoner$Place" "need" "I" ∈ wU := mw (i := 99) (by decide +kernel) (by decide +kernel)
theorem gf_X2_21 {r : Nat} (hk0 : kd r = 2) (hX : Kx X cc RX2 nL d) (hd : decode cc pc = .ok (.getfield 21, 3)) (kk : A X k n (pc + 3) ls (.int (w.1 r 3) :: st) w) : A X k n pc ls (.ref (xlay X r) :: st) w := a_get hX (klt hk0 (by decide)) (adr_lt (kd_lt hk0 (by decide))) (cell_2 hk0) rfl inU_X2 (j := 3) (by decide) fl_X2_21 rfl rfl hd kk
theorem pf_X2_21 {v : Int32} {r : Nat} (hk0 : kd r = 2) (hX : Kx X cc RX2 nL d) (hd : decode cc pc = .ok (.putfield 21, 3)) (kk : A X k n (pc + 3) ls st (wset w r 3 v)) : A X k n pc ls (.int v :: .ref (xlay X r) :: st) w := a_put tyX2 hX (klt hk0 (by decide)) (adr_lt (kd_lt hk0 (by decide))) (cell_2 hk0) rfl inU_X2 tyX2_ok nmX2 (j := 3) (by decide) fl_X2_21 rfl rfl rfl (Nat.le_of_ble_eq_true rfl) (by simp [cellF, hk0, modelFs, upd]) hd kk
theorem fl_X2_24 : Cond.fieldLink RX2 24 "TermReckoner$Place" "set" "I" ∈ wU := mw (i := 102) (by decide +kernel) (by decide +kernel)
theorem gf_X2_24 {r : Nat} (hk0 : kd r = 2) (hX : Kx X cc RX2 nL d) (hd : decode cc pc = .ok (.getfield 24, 3)) (kk : A X k n (pc + 3) ls (.int (w.1 r 4) :: st) w) : A X k n pc ls (.ref (xlay X r) :: st) w := a_get hX (klt hk0 (by decide)) (adr_lt (kd_lt hk0 (by decide))) (cell_2 hk0) rfl inU_X2 (j := 4) (by decide) fl_X2_24 rfl rfl hd kk
theorem pf_X2_24 {v : Int32} {r : Nat} (hk0 : kd r = 2) (hX : Kx X cc RX2 nL d) (hd : decode cc pc = .ok (.putfield 24, 3)) (kk : A X k n (pc + 3) ls st (wset w r 4 v)) : A X k n pc ls (.int v :: .ref (xlay X r) :: st) w := a_put tyX2 hX (klt hk0 (by decide)) (adr_lt (kd_lt hk0 (by decide))) (cell_2 hk0) rfl inU_X2 tyX2_ok nmX2 (j := 4) (by decide) fl_X2_24 rfl rfl rfl (Nat.le_of_ble_eq_true rfl) (by simp [cellF, hk0, modelFs, upd]) hd kk
theorem fl_X2_27 : Cond.fieldLink RX2 27 "TermReckoner$Place" "quashedBy" "I" ∈ wU := mw (i := 106) (by decide +kernel) (by decide +kernel)
theorem gf_X2_27 {r : Nat} (hk0 : kd r = 2) (hX : Kx X cc RX2 nL d) (hd : decode cc pc = .ok (.getfield 27, 3)) (kk : A X k n (pc + 3) ls (.int (w.1 r 5) :: st) w) : A X k n pc ls (.ref (xlay X r) :: st) w := a_get hX (klt hk0 (by decide)) (adr_lt (kd_lt hk0 (by decide))) (cell_2 hk0) rfl inU_X2 (j := 5) (by decide) fl_X2_27 rfl rfl hd kk
theorem pf_X2_27 {v : Int32} {r : Nat} (hk0 : kd r = 2) (hX : Kx X cc RX2 nL d) (hd : decode cc pc = .ok (.putfield 27, 3)) (kk : A X k n (pc + 3) ls st (wset w r 5 v)) : A X k n pc ls (.int v :: .ref (xlay X r) :: st) w := a_put tyX2 hX (klt hk0 (by decide)) (adr_lt (kd_lt hk0 (by decide))) (cell_2 hk0) rfl inU_X2 tyX2_ok nmX2 (j := 5) (by decide) fl_X2_27 rfl rfl rfl (Nat.le_of_ble_eq_true rfl) (by simp [cellF, hk0, modelFs, upd]) hd kk
theorem fl_X2_30 : Cond.fieldLink RX2 30 "TermReckoner$Place" "every" "I" ∈ wU := mw (i := 109) (by decide +kernel) (by decide +kernel)
theorem pf_X2_30 {v : Int32} {r : Nat} (hk0 : kd r = 2) (hX : Kx X cc RX2 nL d) (hd : decode cc pc = .ok (.putfield 30, 3)) (kk : A X k n (pc + 3) ls st (wset w r 6 v)) : A X k n pc ls (.int v :: .ref (xlay X r) :: st) w := a_put tyX2 hX (klt hk0 (by decide)) (adr_lt (kd_lt hk0 (by decide))) (cell_2 hk0) rfl inU_X2 tyX2_ok nmX2 (j := 6) (by decide) fl_X2_30 rfl rfl rfl (Nat.le_of_ble_eq_true rfl) (by simp [cellF, hk0, modelFs, upd]) hd kk
theorem fl_X2_33 : Cond.fieldLink RX2 33 "TermReckoner$Place" "left" "I" ∈ wU := mw (i := 112) (by decide +kernel) (by decide +kernel)
theorem gf_X2_33 {r : Nat} (hk0 : kd r = 2) (hX : Kx X cc RX2 nL d) (hd : decode cc pc = .ok (.getfield 33, 3)) (kk : A X k n (pc + 3) ls (.int (w.1 r 7) :: st) w) : A X k n pc ls (.ref (xlay X r) :: st) w := a_get hX (klt hk0 (by decide)) (adr_lt (kd_lt hk0 (by decide))) (cell_2 hk0) rfl inU_X2 (j := 7) (by decide) fl_X2_33 rfl rfl hd kk
theorem pf_X2_33 {v : Int32} {r : Nat} (hk0 : kd r = 2) (hX : Kx X cc RX2 nL d) (hd : decode cc pc = .ok (.putfield 33, 3)) (kk : A X k n (pc + 3) ls st (wset w r 7 v)) : A X k n pc ls (.int v :: .ref (xlay X r) :: st) w := a_put tyX2 hX (klt hk0 (by decide)) (adr_lt (kd_lt hk0 (by decide))) (cell_2 hk0) rfl inU_X2 tyX2_ok nmX2 (j := 7) (by decide) fl_X2_33 rfl rfl rfl (Nat.le_of_ble_eq_true rfl) (by simp [cellF, hk0, modelFs, upd]) hd kk
theorem fl_X2_36 : Cond.fieldLink RX2 36 "TermReckoner$Place" "given" "I" ∈ wU := mw (i := 114) (by decide +kernel) (by decide +kernel)
theorem pf_X2_36 {v : Int32} {r : Nat} (hk0 : kd r = 2) (hX : Kx X cc RX2 nL d) (hd : decode cc pc = .ok (.putfield 36, 3)) (kk : A X k n (pc + 3) ls st (wset w r 8 v)) : A X k n pc ls (.int v :: .ref (xlay X r) :: st) w := a_put tyX2 hX (klt hk0 (by decide)) (adr_lt (kd_lt hk0 (by decide))) (cell_2 hk0) rfl inU_X2 tyX2_ok nmX2 (j := 8) (by decide) fl_X2_36 rfl rfl rfl (Nat.le_of_ble_eq_true rfl) (by simp [cellF, hk0, modelFs, upd]) hd kk
theorem fl_X3_9 : Cond.fieldLink RX3 9 "TermReckoner$Reckoning" "beginDays" "[I" ∈ wU := mw (i := 194) (by decide +kernel) (by decide +kernel)
theorem gf_X3_9 {r : Nat} (hk0 : kd r = 3) (hX : Kx X cc RX3 nL d) (hd : decode cc pc = .ok (.getfield 9, 3)) (kk : A X k n (pc + 3) ls (.ref (xlay X (r + 1)) :: st) w) : A X k n pc ls (.ref (xlay X r) :: st) w := a_get hX (klt hk0 (by decide)) (adr_lt (kd_lt hk0 (by decide))) (cell_3 hk0) rfl inU_X3 (j := 0) (by decide) fl_X3_9 rfl rfl hd kk
theorem fl_X3_15 : Cond.fieldLink RX3 15 "TermReckoner$Reckoning" "endDays" "[I" ∈ wU := mw (i := 195) (by decide +kernel) (by decide +kernel)
theorem gf_X3_15 {r : Nat} (hk0 : kd r = 3) (hX : Kx X cc RX3 nL d) (hd : decode cc pc = .ok (.getfield 15, 3)) (kk : A X k n (pc + 3) ls (.ref (xlay X (r + 2)) :: st) w) : A X k n pc ls (.ref (xlay X r) :: st) w := a_get hX (klt hk0 (by decide)) (adr_lt (kd_lt hk0 (by decide))) (cell_3 hk0) rfl inU_X3 (j := 1) (by decide) fl_X3_15 rfl rfl hd kk
theorem fl_X3_18 : Cond.fieldLink RX3 18 "TermReckoner$Reckoning" "counting" "[I" ∈ wU := mw (i := 196) (by decide +kernel) (by decide +kernel)
theorem gf_X3_18 {r : Nat} (hk0 : kd r = 3) (hX : Kx X cc RX3 nL d) (hd : decode cc pc = .ok (.getfield 18, 3)) (kk : A X k n (pc + 3) ls (.ref (xlay X (r + 3)) :: st) w) : A X k n pc ls (.ref (xlay X r) :: st) w := a_get hX (klt hk0 (by decide)) (adr_lt (kd_lt hk0 (by decide))) (cell_3 hk0) rfl inU_X3 (j := 2) (by decide) fl_X3_18 rfl rfl hd kk
theorem fl_X3_21 : Cond.fieldLink RX3 21 "TermReckoner$Reckoning" "stayed" "[I" ∈ wU := mw (i := 197) (by decide +kernel) (by decide +kernel)
theorem gf_X3_21 {r : Nat} (hk0 : kd r = 3) (hX : Kx X cc RX3 nL d) (hd : decode cc pc = .ok (.getfield 21, 3)) (kk : A X k n (pc + 3) ls (.ref (xlay X (r + 4)) :: st) w) : A X k n pc ls (.ref (xlay X r) :: st) w := a_get hX (klt hk0 (by decide)) (adr_lt (kd_lt hk0 (by decide))) (cell_3 hk0) rfl inU_X3 (j := 3) (by decide) fl_X3_21 rfl rfl hd kk
theorem fl_X3_24 : Cond.fieldLink RX3 24 "TermReckoner$Reckoning" "credited" "[I" ∈ wU := mw (i := 198) (by decide +kernel) (by decide +kernel)
theorem gf_X3_24 {r : Nat} (hk0 : kd r = 3) (hX : Kx X cc RX3 nL d) (hd : decode cc pc = .ok (.getfield 24, 3)) (kk : A X k n (pc + 3) ls (.ref (xlay X (r + 5)) :: st) w) : A X k n pc ls (.ref (xlay X r) :: st) w := a_get hX (klt hk0 (by decide)) (adr_lt (kd_lt hk0 (by decide))) (cell_3 hk0) rfl inU_X3 (j := 4) (by decide) fl_X3_24 rfl rfl hd kk
theorem fl_X3_30 : Cond.fieldLink RX3 30 "TermReckoner$Reckoning" "tally" "LTermReckoner$Tally;" ∈ wU := mw (i := 199) (by decide +kernel) (by decide +kernel)
theorem gf_X3_30 {r : Nat} (hk0 : kd r = 3) (hX : Kx X cc RX3 nL d) (hd : decode cc pc = .ok (.getfield 30, 3)) (kk : A X k n (pc + 3) ls (.ref (xlay X (r + 6)) :: st) w) : A X k n pc ls (.ref (xlay X r) :: st) w := a_get hX (klt hk0 (by decide)) (adr_lt (kd_lt hk0 (by decide))) (cell_3 hk0) rfl inU_X3 (j := 5) (by decide) fl_X3_30 rfl rfl hd kk
theorem fl_X3_34 : Cond.fieldLink RX3 34 "TermReckoner$Reckoning" "standing" "I" ∈ wU := mw (i := 200) (by decide +kernel) (by decide +kernel)
theorem gf_X3_34 {r : Nat} (hk0 : kd r = 3) (hX : Kx X cc RX3 nL d) (hd : decode cc pc = .ok (.getfield 34, 3)) (kk : A X k n (pc + 3) ls (.int (w.1 r 6) :: st) w) : A X k n pc ls (.ref (xlay X r) :: st) w := a_get hX (klt hk0 (by decide)) (adr_lt (kd_lt hk0 (by decide))) (cell_3 hk0) rfl inU_X3 (j := 6) (by decide) fl_X3_34 rfl rfl hd kk
theorem pf_X3_34 {v : Int32} {r : Nat} (hk0 : kd r = 3) (hX : Kx X cc RX3 nL d) (hd : decode cc pc = .ok (.putfield 34, 3)) (kk : A X k n (pc + 3) ls st (wset w r 6 v)) : A X k n pc ls (.int v :: .ref (xlay X r) :: st) w := a_put tyX3 hX (klt hk0 (by decide)) (adr_lt (kd_lt hk0 (by decide))) (cell_3 hk0) rfl inU_X3 tyX3_ok nmX3 (j := 6) (by decide) fl_X3_34 rfl rfl rfl (Nat.le_of_ble_eq_true rfl) (by simp [cellF, hk0, modelFs, upd]) hd kk
theorem fl_X3_59 : Cond.fieldLink RX3 59 "TermReckoner$Place" "set" "I" ∈ wU := mw (i := 104) (by decide +kernel) (by decide +kernel)
theorem gf_X3_59 {r : Nat} (hk0 : kd r = 2) (hX : Kx X cc RX3 nL d) (hd : decode cc pc = .ok (.getfield 59, 3)) (kk : A X k n (pc + 3) ls (.int (w.1 r 4) :: st) w) : A X k n pc ls (.ref (xlay X r) :: st) w := a_get hX (klt hk0 (by decide)) (adr_lt (kd_lt hk0 (by decide))) (cell_2 hk0) rfl inU_X2 (j := 4) (by decide) fl_X3_59 rfl rfl hd kk
theorem fl_X3_66 : Cond.fieldLink RX3 66 "TermReckoner$Place" "kind" "I" ∈ wU := mw (i := 88) (by decide +kernel) (by decide +kernel)
theorem gf_X3_66 {r : Nat} (hk0 : kd r = 2) (hX : Kx X cc RX3 nL d) (hd : decode cc pc = .ok (.getfield 66, 3)) (kk : A X k n (pc + 3) ls (.int (w.1 r 0) :: st) w) : A X k n pc ls (.ref (xlay X r) :: st) w := a_get hX (klt hk0 (by decide)) (adr_lt (kd_lt hk0 (by decide))) (cell_2 hk0) rfl inU_X2 (j := 0) (by decide) fl_X3_66 rfl rfl hd kk
theorem fl_X3_84 : Cond.fieldLink RX3 84 "TermReckoner$Place" "need" "I" ∈ wU := mw (i := 100) (by decide +kernel) (by decide +kernel)
theorem gf_X3_84 {r : Nat} (hk0 : kd r = 2) (hX : Kx X cc RX3 nL d) (hd : decode cc pc = .ok (.getfield 84, 3)) (kk : A X k n (pc + 3) ls (.int (w.1 r 3) :: st) w) : A X k n pc ls (.ref (xlay X r) :: st) w := a_get hX (klt hk0 (by decide)) (adr_lt (kd_lt hk0 (by decide))) (cell_2 hk0) rfl inU_X2 (j := 3) (by decide) fl_X3_84 rfl rfl hd kk
theorem fl_X3_102 : Cond.fieldLink RX3 102 "TermReckoner$Place" "from" "I" ∈ wU := mw (i := 92) (by decide +kernel) (by decide +kernel)
theorem gf_X3_102 {r : Nat} (hk0 : kd r = 2) (hX : Kx X cc RX3 nL d) (hd : decode cc pc = .ok (.getfield 102, 3)) (kk : A X k n (pc + 3) ls (.int (w.1 r 1) :: st) w) : A X k n pc ls (.ref (xlay X r) :: st) w := a_get hX (klt hk0 (by decide)) (adr_lt (kd_lt hk0 (by decide))) (cell_2 hk0) rfl inU_X2 (j := 1) (by decide) fl_X3_102 rfl rfl hd kk
theorem fl_X3_126 : Cond.fieldLink RX3 126 "TermReckoner$Place" "to" "I" ∈ wU := mw (i := 97) (by decide +kernel) (by decide +kernel)
theorem gf_X3_126 {r : Nat} (hk0 : kd r = 2) (hX : Kx X cc RX3 nL d) (hd : decode cc pc = .ok (.getfield 126, 3)) (kk : A X k n (pc + 3) ls (.int (w.1 r 2) :: st) w) : A X k n pc ls (.ref (xlay X r) :: st) w := a_get hX (klt hk0 (by decide)) (adr_lt (kd_lt hk0 (by decide))) (cell_2 hk0) rfl inU_X2 (j := 2) (by decide) fl_X3_126 rfl rfl hd kk
theorem fl_X4_11 : Cond.fieldLink RX4 11 "TermReckoner$Registry" "files" "[LTermReckoner$File;" ∈ wU := mw (i := 156) (by decide +kernel) (by decide +kernel)
theorem gf_X4_11 {r : Nat} (hk0 : kd r = 4) (hX : Kx X cc RX4 nL d) (hd : decode cc pc = .ok (.getfield 11, 3)) (kk : A X k n (pc + 3) ls (.ref (xlay X (r + 1)) :: st) w) : A X k n pc ls (.ref (xlay X r) :: st) w := a_get hX (klt hk0 (by decide)) (adr_lt (kd_lt hk0 (by decide))) (cell_4 hk0) rfl inU_X4 (j := 0) (by decide) fl_X4_11 rfl rfl hd kk
theorem fl_X4_17 : Cond.fieldLink RX4 17 "TermReckoner$Registry" "learned" "I" ∈ wU := mw (i := 157) (by decide +kernel) (by decide +kernel)
theorem gf_X4_17 {r : Nat} (hk0 : kd r = 4) (hX : Kx X cc RX4 nL d) (hd : decode cc pc = .ok (.getfield 17, 3)) (kk : A X k n (pc + 3) ls (.int (w.1 r 1) :: st) w) : A X k n pc ls (.ref (xlay X r) :: st) w := a_get hX (klt hk0 (by decide)) (adr_lt (kd_lt hk0 (by decide))) (cell_4 hk0) rfl inU_X4 (j := 1) (by decide) fl_X4_17 rfl rfl hd kk
theorem pf_X4_17 {v : Int32} {r : Nat} (hk0 : kd r = 4) (hX : Kx X cc RX4 nL d) (hd : decode cc pc = .ok (.putfield 17, 3)) (kk : A X k n (pc + 3) ls st (wset w r 1 v)) : A X k n pc ls (.int v :: .ref (xlay X r) :: st) w := a_put tyX4 hX (klt hk0 (by decide)) (adr_lt (kd_lt hk0 (by decide))) (cell_4 hk0) rfl inU_X4 tyX4_ok nmX4 (j := 1) (by decide) fl_X4_17 rfl rfl rfl (Nat.le_of_ble_eq_true rfl) (by simp [cellF, hk0, modelFs, upd]) hd kk
theorem fl_X4_34 : Cond.fieldLink RX4 34 "TermReckoner$Entry" "a" "I" ∈ wU := mw (i := 319) (by decide +kernel) (by decide +kernel)
theorem gf_X4_34 {i : Nat} (hi : i < w.2.2.1) (hX : Kx X cc RX4 nL d) (hd : decode cc pc = .ok (.getfield 34, 3)) (kk : A X k n (pc + 3) ls (.int (w.1 (248 + i) 2) :: st) w) : A X k n pc ls (.ref (w.2.2.2 i) :: st) w := a_get hX (Nat.add_lt_add_left hi 248) adr_ge (cell_0 (kd_ge i)) rfl inU_X0 (j := 2) (by decide) fl_X4_34 rfl rfl hd kk
theorem fl_X4_39 : Cond.fieldLink RX4 39 "TermReckoner$Entry" "call" "I" ∈ wU := mw (i := 317) (by decide +kernel) (by decide +kernel)
theorem gf_X4_39 {i : Nat} (hi : i < w.2.2.1) (hX : Kx X cc RX4 nL d) (hd : decode cc pc = .ok (.getfield 39, 3)) (kk : A X k n (pc + 3) ls (.int (w.1 (248 + i) 1) :: st) w) : A X k n pc ls (.ref (w.2.2.2 i) :: st) w := a_get hX (Nat.add_lt_add_left hi 248) adr_ge (cell_0 (kd_ge i)) rfl inU_X0 (j := 1) (by decide) fl_X4_39 rfl rfl hd kk
theorem fl_X4_42 : Cond.fieldLink RX4 42 "TermReckoner$Entry" "b" "I" ∈ wU := mw (i := 321) (by decide +kernel) (by decide +kernel)
theorem gf_X4_42 {i : Nat} (hi : i < w.2.2.1) (hX : Kx X cc RX4 nL d) (hd : decode cc pc = .ok (.getfield 42, 3)) (kk : A X k n (pc + 3) ls (.int (w.1 (248 + i) 3) :: st) w) : A X k n pc ls (.ref (w.2.2.2 i) :: st) w := a_get hX (Nat.add_lt_add_left hi 248) adr_ge (cell_0 (kd_ge i)) rfl inU_X0 (j := 3) (by decide) fl_X4_42 rfl rfl hd kk
theorem fl_X4_45 : Cond.fieldLink RX4 45 "TermReckoner$Entry" "c" "I" ∈ wU := mw (i := 323) (by decide +kernel) (by decide +kernel)
theorem gf_X4_45 {i : Nat} (hi : i < w.2.2.1) (hX : Kx X cc RX4 nL d) (hd : decode cc pc = .ok (.getfield 45, 3)) (kk : A X k n (pc + 3) ls (.int (w.1 (248 + i) 4) :: st) w) : A X k n pc ls (.ref (w.2.2.2 i) :: st) w := a_get hX (Nat.add_lt_add_left hi 248) adr_ge (cell_0 (kd_ge i)) rfl inU_X0 (j := 4) (by decide) fl_X4_45 rfl rfl hd kk
theorem fl_X4_48 : Cond.fieldLink RX4 48 "TermReckoner$Entry" "d" "I" ∈ wU := mw (i := 326) (by decide +kernel) (by decide +kernel)
theorem gf_X4_48 {i : Nat} (hi : i < w.2.2.1) (hX : Kx X cc RX4 nL d) (hd : decode cc pc = .ok (.getfield 48, 3)) (kk : A X k n (pc + 3) ls (.int (w.1 (248 + i) 5) :: st) w) : A X k n pc ls (.ref (w.2.2.2 i) :: st) w := a_get hX (Nat.add_lt_add_left hi 248) adr_ge (cell_0 (kd_ge i)) rfl inU_X0 (j := 5) (by decide) fl_X4_48 rfl rfl hd kk
theorem fl_X4_67 : Cond.fieldLink RX4 67 "TermReckoner$File" "granted" "I" ∈ wU := mw (i := 143) (by decide +kernel) (by decide +kernel)
theorem pf_X4_67 {v : Int32} {r : Nat} (hk0 : kd r = 1) (hX : Kx X cc RX4 nL d) (hd : decode cc pc = .ok (.putfield 67, 3)) (kk : A X k n (pc + 3) ls st (wset w r 4 v)) : A X k n pc ls (.int v :: .ref (xlay X r) :: st) w := a_put tyX1 hX (klt hk0 (by decide)) (adr_lt (kd_lt hk0 (by decide))) (cell_1 hk0) rfl inU_X1 tyX1_ok nmX1 (j := 4) (by decide) fl_X4_67 rfl rfl rfl (Nat.le_of_ble_eq_true rfl) (by simp [cellF, hk0, modelFs, upd]) hd kk
theorem fl_X4_78 : Cond.fieldLink RX4 78 "TermReckoner$Place" "kind" "I" ∈ wU := mw (i := 89) (by decide +kernel) (by decide +kernel)
theorem pf_X4_78 {v : Int32} {r : Nat} (hk0 : kd r = 2) (hX : Kx X cc RX4 nL d) (hd : decode cc pc = .ok (.putfield 78, 3)) (kk : A X k n (pc + 3) ls st (wset w r 0 v)) : A X k n pc ls (.int v :: .ref (xlay X r) :: st) w := a_put tyX2 hX (klt hk0 (by decide)) (adr_lt (kd_lt hk0 (by decide))) (cell_2 hk0) rfl inU_X2 tyX2_ok nmX2 (j := 0) (by decide) fl_X4_78 rfl rfl rfl (Nat.le_of_ble_eq_true rfl) (by simp [cellF, hk0, modelFs, upd]) hd kk
theorem fl_X4_87 : Cond.fieldLink RX4 87 "TermReckoner$Entry" "need" "I" ∈ wU := mw (i := 335) (by decide +kernel) (by decide +kernel)
theorem gf_X4_87 {i : Nat} (hi : i < w.2.2.1) (hX : Kx X cc RX4 nL d) (hd : decode cc pc = .ok (.getfield 87, 3)) (kk : A X k n (pc + 3) ls (.int (w.1 (248 + i) 8) :: st) w) : A X k n pc ls (.ref (w.2.2.2 i) :: st) w := a_get hX (Nat.add_lt_add_left hi 248) adr_ge (cell_0 (kd_ge i)) rfl inU_X0 (j := 8) (by decide) fl_X4_87 rfl rfl hd kk
theorem fl_X4_90 : Cond.fieldLink RX4 90 "TermReckoner$Place" "from" "I" ∈ wU := mw (i := 93) (by decide +kernel) (by decide +kernel)
theorem pf_X4_90 {v : Int32} {r : Nat} (hk0 : kd r = 2) (hX : Kx X cc RX4 nL d) (hd : decode cc pc = .ok (.putfield 90, 3)) (kk : A X k n (pc + 3) ls st (wset w r 1 v)) : A X k n pc ls (.int v :: .ref (xlay X r) :: st) w := a_put tyX2 hX (klt hk0 (by decide)) (adr_lt (kd_lt hk0 (by decide))) (cell_2 hk0) rfl inU_X2 tyX2_ok nmX2 (j := 1) (by decide) fl_X4_90 rfl rfl rfl (Nat.le_of_ble_eq_true rfl) (by simp [cellF, hk0, modelFs, upd]) hd kk
theorem fl_X4_93 : Cond.fieldLink RX4 93 "TermReckoner$Entry" "e" "I" ∈ wU := mw (i := 329) (by decide +kernel) (by decide +kernel)
theorem gf_X4_93 {i : Nat} (hi : i < w.2.2.1) (hX : Kx X cc RX4 nL d) (hd : decode cc pc = .ok (.getfield 93, 3)) (kk : A X k n (pc + 3) ls (.int (w.1 (248 + i) 6) :: st) w) : A X k n pc ls (.ref (w.2.2.2 i) :: st) w := a_get hX (Nat.add_lt_add_left hi 248) adr_ge (cell_0 (kd_ge i)) rfl inU_X0 (j := 6) (by decide) fl_X4_93 rfl rfl hd kk
theorem fl_X4_96 : Cond.fieldLink RX4 96 "TermReckoner$Place" "need" "I" ∈ wU := mw (i := 101) (by decide +kernel) (by decide +kernel)
theorem pf_X4_96 {v : Int32} {r : Nat} (hk0 : kd r = 2) (hX : Kx X cc RX4 nL d) (hd : decode cc pc = .ok (.putfield 96, 3)) (kk : A X k n (pc + 3) ls st (wset w r 3 v)) : A X k n pc ls (.int v :: .ref (xlay X r) :: st) w := a_put tyX2 hX (klt hk0 (by decide)) (adr_lt (kd_lt hk0 (by decide))) (cell_2 hk0) rfl inU_X2 tyX2_ok nmX2 (j := 3) (by decide) fl_X4_96 rfl rfl rfl (Nat.le_of_ble_eq_true rfl) (by simp [cellF, hk0, modelFs, upd]) hd kk
theorem fl_X4_97 : Cond.fieldLink RX4 97 "TermReckoner$Entry" "f" "I" ∈ wU := mw (i := 332) (by decide +kernel) (by decide +kernel)
theorem gf_X4_97 {i : Nat} (hi : i < w.2.2.1) (hX : Kx X cc RX4 nL d) (hd : decode cc pc = .ok (.getfield 97, 3)) (kk : A X k n (pc + 3) ls (.int (w.1 (248 + i) 7) :: st) w) : A X k n pc ls (.ref (w.2.2.2 i) :: st) w := a_get hX (Nat.add_lt_add_left hi 248) adr_ge (cell_0 (kd_ge i)) rfl inU_X0 (j := 7) (by decide) fl_X4_97 rfl rfl hd kk
theorem fl_X4_100 : Cond.fieldLink RX4 100 "TermReckoner$Place" "set" "I" ∈ wU := mw (i := 105) (by decide +kernel) (by decide +kernel)
theorem pf_X4_100 {v : Int32} {r : Nat} (hk0 : kd r = 2) (hX : Kx X cc RX4 nL d) (hd : decode cc pc = .ok (.putfield 100, 3)) (kk : A X k n (pc + 3) ls st (wset w r 4 v)) : A X k n pc ls (.int v :: .ref (xlay X r) :: st) w := a_put tyX2 hX (klt hk0 (by decide)) (adr_lt (kd_lt hk0 (by decide))) (cell_2 hk0) rfl inU_X2 tyX2_ok nmX2 (j := 4) (by decide) fl_X4_100 rfl rfl rfl (Nat.le_of_ble_eq_true rfl) (by simp [cellF, hk0, modelFs, upd]) hd kk
theorem fl_X4_103 : Cond.fieldLink RX4 103 "TermReckoner$Place" "to" "I" ∈ wU := mw (i := 96) (by decide +kernel) (by decide +kernel)
theorem pf_X4_103 {v : Int32} {r : Nat} (hk0 : kd r = 2) (hX : Kx X cc RX4 nL d) (hd : decode cc pc = .ok (.putfield 103, 3)) (kk : A X k n (pc + 3) ls st (wset w r 2 v)) : A X k n pc ls (.int v :: .ref (xlay X r) :: st) w := a_put tyX2 hX (klt hk0 (by decide)) (adr_lt (kd_lt hk0 (by decide))) (cell_2 hk0) rfl inU_X2 tyX2_ok nmX2 (j := 2) (by decide) fl_X4_103 rfl rfl rfl (Nat.le_of_ble_eq_true rfl) (by simp [cellF, hk0, modelFs, upd]) hd kk
theorem fl_X4_110 : Cond.fieldLink RX4 110 "TermReckoner$Place" "every" "I" ∈ wU := mw (i := 111) (by decide +kernel) (by decide +kernel)
theorem pf_X4_110 {v : Int32} {r : Nat} (hk0 : kd r = 2) (hX : Kx X cc RX4 nL d) (hd : decode cc pc = .ok (.putfield 110, 3)) (kk : A X k n (pc + 3) ls st (wset w r 6 v)) : A X k n pc ls (.int v :: .ref (xlay X r) :: st) w := a_put tyX2 hX (klt hk0 (by decide)) (adr_lt (kd_lt hk0 (by decide))) (cell_2 hk0) rfl inU_X2 tyX2_ok nmX2 (j := 6) (by decide) fl_X4_110 rfl rfl rfl (Nat.le_of_ble_eq_true rfl) (by simp [cellF, hk0, modelFs, upd]) hd kk
theorem fl_X4_113 : Cond.fieldLink RX4 113 "TermReckoner$Place" "left" "I" ∈ wU := mw (i := 113) (by decide +kernel) (by decide +kernel)
theorem pf_X4_113 {v : Int32} {r : Nat} (hk0 : kd r = 2) (hX : Kx X cc RX4 nL d) (hd : decode cc pc = .ok (.putfield 113, 3)) (kk : A X k n (pc + 3) ls st (wset w r 7 v)) : A X k n pc ls (.int v :: .ref (xlay X r) :: st) w := a_put tyX2 hX (klt hk0 (by decide)) (adr_lt (kd_lt hk0 (by decide))) (cell_2 hk0) rfl inU_X2 tyX2_ok nmX2 (j := 7) (by decide) fl_X4_113 rfl rfl rfl (Nat.le_of_ble_eq_true rfl) (by simp [cellF, hk0, modelFs, upd]) hd kk
theorem fl_X4_116 : Cond.fieldLink RX4 116 "TermReckoner$Place" "given" "I" ∈ wU := mw (i := 116) (by decide +kernel) (by decide +kernel)
theorem gf_X4_116 {r : Nat} (hk0 : kd r = 2) (hX : Kx X cc RX4 nL d) (hd : decode cc pc = .ok (.getfield 116, 3)) (kk : A X k n (pc + 3) ls (.int (w.1 r 8) :: st) w) : A X k n pc ls (.ref (xlay X r) :: st) w := a_get hX (klt hk0 (by decide)) (adr_lt (kd_lt hk0 (by decide))) (cell_2 hk0) rfl inU_X2 (j := 8) (by decide) fl_X4_116 rfl rfl hd kk
theorem pf_X4_116 {v : Int32} {r : Nat} (hk0 : kd r = 2) (hX : Kx X cc RX4 nL d) (hd : decode cc pc = .ok (.putfield 116, 3)) (kk : A X k n (pc + 3) ls st (wset w r 8 v)) : A X k n pc ls (.int v :: .ref (xlay X r) :: st) w := a_put tyX2 hX (klt hk0 (by decide)) (adr_lt (kd_lt hk0 (by decide))) (cell_2 hk0) rfl inU_X2 tyX2_ok nmX2 (j := 8) (by decide) fl_X4_116 rfl rfl rfl (Nat.le_of_ble_eq_true rfl) (by simp [cellF, hk0, modelFs, upd]) hd kk
theorem fl_X4_119 : Cond.fieldLink RX4 119 "TermReckoner$Place" "quashedBy" "I" ∈ wU := mw (i := 107) (by decide +kernel) (by decide +kernel)
theorem pf_X4_119 {v : Int32} {r : Nat} (hk0 : kd r = 2) (hX : Kx X cc RX4 nL d) (hd : decode cc pc = .ok (.putfield 119, 3)) (kk : A X k n (pc + 3) ls st (wset w r 5 v)) : A X k n pc ls (.int v :: .ref (xlay X r) :: st) w := a_put tyX2 hX (klt hk0 (by decide)) (adr_lt (kd_lt hk0 (by decide))) (cell_2 hk0) rfl inU_X2 tyX2_ok nmX2 (j := 5) (by decide) fl_X4_119 rfl rfl rfl (Nat.le_of_ble_eq_true rfl) (by simp [cellF, hk0, modelFs, upd]) hd kk
theorem fl_X5_9 : Cond.fieldLink RX5 9 "TermReckoner$Ring" "places" "[I" ∈ wU := mw (i := 222) (by decide +kernel) (by decide +kernel)
theorem gf_X5_9 {r : Nat} (hk0 : kd r = 5) (hX : Kx X cc RX5 nL d) (hd : decode cc pc = .ok (.getfield 9, 3)) (kk : A X k n (pc + 3) ls (.ref (xlay X (r + 1)) :: st) w) : A X k n pc ls (.ref (xlay X r) :: st) w := a_get hX (klt hk0 (by decide)) (adr_lt (kd_lt hk0 (by decide))) (cell_5 hk0) rfl inU_X5 (j := 0) (by decide) fl_X5_9 rfl rfl hd kk
theorem fl_X5_15 : Cond.fieldLink RX5 15 "TermReckoner$Ring" "size" "I" ∈ wU := mw (i := 223) (by decide +kernel) (by decide +kernel)
theorem gf_X5_15 {r : Nat} (hk0 : kd r = 5) (hX : Kx X cc RX5 nL d) (hd : decode cc pc = .ok (.getfield 15, 3)) (kk : A X k n (pc + 3) ls (.int (w.1 r 1) :: st) w) : A X k n pc ls (.ref (xlay X r) :: st) w := a_get hX (klt hk0 (by decide)) (adr_lt (kd_lt hk0 (by decide))) (cell_5 hk0) rfl inU_X5 (j := 1) (by decide) fl_X5_15 rfl rfl hd kk
theorem pf_X5_15 {v : Int32} {r : Nat} (hk0 : kd r = 5) (hX : Kx X cc RX5 nL d) (hd : decode cc pc = .ok (.putfield 15, 3)) (kk : A X k n (pc + 3) ls st (wset w r 1 v)) : A X k n pc ls (.int v :: .ref (xlay X r) :: st) w := a_put tyX5 hX (klt hk0 (by decide)) (adr_lt (kd_lt hk0 (by decide))) (cell_5 hk0) rfl inU_X5 tyX5_ok nmX5 (j := 1) (by decide) fl_X5_15 rfl rfl rfl (Nat.le_of_ble_eq_true rfl) (by simp [cellF, hk0, modelFs, upd]) hd kk
theorem fl_X5_19 : Cond.fieldLink RX5 19 "TermReckoner$Ring" "next" "[I" ∈ wU := mw (i := 224) (by decide +kernel) (by decide +kernel)
theorem gf_X5_19 {r : Nat} (hk0 : kd r = 5) (hX : Kx X cc RX5 nL d) (hd : decode cc pc = .ok (.getfield 19, 3)) (kk : A X k n (pc + 3) ls (.ref (xlay X (r + 2)) :: st) w) : A X k n pc ls (.ref (xlay X r) :: st) w := a_get hX (klt hk0 (by decide)) (adr_lt (kd_lt hk0 (by decide))) (cell_5 hk0) rfl inU_X5 (j := 2) (by decide) fl_X5_19 rfl rfl hd kk
theorem fl_X5_22 : Cond.fieldLink RX5 22 "TermReckoner$Ring" "leads" "[I" ∈ wU := mw (i := 225) (by decide +kernel) (by decide +kernel)
theorem gf_X5_22 {r : Nat} (hk0 : kd r = 5) (hX : Kx X cc RX5 nL d) (hd : decode cc pc = .ok (.getfield 22, 3)) (kk : A X k n (pc + 3) ls (.ref (xlay X (r + 3)) :: st) w) : A X k n pc ls (.ref (xlay X r) :: st) w := a_get hX (klt hk0 (by decide)) (adr_lt (kd_lt hk0 (by decide))) (cell_5 hk0) rfl inU_X5 (j := 3) (by decide) fl_X5_22 rfl rfl hd kk
theorem fl_X5_60 : Cond.fieldLink RX5 60 "TermReckoner$Place" "set" "I" ∈ wU := mw (i := 103) (by decide +kernel) (by decide +kernel)
theorem gf_X5_60 {r : Nat} (hk0 : kd r = 2) (hX : Kx X cc RX5 nL d) (hd : decode cc pc = .ok (.getfield 60, 3)) (kk : A X k n (pc + 3) ls (.int (w.1 r 4) :: st) w) : A X k n pc ls (.ref (xlay X r) :: st) w := a_get hX (klt hk0 (by decide)) (adr_lt (kd_lt hk0 (by decide))) (cell_2 hk0) rfl inU_X2 (j := 4) (by decide) fl_X5_60 rfl rfl hd kk
theorem fl_X6_9 : Cond.fieldLink RX6 9 "TermReckoner$Tally" "every" "I" ∈ wU := mw (i := 175) (by decide +kernel) (by decide +kernel)
theorem gf_X6_9 {r : Nat} (hk0 : kd r = 6) (hX : Kx X cc RX6 nL d) (hd : decode cc pc = .ok (.getfield 9, 3)) (kk : A X k n (pc + 3) ls (.int (w.1 r 0) :: st) w) : A X k n pc ls (.ref (xlay X r) :: st) w := a_get hX (klt hk0 (by decide)) (adr_lt (kd_lt hk0 (by decide))) (cell_6 hk0) rfl inU_X6 (j := 0) (by decide) fl_X6_9 rfl rfl hd kk
theorem pf_X6_9 {v : Int32} {r : Nat} (hk0 : kd r = 6) (hX : Kx X cc RX6 nL d) (hd : decode cc pc = .ok (.putfield 9, 3)) (kk : A X k n (pc + 3) ls st (wset w r 0 v)) : A X k n pc ls (.int v :: .ref (xlay X r) :: st) w := a_put tyX6 hX (klt hk0 (by decide)) (adr_lt (kd_lt hk0 (by decide))) (cell_6 hk0) rfl inU_X6 tyX6_ok nmX6 (j := 0) (by decide) fl_X6_9 rfl rfl rfl (Nat.le_of_ble_eq_true rfl) (by simp [cellF, hk0, modelFs, upd]) hd kk
theorem fl_X6_15 : Cond.fieldLink RX6 15 "TermReckoner$Tally" "mostTaken" "I" ∈ wU := mw (i := 176) (by decide +kernel) (by decide +kernel)
theorem gf_X6_15 {r : Nat} (hk0 : kd r = 6) (hX : Kx X cc RX6 nL d) (hd : decode cc pc = .ok (.getfield 15, 3)) (kk : A X k n (pc + 3) ls (.int (w.1 r 1) :: st) w) : A X k n pc ls (.ref (xlay X r) :: st) w := a_get hX (klt hk0 (by decide)) (adr_lt (kd_lt hk0 (by decide))) (cell_6 hk0) rfl inU_X6 (j := 1) (by decide) fl_X6_15 rfl rfl hd kk
theorem pf_X6_15 {v : Int32} {r : Nat} (hk0 : kd r = 6) (hX : Kx X cc RX6 nL d) (hd : decode cc pc = .ok (.putfield 15, 3)) (kk : A X k n (pc + 3) ls st (wset w r 1 v)) : A X k n pc ls (.int v :: .ref (xlay X r) :: st) w := a_put tyX6 hX (klt hk0 (by decide)) (adr_lt (kd_lt hk0 (by decide))) (cell_6 hk0) rfl inU_X6 tyX6_ok nmX6 (j := 1) (by decide) fl_X6_15 rfl rfl rfl (Nat.le_of_ble_eq_true rfl) (by simp [cellF, hk0, modelFs, upd]) hd kk
theorem fl_X6_18 : Cond.fieldLink RX6 18 "TermReckoner$Tally" "given" "I" ∈ wU := mw (i := 177) (by decide +kernel) (by decide +kernel)
theorem gf_X6_18 {r : Nat} (hk0 : kd r = 6) (hX : Kx X cc RX6 nL d) (hd : decode cc pc = .ok (.getfield 18, 3)) (kk : A X k n (pc + 3) ls (.int (w.1 r 2) :: st) w) : A X k n pc ls (.ref (xlay X r) :: st) w := a_get hX (klt hk0 (by decide)) (adr_lt (kd_lt hk0 (by decide))) (cell_6 hk0) rfl inU_X6 (j := 2) (by decide) fl_X6_18 rfl rfl hd kk
theorem pf_X6_18 {v : Int32} {r : Nat} (hk0 : kd r = 6) (hX : Kx X cc RX6 nL d) (hd : decode cc pc = .ok (.putfield 18, 3)) (kk : A X k n (pc + 3) ls st (wset w r 2 v)) : A X k n pc ls (.int v :: .ref (xlay X r) :: st) w := a_put tyX6 hX (klt hk0 (by decide)) (adr_lt (kd_lt hk0 (by decide))) (cell_6 hk0) rfl inU_X6 tyX6_ok nmX6 (j := 2) (by decide) fl_X6_18 rfl rfl rfl (Nat.le_of_ble_eq_true rfl) (by simp [cellF, hk0, modelFs, upd]) hd kk
theorem fl_X6_21 : Cond.fieldLink RX6 21 "TermReckoner$Tally" "counted" "I" ∈ wU := mw (i := 178) (by decide +kernel) (by decide +kernel)
theorem gf_X6_21 {r : Nat} (hk0 : kd r = 6) (hX : Kx X cc RX6 nL d) (hd : decode cc pc = .ok (.getfield 21, 3)) (kk : A X k n (pc + 3) ls (.int (w.1 r 3) :: st) w) : A X k n pc ls (.ref (xlay X r) :: st) w := a_get hX (klt hk0 (by decide)) (adr_lt (kd_lt hk0 (by decide))) (cell_6 hk0) rfl inU_X6 (j := 3) (by decide) fl_X6_21 rfl rfl hd kk
theorem pf_X6_21 {v : Int32} {r : Nat} (hk0 : kd r = 6) (hX : Kx X cc RX6 nL d) (hd : decode cc pc = .ok (.putfield 21, 3)) (kk : A X k n (pc + 3) ls st (wset w r 3 v)) : A X k n pc ls (.int v :: .ref (xlay X r) :: st) w := a_put tyX6 hX (klt hk0 (by decide)) (adr_lt (kd_lt hk0 (by decide))) (cell_6 hk0) rfl inU_X6 tyX6_ok nmX6 (j := 3) (by decide) fl_X6_21 rfl rfl rfl (Nat.le_of_ble_eq_true rfl) (by simp [cellF, hk0, modelFs, upd]) hd kk
theorem fl_X6_24 : Cond.fieldLink RX6 24 "TermReckoner$Tally" "closed" "I" ∈ wU := mw (i := 179) (by decide +kernel) (by decide +kernel)
theorem gf_X6_24 {r : Nat} (hk0 : kd r = 6) (hX : Kx X cc RX6 nL d) (hd : decode cc pc = .ok (.getfield 24, 3)) (kk : A X k n (pc + 3) ls (.int (w.1 r 4) :: st) w) : A X k n pc ls (.ref (xlay X r) :: st) w := a_get hX (klt hk0 (by decide)) (adr_lt (kd_lt hk0 (by decide))) (cell_6 hk0) rfl inU_X6 (j := 4) (by decide) fl_X6_24 rfl rfl hd kk
theorem pf_X6_24 {v : Int32} {r : Nat} (hk0 : kd r = 6) (hX : Kx X cc RX6 nL d) (hd : decode cc pc = .ok (.putfield 24, 3)) (kk : A X k n (pc + 3) ls st (wset w r 4 v)) : A X k n pc ls (.int v :: .ref (xlay X r) :: st) w := a_put tyX6 hX (klt hk0 (by decide)) (adr_lt (kd_lt hk0 (by decide))) (cell_6 hk0) rfl inU_X6 tyX6_ok nmX6 (j := 4) (by decide) fl_X6_24 rfl rfl rfl (Nat.le_of_ble_eq_true rfl) (by simp [cellF, hk0, modelFs, upd]) hd kk
theorem fl_X6_27 : Cond.fieldLink RX6 27 "TermReckoner$Tally" "row" "I" ∈ wU := mw (i := 180) (by decide +kernel) (by decide +kernel)
theorem gf_X6_27 {r : Nat} (hk0 : kd r = 6) (hX : Kx X cc RX6 nL d) (hd : decode cc pc = .ok (.getfield 27, 3)) (kk : A X k n (pc + 3) ls (.int (w.1 r 5) :: st) w) : A X k n pc ls (.ref (xlay X r) :: st) w := a_get hX (klt hk0 (by decide)) (adr_lt (kd_lt hk0 (by decide))) (cell_6 hk0) rfl inU_X6 (j := 5) (by decide) fl_X6_27 rfl rfl hd kk
theorem pf_X6_27 {v : Int32} {r : Nat} (hk0 : kd r = 6) (hX : Kx X cc RX6 nL d) (hd : decode cc pc = .ok (.putfield 27, 3)) (kk : A X k n (pc + 3) ls st (wset w r 5 v)) : A X k n pc ls (.int v :: .ref (xlay X r) :: st) w := a_put tyX6 hX (klt hk0 (by decide)) (adr_lt (kd_lt hk0 (by decide))) (cell_6 hk0) rfl inU_X6 tyX6_ok nmX6 (j := 5) (by decide) fl_X6_27 rfl rfl rfl (Nat.le_of_ble_eq_true rfl) (by simp [cellF, hk0, modelFs, upd]) hd kk
theorem fl_X6_30 : Cond.fieldLink RX6 30 "TermReckoner$Place" "every" "I" ∈ wU := mw (i := 110) (by decide +kernel) (by decide +kernel)
theorem gf_X6_30 {r : Nat} (hk0 : kd r = 2) (hX : Kx X cc RX6 nL d) (hd : decode cc pc = .ok (.getfield 30, 3)) (kk : A X k n (pc + 3) ls (.int (w.1 r 6) :: st) w) : A X k n pc ls (.ref (xlay X r) :: st) w := a_get hX (klt hk0 (by decide)) (adr_lt (kd_lt hk0 (by decide))) (cell_2 hk0) rfl inU_X2 (j := 6) (by decide) fl_X6_30 rfl rfl hd kk
theorem fl_X6_36 : Cond.fieldLink RX6 36 "TermReckoner$Place" "given" "I" ∈ wU := mw (i := 115) (by decide +kernel) (by decide +kernel)
theorem gf_X6_36 {r : Nat} (hk0 : kd r = 2) (hX : Kx X cc RX6 nL d) (hd : decode cc pc = .ok (.getfield 36, 3)) (kk : A X k n (pc + 3) ls (.int (w.1 r 8) :: st) w) : A X k n pc ls (.ref (xlay X r) :: st) w := a_get hX (klt hk0 (by decide)) (adr_lt (kd_lt hk0 (by decide))) (cell_2 hk0) rfl inU_X2 (j := 8) (by decide) fl_X6_36 rfl rfl hd kk
theorem fl_X7_11 : Cond.fieldLink RX7 11 "TermReckoner" "log" "[LTermReckoner$Entry;" ∈ wU := mw (i := 235) (by decide +kernel) (by decide +kernel)
theorem gf_X7_11 {r : Nat} (hk0 : kd r = 7) (hX : Kx X cc RX7 nL d) (hd : decode cc pc = .ok (.getfield 11, 3)) (kk : A X k n (pc + 3) ls (.ref (xlay X 1) :: st) w) : A X k n pc ls (.ref (xlay X r) :: st) w := a_get hX (klt hk0 (by decide)) (adr_lt (kd_lt hk0 (by decide))) (cell_7 hk0) rfl inU_X7 (j := 0) (by decide) fl_X7_11 rfl rfl hd kk
theorem fl_X7_15 : Cond.fieldLink RX7 15 "TermReckoner" "entries" "I" ∈ wU := mw (i := 236) (by decide +kernel) (by decide +kernel)
theorem gf_X7_15 {r : Nat} (hk0 : kd r = 7) (hX : Kx X cc RX7 nL d) (hd : decode cc pc = .ok (.getfield 15, 3)) (kk : A X k n (pc + 3) ls (.int (w.1 r 1) :: st) w) : A X k n pc ls (.ref (xlay X r) :: st) w := a_get hX (klt hk0 (by decide)) (adr_lt (kd_lt hk0 (by decide))) (cell_7 hk0) rfl inU_X7 (j := 1) (by decide) fl_X7_15 rfl rfl hd kk
theorem pf_X7_15 {v : Int32} {r : Nat} (hk0 : kd r = 7) (hX : Kx X cc RX7 nL d) (hd : decode cc pc = .ok (.putfield 15, 3)) (kk : A X k n (pc + 3) ls st (wset w r 1 v)) : A X k n pc ls (.int v :: .ref (xlay X r) :: st) w := a_put tyX7 hX (klt hk0 (by decide)) (adr_lt (kd_lt hk0 (by decide))) (cell_7 hk0) rfl inU_X7 tyX7_ok nmX7 (j := 1) (by decide) fl_X7_15 rfl rfl rfl (Nat.le_of_ble_eq_true rfl) (by simp [cellF, hk0, modelFs, upd]) hd kk
theorem fl_X7_19 : Cond.fieldLink RX7 19 "TermReckoner" "persons" "I" ∈ wU := mw (i := 237) (by decide +kernel) (by decide +kernel)
theorem gf_X7_19 {r : Nat} (hk0 : kd r = 7) (hX : Kx X cc RX7 nL d) (hd : decode cc pc = .ok (.getfield 19, 3)) (kk : A X k n (pc + 3) ls (.int (w.1 r 2) :: st) w) : A X k n pc ls (.ref (xlay X r) :: st) w := a_get hX (klt hk0 (by decide)) (adr_lt (kd_lt hk0 (by decide))) (cell_7 hk0) rfl inU_X7 (j := 2) (by decide) fl_X7_19 rfl rfl hd kk
theorem pf_X7_19 {v : Int32} {r : Nat} (hk0 : kd r = 7) (hX : Kx X cc RX7 nL d) (hd : decode cc pc = .ok (.putfield 19, 3)) (kk : A X k n (pc + 3) ls st (wset w r 2 v)) : A X k n pc ls (.int v :: .ref (xlay X r) :: st) w := a_put tyX7 hX (klt hk0 (by decide)) (adr_lt (kd_lt hk0 (by decide))) (cell_7 hk0) rfl inU_X7 tyX7_ok nmX7 (j := 2) (by decide) fl_X7_19 rfl rfl rfl (Nat.le_of_ble_eq_true rfl) (by simp [cellF, hk0, modelFs, upd]) hd kk
theorem fl_X7_22 : Cond.fieldLink RX7 22 "TermReckoner" "today" "I" ∈ wU := mw (i := 238) (by decide +kernel) (by decide +kernel)
theorem gf_X7_22 {r : Nat} (hk0 : kd r = 7) (hX : Kx X cc RX7 nL d) (hd : decode cc pc = .ok (.getfield 22, 3)) (kk : A X k n (pc + 3) ls (.int (w.1 r 3) :: st) w) : A X k n pc ls (.ref (xlay X r) :: st) w := a_get hX (klt hk0 (by decide)) (adr_lt (kd_lt hk0 (by decide))) (cell_7 hk0) rfl inU_X7 (j := 3) (by decide) fl_X7_22 rfl rfl hd kk
theorem pf_X7_22 {v : Int32} {r : Nat} (hk0 : kd r = 7) (hX : Kx X cc RX7 nL d) (hd : decode cc pc = .ok (.putfield 22, 3)) (kk : A X k n (pc + 3) ls st (wset w r 3 v)) : A X k n pc ls (.int v :: .ref (xlay X r) :: st) w := a_put tyX7 hX (klt hk0 (by decide)) (adr_lt (kd_lt hk0 (by decide))) (cell_7 hk0) rfl inU_X7 tyX7_ok nmX7 (j := 3) (by decide) fl_X7_22 rfl rfl rfl (Nat.le_of_ble_eq_true rfl) (by simp [cellF, hk0, modelFs, upd]) hd kk
theorem fl_X7_25 : Cond.fieldLink RX7 25 "TermReckoner" "asked" "I" ∈ wU := mw (i := 239) (by decide +kernel) (by decide +kernel)
theorem gf_X7_25 {r : Nat} (hk0 : kd r = 7) (hX : Kx X cc RX7 nL d) (hd : decode cc pc = .ok (.getfield 25, 3)) (kk : A X k n (pc + 3) ls (.int (w.1 r 4) :: st) w) : A X k n pc ls (.ref (xlay X r) :: st) w := a_get hX (klt hk0 (by decide)) (adr_lt (kd_lt hk0 (by decide))) (cell_7 hk0) rfl inU_X7 (j := 4) (by decide) fl_X7_25 rfl rfl hd kk
theorem pf_X7_25 {v : Int32} {r : Nat} (hk0 : kd r = 7) (hX : Kx X cc RX7 nL d) (hd : decode cc pc = .ok (.putfield 25, 3)) (kk : A X k n (pc + 3) ls st (wset w r 4 v)) : A X k n pc ls (.int v :: .ref (xlay X r) :: st) w := a_put tyX7 hX (klt hk0 (by decide)) (adr_lt (kd_lt hk0 (by decide))) (cell_7 hk0) rfl inU_X7 tyX7_ok nmX7 (j := 4) (by decide) fl_X7_25 rfl rfl rfl (Nat.le_of_ble_eq_true rfl) (by simp [cellF, hk0, modelFs, upd]) hd kk
theorem fl_X7_31 : Cond.fieldLink RX7 31 "TermReckoner" "now" "LTermReckoner$Registry;" ∈ wU := mw (i := 240) (by decide +kernel) (by decide +kernel)
theorem gf_X7_31 {r : Nat} (hk0 : kd r = 7) (hX : Kx X cc RX7 nL d) (hd : decode cc pc = .ok (.getfield 31, 3)) (kk : A X k n (pc + 3) ls (.ref (xlay X 2) :: st) w) : A X k n pc ls (.ref (xlay X r) :: st) w := a_get hX (klt hk0 (by decide)) (adr_lt (kd_lt hk0 (by decide))) (cell_7 hk0) rfl inU_X7 (j := 5) (by decide) fl_X7_31 rfl rfl hd kk
theorem fl_X7_35 : Cond.fieldLink RX7 35 "TermReckoner" "then" "LTermReckoner$Registry;" ∈ wU := mw (i := 241) (by decide +kernel) (by decide +kernel)
theorem gf_X7_35 {r : Nat} (hk0 : kd r = 7) (hX : Kx X cc RX7 nL d) (hd : decode cc pc = .ok (.getfield 35, 3)) (kk : A X k n (pc + 3) ls (.ref (xlay X 106) :: st) w) : A X k n pc ls (.ref (xlay X r) :: st) w := a_get hX (klt hk0 (by decide)) (adr_lt (kd_lt hk0 (by decide))) (cell_7 hk0) rfl inU_X7 (j := 6) (by decide) fl_X7_35 rfl rfl hd kk
theorem fl_X7_41 : Cond.fieldLink RX7 41 "TermReckoner" "reckoning" "LTermReckoner$Reckoning;" ∈ wU := mw (i := 242) (by decide +kernel) (by decide +kernel)
theorem gf_X7_41 {r : Nat} (hk0 : kd r = 7) (hX : Kx X cc RX7 nL d) (hd : decode cc pc = .ok (.getfield 41, 3)) (kk : A X k n (pc + 3) ls (.ref (xlay X 210) :: st) w) : A X k n pc ls (.ref (xlay X r) :: st) w := a_get hX (klt hk0 (by decide)) (adr_lt (kd_lt hk0 (by decide))) (cell_7 hk0) rfl inU_X7 (j := 7) (by decide) fl_X7_41 rfl rfl hd kk
theorem fl_X7_48 : Cond.fieldLink RX7 48 "TermReckoner" "found" "LTermReckoner$Ring;" ∈ wU := mw (i := 243) (by decide +kernel) (by decide +kernel)
theorem gf_X7_48 {r : Nat} (hk0 : kd r = 7) (hX : Kx X cc RX7 nL d) (hd : decode cc pc = .ok (.getfield 48, 3)) (kk : A X k n (pc + 3) ls (.ref (xlay X 217) :: st) w) : A X k n pc ls (.ref (xlay X r) :: st) w := a_get hX (klt hk0 (by decide)) (adr_lt (kd_lt hk0 (by decide))) (cell_7 hk0) rfl inU_X7 (j := 8) (by decide) fl_X7_48 rfl rfl hd kk
theorem fl_X7_70 : Cond.fieldLink RX7 70 "TermReckoner$Entry" "c" "I" ∈ wU := mw (i := 324) (by decide +kernel) (by decide +kernel)
theorem pf_X7_70 {v : Int32} {i : Nat} (hi : i < w.2.2.1) (hX : Kx X cc RX7 nL d) (hd : decode cc pc = .ok (.putfield 70, 3)) (kk : A X k n (pc + 3) ls st (wset w (248 + i) 4 v)) : A X k n pc ls (.int v :: .ref (w.2.2.2 i) :: st) w := a_put tyX0 hX (Nat.add_lt_add_left hi 248) adr_ge (cell_0 (kd_ge i)) rfl inU_X0 tyX0_ok nmX0 (j := 4) (by decide) fl_X7_70 rfl rfl rfl (Nat.le_of_ble_eq_true rfl) (by simp [cellF, kd_ge, upd]) hd kk
theorem fl_X7_73 : Cond.fieldLink RX7 73 "TermReckoner$Entry" "d" "I" ∈ wU := mw (i := 327) (by decide +kernel) (by decide +kernel)
theorem pf_X7_73 {v : Int32} {i : Nat} (hi : i < w.2.2.1) (hX : Kx X cc RX7 nL d) (hd : decode cc pc = .ok (.putfield 73, 3)) (kk : A X k n (pc + 3) ls st (wset w (248 + i) 5 v)) : A X k n pc ls (.int v :: .ref (w.2.2.2 i) :: st) w := a_put tyX0 hX (Nat.add_lt_add_left hi 248) adr_ge (cell_0 (kd_ge i)) rfl inU_X0 tyX0_ok nmX0 (j := 5) (by decide) fl_X7_73 rfl rfl rfl (Nat.le_of_ble_eq_true rfl) (by simp [cellF, kd_ge, upd]) hd kk
theorem fl_X7_87 : Cond.fieldLink RX7 87 "TermReckoner$Entry" "e" "I" ∈ wU := mw (i := 330) (by decide +kernel) (by decide +kernel)
theorem pf_X7_87 {v : Int32} {i : Nat} (hi : i < w.2.2.1) (hX : Kx X cc RX7 nL d) (hd : decode cc pc = .ok (.putfield 87, 3)) (kk : A X k n (pc + 3) ls st (wset w (248 + i) 6 v)) : A X k n pc ls (.int v :: .ref (w.2.2.2 i) :: st) w := a_put tyX0 hX (Nat.add_lt_add_left hi 248) adr_ge (cell_0 (kd_ge i)) rfl inU_X0 tyX0_ok nmX0 (j := 6) (by decide) fl_X7_87 rfl rfl rfl (Nat.le_of_ble_eq_true rfl) (by simp [cellF, kd_ge, upd]) hd kk
theorem fl_X7_90 : Cond.fieldLink RX7 90 "TermReckoner$Entry" "f" "I" ∈ wU := mw (i := 333) (by decide +kernel) (by decide +kernel)
theorem pf_X7_90 {v : Int32} {i : Nat} (hi : i < w.2.2.1) (hX : Kx X cc RX7 nL d) (hd : decode cc pc = .ok (.putfield 90, 3)) (kk : A X k n (pc + 3) ls st (wset w (248 + i) 7 v)) : A X k n pc ls (.int v :: .ref (w.2.2.2 i) :: st) w := a_put tyX0 hX (Nat.add_lt_add_left hi 248) adr_ge (cell_0 (kd_ge i)) rfl inU_X0 tyX0_ok nmX0 (j := 7) (by decide) fl_X7_90 rfl rfl rfl (Nat.le_of_ble_eq_true rfl) (by simp [cellF, kd_ge, upd]) hd kk
theorem fl_X7_97 : Cond.fieldLink RX7 97 "TermReckoner$Place" "kind" "I" ∈ wU := mw (i := 90) (by decide +kernel) (by decide +kernel)
theorem gf_X7_97 {r : Nat} (hk0 : kd r = 2) (hX : Kx X cc RX7 nL d) (hd : decode cc pc = .ok (.getfield 97, 3)) (kk : A X k n (pc + 3) ls (.int (w.1 r 0) :: st) w) : A X k n pc ls (.ref (xlay X r) :: st) w := a_get hX (klt hk0 (by decide)) (adr_lt (kd_lt hk0 (by decide))) (cell_2 hk0) rfl inU_X2 (j := 0) (by decide) fl_X7_97 rfl rfl hd kk
theorem fl_X7_143 : Cond.fieldLink RX7 143 "TermReckoner$Place" "given" "I" ∈ wU := mw (i := 117) (by decide +kernel) (by decide +kernel)
theorem gf_X7_143 {r : Nat} (hk0 : kd r = 2) (hX : Kx X cc RX7 nL d) (hd : decode cc pc = .ok (.getfield 143, 3)) (kk : A X k n (pc + 3) ls (.int (w.1 r 8) :: st) w) : A X k n pc ls (.ref (xlay X r) :: st) w := a_get hX (klt hk0 (by decide)) (adr_lt (kd_lt hk0 (by decide))) (cell_2 hk0) rfl inU_X2 (j := 8) (by decide) fl_X7_143 rfl rfl hd kk
theorem fl_X7_154 : Cond.fieldLink RX7 154 "TermReckoner$File" "granted" "I" ∈ wU := mw (i := 144) (by decide +kernel) (by decide +kernel)
theorem gf_X7_154 {r : Nat} (hk0 : kd r = 1) (hX : Kx X cc RX7 nL d) (hd : decode cc pc = .ok (.getfield 154, 3)) (kk : A X k n (pc + 3) ls (.int (w.1 r 4) :: st) w) : A X k n pc ls (.ref (xlay X r) :: st) w := a_get hX (klt hk0 (by decide)) (adr_lt (kd_lt hk0 (by decide))) (cell_1 hk0) rfl inU_X1 (j := 4) (by decide) fl_X7_154 rfl rfl hd kk
theorem fl_X7_166 : Cond.fieldLink RX7 166 "TermReckoner$Entry" "need" "I" ∈ wU := mw (i := 336) (by decide +kernel) (by decide +kernel)
theorem pf_X7_166 {v : Int32} {i : Nat} (hi : i < w.2.2.1) (hX : Kx X cc RX7 nL d) (hd : decode cc pc = .ok (.putfield 166, 3)) (kk : A X k n (pc + 3) ls st (wset w (248 + i) 8 v)) : A X k n pc ls (.int v :: .ref (w.2.2.2 i) :: st) w := a_put tyX0 hX (Nat.add_lt_add_left hi 248) adr_ge (cell_0 (kd_ge i)) rfl inU_X0 tyX0_ok nmX0 (j := 8) (by decide) fl_X7_166 rfl rfl rfl (Nat.le_of_ble_eq_true rfl) (by simp [cellF, kd_ge, upd]) hd kk
theorem fl_X7_203 : Cond.fieldLink RX7 203 "TermReckoner$Place" "quashedBy" "I" ∈ wU := mw (i := 108) (by decide +kernel) (by decide +kernel)
theorem gf_X7_203 {r : Nat} (hk0 : kd r = 2) (hX : Kx X cc RX7 nL d) (hd : decode cc pc = .ok (.getfield 203, 3)) (kk : A X k n (pc + 3) ls (.int (w.1 r 5) :: st) w) : A X k n pc ls (.ref (xlay X r) :: st) w := a_get hX (klt hk0 (by decide)) (adr_lt (kd_lt hk0 (by decide))) (cell_2 hk0) rfl inU_X2 (j := 5) (by decide) fl_X7_203 rfl rfl hd kk
theorem fl_X7_277 : Cond.fieldLink RX7 277 "TermReckoner$Entry" "today" "I" ∈ wU := mw (i := 315) (by decide +kernel) (by decide +kernel)
theorem gf_X7_277 {i : Nat} (hi : i < w.2.2.1) (hX : Kx X cc RX7 nL d) (hd : decode cc pc = .ok (.getfield 277, 3)) (kk : A X k n (pc + 3) ls (.int (w.1 (248 + i) 0) :: st) w) : A X k n pc ls (.ref (w.2.2.2 i) :: st) w := a_get hX (Nat.add_lt_add_left hi 248) adr_ge (cell_0 (kd_ge i)) rfl inU_X0 (j := 0) (by decide) fl_X7_277 rfl rfl hd kk
theorem fl_X8_9 : Cond.fieldLink RX8 9 "TermReckonerModel" "asked" "I" ∈ wU := mw (i := 804) (by decide +kernel) (by decide +kernel)
theorem gf_X8_9 {r : Nat} (hk0 : kd r = 8) (hX : Kx X cc RX8 nL d) (hd : decode cc pc = .ok (.getfield 9, 3)) (kk : A X k n (pc + 3) ls (.int (w.1 r 1) :: st) w) : A X k n pc ls (.ref (xlay X r) :: st) w := a_get hX (klt hk0 (by decide)) (adr_lt (kd_lt hk0 (by decide))) (cell_8 hk0) rfl inU_X8 (j := 1) (by decide) fl_X8_9 rfl rfl hd kk
theorem pf_X8_9 {v : Int32} {r : Nat} (hk0 : kd r = 8) (hX : Kx X cc RX8 nL d) (hd : decode cc pc = .ok (.putfield 9, 3)) (kk : A X k n (pc + 3) ls st (wset w r 1 v)) : A X k n pc ls (.int v :: .ref (xlay X r) :: st) w := a_put tyX8 hX (klt hk0 (by decide)) (adr_lt (kd_lt hk0 (by decide))) (cell_8 hk0) rfl inU_X8 tyX8_ok nmX8 (j := 1) (by decide) fl_X8_9 rfl rfl rfl (Nat.le_of_ble_eq_true rfl) (by simp [cellF, hk0, modelFs, upd]) hd kk
theorem fl_X8_13 : Cond.fieldLink RX8 13 "TermReckonerModel" "entry" "[I" ∈ wU := mw (i := 806) (by decide +kernel) (by decide +kernel)
theorem gf_X8_13 {r : Nat} (hk0 : kd r = 8) (hX : Kx X cc RX8 nL d) (hd : decode cc pc = .ok (.getfield 13, 3)) (kk : A X k n (pc + 3) ls (.ref (xlay X 222) :: st) w) : A X k n pc ls (.ref (xlay X r) :: st) w := a_get hX (klt hk0 (by decide)) (adr_lt (kd_lt hk0 (by decide))) (cell_8 hk0) rfl inU_X8 (j := 3) (by decide) fl_X8_13 rfl rfl hd kk
theorem fl_X8_17 : Cond.fieldLink RX8 17 "TermReckonerModel" "recalled" "[I" ∈ wU := mw (i := 807) (by decide +kernel) (by decide +kernel)
theorem gf_X8_17 {r : Nat} (hk0 : kd r = 8) (hX : Kx X cc RX8 nL d) (hd : decode cc pc = .ok (.getfield 17, 3)) (kk : A X k n (pc + 3) ls (.ref (xlay X 223) :: st) w) : A X k n pc ls (.ref (xlay X r) :: st) w := a_get hX (klt hk0 (by decide)) (adr_lt (kd_lt hk0 (by decide))) (cell_8 hk0) rfl inU_X8 (j := 4) (by decide) fl_X8_17 rfl rfl hd kk
theorem fl_X8_20 : Cond.fieldLink RX8 20 "TermReckonerModel" "kind" "[I" ∈ wU := mw (i := 809) (by decide +kernel) (by decide +kernel)
theorem gf_X8_20 {r : Nat} (hk0 : kd r = 8) (hX : Kx X cc RX8 nL d) (hd : decode cc pc = .ok (.getfield 20, 3)) (kk : A X k n (pc + 3) ls (.ref (xlay X 224) :: st) w) : A X k n pc ls (.ref (xlay X r) :: st) w := a_get hX (klt hk0 (by decide)) (adr_lt (kd_lt hk0 (by decide))) (cell_8 hk0) rfl inU_X8 (j := 6) (by decide) fl_X8_20 rfl rfl hd kk
theorem fl_X8_23 : Cond.fieldLink RX8 23 "TermReckonerModel" "from" "[I" ∈ wU := mw (i := 810) (by decide +kernel) (by decide +kernel)
theorem gf_X8_23 {r : Nat} (hk0 : kd r = 8) (hX : Kx X cc RX8 nL d) (hd : decode cc pc = .ok (.getfield 23, 3)) (kk : A X k n (pc + 3) ls (.ref (xlay X 225) :: st) w) : A X k n pc ls (.ref (xlay X r) :: st) w := a_get hX (klt hk0 (by decide)) (adr_lt (kd_lt hk0 (by decide))) (cell_8 hk0) rfl inU_X8 (j := 7) (by decide) fl_X8_23 rfl rfl hd kk
theorem fl_X8_26 : Cond.fieldLink RX8 26 "TermReckonerModel" "to" "[I" ∈ wU := mw (i := 811) (by decide +kernel) (by decide +kernel)
theorem gf_X8_26 {r : Nat} (hk0 : kd r = 8) (hX : Kx X cc RX8 nL d) (hd : decode cc pc = .ok (.getfield 26, 3)) (kk : A X k n (pc + 3) ls (.ref (xlay X 226) :: st) w) : A X k n pc ls (.ref (xlay X r) :: st) w := a_get hX (klt hk0 (by decide)) (adr_lt (kd_lt hk0 (by decide))) (cell_8 hk0) rfl inU_X8 (j := 8) (by decide) fl_X8_26 rfl rfl hd kk
theorem fl_X8_29 : Cond.fieldLink RX8 29 "TermReckonerModel" "need" "[I" ∈ wU := mw (i := 812) (by decide +kernel) (by decide +kernel)
theorem gf_X8_29 {r : Nat} (hk0 : kd r = 8) (hX : Kx X cc RX8 nL d) (hd : decode cc pc = .ok (.getfield 29, 3)) (kk : A X k n (pc + 3) ls (.ref (xlay X 227) :: st) w) : A X k n pc ls (.ref (xlay X r) :: st) w := a_get hX (klt hk0 (by decide)) (adr_lt (kd_lt hk0 (by decide))) (cell_8 hk0) rfl inU_X8 (j := 9) (by decide) fl_X8_29 rfl rfl hd kk
theorem fl_X8_32 : Cond.fieldLink RX8 32 "TermReckonerModel" "set" "[I" ∈ wU := mw (i := 813) (by decide +kernel) (by decide +kernel)
theorem gf_X8_32 {r : Nat} (hk0 : kd r = 8) (hX : Kx X cc RX8 nL d) (hd : decode cc pc = .ok (.getfield 32, 3)) (kk : A X k n (pc + 3) ls (.ref (xlay X 228) :: st) w) : A X k n pc ls (.ref (xlay X r) :: st) w := a_get hX (klt hk0 (by decide)) (adr_lt (kd_lt hk0 (by decide))) (cell_8 hk0) rfl inU_X8 (j := 10) (by decide) fl_X8_32 rfl rfl hd kk
theorem fl_X8_35 : Cond.fieldLink RX8 35 "TermReckonerModel" "ruleIn" "[I" ∈ wU := mw (i := 814) (by decide +kernel) (by decide +kernel)
theorem gf_X8_35 {r : Nat} (hk0 : kd r = 8) (hX : Kx X cc RX8 nL d) (hd : decode cc pc = .ok (.getfield 35, 3)) (kk : A X k n (pc + 3) ls (.ref (xlay X 229) :: st) w) : A X k n pc ls (.ref (xlay X r) :: st) w := a_get hX (klt hk0 (by decide)) (adr_lt (kd_lt hk0 (by decide))) (cell_8 hk0) rfl inU_X8 (j := 11) (by decide) fl_X8_35 rfl rfl hd kk
theorem fl_X8_38 : Cond.fieldLink RX8 38 "TermReckonerModel" "ruleLeft" "[I" ∈ wU := mw (i := 815) (by decide +kernel) (by decide +kernel)
theorem gf_X8_38 {r : Nat} (hk0 : kd r = 8) (hX : Kx X cc RX8 nL d) (hd : decode cc pc = .ok (.getfield 38, 3)) (kk : A X k n (pc + 3) ls (.ref (xlay X 230) :: st) w) : A X k n pc ls (.ref (xlay X r) :: st) w := a_get hX (klt hk0 (by decide)) (adr_lt (kd_lt hk0 (by decide))) (cell_8 hk0) rfl inU_X8 (j := 12) (by decide) fl_X8_38 rfl rfl hd kk
theorem fl_X8_41 : Cond.fieldLink RX8 41 "TermReckonerModel" "given" "[I" ∈ wU := mw (i := 816) (by decide +kernel) (by decide +kernel)
theorem gf_X8_41 {r : Nat} (hk0 : kd r = 8) (hX : Kx X cc RX8 nL d) (hd : decode cc pc = .ok (.getfield 41, 3)) (kk : A X k n (pc + 3) ls (.ref (xlay X 231) :: st) w) : A X k n pc ls (.ref (xlay X r) :: st) w := a_get hX (klt hk0 (by decide)) (adr_lt (kd_lt hk0 (by decide))) (cell_8 hk0) rfl inU_X8 (j := 13) (by decide) fl_X8_41 rfl rfl hd kk
theorem fl_X8_44 : Cond.fieldLink RX8 44 "TermReckonerModel" "quashedBy" "[I" ∈ wU := mw (i := 817) (by decide +kernel) (by decide +kernel)
theorem gf_X8_44 {r : Nat} (hk0 : kd r = 8) (hX : Kx X cc RX8 nL d) (hd : decode cc pc = .ok (.getfield 44, 3)) (kk : A X k n (pc + 3) ls (.ref (xlay X 232) :: st) w) : A X k n pc ls (.ref (xlay X r) :: st) w := a_get hX (klt hk0 (by decide)) (adr_lt (kd_lt hk0 (by decide))) (cell_8 hk0) rfl inU_X8 (j := 14) (by decide) fl_X8_44 rfl rfl hd kk
theorem fl_X8_47 : Cond.fieldLink RX8 47 "TermReckonerModel" "month" "[I" ∈ wU := mw (i := 819) (by decide +kernel) (by decide +kernel)
theorem gf_X8_47 {r : Nat} (hk0 : kd r = 8) (hX : Kx X cc RX8 nL d) (hd : decode cc pc = .ok (.getfield 47, 3)) (kk : A X k n (pc + 3) ls (.ref (xlay X 233) :: st) w) : A X k n pc ls (.ref (xlay X r) :: st) w := a_get hX (klt hk0 (by decide)) (adr_lt (kd_lt hk0 (by decide))) (cell_8 hk0) rfl inU_X8 (j := 16) (by decide) fl_X8_47 rfl rfl hd kk
theorem fl_X8_50 : Cond.fieldLink RX8 50 "TermReckonerModel" "isWide" "[Z" ∈ wU := mw (i := 820) (by decide +kernel) (by decide +kernel)
theorem gf_X8_50 {r : Nat} (hk0 : kd r = 8) (hX : Kx X cc RX8 nL d) (hd : decode cc pc = .ok (.getfield 50, 3)) (kk : A X k n (pc + 3) ls (.ref (xlay X 234) :: st) w) : A X k n pc ls (.ref (xlay X r) :: st) w := a_get hX (klt hk0 (by decide)) (adr_lt (kd_lt hk0 (by decide))) (cell_8 hk0) rfl inU_X8 (j := 17) (by decide) fl_X8_50 rfl rfl hd kk
theorem fl_X8_54 : Cond.fieldLink RX8 54 "TermReckonerModel" "rowSize" "[I" ∈ wU := mw (i := 821) (by decide +kernel) (by decide +kernel)
theorem gf_X8_54 {r : Nat} (hk0 : kd r = 8) (hX : Kx X cc RX8 nL d) (hd : decode cc pc = .ok (.getfield 54, 3)) (kk : A X k n (pc + 3) ls (.ref (xlay X 235) :: st) w) : A X k n pc ls (.ref (xlay X r) :: st) w := a_get hX (klt hk0 (by decide)) (adr_lt (kd_lt hk0 (by decide))) (cell_8 hk0) rfl inU_X8 (j := 18) (by decide) fl_X8_54 rfl rfl hd kk
theorem fl_X8_57 : Cond.fieldLink RX8 57 "TermReckonerModel" "row" "[I" ∈ wU := mw (i := 822) (by decide +kernel) (by decide +kernel)
theorem gf_X8_57 {r : Nat} (hk0 : kd r = 8) (hX : Kx X cc RX8 nL d) (hd : decode cc pc = .ok (.getfield 57, 3)) (kk : A X k n (pc + 3) ls (.ref (xlay X 236) :: st) w) : A X k n pc ls (.ref (xlay X r) :: st) w := a_get hX (klt hk0 (by decide)) (adr_lt (kd_lt hk0 (by decide))) (cell_8 hk0) rfl inU_X8 (j := 19) (by decide) fl_X8_57 rfl rfl hd kk
theorem fl_X8_60 : Cond.fieldLink RX8 60 "TermReckonerModel" "isDone" "[Z" ∈ wU := mw (i := 823) (by decide +kernel) (by decide +kernel)
theorem gf_X8_60 {r : Nat} (hk0 : kd r = 8) (hX : Kx X cc RX8 nL d) (hd : decode cc pc = .ok (.getfield 60, 3)) (kk : A X k n (pc + 3) ls (.ref (xlay X 237) :: st) w) : A X k n pc ls (.ref (xlay X r) :: st) w := a_get hX (klt hk0 (by decide)) (adr_lt (kd_lt hk0 (by decide))) (cell_8 hk0) rfl inU_X8 (j := 20) (by decide) fl_X8_60 rfl rfl hd kk
theorem fl_X8_63 : Cond.fieldLink RX8 63 "TermReckonerModel" "beginOf" "[I" ∈ wU := mw (i := 824) (by decide +kernel) (by decide +kernel)
theorem gf_X8_63 {r : Nat} (hk0 : kd r = 8) (hX : Kx X cc RX8 nL d) (hd : decode cc pc = .ok (.getfield 63, 3)) (kk : A X k n (pc + 3) ls (.ref (xlay X 238) :: st) w) : A X k n pc ls (.ref (xlay X r) :: st) w := a_get hX (klt hk0 (by decide)) (adr_lt (kd_lt hk0 (by decide))) (cell_8 hk0) rfl inU_X8 (j := 21) (by decide) fl_X8_63 rfl rfl hd kk
theorem fl_X8_66 : Cond.fieldLink RX8 66 "TermReckonerModel" "endOf" "[I" ∈ wU := mw (i := 825) (by decide +kernel) (by decide +kernel)
theorem gf_X8_66 {r : Nat} (hk0 : kd r = 8) (hX : Kx X cc RX8 nL d) (hd : decode cc pc = .ok (.getfield 66, 3)) (kk : A X k n (pc + 3) ls (.ref (xlay X 239) :: st) w) : A X k n pc ls (.ref (xlay X r) :: st) w := a_get hX (klt hk0 (by decide)) (adr_lt (kd_lt hk0 (by decide))) (cell_8 hk0) rfl inU_X8 (j := 22) (by decide) fl_X8_66 rfl rfl hd kk
theorem fl_X8_70 : Cond.fieldLink RX8 70 "TermReckonerModel" "counts" "[Z" ∈ wU := mw (i := 826) (by decide +kernel) (by decide +kernel)
theorem gf_X8_70 {r : Nat} (hk0 : kd r = 8) (hX : Kx X cc RX8 nL d) (hd : decode cc pc = .ok (.getfield 70, 3)) (kk : A X k n (pc + 3) ls (.ref (xlay X 240) :: st) w) : A X k n pc ls (.ref (xlay X r) :: st) w := a_get hX (klt hk0 (by decide)) (adr_lt (kd_lt hk0 (by decide))) (cell_8 hk0) rfl inU_X8 (j := 23) (by decide) fl_X8_70 rfl rfl hd kk
theorem fl_X8_73 : Cond.fieldLink RX8 73 "TermReckonerModel" "countedTo" "[I" ∈ wU := mw (i := 827) (by decide +kernel) (by decide +kernel)
theorem gf_X8_73 {r : Nat} (hk0 : kd r = 8) (hX : Kx X cc RX8 nL d) (hd : decode cc pc = .ok (.getfield 73, 3)) (kk : A X k n (pc + 3) ls (.ref (xlay X 241) :: st) w) : A X k n pc ls (.ref (xlay X r) :: st) w := a_get hX (klt hk0 (by decide)) (adr_lt (kd_lt hk0 (by decide))) (cell_8 hk0) rfl inU_X8 (j := 24) (by decide) fl_X8_73 rfl rfl hd kk
theorem fl_X8_76 : Cond.fieldLink RX8 76 "TermReckonerModel" "takenTo" "[I" ∈ wU := mw (i := 828) (by decide +kernel) (by decide +kernel)
theorem gf_X8_76 {r : Nat} (hk0 : kd r = 8) (hX : Kx X cc RX8 nL d) (hd : decode cc pc = .ok (.getfield 76, 3)) (kk : A X k n (pc + 3) ls (.ref (xlay X 242) :: st) w) : A X k n pc ls (.ref (xlay X r) :: st) w := a_get hX (klt hk0 (by decide)) (adr_lt (kd_lt hk0 (by decide))) (cell_8 hk0) rfl inU_X8 (j := 25) (by decide) fl_X8_76 rfl rfl hd kk
theorem fl_X8_79 : Cond.fieldLink RX8 79 "TermReckonerModel" "way" "[I" ∈ wU := mw (i := 829) (by decide +kernel) (by decide +kernel)
theorem gf_X8_79 {r : Nat} (hk0 : kd r = 8) (hX : Kx X cc RX8 nL d) (hd : decode cc pc = .ok (.getfield 79, 3)) (kk : A X k n (pc + 3) ls (.ref (xlay X 243) :: st) w) : A X k n pc ls (.ref (xlay X r) :: st) w := a_get hX (klt hk0 (by decide)) (adr_lt (kd_lt hk0 (by decide))) (cell_8 hk0) rfl inU_X8 (j := 26) (by decide) fl_X8_79 rfl rfl hd kk
theorem fl_X8_82 : Cond.fieldLink RX8 82 "TermReckonerModel" "next" "[I" ∈ wU := mw (i := 830) (by decide +kernel) (by decide +kernel)
theorem gf_X8_82 {r : Nat} (hk0 : kd r = 8) (hX : Kx X cc RX8 nL d) (hd : decode cc pc = .ok (.getfield 82, 3)) (kk : A X k n (pc + 3) ls (.ref (xlay X 244) :: st) w) : A X k n pc ls (.ref (xlay X r) :: st) w := a_get hX (klt hk0 (by decide)) (adr_lt (kd_lt hk0 (by decide))) (cell_8 hk0) rfl inU_X8 (j := 27) (by decide) fl_X8_82 rfl rfl hd kk
theorem fl_X8_85 : Cond.fieldLink RX8 85 "TermReckonerModel" "turned" "[I" ∈ wU := mw (i := 831) (by decide +kernel) (by decide +kernel)
theorem gf_X8_85 {r : Nat} (hk0 : kd r = 8) (hX : Kx X cc RX8 nL d) (hd : decode cc pc = .ok (.getfield 85, 3)) (kk : A X k n (pc + 3) ls (.ref (xlay X 245) :: st) w) : A X k n pc ls (.ref (xlay X r) :: st) w := a_get hX (klt hk0 (by decide)) (adr_lt (kd_lt hk0 (by decide))) (cell_8 hk0) rfl inU_X8 (j := 28) (by decide) fl_X8_85 rfl rfl hd kk
theorem fl_X8_88 : Cond.fieldLink RX8 88 "TermReckonerModel" "best" "[I" ∈ wU := mw (i := 832) (by decide +kernel) (by decide +kernel)
theorem gf_X8_88 {r : Nat} (hk0 : kd r = 8) (hX : Kx X cc RX8 nL d) (hd : decode cc pc = .ok (.getfield 88, 3)) (kk : A X k n (pc + 3) ls (.ref (xlay X 246) :: st) w) : A X k n pc ls (.ref (xlay X r) :: st) w := a_get hX (klt hk0 (by decide)) (adr_lt (kd_lt hk0 (by decide))) (cell_8 hk0) rfl inU_X8 (j := 29) (by decide) fl_X8_88 rfl rfl hd kk
theorem fl_X8_91 : Cond.fieldLink RX8 91 "TermReckonerModel" "ring" "[I" ∈ wU := mw (i := 834) (by decide +kernel) (by decide +kernel)
theorem gf_X8_91 {r : Nat} (hk0 : kd r = 8) (hX : Kx X cc RX8 nL d) (hd : decode cc pc = .ok (.getfield 91, 3)) (kk : A X k n (pc + 3) ls (.ref (xlay X 247) :: st) w) : A X k n pc ls (.ref (xlay X r) :: st) w := a_get hX (klt hk0 (by decide)) (adr_lt (kd_lt hk0 (by decide))) (cell_8 hk0) rfl inU_X8 (j := 31) (by decide) fl_X8_91 rfl rfl hd kk
theorem fl_X8_94 : Cond.fieldLink RX8 94 "TermReckonerModel" "persons" "I" ∈ wU := mw (i := 805) (by decide +kernel) (by decide +kernel)
theorem gf_X8_94 {r : Nat} (hk0 : kd r = 8) (hX : Kx X cc RX8 nL d) (hd : decode cc pc = .ok (.getfield 94, 3)) (kk : A X k n (pc + 3) ls (.int (w.1 r 2) :: st) w) : A X k n pc ls (.ref (xlay X r) :: st) w := a_get hX (klt hk0 (by decide)) (adr_lt (kd_lt hk0 (by decide))) (cell_8 hk0) rfl inU_X8 (j := 2) (by decide) fl_X8_94 rfl rfl hd kk
theorem pf_X8_94 {v : Int32} {r : Nat} (hk0 : kd r = 8) (hX : Kx X cc RX8 nL d) (hd : decode cc pc = .ok (.putfield 94, 3)) (kk : A X k n (pc + 3) ls st (wset w r 2 v)) : A X k n pc ls (.int v :: .ref (xlay X r) :: st) w := a_put tyX8 hX (klt hk0 (by decide)) (adr_lt (kd_lt hk0 (by decide))) (cell_8 hk0) rfl inU_X8 tyX8_ok nmX8 (j := 2) (by decide) fl_X8_94 rfl rfl rfl (Nat.le_of_ble_eq_true rfl) (by simp [cellF, hk0, modelFs, upd]) hd kk
theorem fl_X8_97 : Cond.fieldLink RX8 97 "TermReckonerModel" "today" "I" ∈ wU := mw (i := 803) (by decide +kernel) (by decide +kernel)
theorem gf_X8_97 {r : Nat} (hk0 : kd r = 8) (hX : Kx X cc RX8 nL d) (hd : decode cc pc = .ok (.getfield 97, 3)) (kk : A X k n (pc + 3) ls (.int (w.1 r 0) :: st) w) : A X k n pc ls (.ref (xlay X r) :: st) w := a_get hX (klt hk0 (by decide)) (adr_lt (kd_lt hk0 (by decide))) (cell_8 hk0) rfl inU_X8 (j := 0) (by decide) fl_X8_97 rfl rfl hd kk
theorem pf_X8_97 {v : Int32} {r : Nat} (hk0 : kd r = 8) (hX : Kx X cc RX8 nL d) (hd : decode cc pc = .ok (.putfield 97, 3)) (kk : A X k n (pc + 3) ls st (wset w r 0 v)) : A X k n pc ls (.int v :: .ref (xlay X r) :: st) w := a_put tyX8 hX (klt hk0 (by decide)) (adr_lt (kd_lt hk0 (by decide))) (cell_8 hk0) rfl inU_X8 tyX8_ok nmX8 (j := 0) (by decide) fl_X8_97 rfl rfl rfl (Nat.le_of_ble_eq_true rfl) (by simp [cellF, hk0, modelFs, upd]) hd kk
theorem fl_X8_100 : Cond.fieldLink RX8 100 "TermReckonerModel" "grant" "I" ∈ wU := mw (i := 818) (by decide +kernel) (by decide +kernel)
theorem gf_X8_100 {r : Nat} (hk0 : kd r = 8) (hX : Kx X cc RX8 nL d) (hd : decode cc pc = .ok (.getfield 100, 3)) (kk : A X k n (pc + 3) ls (.int (w.1 r 15) :: st) w) : A X k n pc ls (.ref (xlay X r) :: st) w := a_get hX (klt hk0 (by decide)) (adr_lt (kd_lt hk0 (by decide))) (cell_8 hk0) rfl inU_X8 (j := 15) (by decide) fl_X8_100 rfl rfl hd kk
theorem pf_X8_100 {v : Int32} {r : Nat} (hk0 : kd r = 8) (hX : Kx X cc RX8 nL d) (hd : decode cc pc = .ok (.putfield 100, 3)) (kk : A X k n (pc + 3) ls st (wset w r 15 v)) : A X k n pc ls (.int v :: .ref (xlay X r) :: st) w := a_put tyX8 hX (klt hk0 (by decide)) (adr_lt (kd_lt hk0 (by decide))) (cell_8 hk0) rfl inU_X8 tyX8_ok nmX8 (j := 15) (by decide) fl_X8_100 rfl rfl rfl (Nat.le_of_ble_eq_true rfl) (by simp [cellF, hk0, modelFs, upd]) hd kk
theorem fl_X8_106 : Cond.fieldLink RX8 106 "TermReckonerModel" "entries" "I" ∈ wU := mw (i := 808) (by decide +kernel) (by decide +kernel)
theorem gf_X8_106 {r : Nat} (hk0 : kd r = 8) (hX : Kx X cc RX8 nL d) (hd : decode cc pc = .ok (.getfield 106, 3)) (kk : A X k n (pc + 3) ls (.int (w.1 r 5) :: st) w) : A X k n pc ls (.ref (xlay X r) :: st) w := a_get hX (klt hk0 (by decide)) (adr_lt (kd_lt hk0 (by decide))) (cell_8 hk0) rfl inU_X8 (j := 5) (by decide) fl_X8_106 rfl rfl hd kk
theorem pf_X8_106 {v : Int32} {r : Nat} (hk0 : kd r = 8) (hX : Kx X cc RX8 nL d) (hd : decode cc pc = .ok (.putfield 106, 3)) (kk : A X k n (pc + 3) ls st (wset w r 5 v)) : A X k n pc ls (.int v :: .ref (xlay X r) :: st) w := a_put tyX8 hX (klt hk0 (by decide)) (adr_lt (kd_lt hk0 (by decide))) (cell_8 hk0) rfl inU_X8 tyX8_ok nmX8 (j := 5) (by decide) fl_X8_106 rfl rfl rfl (Nat.le_of_ble_eq_true rfl) (by simp [cellF, hk0, modelFs, upd]) hd kk
theorem fl_X8_170 : Cond.fieldLink RX8 170 "TermReckonerModel" "bestSize" "I" ∈ wU := mw (i := 833) (by decide +kernel) (by decide +kernel)
theorem gf_X8_170 {r : Nat} (hk0 : kd r = 8) (hX : Kx X cc RX8 nL d) (hd : decode cc pc = .ok (.getfield 170, 3)) (kk : A X k n (pc + 3) ls (.int (w.1 r 30) :: st) w) : A X k n pc ls (.ref (xlay X r) :: st) w := a_get hX (klt hk0 (by decide)) (adr_lt (kd_lt hk0 (by decide))) (cell_8 hk0) rfl inU_X8 (j := 30) (by decide) fl_X8_170 rfl rfl hd kk
theorem pf_X8_170 {v : Int32} {r : Nat} (hk0 : kd r = 8) (hX : Kx X cc RX8 nL d) (hd : decode cc pc = .ok (.putfield 170, 3)) (kk : A X k n (pc + 3) ls st (wset w r 30 v)) : A X k n pc ls (.int v :: .ref (xlay X r) :: st) w := a_put tyX8 hX (klt hk0 (by decide)) (adr_lt (kd_lt hk0 (by decide))) (cell_8 hk0) rfl inU_X8 tyX8_ok nmX8 (j := 30) (by decide) fl_X8_170 rfl rfl rfl (Nat.le_of_ble_eq_true rfl) (by simp [cellF, hk0, modelFs, upd]) hd kk
theorem fl_X8_183 : Cond.fieldLink RX8 183 "TermReckonerModel" "ringSize" "I" ∈ wU := mw (i := 835) (by decide +kernel) (by decide +kernel)
theorem gf_X8_183 {r : Nat} (hk0 : kd r = 8) (hX : Kx X cc RX8 nL d) (hd : decode cc pc = .ok (.getfield 183, 3)) (kk : A X k n (pc + 3) ls (.int (w.1 r 32) :: st) w) : A X k n pc ls (.ref (xlay X r) :: st) w := a_get hX (klt hk0 (by decide)) (adr_lt (kd_lt hk0 (by decide))) (cell_8 hk0) rfl inU_X8 (j := 32) (by decide) fl_X8_183 rfl rfl hd kk
theorem pf_X8_183 {v : Int32} {r : Nat} (hk0 : kd r = 8) (hX : Kx X cc RX8 nL d) (hd : decode cc pc = .ok (.putfield 183, 3)) (kk : A X k n (pc + 3) ls st (wset w r 32 v)) : A X k n pc ls (.int v :: .ref (xlay X r) :: st) w := a_put tyX8 hX (klt hk0 (by decide)) (adr_lt (kd_lt hk0 (by decide))) (cell_8 hk0) rfl inU_X8 tyX8_ok nmX8 (j := 32) (by decide) fl_X8_183 rfl rfl rfl (Nat.le_of_ble_eq_true rfl) (by simp [cellF, hk0, modelFs, upd]) hd kk
end FIELDS
theorem ini_L : Cond.initialized RL ∈ wU := mw (i := 44) (by decide +kernel) (by decide +kernel)
theorem ini_X7 : Cond.initialized RX7 ∈ wU := mw (i := 45) (by decide +kernel) (by decide +kernel)
theorem ini_X4 : Cond.initialized RX4 ∈ wU := mw (i := 46) (by decide +kernel) (by decide +kernel)
theorem ini_X1 : Cond.initialized RX1 ∈ wU := mw (i := 47) (by decide +kernel) (by decide +kernel)
theorem ini_X2 : Cond.initialized RX2 ∈ wU := mw (i := 48) (by decide +kernel) (by decide +kernel)
theorem ini_X3 : Cond.initialized RX3 ∈ wU := mw (i := 49) (by decide +kernel) (by decide +kernel)
theorem ini_X6 : Cond.initialized RX6 ∈ wU := mw (i := 50) (by decide +kernel) (by decide +kernel)
theorem ini_X5 : Cond.initialized RX5 ∈ wU := mw (i := 51) (by decide +kernel) (by decide +kernel)
theorem ini_X8 : Cond.initialized RX8 ∈ wU := mw (i := 52) (by decide +kernel) (by decide +kernel)
theorem ini_X0 : Cond.initialized RX0 ∈ wU := mw (i := 53) (by decide +kernel) (by decide +kernel)
theorem ini_J7 : Cond.initialized RJ7 ∈ wU := mw (i := 54) (by decide +kernel) (by decide +kernel)
theorem ini_J6 : Cond.initialized RJ6 ∈ wU := mw (i := 55) (by decide +kernel) (by decide +kernel)
theorem ini_J9 : Cond.initialized RJ9 ∈ wU := mw (i := 56) (by decide +kernel) (by decide +kernel)
theorem co_X7_268 : Cond.constant RX7 268 1073741823 ∈ wU := mw (i := 395) (by decide +kernel) (by decide +kernel)
theorem co_J6_264 : Cond.constant RJ6 264 65536 ∈ wU := mw (i := 465) (by decide +kernel) (by decide +kernel)
theorem co_X3_42 : Cond.constant RX3 42 100000 ∈ wU := mw (i := 529) (by decide +kernel) (by decide +kernel)
theorem co_X1_58 : Cond.constant RX1 58 1073741823 ∈ wU := mw (i := 587) (by decide +kernel) (by decide +kernel)
theorem co_X6_53 : Cond.constant RX6 53 1073741823 ∈ wU := mw (i := 596) (by decide +kernel) (by decide +kernel)
theorem co_J6_265 : Cond.constant RJ6 265 1431655765 ∈ wU := mw (i := 638) (by decide +kernel) (by decide +kernel)
theorem co_J6_266 : Cond.constant RJ6 266 858993459 ∈ wU := mw (i := 639) (by decide +kernel) (by decide +kernel)
theorem co_J6_267 : Cond.constant RJ6 267 252645135 ∈ wU := mw (i := 640) (by decide +kernel) (by decide +kernel)
theorem co_X7_157 : Cond.constant RX7 157 100000 ∈ wU := mw (i := 652) (by decide +kernel) (by decide +kernel)
theorem co_X8_69 : Cond.constant RX8 69 43200 ∈ wU := mw (i := 802) (by decide +kernel) (by decide +kernel)
theorem mi_X0_init : MI yX0_init cX0_init 5 none 4 := ⟨mw (i := 312) (by decide +kernel) (by decide +kernel), ini_X0, by decide +kernel, by decide +kernel, by decide⟩
theorem mv_X0_init : Cond.instanceMethod yX0_init ∈ wU := mw (i := 311) (by decide +kernel) (by decide +kernel)
theorem mi_X0_number : MI yX0_number cX0_number 2 (some .int) 1 := ⟨mw (i := 773) (by decide +kernel) (by decide +kernel), ini_X0, by decide +kernel, by decide +kernel, by decide⟩
theorem mv_X0_number : Cond.instanceMethod yX0_number ∈ wU := mw (i := 771) (by decide +kernel) (by decide +kernel)
theorem se_X0_number : Cond.selects RX0 yX0_number yX0_number ∈ wU := mw (i := 772) (by decide +kernel) (by decide +kernel)
theorem mi_X1_init : MI yX1_init cX1_init 2 none 0 := ⟨mw (i := 78) (by decide +kernel) (by decide +kernel), ini_X1, by decide +kernel, by decide +kernel, by decide⟩
theorem mv_X1_init : Cond.instanceMethod yX1_init ∈ wU := mw (i := 77) (by decide +kernel) (by decide +kernel)
theorem mi_X1_wipe : MI yX1_wipe cX1_wipe 3 none 0 := ⟨mw (i := 372) (by decide +kernel) (by decide +kernel), ini_X1, by decide +kernel, by decide +kernel, by decide⟩
theorem mv_X1_wipe : Cond.instanceMethod yX1_wipe ∈ wU := mw (i := 370) (by decide +kernel) (by decide +kernel)
theorem se_X1_wipe : Cond.selects RX1 yX1_wipe yX1_wipe ∈ wU := mw (i := 371) (by decide +kernel) (by decide +kernel)
theorem mi_X1_at : MI yX1_at cX1_at 2 (some (.object "TermReckoner$Place")) 1 := ⟨mw (i := 305) (by decide +kernel) (by decide +kernel), ini_X1, by decide +kernel, by decide +kernel, by decide⟩
theorem mv_X1_at : Cond.instanceMethod yX1_at ∈ wU := mw (i := 303) (by decide +kernel) (by decide +kernel)
theorem se_X1_at : Cond.selects RX1 yX1_at yX1_at ∈ wU := mw (i := 304) (by decide +kernel) (by decide +kernel)
theorem mi_X1_isRow : MI yX1_isRow cX1_isRow 2 (some .boolean) 1 := ⟨mw (i := 490) (by decide +kernel) (by decide +kernel), ini_X1, by decide +kernel, by decide +kernel, by decide⟩
theorem mv_X1_isRow : Cond.instanceMethod yX1_isRow ∈ wU := mw (i := 488) (by decide +kernel) (by decide +kernel)
theorem se_X1_isRow : Cond.selects RX1 yX1_isRow yX1_isRow ∈ wU := mw (i := 489) (by decide +kernel) (by decide +kernel)
theorem mi_X1_fitsRow : MI yX1_fitsRow cX1_fitsRow 3 (some .boolean) 2 := ⟨mw (i := 494) (by decide +kernel) (by decide +kernel), ini_X1, by decide +kernel, by decide +kernel, by decide⟩
theorem mv_X1_fitsRow : Cond.instanceMethod yX1_fitsRow ∈ wU := mw (i := 492) (by decide +kernel) (by decide +kernel)
theorem se_X1_fitsRow : Cond.selects RX1 yX1_fitsRow yX1_fitsRow ∈ wU := mw (i := 493) (by decide +kernel) (by decide +kernel)
theorem mi_X1_rowLength : MI yX1_rowLength cX1_rowLength 2 (some .int) 1 := ⟨mw (i := 498) (by decide +kernel) (by decide +kernel), ini_X1, by decide +kernel, by decide +kernel, by decide⟩
theorem mv_X1_rowLength : Cond.instanceMethod yX1_rowLength ∈ wU := mw (i := 496) (by decide +kernel) (by decide +kernel)
theorem se_X1_rowLength : Cond.selects RX1 yX1_rowLength yX1_rowLength ∈ wU := mw (i := 497) (by decide +kernel) (by decide +kernel)
theorem mi_X1_isOpen : MI yX1_isOpen cX1_isOpen 2 (some .boolean) 1 := ⟨mw (i := 585) (by decide +kernel) (by decide +kernel), ini_X1, by decide +kernel, by decide +kernel, by decide⟩
theorem mv_X1_isOpen : Cond.instanceMethod yX1_isOpen ∈ wU := mw (i := 583) (by decide +kernel) (by decide +kernel)
theorem se_X1_isOpen : Cond.selects RX1 yX1_isOpen yX1_isOpen ∈ wU := mw (i := 584) (by decide +kernel) (by decide +kernel)
theorem mi_X1_heldDays : MI yX1_heldDays cX1_heldDays 3 (some .int) 2 := ⟨mw (i := 581) (by decide +kernel) (by decide +kernel), ini_X1, by decide +kernel, by decide +kernel, by decide⟩
theorem mv_X1_heldDays : Cond.instanceMethod yX1_heldDays ∈ wU := mw (i := 579) (by decide +kernel) (by decide +kernel)
theorem se_X1_heldDays : Cond.selects RX1 yX1_heldDays yX1_heldDays ∈ wU := mw (i := 580) (by decide +kernel) (by decide +kernel)
theorem mi_X1_isHeld : MI yX1_isHeld cX1_isHeld 3 (some .boolean) 2 := ⟨mw (i := 719) (by decide +kernel) (by decide +kernel), ini_X1, by decide +kernel, by decide +kernel, by decide⟩
theorem mv_X1_isHeld : Cond.instanceMethod yX1_isHeld ∈ wU := mw (i := 717) (by decide +kernel) (by decide +kernel)
theorem se_X1_isHeld : Cond.selects RX1 yX1_isHeld yX1_isHeld ∈ wU := mw (i := 718) (by decide +kernel) (by decide +kernel)
theorem mi_X1_isToldHeld : MI yX1_isToldHeld cX1_isToldHeld 3 (some .boolean) 1 := ⟨mw (i := 747) (by decide +kernel) (by decide +kernel), ini_X1, by decide +kernel, by decide +kernel, by decide⟩
theorem mv_X1_isToldHeld : Cond.instanceMethod yX1_isToldHeld ∈ wU := mw (i := 745) (by decide +kernel) (by decide +kernel)
theorem se_X1_isToldHeld : Cond.selects RX1 yX1_isToldHeld yX1_isToldHeld ∈ wU := mw (i := 746) (by decide +kernel) (by decide +kernel)
theorem mi_X1_leastOf : MI yX1_leastOf cX1_leastOf 6 (some .int) 3 := ⟨mw (i := 714) (by decide +kernel) (by decide +kernel), ini_X1, by decide +kernel, by decide +kernel, by decide⟩
theorem mv_X1_leastOf : Cond.instanceMethod yX1_leastOf ∈ wU := mw (i := 712) (by decide +kernel) (by decide +kernel)
theorem se_X1_leastOf : Cond.selects RX1 yX1_leastOf yX1_leastOf ∈ wU := mw (i := 713) (by decide +kernel) (by decide +kernel)
theorem mi_X1_setRow : MI yX1_setRow cX1_setRow 4 none 3 := ⟨mw (i := 388) (by decide +kernel) (by decide +kernel), ini_X1, by decide +kernel, by decide +kernel, by decide⟩
theorem mv_X1_setRow : Cond.instanceMethod yX1_setRow ∈ wU := mw (i := 386) (by decide +kernel) (by decide +kernel)
theorem se_X1_setRow : Cond.selects RX1 yX1_setRow yX1_setRow ∈ wU := mw (i := 387) (by decide +kernel) (by decide +kernel)
theorem mi_X1_setDay : MI yX1_setDay cX1_setDay 4 none 3 := ⟨mw (i := 399) (by decide +kernel) (by decide +kernel), ini_X1, by decide +kernel, by decide +kernel, by decide⟩
theorem mv_X1_setDay : Cond.instanceMethod yX1_setDay ∈ wU := mw (i := 397) (by decide +kernel) (by decide +kernel)
theorem se_X1_setDay : Cond.selects RX1 yX1_setDay yX1_setDay ∈ wU := mw (i := 398) (by decide +kernel) (by decide +kernel)
theorem mi_X1_setTorn : MI yX1_setTorn cX1_setTorn 2 none 1 := ⟨mw (i := 403) (by decide +kernel) (by decide +kernel), ini_X1, by decide +kernel, by decide +kernel, by decide⟩
theorem mv_X1_setTorn : Cond.instanceMethod yX1_setTorn ∈ wU := mw (i := 401) (by decide +kernel) (by decide +kernel)
theorem se_X1_setTorn : Cond.selects RX1 yX1_setTorn yX1_setTorn ∈ wU := mw (i := 402) (by decide +kernel) (by decide +kernel)
theorem mi_X1_copyRow : MI yX1_copyRow cX1_copyRow 4 none 3 := ⟨mw (i := 407) (by decide +kernel) (by decide +kernel), ini_X1, by decide +kernel, by decide +kernel, by decide⟩
theorem mv_X1_copyRow : Cond.instanceMethod yX1_copyRow ∈ wU := mw (i := 405) (by decide +kernel) (by decide +kernel)
theorem se_X1_copyRow : Cond.selects RX1 yX1_copyRow yX1_copyRow ∈ wU := mw (i := 406) (by decide +kernel) (by decide +kernel)
theorem mi_X2_init : MI yX2_init cX2_init 1 none 0 := ⟨mw (i := 85) (by decide +kernel) (by decide +kernel), ini_X2, by decide +kernel, by decide +kernel, by decide⟩
theorem mv_X2_init : Cond.instanceMethod yX2_init ∈ wU := mw (i := 84) (by decide +kernel) (by decide +kernel)
theorem mi_X2_wipe : MI yX2_wipe cX2_wipe 1 none 0 := ⟨mw (i := 377) (by decide +kernel) (by decide +kernel), ini_X2, by decide +kernel, by decide +kernel, by decide⟩
theorem mv_X2_wipe : Cond.instanceMethod yX2_wipe ∈ wU := mw (i := 375) (by decide +kernel) (by decide +kernel)
theorem se_X2_wipe : Cond.selects RX2 yX2_wipe yX2_wipe ∈ wU := mw (i := 376) (by decide +kernel) (by decide +kernel)
theorem mi_X2_runs : MI yX2_runs cX2_runs 1 (some .boolean) 0 := ⟨mw (i := 446) (by decide +kernel) (by decide +kernel), ini_X2, by decide +kernel, by decide +kernel, by decide⟩
theorem mv_X2_runs : Cond.instanceMethod yX2_runs ∈ wU := mw (i := 444) (by decide +kernel) (by decide +kernel)
theorem se_X2_runs : Cond.selects RX2 yX2_runs yX2_runs ∈ wU := mw (i := 445) (by decide +kernel) (by decide +kernel)
theorem mi_X2_isQuashed : MI yX2_isQuashed cX2_isQuashed 1 (some .boolean) 0 := ⟨mw (i := 477) (by decide +kernel) (by decide +kernel), ini_X2, by decide +kernel, by decide +kernel, by decide⟩
theorem mv_X2_isQuashed : Cond.instanceMethod yX2_isQuashed ∈ wU := mw (i := 475) (by decide +kernel) (by decide +kernel)
theorem se_X2_isQuashed : Cond.selects RX2 yX2_isQuashed yX2_isQuashed ∈ wU := mw (i := 476) (by decide +kernel) (by decide +kernel)
theorem mi_X2_stands : MI yX2_stands cX2_stands 1 (some .boolean) 0 := ⟨mw (i := 518) (by decide +kernel) (by decide +kernel), ini_X2, by decide +kernel, by decide +kernel, by decide⟩
theorem mv_X2_stands : Cond.instanceMethod yX2_stands ∈ wU := mw (i := 516) (by decide +kernel) (by decide +kernel)
theorem se_X2_stands : Cond.selects RX2 yX2_stands yX2_stands ∈ wU := mw (i := 517) (by decide +kernel) (by decide +kernel)
theorem mi_X2_mayHaveRule : MI yX2_mayHaveRule cX2_mayHaveRule 1 (some .boolean) 0 := ⟨mw (i := 514) (by decide +kernel) (by decide +kernel), ini_X2, by decide +kernel, by decide +kernel, by decide⟩
theorem mv_X2_mayHaveRule : Cond.instanceMethod yX2_mayHaveRule ∈ wU := mw (i := 512) (by decide +kernel) (by decide +kernel)
theorem se_X2_mayHaveRule : Cond.selects RX2 yX2_mayHaveRule yX2_mayHaveRule ∈ wU := mw (i := 513) (by decide +kernel) (by decide +kernel)
theorem mi_X2_isFor : MI yX2_isFor cX2_isFor 3 (some .boolean) 2 := ⟨mw (i := 558) (by decide +kernel) (by decide +kernel), ini_X2, by decide +kernel, by decide +kernel, by decide⟩
theorem mv_X2_isFor : Cond.instanceMethod yX2_isFor ∈ wU := mw (i := 556) (by decide +kernel) (by decide +kernel)
theorem se_X2_isFor : Cond.selects RX2 yX2_isFor yX2_isFor ∈ wU := mw (i := 557) (by decide +kernel) (by decide +kernel)
theorem mi_X2_mostTaken : MI yX2_mostTaken cX2_mostTaken 1 (some .int) 0 := ⟨mw (i := 574) (by decide +kernel) (by decide +kernel), ini_X2, by decide +kernel, by decide +kernel, by decide⟩
theorem mv_X2_mostTaken : Cond.instanceMethod yX2_mostTaken ∈ wU := mw (i := 572) (by decide +kernel) (by decide +kernel)
theorem se_X2_mostTaken : Cond.selects RX2 yX2_mostTaken yX2_mostTaken ∈ wU := mw (i := 573) (by decide +kernel) (by decide +kernel)
theorem mi_X3_init : MI yX3_init cX3_init 1 none 0 := ⟨mw (i := 167) (by decide +kernel) (by decide +kernel), ini_X3, by decide +kernel, by decide +kernel, by decide⟩
theorem mv_X3_init : Cond.instanceMethod yX3_init ∈ wU := mw (i := 166) (by decide +kernel) (by decide +kernel)
theorem mi_X3_beginOf : MI yX3_beginOf cX3_beginOf 2 (some .int) 1 := ⟨mw (i := 682) (by decide +kernel) (by decide +kernel), ini_X3, by decide +kernel, by decide +kernel, by decide⟩
theorem mv_X3_beginOf : Cond.instanceMethod yX3_beginOf ∈ wU := mw (i := 680) (by decide +kernel) (by decide +kernel)
theorem se_X3_beginOf : Cond.selects RX3 yX3_beginOf yX3_beginOf ∈ wU := mw (i := 681) (by decide +kernel) (by decide +kernel)
theorem mi_X3_endOf : MI yX3_endOf cX3_endOf 2 (some .int) 1 := ⟨mw (i := 693) (by decide +kernel) (by decide +kernel), ini_X3, by decide +kernel, by decide +kernel, by decide⟩
theorem mv_X3_endOf : Cond.instanceMethod yX3_endOf ∈ wU := mw (i := 691) (by decide +kernel) (by decide +kernel)
theorem se_X3_endOf : Cond.selects RX3 yX3_endOf yX3_endOf ∈ wU := mw (i := 692) (by decide +kernel) (by decide +kernel)
theorem mi_X3_reckon : MI yX3_reckon cX3_reckon 7 none 2 := ⟨mw (i := 528) (by decide +kernel) (by decide +kernel), ini_X3, by decide +kernel, by decide +kernel, by decide⟩
theorem mv_X3_reckon : Cond.instanceMethod yX3_reckon ∈ wU := mw (i := 526) (by decide +kernel) (by decide +kernel)
theorem se_X3_reckon : Cond.selects RX3 yX3_reckon yX3_reckon ∈ wU := mw (i := 527) (by decide +kernel) (by decide +kernel)
theorem mi_X3_reckonPlace : MI yX3_reckonPlace cX3_reckonPlace 12 none 4 := ⟨mw (i := 536) (by decide +kernel) (by decide +kernel), ini_X3, by decide +kernel, by decide +kernel, by decide⟩
theorem mv_X3_reckonPlace : Cond.instanceMethod yX3_reckonPlace ∈ wU := mw (i := 535) (by decide +kernel) (by decide +kernel)
theorem se_X3_reckonPlace : Cond.selects RX3 yX3_reckonPlace yX3_reckonPlace ∈ wU := mw (i := 12) (by decide +kernel) (by decide +kernel)
theorem mi_X3_beginBehind : MI yX3_beginBehind cX3_beginBehind 4 (some .int) 1 := ⟨mw (i := 550) (by decide +kernel) (by decide +kernel), ini_X3, by decide +kernel, by decide +kernel, by decide⟩
theorem mv_X3_beginBehind : Cond.instanceMethod yX3_beginBehind ∈ wU := mw (i := 549) (by decide +kernel) (by decide +kernel)
theorem se_X3_beginBehind : Cond.selects RX3 yX3_beginBehind yX3_beginBehind ∈ wU := mw (i := 14) (by decide +kernel) (by decide +kernel)
theorem mi_X3_beginBeside : MI yX3_beginBeside cX3_beginBeside 5 (some .int) 1 := ⟨mw (i := 540) (by decide +kernel) (by decide +kernel), ini_X3, by decide +kernel, by decide +kernel, by decide⟩
theorem mv_X3_beginBeside : Cond.instanceMethod yX3_beginBeside ∈ wU := mw (i := 539) (by decide +kernel) (by decide +kernel)
theorem se_X3_beginBeside : Cond.selects RX3 yX3_beginBeside yX3_beginBeside ∈ wU := mw (i := 13) (by decide +kernel) (by decide +kernel)
theorem mi_X3_findSpans : MI yX3_findSpans cX3_findSpans 6 none 4 := ⟨mw (i := 553) (by decide +kernel) (by decide +kernel), ini_X3, by decide +kernel, by decide +kernel, by decide⟩
theorem ms_X3_findSpans : Cond.static yX3_findSpans ∈ wU := mw (i := 552) (by decide +kernel) (by decide +kernel)
theorem mi_X3_addSpan : MI yX3_addSpan cX3_addSpan 5 none 2 := ⟨mw (i := 562) (by decide +kernel) (by decide +kernel), ini_X3, by decide +kernel, by decide +kernel, by decide⟩
theorem ms_X3_addSpan : Cond.static yX3_addSpan ∈ wU := mw (i := 561) (by decide +kernel) (by decide +kernel)
theorem mi_X3_countingIn : MI yX3_countingIn cX3_countingIn 4 (some .int) 2 := ⟨mw (i := 618) (by decide +kernel) (by decide +kernel), ini_X3, by decide +kernel, by decide +kernel, by decide⟩
theorem mv_X3_countingIn : Cond.instanceMethod yX3_countingIn ∈ wU := mw (i := 617) (by decide +kernel) (by decide +kernel)
theorem se_X3_countingIn : Cond.selects RX3 yX3_countingIn yX3_countingIn ∈ wU := mw (i := 15) (by decide +kernel) (by decide +kernel)
theorem mi_X3_doesCount : MI yX3_doesCount cX3_doesCount 3 (some .boolean) 2 := ⟨mw (i := 764) (by decide +kernel) (by decide +kernel), ini_X3, by decide +kernel, by decide +kernel, by decide⟩
theorem mv_X3_doesCount : Cond.instanceMethod yX3_doesCount ∈ wU := mw (i := 762) (by decide +kernel) (by decide +kernel)
theorem se_X3_doesCount : Cond.selects RX3 yX3_doesCount yX3_doesCount ∈ wU := mw (i := 763) (by decide +kernel) (by decide +kernel)
theorem mi_X3_countedUpTo : MI yX3_countedUpTo cX3_countedUpTo 6 (some .int) 2 := ⟨mw (i := 701) (by decide +kernel) (by decide +kernel), ini_X3, by decide +kernel, by decide +kernel, by decide⟩
theorem mv_X3_countedUpTo : Cond.instanceMethod yX3_countedUpTo ∈ wU := mw (i := 699) (by decide +kernel) (by decide +kernel)
theorem se_X3_countedUpTo : Cond.selects RX3 yX3_countedUpTo yX3_countedUpTo ∈ wU := mw (i := 700) (by decide +kernel) (by decide +kernel)
theorem mi_X3_takenUpTo : MI yX3_takenUpTo cX3_takenUpTo 6 (some .int) 3 := ⟨mw (i := 614) (by decide +kernel) (by decide +kernel), ini_X3, by decide +kernel, by decide +kernel, by decide⟩
theorem mv_X3_takenUpTo : Cond.instanceMethod yX3_takenUpTo ∈ wU := mw (i := 612) (by decide +kernel) (by decide +kernel)
theorem se_X3_takenUpTo : Cond.selects RX3 yX3_takenUpTo yX3_takenUpTo ∈ wU := mw (i := 613) (by decide +kernel) (by decide +kernel)
theorem mi_X3_fullDay : MI yX3_fullDay cX3_fullDay 3 (some .int) 0 := ⟨mw (i := 651) (by decide +kernel) (by decide +kernel), ini_X3, by decide +kernel, by decide +kernel, by decide⟩
theorem mv_X3_fullDay : Cond.instanceMethod yX3_fullDay ∈ wU := mw (i := 649) (by decide +kernel) (by decide +kernel)
theorem se_X3_fullDay : Cond.selects RX3 yX3_fullDay yX3_fullDay ∈ wU := mw (i := 650) (by decide +kernel) (by decide +kernel)
theorem mi_X3_watchedDay : MI yX3_watchedDay cX3_watchedDay 7 (some .int) 2 := ⟨mw (i := 629) (by decide +kernel) (by decide +kernel), ini_X3, by decide +kernel, by decide +kernel, by decide⟩
theorem mv_X3_watchedDay : Cond.instanceMethod yX3_watchedDay ∈ wU := mw (i := 627) (by decide +kernel) (by decide +kernel)
theorem se_X3_watchedDay : Cond.selects RX3 yX3_watchedDay yX3_watchedDay ∈ wU := mw (i := 628) (by decide +kernel) (by decide +kernel)
theorem mi_X3_dayOfCount : MI yX3_dayOfCount cX3_dayOfCount 7 (some .int) 2 := ⟨mw (i := 634) (by decide +kernel) (by decide +kernel), ini_X3, by decide +kernel, by decide +kernel, by decide⟩
theorem mv_X3_dayOfCount : Cond.instanceMethod yX3_dayOfCount ∈ wU := mw (i := 633) (by decide +kernel) (by decide +kernel)
theorem se_X3_dayOfCount : Cond.selects RX3 yX3_dayOfCount yX3_dayOfCount ∈ wU := mw (i := 16) (by decide +kernel) (by decide +kernel)
theorem mi_X3_dayOfBit : MI yX3_dayOfBit cX3_dayOfBit 4 (some .int) 2 := ⟨mw (i := 643) (by decide +kernel) (by decide +kernel), ini_X3, by decide +kernel, by decide +kernel, by decide⟩
theorem ms_X3_dayOfBit : Cond.static yX3_dayOfBit ∈ wU := mw (i := 642) (by decide +kernel) (by decide +kernel)
theorem mi_X4_init : MI yX4_init cX4_init 2 none 0 := ⟨mw (i := 71) (by decide +kernel) (by decide +kernel), ini_X4, by decide +kernel, by decide +kernel, by decide⟩
theorem mv_X4_init : Cond.instanceMethod yX4_init ∈ wU := mw (i := 70) (by decide +kernel) (by decide +kernel)
theorem mi_X4_fileOf : MI yX4_fileOf cX4_fileOf 2 (some (.object "TermReckoner$File")) 1 := ⟨mw (i := 301) (by decide +kernel) (by decide +kernel), ini_X4, by decide +kernel, by decide +kernel, by decide⟩
theorem mv_X4_fileOf : Cond.instanceMethod yX4_fileOf ∈ wU := mw (i := 299) (by decide +kernel) (by decide +kernel)
theorem se_X4_fileOf : Cond.selects RX4 yX4_fileOf yX4_fileOf ∈ wU := mw (i := 300) (by decide +kernel) (by decide +kernel)
theorem mi_X4_learnUpTo : MI yX4_learnUpTo cX4_learnUpTo 4 none 2 := ⟨mw (i := 363) (by decide +kernel) (by decide +kernel), ini_X4, by decide +kernel, by decide +kernel, by decide⟩
theorem mv_X4_learnUpTo : Cond.instanceMethod yX4_learnUpTo ∈ wU := mw (i := 361) (by decide +kernel) (by decide +kernel)
theorem se_X4_learnUpTo : Cond.selects RX4 yX4_learnUpTo yX4_learnUpTo ∈ wU := mw (i := 362) (by decide +kernel) (by decide +kernel)
theorem mi_X4_wipe : MI yX4_wipe cX4_wipe 3 none 0 := ⟨mw (i := 367) (by decide +kernel) (by decide +kernel), ini_X4, by decide +kernel, by decide +kernel, by decide⟩
theorem mv_X4_wipe : Cond.instanceMethod yX4_wipe ∈ wU := mw (i := 366) (by decide +kernel) (by decide +kernel)
theorem se_X4_wipe : Cond.selects RX4 yX4_wipe yX4_wipe ∈ wU := mw (i := 5) (by decide +kernel) (by decide +kernel)
theorem mi_X4_learn : MI yX4_learn cX4_learn 4 none 1 := ⟨mw (i := 384) (by decide +kernel) (by decide +kernel), ini_X4, by decide +kernel, by decide +kernel, by decide⟩
theorem mv_X4_learn : Cond.instanceMethod yX4_learn ∈ wU := mw (i := 383) (by decide +kernel) (by decide +kernel)
theorem se_X4_learn : Cond.selects RX4 yX4_learn yX4_learn ∈ wU := mw (i := 6) (by decide +kernel) (by decide +kernel)
theorem mi_X4_learnOfPlace : MI yX4_learnOfPlace cX4_learnOfPlace 4 none 2 := ⟨mw (i := 411) (by decide +kernel) (by decide +kernel), ini_X4, by decide +kernel, by decide +kernel, by decide⟩
theorem mv_X4_learnOfPlace : Cond.instanceMethod yX4_learnOfPlace ∈ wU := mw (i := 410) (by decide +kernel) (by decide +kernel)
theorem se_X4_learnOfPlace : Cond.selects RX4 yX4_learnOfPlace yX4_learnOfPlace ∈ wU := mw (i := 7) (by decide +kernel) (by decide +kernel)
theorem mi_X4_putTerm : MI yX4_putTerm cX4_putTerm 3 none 3 := ⟨mw (i := 415) (by decide +kernel) (by decide +kernel), ini_X4, by decide +kernel, by decide +kernel, by decide⟩
theorem ms_X4_putTerm : Cond.static yX4_putTerm ∈ wU := mw (i := 414) (by decide +kernel) (by decide +kernel)
theorem mi_X4_markQuashed : MI yX4_markQuashed cX4_markQuashed 2 none 2 := ⟨mw (i := 418) (by decide +kernel) (by decide +kernel), ini_X4, by decide +kernel, by decide +kernel, by decide⟩
theorem ms_X4_markQuashed : Cond.static yX4_markQuashed ∈ wU := mw (i := 417) (by decide +kernel) (by decide +kernel)
theorem mi_X5_init : MI yX5_init cX5_init 1 none 0 := ⟨mw (i := 220) (by decide +kernel) (by decide +kernel), ini_X5, by decide +kernel, by decide +kernel, by decide⟩
theorem mv_X5_init : Cond.instanceMethod yX5_init ∈ wU := mw (i := 219) (by decide +kernel) (by decide +kernel)
theorem mi_X5_placeAt : MI yX5_placeAt cX5_placeAt 2 (some .int) 1 := ⟨mw (i := 756) (by decide +kernel) (by decide +kernel), ini_X5, by decide +kernel, by decide +kernel, by decide⟩
theorem mv_X5_placeAt : Cond.instanceMethod yX5_placeAt ∈ wU := mw (i := 754) (by decide +kernel) (by decide +kernel)
theorem se_X5_placeAt : Cond.selects RX5 yX5_placeAt yX5_placeAt ∈ wU := mw (i := 755) (by decide +kernel) (by decide +kernel)
theorem mi_X5_closes : MI yX5_closes cX5_closes 6 (some .boolean) 3 := ⟨mw (i := 436) (by decide +kernel) (by decide +kernel), ini_X5, by decide +kernel, by decide +kernel, by decide⟩
theorem mv_X5_closes : Cond.instanceMethod yX5_closes ∈ wU := mw (i := 434) (by decide +kernel) (by decide +kernel)
theorem se_X5_closes : Cond.selects RX5 yX5_closes yX5_closes ∈ wU := mw (i := 435) (by decide +kernel) (by decide +kernel)
theorem mi_X5_findNext : MI yX5_findNext cX5_findNext 6 none 3 := ⟨mw (i := 441) (by decide +kernel) (by decide +kernel), ini_X5, by decide +kernel, by decide +kernel, by decide⟩
theorem mv_X5_findNext : Cond.instanceMethod yX5_findNext ∈ wU := mw (i := 440) (by decide +kernel) (by decide +kernel)
theorem se_X5_findNext : Cond.selects RX5 yX5_findNext yX5_findNext ∈ wU := mw (i := 8) (by decide +kernel) (by decide +kernel)
theorem mi_X5_lengthOfLeast : MI yX5_lengthOfLeast cX5_lengthOfLeast 6 (some .int) 1 := ⟨mw (i := 450) (by decide +kernel) (by decide +kernel), ini_X5, by decide +kernel, by decide +kernel, by decide⟩
theorem mv_X5_lengthOfLeast : Cond.instanceMethod yX5_lengthOfLeast ∈ wU := mw (i := 449) (by decide +kernel) (by decide +kernel)
theorem se_X5_lengthOfLeast : Cond.selects RX5 yX5_lengthOfLeast yX5_lengthOfLeast ∈ wU := mw (i := 9) (by decide +kernel) (by decide +kernel)
theorem mi_X5_findLeads : MI yX5_findLeads cX5_findLeads 5 none 2 := ⟨mw (i := 457) (by decide +kernel) (by decide +kernel), ini_X5, by decide +kernel, by decide +kernel, by decide⟩
theorem mv_X5_findLeads : Cond.instanceMethod yX5_findLeads ∈ wU := mw (i := 456) (by decide +kernel) (by decide +kernel)
theorem se_X5_findLeads : Cond.selects RX5 yX5_findLeads yX5_findLeads ∈ wU := mw (i := 10) (by decide +kernel) (by decide +kernel)
theorem mi_X5_keep : MI yX5_keep cX5_keep 5 none 2 := ⟨mw (i := 461) (by decide +kernel) (by decide +kernel), ini_X5, by decide +kernel, by decide +kernel, by decide⟩
theorem mv_X5_keep : Cond.instanceMethod yX5_keep ∈ wU := mw (i := 460) (by decide +kernel) (by decide +kernel)
theorem se_X5_keep : Cond.selects RX5 yX5_keep yX5_keep ∈ wU := mw (i := 11) (by decide +kernel) (by decide +kernel)
theorem mi_X6_init : MI yX6_init cX6_init 1 none 0 := ⟨mw (i := 173) (by decide +kernel) (by decide +kernel), ini_X6, by decide +kernel, by decide +kernel, by decide⟩
theorem mv_X6_init : Cond.instanceMethod yX6_init ∈ wU := mw (i := 172) (by decide +kernel) (by decide +kernel)
theorem mi_X6_start : MI yX6_start cX6_start 2 none 1 := ⟨mw (i := 570) (by decide +kernel) (by decide +kernel), ini_X6, by decide +kernel, by decide +kernel, by decide⟩
theorem mv_X6_start : Cond.instanceMethod yX6_start ∈ wU := mw (i := 568) (by decide +kernel) (by decide +kernel)
theorem se_X6_start : Cond.selects RX6 yX6_start yX6_start ∈ wU := mw (i := 569) (by decide +kernel) (by decide +kernel)
theorem mi_X6_takenWith : MI yX6_takenWith cX6_takenWith 2 (some .int) 1 := ⟨mw (i := 604) (by decide +kernel) (by decide +kernel), ini_X6, by decide +kernel, by decide +kernel, by decide⟩
theorem mv_X6_takenWith : Cond.instanceMethod yX6_takenWith ∈ wU := mw (i := 602) (by decide +kernel) (by decide +kernel)
theorem se_X6_takenWith : Cond.selects RX6 yX6_takenWith yX6_takenWith ∈ wU := mw (i := 603) (by decide +kernel) (by decide +kernel)
theorem mi_X6_reachedWith : MI yX6_reachedWith cX6_reachedWith 2 (some .int) 1 := ⟨mw (i := 600) (by decide +kernel) (by decide +kernel), ini_X6, by decide +kernel, by decide +kernel, by decide⟩
theorem mv_X6_reachedWith : Cond.instanceMethod yX6_reachedWith ∈ wU := mw (i := 598) (by decide +kernel) (by decide +kernel)
theorem se_X6_reachedWith : Cond.selects RX6 yX6_reachedWith yX6_reachedWith ∈ wU := mw (i := 599) (by decide +kernel) (by decide +kernel)
theorem mi_X6_addDays : MI yX6_addDays cX6_addDays 2 none 1 := ⟨mw (i := 610) (by decide +kernel) (by decide +kernel), ini_X6, by decide +kernel, by decide +kernel, by decide⟩
theorem mv_X6_addDays : Cond.instanceMethod yX6_addDays ∈ wU := mw (i := 608) (by decide +kernel) (by decide +kernel)
theorem se_X6_addDays : Cond.selects RX6 yX6_addDays yX6_addDays ∈ wU := mw (i := 609) (by decide +kernel) (by decide +kernel)
theorem mi_X6_breakRow : MI yX6_breakRow cX6_breakRow 1 none 0 := ⟨mw (i := 595) (by decide +kernel) (by decide +kernel), ini_X6, by decide +kernel, by decide +kernel, by decide⟩
theorem mv_X6_breakRow : Cond.instanceMethod yX6_breakRow ∈ wU := mw (i := 593) (by decide +kernel) (by decide +kernel)
theorem se_X6_breakRow : Cond.selects RX6 yX6_breakRow yX6_breakRow ∈ wU := mw (i := 594) (by decide +kernel) (by decide +kernel)
theorem mi_X6_addMonth : MI yX6_addMonth cX6_addMonth 4 (some .int) 2 := ⟨mw (i := 591) (by decide +kernel) (by decide +kernel), ini_X6, by decide +kernel, by decide +kernel, by decide⟩
theorem mv_X6_addMonth : Cond.instanceMethod yX6_addMonth ∈ wU := mw (i := 589) (by decide +kernel) (by decide +kernel)
theorem se_X6_addMonth : Cond.selects RX6 yX6_addMonth yX6_addMonth ∈ wU := mw (i := 590) (by decide +kernel) (by decide +kernel)
theorem mi_X7_init : MI yX7_init cX7_init 1 none 0 := ⟨mw (i := 61) (by decide +kernel) (by decide +kernel), ini_X7, by decide +kernel, by decide +kernel, by decide⟩
theorem mv_X7_init : Cond.instanceMethod yX7_init ∈ wU := mw (i := 60) (by decide +kernel) (by decide +kernel)
theorem mi_X7_person : MI yX7_person cX7_person 1 (some .int) 0 := ⟨mw (i := 266) (by decide +kernel) (by decide +kernel), ini_X7, by decide +kernel, by decide +kernel, by decide⟩
theorem mv_X7_person : Cond.instanceMethod yX7_person ∈ wU := mw (i := 264) (by decide +kernel) (by decide +kernel)
theorem se_X7_person : Cond.selects RX7 yX7_person yX7_person ∈ wU := mw (i := 265) (by decide +kernel) (by decide +kernel)
theorem mi_X7_today : MI yX7_today cX7_today 2 (some .boolean) 1 := ⟨mw (i := 270) (by decide +kernel) (by decide +kernel), ini_X7, by decide +kernel, by decide +kernel, by decide⟩
theorem mv_X7_today : Cond.instanceMethod yX7_today ∈ wU := mw (i := 268) (by decide +kernel) (by decide +kernel)
theorem se_X7_today : Cond.selects RX7 yX7_today yX7_today ∈ wU := mw (i := 269) (by decide +kernel) (by decide +kernel)
theorem mi_X7_as : MI yX7_as cX7_as 2 (some .int) 1 := ⟨mw (i := 277) (by decide +kernel) (by decide +kernel), ini_X7, by decide +kernel, by decide +kernel, by decide⟩
theorem mv_X7_as : Cond.instanceMethod yX7_as ∈ wU := mw (i := 275) (by decide +kernel) (by decide +kernel)
theorem se_X7_as : Cond.selects RX7 yX7_as yX7_as ∈ wU := mw (i := 276) (by decide +kernel) (by decide +kernel)
theorem mi_X7_letter : MI yX7_letter cX7_letter 4 (some .int) 2 := ⟨mw (i := 281) (by decide +kernel) (by decide +kernel), ini_X7, by decide +kernel, by decide +kernel, by decide⟩
theorem mv_X7_letter : Cond.instanceMethod yX7_letter ∈ wU := mw (i := 279) (by decide +kernel) (by decide +kernel)
theorem se_X7_letter : Cond.selects RX7 yX7_letter yX7_letter ∈ wU := mw (i := 280) (by decide +kernel) (by decide +kernel)
theorem mi_X7_term : MI yX7_term cX7_term 7 (some .int) 4 := ⟨mw (i := 422) (by decide +kernel) (by decide +kernel), ini_X7, by decide +kernel, by decide +kernel, by decide⟩
theorem mv_X7_term : Cond.instanceMethod yX7_term ∈ wU := mw (i := 420) (by decide +kernel) (by decide +kernel)
theorem se_X7_term : Cond.selects RX7 yX7_term yX7_term ∈ wU := mw (i := 421) (by decide +kernel) (by decide +kernel)
theorem mi_X7_waits : MI yX7_waits cX7_waits 10 (some .int) 6 := ⟨mw (i := 429) (by decide +kernel) (by decide +kernel), ini_X7, by decide +kernel, by decide +kernel, by decide⟩
theorem mv_X7_waits : Cond.instanceMethod yX7_waits ∈ wU := mw (i := 427) (by decide +kernel) (by decide +kernel)
theorem se_X7_waits : Cond.selects RX7 yX7_waits yX7_waits ∈ wU := mw (i := 428) (by decide +kernel) (by decide +kernel)
theorem mi_X7_stay : MI yX7_stay cX7_stay 10 (some .int) 6 := ⟨mw (i := 469) (by decide +kernel) (by decide +kernel), ini_X7, by decide +kernel, by decide +kernel, by decide⟩
theorem mv_X7_stay : Cond.instanceMethod yX7_stay ∈ wU := mw (i := 467) (by decide +kernel) (by decide +kernel)
theorem se_X7_stay : Cond.selects RX7 yX7_stay yX7_stay ∈ wU := mw (i := 468) (by decide +kernel) (by decide +kernel)
theorem mi_X7_quash : MI yX7_quash cX7_quash 7 (some .int) 3 := ⟨mw (i := 473) (by decide +kernel) (by decide +kernel), ini_X7, by decide +kernel, by decide +kernel, by decide⟩
theorem mv_X7_quash : Cond.instanceMethod yX7_quash ∈ wU := mw (i := 471) (by decide +kernel) (by decide +kernel)
theorem se_X7_quash : Cond.selects RX7 yX7_quash yX7_quash ∈ wU := mw (i := 472) (by decide +kernel) (by decide +kernel)
theorem mi_X7_month : MI yX7_month cX7_month 6 (some .int) 4 := ⟨mw (i := 481) (by decide +kernel) (by decide +kernel), ini_X7, by decide +kernel, by decide +kernel, by decide⟩
theorem mv_X7_month : Cond.instanceMethod yX7_month ∈ wU := mw (i := 479) (by decide +kernel) (by decide +kernel)
theorem se_X7_month : Cond.selects RX7 yX7_month yX7_month ∈ wU := mw (i := 480) (by decide +kernel) (by decide +kernel)
theorem mi_X7_held : MI yX7_held cX7_held 7 (some .int) 4 := ⟨mw (i := 486) (by decide +kernel) (by decide +kernel), ini_X7, by decide +kernel, by decide +kernel, by decide⟩
theorem mv_X7_held : Cond.instanceMethod yX7_held ∈ wU := mw (i := 484) (by decide +kernel) (by decide +kernel)
theorem se_X7_held : Cond.selects RX7 yX7_held yX7_held ∈ wU := mw (i := 485) (by decide +kernel) (by decide +kernel)
theorem mi_X7_tear : MI yX7_tear cX7_tear 3 (some .int) 2 := ⟨mw (i := 502) (by decide +kernel) (by decide +kernel), ini_X7, by decide +kernel, by decide +kernel, by decide⟩
theorem mv_X7_tear : Cond.instanceMethod yX7_tear ∈ wU := mw (i := 500) (by decide +kernel) (by decide +kernel)
theorem se_X7_tear : Cond.selects RX7 yX7_tear yX7_tear ∈ wU := mw (i := 501) (by decide +kernel) (by decide +kernel)
theorem mi_X7_copy : MI yX7_copy cX7_copy 7 (some .int) 4 := ⟨mw (i := 506) (by decide +kernel) (by decide +kernel), ini_X7, by decide +kernel, by decide +kernel, by decide⟩
theorem mv_X7_copy : Cond.instanceMethod yX7_copy ∈ wU := mw (i := 504) (by decide +kernel) (by decide +kernel)
theorem se_X7_copy : Cond.selects RX7 yX7_copy yX7_copy ∈ wU := mw (i := 505) (by decide +kernel) (by decide +kernel)
theorem mi_X7_off : MI yX7_off cX7_off 7 (some .int) 4 := ⟨mw (i := 510) (by decide +kernel) (by decide +kernel), ini_X7, by decide +kernel, by decide +kernel, by decide⟩
theorem mv_X7_off : Cond.instanceMethod yX7_off ∈ wU := mw (i := 508) (by decide +kernel) (by decide +kernel)
theorem se_X7_off : Cond.selects RX7 yX7_off yX7_off ∈ wU := mw (i := 509) (by decide +kernel) (by decide +kernel)
theorem mi_X7_back : MI yX7_back cX7_back 8 (some .int) 3 := ⟨mw (i := 524) (by decide +kernel) (by decide +kernel), ini_X7, by decide +kernel, by decide +kernel, by decide⟩
theorem mv_X7_back : Cond.instanceMethod yX7_back ∈ wU := mw (i := 522) (by decide +kernel) (by decide +kernel)
theorem se_X7_back : Cond.selects RX7 yX7_back yX7_back ∈ wU := mw (i := 523) (by decide +kernel) (by decide +kernel)
theorem mi_X7_grant : MI yX7_grant cX7_grant 4 (some .int) 2 := ⟨mw (i := 625) (by decide +kernel) (by decide +kernel), ini_X7, by decide +kernel, by decide +kernel, by decide⟩
theorem mv_X7_grant : Cond.instanceMethod yX7_grant ∈ wU := mw (i := 623) (by decide +kernel) (by decide +kernel)
theorem se_X7_grant : Cond.selects RX7 yX7_grant yX7_grant ∈ wU := mw (i := 624) (by decide +kernel) (by decide +kernel)
theorem mi_X7_recall : MI yX7_recall cX7_recall 9 (some .int) 4 := ⟨mw (i := 647) (by decide +kernel) (by decide +kernel), ini_X7, by decide +kernel, by decide +kernel, by decide⟩
theorem mv_X7_recall : Cond.instanceMethod yX7_recall ∈ wU := mw (i := 645) (by decide +kernel) (by decide +kernel)
theorem se_X7_recall : Cond.selects RX7 yX7_recall yX7_recall ∈ wU := mw (i := 646) (by decide +kernel) (by decide +kernel)
theorem mi_X7_kind : MI yX7_kind cX7_kind 4 (some .int) 2 := ⟨mw (i := 658) (by decide +kernel) (by decide +kernel), ini_X7, by decide +kernel, by decide +kernel, by decide⟩
theorem mv_X7_kind : Cond.instanceMethod yX7_kind ∈ wU := mw (i := 656) (by decide +kernel) (by decide +kernel)
theorem se_X7_kind : Cond.selects RX7 yX7_kind yX7_kind ∈ wU := mw (i := 657) (by decide +kernel) (by decide +kernel)
theorem mi_X7_begins : MI yX7_begins cX7_begins 4 (some .int) 3 := ⟨mw (i := 673) (by decide +kernel) (by decide +kernel), ini_X7, by decide +kernel, by decide +kernel, by decide⟩
theorem mv_X7_begins : Cond.instanceMethod yX7_begins ∈ wU := mw (i := 671) (by decide +kernel) (by decide +kernel)
theorem se_X7_begins : Cond.selects RX7 yX7_begins yX7_begins ∈ wU := mw (i := 672) (by decide +kernel) (by decide +kernel)
theorem mi_X7_ends : MI yX7_ends cX7_ends 4 (some .int) 3 := ⟨mw (i := 689) (by decide +kernel) (by decide +kernel), ini_X7, by decide +kernel, by decide +kernel, by decide⟩
theorem mv_X7_ends : Cond.instanceMethod yX7_ends ∈ wU := mw (i := 687) (by decide +kernel) (by decide +kernel)
theorem se_X7_ends : Cond.selects RX7 yX7_ends yX7_ends ∈ wU := mw (i := 688) (by decide +kernel) (by decide +kernel)
theorem mi_X7_counted : MI yX7_counted cX7_counted 5 (some .int) 4 := ⟨mw (i := 697) (by decide +kernel) (by decide +kernel), ini_X7, by decide +kernel, by decide +kernel, by decide⟩
theorem mv_X7_counted : Cond.instanceMethod yX7_counted ∈ wU := mw (i := 695) (by decide +kernel) (by decide +kernel)
theorem se_X7_counted : Cond.selects RX7 yX7_counted yX7_counted ∈ wU := mw (i := 696) (by decide +kernel) (by decide +kernel)
theorem mi_X7_taken : MI yX7_taken cX7_taken 4 (some .int) 3 := ⟨mw (i := 705) (by decide +kernel) (by decide +kernel), ini_X7, by decide +kernel, by decide +kernel, by decide⟩
theorem mv_X7_taken : Cond.instanceMethod yX7_taken ∈ wU := mw (i := 703) (by decide +kernel) (by decide +kernel)
theorem se_X7_taken : Cond.selects RX7 yX7_taken yX7_taken ∈ wU := mw (i := 704) (by decide +kernel) (by decide +kernel)
theorem mi_X7_why : MI yX7_why cX7_why 6 (some .int) 3 := ⟨mw (i := 709) (by decide +kernel) (by decide +kernel), ini_X7, by decide +kernel, by decide +kernel, by decide⟩
theorem mv_X7_why : Cond.instanceMethod yX7_why ∈ wU := mw (i := 707) (by decide +kernel) (by decide +kernel)
theorem se_X7_why : Cond.selects RX7 yX7_why yX7_why ∈ wU := mw (i := 708) (by decide +kernel) (by decide +kernel)
theorem mi_X7_by : MI yX7_by cX7_by 7 (some .int) 3 := ⟨mw (i := 725) (by decide +kernel) (by decide +kernel), ini_X7, by decide +kernel, by decide +kernel, by decide⟩
theorem mv_X7_by : Cond.instanceMethod yX7_by ∈ wU := mw (i := 723) (by decide +kernel) (by decide +kernel)
theorem se_X7_by : Cond.selects RX7 yX7_by yX7_by ∈ wU := mw (i := 724) (by decide +kernel) (by decide +kernel)
theorem mi_X7_full : MI yX7_full cX7_full 5 (some .int) 2 := ⟨mw (i := 730) (by decide +kernel) (by decide +kernel), ini_X7, by decide +kernel, by decide +kernel, by decide⟩
theorem mv_X7_full : Cond.instanceMethod yX7_full ∈ wU := mw (i := 728) (by decide +kernel) (by decide +kernel)
theorem se_X7_full : Cond.selects RX7 yX7_full yX7_full ∈ wU := mw (i := 729) (by decide +kernel) (by decide +kernel)
theorem mi_X7_watched : MI yX7_watched cX7_watched 5 (some .int) 3 := ⟨mw (i := 734) (by decide +kernel) (by decide +kernel), ini_X7, by decide +kernel, by decide +kernel, by decide⟩
theorem mv_X7_watched : Cond.instanceMethod yX7_watched ∈ wU := mw (i := 732) (by decide +kernel) (by decide +kernel)
theorem se_X7_watched : Cond.selects RX7 yX7_watched yX7_watched ∈ wU := mw (i := 733) (by decide +kernel) (by decide +kernel)
theorem mi_X7_open : MI yX7_open cX7_open 4 (some .int) 2 := ⟨mw (i := 738) (by decide +kernel) (by decide +kernel), ini_X7, by decide +kernel, by decide +kernel, by decide⟩
theorem mv_X7_open : Cond.instanceMethod yX7_open ∈ wU := mw (i := 736) (by decide +kernel) (by decide +kernel)
theorem se_X7_open : Cond.selects RX7 yX7_open yX7_open ∈ wU := mw (i := 737) (by decide +kernel) (by decide +kernel)
theorem mi_X7_over : MI yX7_over cX7_over 5 (some .int) 1 := ⟨mw (i := 743) (by decide +kernel) (by decide +kernel), ini_X7, by decide +kernel, by decide +kernel, by decide⟩
theorem mv_X7_over : Cond.instanceMethod yX7_over ∈ wU := mw (i := 741) (by decide +kernel) (by decide +kernel)
theorem se_X7_over : Cond.selects RX7 yX7_over yX7_over ∈ wU := mw (i := 742) (by decide +kernel) (by decide +kernel)
theorem mi_X7_ring : MI yX7_ring cX7_ring 2 (some .int) 1 := ⟨mw (i := 752) (by decide +kernel) (by decide +kernel), ini_X7, by decide +kernel, by decide +kernel, by decide⟩
theorem mv_X7_ring : Cond.instanceMethod yX7_ring ∈ wU := mw (i := 750) (by decide +kernel) (by decide +kernel)
theorem se_X7_ring : Cond.selects RX7 yX7_ring yX7_ring ∈ wU := mw (i := 751) (by decide +kernel) (by decide +kernel)
theorem mi_X7_check : MI yX7_check cX7_check 7 (some .int) 4 := ⟨mw (i := 760) (by decide +kernel) (by decide +kernel), ini_X7, by decide +kernel, by decide +kernel, by decide⟩
theorem mv_X7_check : Cond.instanceMethod yX7_check ∈ wU := mw (i := 758) (by decide +kernel) (by decide +kernel)
theorem se_X7_check : Cond.selects RX7 yX7_check yX7_check ∈ wU := mw (i := 759) (by decide +kernel) (by decide +kernel)
theorem mi_X7_image : MI yX7_image cX7_image 4 (some .int) 2 := ⟨mw (i := 769) (by decide +kernel) (by decide +kernel), ini_X7, by decide +kernel, by decide +kernel, by decide⟩
theorem mv_X7_image : Cond.instanceMethod yX7_image ∈ wU := mw (i := 767) (by decide +kernel) (by decide +kernel)
theorem se_X7_image : Cond.selects RX7 yX7_image yX7_image ∈ wU := mw (i := 768) (by decide +kernel) (by decide +kernel)
theorem mi_X7_take : MI yX7_take cX7_take 9 (some .int) 8 := ⟨mw (i := 777) (by decide +kernel) (by decide +kernel), ini_X7, by decide +kernel, by decide +kernel, by decide⟩
theorem mv_X7_take : Cond.instanceMethod yX7_take ∈ wU := mw (i := 775) (by decide +kernel) (by decide +kernel)
theorem se_X7_take : Cond.selects RX7 yX7_take yX7_take ∈ wU := mw (i := 776) (by decide +kernel) (by decide +kernel)
theorem mi_X7_count : MI yX7_count cX7_count 2 (some .int) 1 := ⟨mw (i := 795) (by decide +kernel) (by decide +kernel), ini_X7, by decide +kernel, by decide +kernel, by decide⟩
theorem mv_X7_count : Cond.instanceMethod yX7_count ∈ wU := mw (i := 793) (by decide +kernel) (by decide +kernel)
theorem se_X7_count : Cond.selects RX7 yX7_count yX7_count ∈ wU := mw (i := 794) (by decide +kernel) (by decide +kernel)
theorem mi_X7_isDay : MI yX7_isDay cX7_isDay 1 (some .boolean) 1 := ⟨mw (i := 273) (by decide +kernel) (by decide +kernel), ini_X7, by decide +kernel, by decide +kernel, by decide⟩
theorem ms_X7_isDay : Cond.static yX7_isDay ∈ wU := mw (i := 272) (by decide +kernel) (by decide +kernel)
theorem mi_X7_isMonth : MI yX7_isMonth cX7_isMonth 1 (some .boolean) 1 := ⟨mw (i := 391) (by decide +kernel) (by decide +kernel), ini_X7, by decide +kernel, by decide +kernel, by decide⟩
theorem ms_X7_isMonth : Cond.static yX7_isMonth ∈ wU := mw (i := 390) (by decide +kernel) (by decide +kernel)
theorem mi_X7_isPlace : MI yX7_isPlace cX7_isPlace 1 (some .boolean) 1 := ⟨mw (i := 308) (by decide +kernel) (by decide +kernel), ini_X7, by decide +kernel, by decide +kernel, by decide⟩
theorem ms_X7_isPlace : Cond.static yX7_isPlace ∈ wU := mw (i := 307) (by decide +kernel) (by decide +kernel)
theorem mi_X7_isNeed : MI yX7_isNeed cX7_isNeed 1 (some .boolean) 1 := ⟨mw (i := 425) (by decide +kernel) (by decide +kernel), ini_X7, by decide +kernel, by decide +kernel, by decide⟩
theorem ms_X7_isNeed : Cond.static yX7_isNeed ∈ wU := mw (i := 424) (by decide +kernel) (by decide +kernel)
theorem mi_X7_isSet : MI yX7_isSet cX7_isSet 1 (some .boolean) 1 := ⟨mw (i := 432) (by decide +kernel) (by decide +kernel), ini_X7, by decide +kernel, by decide +kernel, by decide⟩
theorem ms_X7_isSet : Cond.static yX7_isSet ∈ wU := mw (i := 431) (by decide +kernel) (by decide +kernel)
theorem mi_X7_names : MI yX7_names cX7_names 2 (some .boolean) 2 := ⟨mw (i := 453) (by decide +kernel) (by decide +kernel), ini_X7, by decide +kernel, by decide +kernel, by decide⟩
theorem ms_X7_names : Cond.static yX7_names ∈ wU := mw (i := 452) (by decide +kernel) (by decide +kernel)
theorem mi_X7_part : MI yX7_part cX7_part 2 (some .int) 2 := ⟨mw (i := 577) (by decide +kernel) (by decide +kernel), ini_X7, by decide +kernel, by decide +kernel, by decide⟩
theorem ms_X7_part : Cond.static yX7_part ∈ wU := mw (i := 576) (by decide +kernel) (by decide +kernel)
theorem mi_X7_dayOrNone : MI yX7_dayOrNone cX7_dayOrNone 1 (some .int) 1 := ⟨mw (i := 685) (by decide +kernel) (by decide +kernel), ini_X7, by decide +kernel, by decide +kernel, by decide⟩
theorem ms_X7_dayOrNone : Cond.static yX7_dayOrNone ∈ wU := mw (i := 684) (by decide +kernel) (by decide +kernel)
theorem mi_X7_bitsFrom : MI yX7_bitsFrom cX7_bitsFrom 1 (some .int) 1 := ⟨mw (i := 565) (by decide +kernel) (by decide +kernel), ini_X7, by decide +kernel, by decide +kernel, by decide⟩
theorem ms_X7_bitsFrom : Cond.static yX7_bitsFrom ∈ wU := mw (i := 564) (by decide +kernel) (by decide +kernel)
theorem mi_X7_bitsUpTo : MI yX7_bitsUpTo cX7_bitsUpTo 1 (some .int) 1 := ⟨mw (i := 394) (by decide +kernel) (by decide +kernel), ini_X7, by decide +kernel, by decide +kernel, by decide⟩
theorem ms_X7_bitsUpTo : Cond.static yX7_bitsUpTo ∈ wU := mw (i := 393) (by decide +kernel) (by decide +kernel)
theorem mi_X7_isPerson : MI yX7_isPerson cX7_isPerson 2 (some .boolean) 1 := ⟨mw (i := 297) (by decide +kernel) (by decide +kernel), ini_X7, by decide +kernel, by decide +kernel, by decide⟩
theorem mv_X7_isPerson : Cond.instanceMethod yX7_isPerson ∈ wU := mw (i := 296) (by decide +kernel) (by decide +kernel)
theorem se_X7_isPerson : Cond.selects RX7 yX7_isPerson yX7_isPerson ∈ wU := mw (i := 3) (by decide +kernel) (by decide +kernel)
theorem mi_X7_fileOf : MI yX7_fileOf cX7_fileOf 3 (some (.object "TermReckoner$File")) 2 := ⟨mw (i := 293) (by decide +kernel) (by decide +kernel), ini_X7, by decide +kernel, by decide +kernel, by decide⟩
theorem mv_X7_fileOf : Cond.instanceMethod yX7_fileOf ∈ wU := mw (i := 292) (by decide +kernel) (by decide +kernel)
theorem se_X7_fileOf : Cond.selects RX7 yX7_fileOf yX7_fileOf ∈ wU := mw (i := 2) (by decide +kernel) (by decide +kernel)
theorem mi_X7_placeOf : MI yX7_placeOf cX7_placeOf 5 (some (.object "TermReckoner$Place")) 3 := ⟨mw (i := 289) (by decide +kernel) (by decide +kernel), ini_X7, by decide +kernel, by decide +kernel, by decide⟩
theorem mv_X7_placeOf : Cond.instanceMethod yX7_placeOf ∈ wU := mw (i := 288) (by decide +kernel) (by decide +kernel)
theorem se_X7_placeOf : Cond.selects RX7 yX7_placeOf yX7_placeOf ∈ wU := mw (i := 1) (by decide +kernel) (by decide +kernel)
theorem mi_X7_putStatus : MI yX7_putStatus cX7_putStatus 4 (some .int) 2 := ⟨mw (i := 285) (by decide +kernel) (by decide +kernel), ini_X7, by decide +kernel, by decide +kernel, by decide⟩
theorem mv_X7_putStatus : Cond.instanceMethod yX7_putStatus ∈ wU := mw (i := 284) (by decide +kernel) (by decide +kernel)
theorem se_X7_putStatus : Cond.selects RX7 yX7_putStatus yX7_putStatus ∈ wU := mw (i := 0) (by decide +kernel) (by decide +kernel)
theorem mi_X7_tell : MI yX7_tell cX7_tell 2 (some .int) 1 := ⟨mw (i := 359) (by decide +kernel) (by decide +kernel), ini_X7, by decide +kernel, by decide +kernel, by decide⟩
theorem mv_X7_tell : Cond.instanceMethod yX7_tell ∈ wU := mw (i := 358) (by decide +kernel) (by decide +kernel)
theorem se_X7_tell : Cond.selects RX7 yX7_tell yX7_tell ∈ wU := mw (i := 4) (by decide +kernel) (by decide +kernel)
theorem mi_X7_dayAsked : MI yX7_dayAsked cX7_dayAsked 1 (some .int) 0 := ⟨mw (i := 666) (by decide +kernel) (by decide +kernel), ini_X7, by decide +kernel, by decide +kernel, by decide⟩
theorem mv_X7_dayAsked : Cond.instanceMethod yX7_dayAsked ∈ wU := mw (i := 665) (by decide +kernel) (by decide +kernel)
theorem se_X7_dayAsked : Cond.selects RX7 yX7_dayAsked yX7_dayAsked ∈ wU := mw (i := 18) (by decide +kernel) (by decide +kernel)
theorem mi_X7_known : MI yX7_known cX7_known 2 (some (.object "TermReckoner$Registry")) 0 := ⟨mw (i := 662) (by decide +kernel) (by decide +kernel), ini_X7, by decide +kernel, by decide +kernel, by decide⟩
theorem mv_X7_known : Cond.instanceMethod yX7_known ∈ wU := mw (i := 661) (by decide +kernel) (by decide +kernel)
theorem se_X7_known : Cond.selects RX7 yX7_known yX7_known ∈ wU := mw (i := 17) (by decide +kernel) (by decide +kernel)
theorem mi_X7_isBehind : MI yX7_isBehind cX7_isBehind 2 (some .boolean) 2 := ⟨mw (i := 669) (by decide +kernel) (by decide +kernel), ini_X7, by decide +kernel, by decide +kernel, by decide⟩
theorem ms_X7_isBehind : Cond.static yX7_isBehind ∈ wU := mw (i := 668) (by decide +kernel) (by decide +kernel)
theorem mi_X7_reckonOrder : MI yX7_reckonOrder cX7_reckonOrder 6 (some .boolean) 3 := ⟨mw (i := 677) (by decide +kernel) (by decide +kernel), ini_X7, by decide +kernel, by decide +kernel, by decide⟩
theorem mv_X7_reckonOrder : Cond.instanceMethod yX7_reckonOrder ∈ wU := mw (i := 676) (by decide +kernel) (by decide +kernel)
theorem se_X7_reckonOrder : Cond.selects RX7 yX7_reckonOrder yX7_reckonOrder ∈ wU := mw (i := 19) (by decide +kernel) (by decide +kernel)
theorem mi_X8_init : MI yX8_init cX8_init 1 none 0 := ⟨mw (i := 800) (by decide +kernel) (by decide +kernel), ini_X8, by decide +kernel, by decide +kernel, by decide⟩
theorem mv_X8_init : Cond.instanceMethod yX8_init ∈ wU := mw (i := 799) (by decide +kernel) (by decide +kernel)
theorem mi_X8_person : MI yX8_person cX8_person 1 (some .int) 0 := ⟨mw (i := 907) (by decide +kernel) (by decide +kernel), ini_X8, by decide +kernel, by decide +kernel, by decide⟩
theorem mv_X8_person : Cond.instanceMethod yX8_person ∈ wU := mw (i := 905) (by decide +kernel) (by decide +kernel)
theorem se_X8_person : Cond.selects RX8 yX8_person yX8_person ∈ wU := mw (i := 906) (by decide +kernel) (by decide +kernel)
theorem mi_X8_today : MI yX8_today cX8_today 2 (some .boolean) 1 := ⟨mw (i := 911) (by decide +kernel) (by decide +kernel), ini_X8, by decide +kernel, by decide +kernel, by decide⟩
theorem mv_X8_today : Cond.instanceMethod yX8_today ∈ wU := mw (i := 909) (by decide +kernel) (by decide +kernel)
theorem se_X8_today : Cond.selects RX8 yX8_today yX8_today ∈ wU := mw (i := 910) (by decide +kernel) (by decide +kernel)
theorem mi_X8_as : MI yX8_as cX8_as 2 (some .int) 1 := ⟨mw (i := 915) (by decide +kernel) (by decide +kernel), ini_X8, by decide +kernel, by decide +kernel, by decide⟩
theorem mv_X8_as : Cond.instanceMethod yX8_as ∈ wU := mw (i := 913) (by decide +kernel) (by decide +kernel)
theorem se_X8_as : Cond.selects RX8 yX8_as yX8_as ∈ wU := mw (i := 914) (by decide +kernel) (by decide +kernel)
theorem mi_X8_known : MI yX8_known cX8_known 1 (some .int) 0 := ⟨mw (i := 1078) (by decide +kernel) (by decide +kernel), ini_X8, by decide +kernel, by decide +kernel, by decide⟩
theorem mv_X8_known : Cond.instanceMethod yX8_known ∈ wU := mw (i := 1077) (by decide +kernel) (by decide +kernel)
theorem se_X8_known : Cond.selects RX8 yX8_known yX8_known ∈ wU := mw (i := 42) (by decide +kernel) (by decide +kernel)
theorem mi_X8_begin : MI yX8_begin cX8_begin 2 none 0 := ⟨mw (i := 938) (by decide +kernel) (by decide +kernel), ini_X8, by decide +kernel, by decide +kernel, by decide⟩
theorem mv_X8_begin : Cond.instanceMethod yX8_begin ∈ wU := mw (i := 937) (by decide +kernel) (by decide +kernel)
theorem se_X8_begin : Cond.selects RX8 yX8_begin yX8_begin ∈ wU := mw (i := 23) (by decide +kernel) (by decide +kernel)
theorem mi_X8_tellAgain : MI yX8_tellAgain cX8_tellAgain 4 none 2 := ⟨mw (i := 934) (by decide +kernel) (by decide +kernel), ini_X8, by decide +kernel, by decide +kernel, by decide⟩
theorem mv_X8_tellAgain : Cond.instanceMethod yX8_tellAgain ∈ wU := mw (i := 933) (by decide +kernel) (by decide +kernel)
theorem se_X8_tellAgain : Cond.selects RX8 yX8_tellAgain yX8_tellAgain ∈ wU := mw (i := 22) (by decide +kernel) (by decide +kernel)
theorem mi_X8_again : MI yX8_again cX8_again 9 none 2 := ⟨mw (i := 942) (by decide +kernel) (by decide +kernel), ini_X8, by decide +kernel, by decide +kernel, by decide⟩
theorem mv_X8_again : Cond.instanceMethod yX8_again ∈ wU := mw (i := 941) (by decide +kernel) (by decide +kernel)
theorem se_X8_again : Cond.selects RX8 yX8_again yX8_again ∈ wU := mw (i := 24) (by decide +kernel) (by decide +kernel)
theorem mi_X8_months : MI yX8_months cX8_months 7 none 4 := ⟨mw (i := 946) (by decide +kernel) (by decide +kernel), ini_X8, by decide +kernel, by decide +kernel, by decide⟩
theorem mv_X8_months : Cond.instanceMethod yX8_months ∈ wU := mw (i := 945) (by decide +kernel) (by decide +kernel)
theorem se_X8_months : Cond.selects RX8 yX8_months yX8_months ∈ wU := mw (i := 25) (by decide +kernel) (by decide +kernel)
theorem mi_X8_runs : MI yX8_runs cX8_runs 2 (some .boolean) 1 := ⟨mw (i := 976) (by decide +kernel) (by decide +kernel), ini_X8, by decide +kernel, by decide +kernel, by decide⟩
theorem mv_X8_runs : Cond.instanceMethod yX8_runs ∈ wU := mw (i := 975) (by decide +kernel) (by decide +kernel)
theorem se_X8_runs : Cond.selects RX8 yX8_runs yX8_runs ∈ wU := mw (i := 29) (by decide +kernel) (by decide +kernel)
theorem mi_X8_isLive : MI yX8_isLive cX8_isLive 2 (some .boolean) 1 := ⟨mw (i := 1019) (by decide +kernel) (by decide +kernel), ini_X8, by decide +kernel, by decide +kernel, by decide⟩
theorem mv_X8_isLive : Cond.instanceMethod yX8_isLive ∈ wU := mw (i := 1018) (by decide +kernel) (by decide +kernel)
theorem se_X8_isLive : Cond.selects RX8 yX8_isLive yX8_isLive ∈ wU := mw (i := 32) (by decide +kernel) (by decide +kernel)
theorem mi_X8_isHeld : MI yX8_isHeld cX8_isHeld 5 (some .boolean) 3 := ⟨mw (i := 1050) (by decide +kernel) (by decide +kernel), ini_X8, by decide +kernel, by decide +kernel, by decide⟩
theorem mv_X8_isHeld : Cond.instanceMethod yX8_isHeld ∈ wU := mw (i := 1049) (by decide +kernel) (by decide +kernel)
theorem se_X8_isHeld : Cond.selects RX8 yX8_isHeld yX8_isHeld ∈ wU := mw (i := 38) (by decide +kernel) (by decide +kernel)
theorem mi_X8_has : MI yX8_has cX8_has 5 (some .int) 3 := ⟨mw (i := 1046) (by decide +kernel) (by decide +kernel), ini_X8, by decide +kernel, by decide +kernel, by decide⟩
theorem mv_X8_has : Cond.instanceMethod yX8_has ∈ wU := mw (i := 1045) (by decide +kernel) (by decide +kernel)
theorem se_X8_has : Cond.selects RX8 yX8_has yX8_has ∈ wU := mw (i := 37) (by decide +kernel) (by decide +kernel)
theorem mi_X8_thousandths : MI yX8_thousandths cX8_thousandths 2 (some .int) 2 := ⟨mw (i := 1042) (by decide +kernel) (by decide +kernel), ini_X8, by decide +kernel, by decide +kernel, by decide⟩
theorem ms_X8_thousandths : Cond.static yX8_thousandths ∈ wU := mw (i := 1041) (by decide +kernel) (by decide +kernel)
theorem mi_X8_isReady : MI yX8_isReady cX8_isReady 3 (some .boolean) 1 := ⟨mw (i := 1031) (by decide +kernel) (by decide +kernel), ini_X8, by decide +kernel, by decide +kernel, by decide⟩
theorem mv_X8_isReady : Cond.instanceMethod yX8_isReady ∈ wU := mw (i := 1030) (by decide +kernel) (by decide +kernel)
theorem se_X8_isReady : Cond.selects RX8 yX8_isReady yX8_isReady ∈ wU := mw (i := 34) (by decide +kernel) (by decide +kernel)
theorem mi_X8_beginning : MI yX8_beginning cX8_beginning 6 (some .int) 1 := ⟨mw (i := 1039) (by decide +kernel) (by decide +kernel), ini_X8, by decide +kernel, by decide +kernel, by decide⟩
theorem mv_X8_beginning : Cond.instanceMethod yX8_beginning ∈ wU := mw (i := 1038) (by decide +kernel) (by decide +kernel)
theorem se_X8_beginning : Cond.selects RX8 yX8_beginning yX8_beginning ∈ wU := mw (i := 36) (by decide +kernel) (by decide +kernel)
theorem mi_X8_goThrough : MI yX8_goThrough cX8_goThrough 12 none 3 := ⟨mw (i := 1035) (by decide +kernel) (by decide +kernel), ini_X8, by decide +kernel, by decide +kernel, by decide⟩
theorem mv_X8_goThrough : Cond.instanceMethod yX8_goThrough ∈ wU := mw (i := 1034) (by decide +kernel) (by decide +kernel)
theorem se_X8_goThrough : Cond.selects RX8 yX8_goThrough yX8_goThrough ∈ wU := mw (i := 35) (by decide +kernel) (by decide +kernel)
theorem mi_X8_reckon : MI yX8_reckon cX8_reckon 6 none 3 := ⟨mw (i := 1027) (by decide +kernel) (by decide +kernel), ini_X8, by decide +kernel, by decide +kernel, by decide⟩
theorem mv_X8_reckon : Cond.instanceMethod yX8_reckon ∈ wU := mw (i := 1026) (by decide +kernel) (by decide +kernel)
theorem se_X8_reckon : Cond.selects RX8 yX8_reckon yX8_reckon ∈ wU := mw (i := 33) (by decide +kernel) (by decide +kernel)
theorem mi_X8_fullNow : MI yX8_fullNow cX8_fullNow 3 (some .int) 0 := ⟨mw (i := 1066) (by decide +kernel) (by decide +kernel), ini_X8, by decide +kernel, by decide +kernel, by decide⟩
theorem mv_X8_fullNow : Cond.instanceMethod yX8_fullNow ∈ wU := mw (i := 1065) (by decide +kernel) (by decide +kernel)
theorem se_X8_fullNow : Cond.selects RX8 yX8_fullNow yX8_fullNow ∈ wU := mw (i := 40) (by decide +kernel) (by decide +kernel)
theorem mi_X8_watchedNow : MI yX8_watchedNow cX8_watchedNow 7 (some .int) 1 := ⟨mw (i := 1058) (by decide +kernel) (by decide +kernel), ini_X8, by decide +kernel, by decide +kernel, by decide⟩
theorem mv_X8_watchedNow : Cond.instanceMethod yX8_watchedNow ∈ wU := mw (i := 1057) (by decide +kernel) (by decide +kernel)
theorem se_X8_watchedNow : Cond.selects RX8 yX8_watchedNow yX8_watchedNow ∈ wU := mw (i := 39) (by decide +kernel) (by decide +kernel)
theorem mi_X8_isPlace : MI yX8_isPlace cX8_isPlace 1 (some .boolean) 1 := ⟨mw (i := 930) (by decide +kernel) (by decide +kernel), ini_X8, by decide +kernel, by decide +kernel, by decide⟩
theorem ms_X8_isPlace : Cond.static yX8_isPlace ∈ wU := mw (i := 929) (by decide +kernel) (by decide +kernel)
theorem mi_X8_isPerson : MI yX8_isPerson cX8_isPerson 2 (some .boolean) 1 := ⟨mw (i := 927) (by decide +kernel) (by decide +kernel), ini_X8, by decide +kernel, by decide +kernel, by decide⟩
theorem mv_X8_isPerson : Cond.instanceMethod yX8_isPerson ∈ wU := mw (i := 926) (by decide +kernel) (by decide +kernel)
theorem se_X8_isPerson : Cond.selects RX8 yX8_isPerson yX8_isPerson ∈ wU := mw (i := 21) (by decide +kernel) (by decide +kernel)
theorem mi_X8_isDay : MI yX8_isDay cX8_isDay 1 (some .boolean) 1 := ⟨mw (i := 960) (by decide +kernel) (by decide +kernel), ini_X8, by decide +kernel, by decide +kernel, by decide⟩
theorem ms_X8_isDay : Cond.static yX8_isDay ∈ wU := mw (i := 959) (by decide +kernel) (by decide +kernel)
theorem mi_X8_isMonth : MI yX8_isMonth cX8_isMonth 1 (some .boolean) 1 := ⟨mw (i := 995) (by decide +kernel) (by decide +kernel), ini_X8, by decide +kernel, by decide +kernel, by decide⟩
theorem ms_X8_isMonth : Cond.static yX8_isMonth ∈ wU := mw (i := 994) (by decide +kernel) (by decide +kernel)
theorem mi_X8_comes : MI yX8_comes cX8_comes 9 (some .int) 7 := ⟨mw (i := 950) (by decide +kernel) (by decide +kernel), ini_X8, by decide +kernel, by decide +kernel, by decide⟩
theorem mv_X8_comes : Cond.instanceMethod yX8_comes ∈ wU := mw (i := 949) (by decide +kernel) (by decide +kernel)
theorem se_X8_comes : Cond.selects RX8 yX8_comes yX8_comes ∈ wU := mw (i := 26) (by decide +kernel) (by decide +kernel)
theorem mi_X8_room : MI yX8_room cX8_room 3 (some .int) 2 := ⟨mw (i := 923) (by decide +kernel) (by decide +kernel), ini_X8, by decide +kernel, by decide +kernel, by decide⟩
theorem mv_X8_room : Cond.instanceMethod yX8_room ∈ wU := mw (i := 922) (by decide +kernel) (by decide +kernel)
theorem se_X8_room : Cond.selects RX8 yX8_room yX8_room ∈ wU := mw (i := 20) (by decide +kernel) (by decide +kernel)
theorem mi_X8_letter : MI yX8_letter cX8_letter 4 (some .int) 2 := ⟨mw (i := 919) (by decide +kernel) (by decide +kernel), ini_X8, by decide +kernel, by decide +kernel, by decide⟩
theorem mv_X8_letter : Cond.instanceMethod yX8_letter ∈ wU := mw (i := 917) (by decide +kernel) (by decide +kernel)
theorem se_X8_letter : Cond.selects RX8 yX8_letter yX8_letter ∈ wU := mw (i := 918) (by decide +kernel) (by decide +kernel)
theorem mi_X8_isTerm : MI yX8_isTerm cX8_isTerm 2 (some .boolean) 2 := ⟨mw (i := 957) (by decide +kernel) (by decide +kernel), ini_X8, by decide +kernel, by decide +kernel, by decide⟩
theorem ms_X8_isTerm : Cond.static yX8_isTerm ∈ wU := mw (i := 956) (by decide +kernel) (by decide +kernel)
theorem mi_X8_term : MI yX8_term cX8_term 6 (some .int) 4 := ⟨mw (i := 954) (by decide +kernel) (by decide +kernel), ini_X8, by decide +kernel, by decide +kernel, by decide⟩
theorem mv_X8_term : Cond.instanceMethod yX8_term ∈ wU := mw (i := 952) (by decide +kernel) (by decide +kernel)
theorem se_X8_term : Cond.selects RX8 yX8_term yX8_term ∈ wU := mw (i := 953) (by decide +kernel) (by decide +kernel)
theorem mi_X8_names : MI yX8_names cX8_names 3 (some .boolean) 2 := ⟨mw (i := 972) (by decide +kernel) (by decide +kernel), ini_X8, by decide +kernel, by decide +kernel, by decide⟩
theorem mv_X8_names : Cond.instanceMethod yX8_names ∈ wU := mw (i := 971) (by decide +kernel) (by decide +kernel)
theorem se_X8_names : Cond.selects RX8 yX8_names yX8_names ∈ wU := mw (i := 28) (by decide +kernel) (by decide +kernel)
theorem mi_X8_isRing : MI yX8_isRing cX8_isRing 7 (some .boolean) 1 := ⟨mw (i := 968) (by decide +kernel) (by decide +kernel), ini_X8, by decide +kernel, by decide +kernel, by decide⟩
theorem mv_X8_isRing : Cond.instanceMethod yX8_isRing ∈ wU := mw (i := 967) (by decide +kernel) (by decide +kernel)
theorem se_X8_isRing : Cond.selects RX8 yX8_isRing yX8_isRing ∈ wU := mw (i := 27) (by decide +kernel) (by decide +kernel)
theorem mi_X8_isBetter : MI yX8_isBetter cX8_isBetter 5 none 1 := ⟨mw (i := 980) (by decide +kernel) (by decide +kernel), ini_X8, by decide +kernel, by decide +kernel, by decide⟩
theorem mv_X8_isBetter : Cond.instanceMethod yX8_isBetter ∈ wU := mw (i := 979) (by decide +kernel) (by decide +kernel)
theorem se_X8_isBetter : Cond.selects RX8 yX8_isBetter yX8_isBetter ∈ wU := mw (i := 30) (by decide +kernel) (by decide +kernel)
theorem mi_X8_waits : MI yX8_waits cX8_waits 9 (some .int) 6 := ⟨mw (i := 964) (by decide +kernel) (by decide +kernel), ini_X8, by decide +kernel, by decide +kernel, by decide⟩
theorem mv_X8_waits : Cond.instanceMethod yX8_waits ∈ wU := mw (i := 962) (by decide +kernel) (by decide +kernel)
theorem se_X8_waits : Cond.selects RX8 yX8_waits yX8_waits ∈ wU := mw (i := 963) (by decide +kernel) (by decide +kernel)
theorem mi_X8_stay : MI yX8_stay cX8_stay 8 (some .int) 6 := ⟨mw (i := 984) (by decide +kernel) (by decide +kernel), ini_X8, by decide +kernel, by decide +kernel, by decide⟩
theorem mv_X8_stay : Cond.instanceMethod yX8_stay ∈ wU := mw (i := 982) (by decide +kernel) (by decide +kernel)
theorem se_X8_stay : Cond.selects RX8 yX8_stay yX8_stay ∈ wU := mw (i := 983) (by decide +kernel) (by decide +kernel)
theorem mi_X8_quash : MI yX8_quash cX8_quash 5 (some .int) 3 := ⟨mw (i := 988) (by decide +kernel) (by decide +kernel), ini_X8, by decide +kernel, by decide +kernel, by decide⟩
theorem mv_X8_quash : Cond.instanceMethod yX8_quash ∈ wU := mw (i := 986) (by decide +kernel) (by decide +kernel)
theorem se_X8_quash : Cond.selects RX8 yX8_quash yX8_quash ∈ wU := mw (i := 987) (by decide +kernel) (by decide +kernel)
theorem mi_X8_month : MI yX8_month cX8_month 5 (some .int) 4 := ⟨mw (i := 992) (by decide +kernel) (by decide +kernel), ini_X8, by decide +kernel, by decide +kernel, by decide⟩
theorem mv_X8_month : Cond.instanceMethod yX8_month ∈ wU := mw (i := 990) (by decide +kernel) (by decide +kernel)
theorem se_X8_month : Cond.selects RX8 yX8_month yX8_month ∈ wU := mw (i := 991) (by decide +kernel) (by decide +kernel)
theorem mi_X8_held : MI yX8_held cX8_held 8 (some .int) 4 := ⟨mw (i := 999) (by decide +kernel) (by decide +kernel), ini_X8, by decide +kernel, by decide +kernel, by decide⟩
theorem mv_X8_held : Cond.instanceMethod yX8_held ∈ wU := mw (i := 997) (by decide +kernel) (by decide +kernel)
theorem se_X8_held : Cond.selects RX8 yX8_held yX8_held ∈ wU := mw (i := 998) (by decide +kernel) (by decide +kernel)
theorem mi_X8_tear : MI yX8_tear cX8_tear 3 (some .int) 2 := ⟨mw (i := 1003) (by decide +kernel) (by decide +kernel), ini_X8, by decide +kernel, by decide +kernel, by decide⟩
theorem mv_X8_tear : Cond.instanceMethod yX8_tear ∈ wU := mw (i := 1001) (by decide +kernel) (by decide +kernel)
theorem se_X8_tear : Cond.selects RX8 yX8_tear yX8_tear ∈ wU := mw (i := 1002) (by decide +kernel) (by decide +kernel)
theorem mi_X8_copy : MI yX8_copy cX8_copy 5 (some .int) 4 := ⟨mw (i := 1007) (by decide +kernel) (by decide +kernel), ini_X8, by decide +kernel, by decide +kernel, by decide⟩
theorem mv_X8_copy : Cond.instanceMethod yX8_copy ∈ wU := mw (i := 1005) (by decide +kernel) (by decide +kernel)
theorem se_X8_copy : Cond.selects RX8 yX8_copy yX8_copy ∈ wU := mw (i := 1006) (by decide +kernel) (by decide +kernel)
theorem mi_X8_isRuled : MI yX8_isRuled cX8_isRuled 2 (some .boolean) 1 := ⟨mw (i := 1015) (by decide +kernel) (by decide +kernel), ini_X8, by decide +kernel, by decide +kernel, by decide⟩
theorem mv_X8_isRuled : Cond.instanceMethod yX8_isRuled ∈ wU := mw (i := 1014) (by decide +kernel) (by decide +kernel)
theorem se_X8_isRuled : Cond.selects RX8 yX8_isRuled yX8_isRuled ∈ wU := mw (i := 31) (by decide +kernel) (by decide +kernel)
theorem mi_X8_off : MI yX8_off cX8_off 5 (some .int) 4 := ⟨mw (i := 1011) (by decide +kernel) (by decide +kernel), ini_X8, by decide +kernel, by decide +kernel, by decide⟩
theorem mv_X8_off : Cond.instanceMethod yX8_off ∈ wU := mw (i := 1009) (by decide +kernel) (by decide +kernel)
theorem se_X8_off : Cond.selects RX8 yX8_off yX8_off ∈ wU := mw (i := 1010) (by decide +kernel) (by decide +kernel)
theorem mi_X8_back : MI yX8_back cX8_back 6 (some .int) 3 := ⟨mw (i := 1023) (by decide +kernel) (by decide +kernel), ini_X8, by decide +kernel, by decide +kernel, by decide⟩
theorem mv_X8_back : Cond.instanceMethod yX8_back ∈ wU := mw (i := 1021) (by decide +kernel) (by decide +kernel)
theorem se_X8_back : Cond.selects RX8 yX8_back yX8_back ∈ wU := mw (i := 1022) (by decide +kernel) (by decide +kernel)
theorem mi_X8_grant : MI yX8_grant cX8_grant 4 (some .int) 2 := ⟨mw (i := 1054) (by decide +kernel) (by decide +kernel), ini_X8, by decide +kernel, by decide +kernel, by decide⟩
theorem mv_X8_grant : Cond.instanceMethod yX8_grant ∈ wU := mw (i := 1052) (by decide +kernel) (by decide +kernel)
theorem se_X8_grant : Cond.selects RX8 yX8_grant yX8_grant ∈ wU := mw (i := 1053) (by decide +kernel) (by decide +kernel)
theorem mi_X8_recall : MI yX8_recall cX8_recall 8 (some .int) 4 := ⟨mw (i := 1062) (by decide +kernel) (by decide +kernel), ini_X8, by decide +kernel, by decide +kernel, by decide⟩
theorem mv_X8_recall : Cond.instanceMethod yX8_recall ∈ wU := mw (i := 1060) (by decide +kernel) (by decide +kernel)
theorem se_X8_recall : Cond.selects RX8 yX8_recall yX8_recall ∈ wU := mw (i := 1061) (by decide +kernel) (by decide +kernel)
theorem mi_X8_isThere : MI yX8_isThere cX8_isThere 3 (some .boolean) 2 := ⟨mw (i := 1074) (by decide +kernel) (by decide +kernel), ini_X8, by decide +kernel, by decide +kernel, by decide⟩
theorem mv_X8_isThere : Cond.instanceMethod yX8_isThere ∈ wU := mw (i := 1073) (by decide +kernel) (by decide +kernel)
theorem se_X8_isThere : Cond.selects RX8 yX8_isThere yX8_isThere ∈ wU := mw (i := 41) (by decide +kernel) (by decide +kernel)
theorem mi_X8_kind : MI yX8_kind cX8_kind 3 (some .int) 2 := ⟨mw (i := 1070) (by decide +kernel) (by decide +kernel), ini_X8, by decide +kernel, by decide +kernel, by decide⟩
theorem mv_X8_kind : Cond.instanceMethod yX8_kind ∈ wU := mw (i := 1068) (by decide +kernel) (by decide +kernel)
theorem se_X8_kind : Cond.selects RX8 yX8_kind yX8_kind ∈ wU := mw (i := 1069) (by decide +kernel) (by decide +kernel)
theorem mi_X8_isOrder : MI yX8_isOrder cX8_isOrder 4 (some .boolean) 3 := ⟨mw (i := 1086) (by decide +kernel) (by decide +kernel), ini_X8, by decide +kernel, by decide +kernel, by decide⟩
theorem mv_X8_isOrder : Cond.instanceMethod yX8_isOrder ∈ wU := mw (i := 1085) (by decide +kernel) (by decide +kernel)
theorem se_X8_isOrder : Cond.selects RX8 yX8_isOrder yX8_isOrder ∈ wU := mw (i := 43) (by decide +kernel) (by decide +kernel)
theorem mi_X8_begins : MI yX8_begins cX8_begins 4 (some .int) 3 := ⟨mw (i := 1082) (by decide +kernel) (by decide +kernel), ini_X8, by decide +kernel, by decide +kernel, by decide⟩
theorem mv_X8_begins : Cond.instanceMethod yX8_begins ∈ wU := mw (i := 1080) (by decide +kernel) (by decide +kernel)
theorem se_X8_begins : Cond.selects RX8 yX8_begins yX8_begins ∈ wU := mw (i := 1081) (by decide +kernel) (by decide +kernel)
theorem mi_X8_ends : MI yX8_ends cX8_ends 4 (some .int) 3 := ⟨mw (i := 1090) (by decide +kernel) (by decide +kernel), ini_X8, by decide +kernel, by decide +kernel, by decide⟩
theorem mv_X8_ends : Cond.instanceMethod yX8_ends ∈ wU := mw (i := 1088) (by decide +kernel) (by decide +kernel)
theorem se_X8_ends : Cond.selects RX8 yX8_ends yX8_ends ∈ wU := mw (i := 1089) (by decide +kernel) (by decide +kernel)
theorem mi_X8_counted : MI yX8_counted cX8_counted 5 (some .int) 4 := ⟨mw (i := 1094) (by decide +kernel) (by decide +kernel), ini_X8, by decide +kernel, by decide +kernel, by decide⟩
theorem mv_X8_counted : Cond.instanceMethod yX8_counted ∈ wU := mw (i := 1092) (by decide +kernel) (by decide +kernel)
theorem se_X8_counted : Cond.selects RX8 yX8_counted yX8_counted ∈ wU := mw (i := 1093) (by decide +kernel) (by decide +kernel)
theorem mi_X8_taken : MI yX8_taken cX8_taken 4 (some .int) 3 := ⟨mw (i := 1098) (by decide +kernel) (by decide +kernel), ini_X8, by decide +kernel, by decide +kernel, by decide⟩
theorem mv_X8_taken : Cond.instanceMethod yX8_taken ∈ wU := mw (i := 1096) (by decide +kernel) (by decide +kernel)
theorem se_X8_taken : Cond.selects RX8 yX8_taken yX8_taken ∈ wU := mw (i := 1097) (by decide +kernel) (by decide +kernel)
theorem mi_X8_why : MI yX8_why cX8_why 4 (some .int) 3 := ⟨mw (i := 1102) (by decide +kernel) (by decide +kernel), ini_X8, by decide +kernel, by decide +kernel, by decide⟩
theorem mv_X8_why : Cond.instanceMethod yX8_why ∈ wU := mw (i := 1100) (by decide +kernel) (by decide +kernel)
theorem se_X8_why : Cond.selects RX8 yX8_why yX8_why ∈ wU := mw (i := 1101) (by decide +kernel) (by decide +kernel)
theorem mi_X8_by : MI yX8_by cX8_by 5 (some .int) 3 := ⟨mw (i := 1106) (by decide +kernel) (by decide +kernel), ini_X8, by decide +kernel, by decide +kernel, by decide⟩
theorem mv_X8_by : Cond.instanceMethod yX8_by ∈ wU := mw (i := 1104) (by decide +kernel) (by decide +kernel)
theorem se_X8_by : Cond.selects RX8 yX8_by yX8_by ∈ wU := mw (i := 1105) (by decide +kernel) (by decide +kernel)
theorem mi_X8_full : MI yX8_full cX8_full 3 (some .int) 2 := ⟨mw (i := 1111) (by decide +kernel) (by decide +kernel), ini_X8, by decide +kernel, by decide +kernel, by decide⟩
theorem mv_X8_full : Cond.instanceMethod yX8_full ∈ wU := mw (i := 1109) (by decide +kernel) (by decide +kernel)
theorem se_X8_full : Cond.selects RX8 yX8_full yX8_full ∈ wU := mw (i := 1110) (by decide +kernel) (by decide +kernel)
theorem mi_X8_watched : MI yX8_watched cX8_watched 4 (some .int) 3 := ⟨mw (i := 1115) (by decide +kernel) (by decide +kernel), ini_X8, by decide +kernel, by decide +kernel, by decide⟩
theorem mv_X8_watched : Cond.instanceMethod yX8_watched ∈ wU := mw (i := 1113) (by decide +kernel) (by decide +kernel)
theorem se_X8_watched : Cond.selects RX8 yX8_watched yX8_watched ∈ wU := mw (i := 1114) (by decide +kernel) (by decide +kernel)
theorem mi_X8_open : MI yX8_open cX8_open 4 (some .int) 2 := ⟨mw (i := 1119) (by decide +kernel) (by decide +kernel), ini_X8, by decide +kernel, by decide +kernel, by decide⟩
theorem mv_X8_open : Cond.instanceMethod yX8_open ∈ wU := mw (i := 1117) (by decide +kernel) (by decide +kernel)
theorem se_X8_open : Cond.selects RX8 yX8_open yX8_open ∈ wU := mw (i := 1118) (by decide +kernel) (by decide +kernel)
theorem mi_X8_over : MI yX8_over cX8_over 6 (some .int) 1 := ⟨mw (i := 1123) (by decide +kernel) (by decide +kernel), ini_X8, by decide +kernel, by decide +kernel, by decide⟩
theorem mv_X8_over : Cond.instanceMethod yX8_over ∈ wU := mw (i := 1121) (by decide +kernel) (by decide +kernel)
theorem se_X8_over : Cond.selects RX8 yX8_over yX8_over ∈ wU := mw (i := 1122) (by decide +kernel) (by decide +kernel)
theorem mi_X8_ring : MI yX8_ring cX8_ring 2 (some .int) 1 := ⟨mw (i := 1127) (by decide +kernel) (by decide +kernel), ini_X8, by decide +kernel, by decide +kernel, by decide⟩
theorem mv_X8_ring : Cond.instanceMethod yX8_ring ∈ wU := mw (i := 1125) (by decide +kernel) (by decide +kernel)
theorem se_X8_ring : Cond.selects RX8 yX8_ring yX8_ring ∈ wU := mw (i := 1126) (by decide +kernel) (by decide +kernel)
theorem mi_X8_check : MI yX8_check cX8_check 7 (some .int) 4 := ⟨mw (i := 1131) (by decide +kernel) (by decide +kernel), ini_X8, by decide +kernel, by decide +kernel, by decide⟩
theorem mv_X8_check : Cond.instanceMethod yX8_check ∈ wU := mw (i := 1129) (by decide +kernel) (by decide +kernel)
theorem se_X8_check : Cond.selects RX8 yX8_check yX8_check ∈ wU := mw (i := 1130) (by decide +kernel) (by decide +kernel)
theorem mi_X8_image : MI yX8_image cX8_image 3 (some .int) 2 := ⟨mw (i := 1135) (by decide +kernel) (by decide +kernel), ini_X8, by decide +kernel, by decide +kernel, by decide⟩
theorem mv_X8_image : Cond.instanceMethod yX8_image ∈ wU := mw (i := 1133) (by decide +kernel) (by decide +kernel)
theorem se_X8_image : Cond.selects RX8 yX8_image yX8_image ∈ wU := mw (i := 1134) (by decide +kernel) (by decide +kernel)
theorem mi_X8_take : MI yX8_take cX8_take 9 (some .int) 8 := ⟨mw (i := 1139) (by decide +kernel) (by decide +kernel), ini_X8, by decide +kernel, by decide +kernel, by decide⟩
theorem mv_X8_take : Cond.instanceMethod yX8_take ∈ wU := mw (i := 1137) (by decide +kernel) (by decide +kernel)
theorem se_X8_take : Cond.selects RX8 yX8_take yX8_take ∈ wU := mw (i := 1138) (by decide +kernel) (by decide +kernel)
theorem mi_X8_count : MI yX8_count cX8_count 2 (some .int) 1 := ⟨mw (i := 1157) (by decide +kernel) (by decide +kernel), ini_X8, by decide +kernel, by decide +kernel, by decide⟩
theorem mv_X8_count : Cond.instanceMethod yX8_count ∈ wU := mw (i := 1155) (by decide +kernel) (by decide +kernel)
theorem se_X8_count : Cond.selects RX8 yX8_count yX8_count ∈ wU := mw (i := 1156) (by decide +kernel) (by decide +kernel)
theorem mi_J6_numberOfTrailingZeros_0f7a4 : MI yJ6_numberOfTrailingZeros_0f7a4 cJ6_numberOfTrailingZeros_0f7a4 2 (some .int) 1 := ⟨mw (i := 464) (by decide +kernel) (by decide +kernel), ini_J6, by decide +kernel, by decide +kernel, by decide⟩
theorem ms_J6_numberOfTrailingZeros_0f7a4 : Cond.static yJ6_numberOfTrailingZeros_0f7a4 ∈ wU := mw (i := 463) (by decide +kernel) (by decide +kernel)
theorem mi_J6_bitCount_0f7a4 : MI yJ6_bitCount_0f7a4 cJ6_bitCount_0f7a4 1 (some .int) 1 := ⟨mw (i := 637) (by decide +kernel) (by decide +kernel), ini_J6, by decide +kernel, by decide +kernel, by decide⟩
theorem ms_J6_bitCount_0f7a4 : Cond.static yJ6_bitCount_0f7a4 ∈ wU := mw (i := 636) (by decide +kernel) (by decide +kernel)
theorem mi_J7_fill_53178 : MI yJ7_fill_53178 cJ7_fill_53178 4 none 2 := ⟨mw (i := 380) (by decide +kernel) (by decide +kernel), ini_J7, by decide +kernel, by decide +kernel, by decide⟩
theorem ms_J7_fill_53178 : Cond.static yJ7_fill_53178 ∈ wU := mw (i := 379) (by decide +kernel) (by decide +kernel)
theorem li_L_9 : Cond.methodLink RL 9 yX7_init ∈ wU := mw (i := 59) (by decide +kernel) (by decide +kernel)
theorem li_X7_30 : Cond.methodLink RX7 30 yX4_init ∈ wU := mw (i := 69) (by decide +kernel) (by decide +kernel)
theorem li_X4_21 : Cond.methodLink RX4 21 yX1_init ∈ wU := mw (i := 76) (by decide +kernel) (by decide +kernel)
theorem ln_X1_31 : Cond.methodLinkNest RX1 31 yX2_init "TermReckoner" ∈ nwl := mn (i := 83) (by decide +kernel) (by decide +kernel)
theorem ln_X7_40 : Cond.methodLinkNest RX7 40 yX3_init "TermReckoner" ∈ nwl := mn (i := 165) (by decide +kernel) (by decide +kernel)
theorem ln_X3_29 : Cond.methodLinkNest RX3 29 yX6_init "TermReckoner" ∈ nwl := mn (i := 171) (by decide +kernel) (by decide +kernel)
theorem ln_X7_47 : Cond.methodLinkNest RX7 47 yX5_init "TermReckoner" ∈ nwl := mn (i := 218) (by decide +kernel) (by decide +kernel)
theorem li_L_13 : Cond.methodLink RL 13 yX7_person ∈ wU := mw (i := 263) (by decide +kernel) (by decide +kernel)
theorem li_L_18 : Cond.methodLink RL 18 yX7_today ∈ wU := mw (i := 267) (by decide +kernel) (by decide +kernel)
theorem li_X7_52 : Cond.methodLink RX7 52 yX7_isDay ∈ wU := mw (i := 271) (by decide +kernel) (by decide +kernel)
theorem li_L_23 : Cond.methodLink RL 23 yX7_as ∈ wU := mw (i := 274) (by decide +kernel) (by decide +kernel)
theorem li_L_28 : Cond.methodLink RL 28 yX7_letter ∈ wU := mw (i := 278) (by decide +kernel) (by decide +kernel)
theorem li_X7_56 : Cond.methodLink RX7 56 yX7_putStatus ∈ wU := mw (i := 282) (by decide +kernel) (by decide +kernel)
theorem li_X7_93 : Cond.methodLink RX7 93 yX7_placeOf ∈ wU := mw (i := 286) (by decide +kernel) (by decide +kernel)
theorem li_X7_112 : Cond.methodLink RX7 112 yX7_fileOf ∈ wU := mw (i := 290) (by decide +kernel) (by decide +kernel)
theorem li_X7_106 : Cond.methodLink RX7 106 yX7_isPerson ∈ wU := mw (i := 294) (by decide +kernel) (by decide +kernel)
theorem li_X7_79 : Cond.methodLink RX7 79 yX4_fileOf ∈ wU := mw (i := 298) (by decide +kernel) (by decide +kernel)
theorem li_X7_131 : Cond.methodLink RX7 131 yX1_at ∈ wU := mw (i := 302) (by decide +kernel) (by decide +kernel)
theorem ln_X1_45 : Cond.methodLinkNest RX1 45 yX7_isPlace "TermReckoner" ∈ nwl := mn (i := 306) (by decide +kernel) (by decide +kernel)
theorem li_X7_60 : Cond.methodLink RX7 60 yX0_init ∈ wU := mw (i := 310) (by decide +kernel) (by decide +kernel)
theorem li_X7_63 : Cond.methodLink RX7 63 yX7_tell ∈ wU := mw (i := 356) (by decide +kernel) (by decide +kernel)
theorem li_X7_269 : Cond.methodLink RX7 269 yX4_learnUpTo ∈ wU := mw (i := 360) (by decide +kernel) (by decide +kernel)
theorem li_X4_22 : Cond.methodLink RX4 22 yX4_wipe ∈ wU := mw (i := 364) (by decide +kernel) (by decide +kernel)
theorem li_X4_29 : Cond.methodLink RX4 29 yX4_fileOf ∈ wU := mw (i := 368) (by decide +kernel) (by decide +kernel)
theorem li_X4_33 : Cond.methodLink RX4 33 yX1_wipe ∈ wU := mw (i := 369) (by decide +kernel) (by decide +kernel)
theorem li_X1_32 : Cond.methodLink RX1 32 yX1_at ∈ wU := mw (i := 373) (by decide +kernel) (by decide +kernel)
theorem li_X1_36 : Cond.methodLink RX1 36 yX2_wipe ∈ wU := mw (i := 374) (by decide +kernel) (by decide +kernel)
theorem li_X1_39 : Cond.methodLink RX1 39 yJ7_fill_53178 ∈ wU := mw (i := 378) (by decide +kernel) (by decide +kernel)
theorem li_X4_25 : Cond.methodLink RX4 25 yX4_learn ∈ wU := mw (i := 381) (by decide +kernel) (by decide +kernel)
theorem li_X4_51 : Cond.methodLink RX4 51 yX1_setRow ∈ wU := mw (i := 385) (by decide +kernel) (by decide +kernel)
theorem ln_X1_49 : Cond.methodLinkNest RX1 49 yX7_isMonth "TermReckoner" ∈ nwl := mn (i := 389) (by decide +kernel) (by decide +kernel)
theorem ln_X1_80 : Cond.methodLinkNest RX1 80 yX7_bitsUpTo "TermReckoner" ∈ nwl := mn (i := 392) (by decide +kernel) (by decide +kernel)
theorem li_X4_55 : Cond.methodLink RX4 55 yX1_setDay ∈ wU := mw (i := 396) (by decide +kernel) (by decide +kernel)
theorem li_X4_59 : Cond.methodLink RX4 59 yX1_setTorn ∈ wU := mw (i := 400) (by decide +kernel) (by decide +kernel)
theorem li_X4_63 : Cond.methodLink RX4 63 yX1_copyRow ∈ wU := mw (i := 404) (by decide +kernel) (by decide +kernel)
theorem li_X4_70 : Cond.methodLink RX4 70 yX4_learnOfPlace ∈ wU := mw (i := 408) (by decide +kernel) (by decide +kernel)
theorem li_X4_74 : Cond.methodLink RX4 74 yX1_at ∈ wU := mw (i := 412) (by decide +kernel) (by decide +kernel)
theorem li_X4_83 : Cond.methodLink RX4 83 yX4_putTerm ∈ wU := mw (i := 413) (by decide +kernel) (by decide +kernel)
theorem li_X4_106 : Cond.methodLink RX4 106 yX4_markQuashed ∈ wU := mw (i := 416) (by decide +kernel) (by decide +kernel)
theorem li_L_33 : Cond.methodLink RL 33 yX7_term ∈ wU := mw (i := 419) (by decide +kernel) (by decide +kernel)
theorem li_X7_67 : Cond.methodLink RX7 67 yX7_isNeed ∈ wU := mw (i := 423) (by decide +kernel) (by decide +kernel)
theorem li_L_38 : Cond.methodLink RL 38 yX7_waits ∈ wU := mw (i := 426) (by decide +kernel) (by decide +kernel)
theorem li_X7_76 : Cond.methodLink RX7 76 yX7_isSet ∈ wU := mw (i := 430) (by decide +kernel) (by decide +kernel)
theorem li_X7_83 : Cond.methodLink RX7 83 yX5_closes ∈ wU := mw (i := 433) (by decide +kernel) (by decide +kernel)
theorem ln_X5_25 : Cond.methodLinkNest RX5 25 yX7_isPlace "TermReckoner" ∈ nwl := mn (i := 437) (by decide +kernel) (by decide +kernel)
theorem li_X5_29 : Cond.methodLink RX5 29 yX5_findNext ∈ wU := mw (i := 438) (by decide +kernel) (by decide +kernel)
theorem li_X5_48 : Cond.methodLink RX5 48 yX1_at ∈ wU := mw (i := 442) (by decide +kernel) (by decide +kernel)
theorem li_X5_54 : Cond.methodLink RX5 54 yX2_runs ∈ wU := mw (i := 443) (by decide +kernel) (by decide +kernel)
theorem li_X5_33 : Cond.methodLink RX5 33 yX5_lengthOfLeast ∈ wU := mw (i := 447) (by decide +kernel) (by decide +kernel)
theorem ln_X5_41 : Cond.methodLinkNest RX5 41 yX7_names "TermReckoner" ∈ nwl := mn (i := 451) (by decide +kernel) (by decide +kernel)
theorem li_X5_37 : Cond.methodLink RX5 37 yX5_findLeads ∈ wU := mw (i := 454) (by decide +kernel) (by decide +kernel)
theorem li_X5_45 : Cond.methodLink RX5 45 yX5_keep ∈ wU := mw (i := 458) (by decide +kernel) (by decide +kernel)
theorem li_X5_63 : Cond.methodLink RX5 63 yJ6_numberOfTrailingZeros_0f7a4 ∈ wU := mw (i := 462) (by decide +kernel) (by decide +kernel)
theorem li_L_43 : Cond.methodLink RL 43 yX7_stay ∈ wU := mw (i := 466) (by decide +kernel) (by decide +kernel)
theorem li_L_47 : Cond.methodLink RL 47 yX7_quash ∈ wU := mw (i := 470) (by decide +kernel) (by decide +kernel)
theorem li_X7_102 : Cond.methodLink RX7 102 yX2_isQuashed ∈ wU := mw (i := 474) (by decide +kernel) (by decide +kernel)
theorem li_L_52 : Cond.methodLink RL 52 yX7_month ∈ wU := mw (i := 478) (by decide +kernel) (by decide +kernel)
theorem li_X7_109 : Cond.methodLink RX7 109 yX7_isMonth ∈ wU := mw (i := 482) (by decide +kernel) (by decide +kernel)
theorem li_L_57 : Cond.methodLink RL 57 yX7_held ∈ wU := mw (i := 483) (by decide +kernel) (by decide +kernel)
theorem li_X7_115 : Cond.methodLink RX7 115 yX1_isRow ∈ wU := mw (i := 487) (by decide +kernel) (by decide +kernel)
theorem li_X7_120 : Cond.methodLink RX7 120 yX1_fitsRow ∈ wU := mw (i := 491) (by decide +kernel) (by decide +kernel)
theorem li_X7_124 : Cond.methodLink RX7 124 yX1_rowLength ∈ wU := mw (i := 495) (by decide +kernel) (by decide +kernel)
theorem li_L_61 : Cond.methodLink RL 61 yX7_tear ∈ wU := mw (i := 499) (by decide +kernel) (by decide +kernel)
theorem li_L_65 : Cond.methodLink RL 65 yX7_copy ∈ wU := mw (i := 503) (by decide +kernel) (by decide +kernel)
theorem li_L_69 : Cond.methodLink RL 69 yX7_off ∈ wU := mw (i := 507) (by decide +kernel) (by decide +kernel)
theorem li_X7_128 : Cond.methodLink RX7 128 yX2_mayHaveRule ∈ wU := mw (i := 511) (by decide +kernel) (by decide +kernel)
theorem li_X2_46 : Cond.methodLink RX2 46 yX2_stands ∈ wU := mw (i := 515) (by decide +kernel) (by decide +kernel)
theorem li_X2_39 : Cond.methodLink RX2 39 yX2_runs ∈ wU := mw (i := 519) (by decide +kernel) (by decide +kernel)
theorem li_X2_43 : Cond.methodLink RX2 43 yX2_isQuashed ∈ wU := mw (i := 520) (by decide +kernel) (by decide +kernel)
theorem li_L_73 : Cond.methodLink RL 73 yX7_back ∈ wU := mw (i := 521) (by decide +kernel) (by decide +kernel)
theorem li_X7_135 : Cond.methodLink RX7 135 yX3_reckon ∈ wU := mw (i := 525) (by decide +kernel) (by decide +kernel)
theorem li_X3_43 : Cond.methodLink RX3 43 yX1_at ∈ wU := mw (i := 530) (by decide +kernel) (by decide +kernel)
theorem li_X3_49 : Cond.methodLink RX3 49 yX2_stands ∈ wU := mw (i := 531) (by decide +kernel) (by decide +kernel)
theorem ln_X3_55 : Cond.methodLinkNest RX3 55 yX7_names "TermReckoner" ∈ nwl := mn (i := 532) (by decide +kernel) (by decide +kernel)
theorem li_X3_62 : Cond.methodLink RX3 62 yX3_reckonPlace ∈ wU := mw (i := 533) (by decide +kernel) (by decide +kernel)
theorem li_X3_69 : Cond.methodLink RX3 69 yX3_beginBeside ∈ wU := mw (i := 537) (by decide +kernel) (by decide +kernel)
theorem li_X3_73 : Cond.methodLink RX3 73 yX3_beginBehind ∈ wU := mw (i := 547) (by decide +kernel) (by decide +kernel)
theorem li_X3_76 : Cond.methodLink RX3 76 yX3_findSpans ∈ wU := mw (i := 551) (by decide +kernel) (by decide +kernel)
theorem li_X3_113 : Cond.methodLink RX3 113 yJ7_fill_53178 ∈ wU := mw (i := 554) (by decide +kernel) (by decide +kernel)
theorem li_X3_119 : Cond.methodLink RX3 119 yX2_isFor ∈ wU := mw (i := 555) (by decide +kernel) (by decide +kernel)
theorem ln_X2_49 : Cond.methodLinkNest RX2 49 yX7_names "TermReckoner" ∈ nwl := mn (i := 559) (by decide +kernel) (by decide +kernel)
theorem li_X3_122 : Cond.methodLink RX3 122 yX3_addSpan ∈ wU := mw (i := 560) (by decide +kernel) (by decide +kernel)
theorem ln_X3_91 : Cond.methodLinkNest RX3 91 yX7_bitsFrom "TermReckoner" ∈ nwl := mn (i := 563) (by decide +kernel) (by decide +kernel)
theorem ln_X3_99 : Cond.methodLinkNest RX3 99 yX7_bitsUpTo "TermReckoner" ∈ nwl := mn (i := 566) (by decide +kernel) (by decide +kernel)
theorem li_X3_80 : Cond.methodLink RX3 80 yX6_start ∈ wU := mw (i := 567) (by decide +kernel) (by decide +kernel)
theorem li_X6_33 : Cond.methodLink RX6 33 yX2_mostTaken ∈ wU := mw (i := 571) (by decide +kernel) (by decide +kernel)
theorem ln_X2_53 : Cond.methodLinkNest RX2 53 yX7_part "TermReckoner" ∈ nwl := mn (i := 575) (by decide +kernel) (by decide +kernel)
theorem li_X3_87 : Cond.methodLink RX3 87 yX1_heldDays ∈ wU := mw (i := 578) (by decide +kernel) (by decide +kernel)
theorem li_X1_55 : Cond.methodLink RX1 55 yX1_isOpen ∈ wU := mw (i := 582) (by decide +kernel) (by decide +kernel)
theorem li_X1_52 : Cond.methodLink RX1 52 yX1_isRow ∈ wU := mw (i := 586) (by decide +kernel) (by decide +kernel)
theorem li_X3_95 : Cond.methodLink RX3 95 yX6_addMonth ∈ wU := mw (i := 588) (by decide +kernel) (by decide +kernel)
theorem li_X6_50 : Cond.methodLink RX6 50 yX6_breakRow ∈ wU := mw (i := 592) (by decide +kernel) (by decide +kernel)
theorem li_X6_54 : Cond.methodLink RX6 54 yX6_reachedWith ∈ wU := mw (i := 597) (by decide +kernel) (by decide +kernel)
theorem li_X6_43 : Cond.methodLink RX6 43 yX6_takenWith ∈ wU := mw (i := 601) (by decide +kernel) (by decide +kernel)
theorem li_X6_57 : Cond.methodLink RX6 57 yX6_addDays ∈ wU := mw (i := 607) (by decide +kernel) (by decide +kernel)
theorem li_X7_139 : Cond.methodLink RX7 139 yX3_takenUpTo ∈ wU := mw (i := 611) (by decide +kernel) (by decide +kernel)
theorem li_X3_135 : Cond.methodLink RX3 135 yX3_countingIn ∈ wU := mw (i := 615) (by decide +kernel) (by decide +kernel)
theorem ln_X3_38 : Cond.methodLinkNest RX3 38 yX7_isPlace "TermReckoner" ∈ nwl := mn (i := 619) (by decide +kernel) (by decide +kernel)
theorem ln_X3_129 : Cond.methodLinkNest RX3 129 yX7_isMonth "TermReckoner" ∈ nwl := mn (i := 620) (by decide +kernel) (by decide +kernel)
theorem li_X3_143 : Cond.methodLink RX3 143 yX6_takenWith ∈ wU := mw (i := 621) (by decide +kernel) (by decide +kernel)
theorem li_L_77 : Cond.methodLink RL 77 yX7_grant ∈ wU := mw (i := 622) (by decide +kernel) (by decide +kernel)
theorem li_X7_146 : Cond.methodLink RX7 146 yX3_watchedDay ∈ wU := mw (i := 626) (by decide +kernel) (by decide +kernel)
theorem ln_X3_146 : Cond.methodLinkNest RX3 146 yX7_part "TermReckoner" ∈ nwl := mn (i := 630) (by decide +kernel) (by decide +kernel)
theorem li_X3_149 : Cond.methodLink RX3 149 yX3_dayOfCount ∈ wU := mw (i := 631) (by decide +kernel) (by decide +kernel)
theorem li_X3_138 : Cond.methodLink RX3 138 yJ6_bitCount_0f7a4 ∈ wU := mw (i := 635) (by decide +kernel) (by decide +kernel)
theorem li_X3_152 : Cond.methodLink RX3 152 yX3_dayOfBit ∈ wU := mw (i := 641) (by decide +kernel) (by decide +kernel)
theorem li_L_81 : Cond.methodLink RL 81 yX7_recall ∈ wU := mw (i := 644) (by decide +kernel) (by decide +kernel)
theorem li_X7_150 : Cond.methodLink RX7 150 yX3_fullDay ∈ wU := mw (i := 648) (by decide +kernel) (by decide +kernel)
theorem li_X7_158 : Cond.methodLink RX7 158 yX7_part ∈ wU := mw (i := 653) (by decide +kernel) (by decide +kernel)
theorem li_L_85 : Cond.methodLink RL 85 yX7_kind ∈ wU := mw (i := 655) (by decide +kernel) (by decide +kernel)
theorem li_X7_169 : Cond.methodLink RX7 169 yX7_known ∈ wU := mw (i := 659) (by decide +kernel) (by decide +kernel)
theorem li_X7_209 : Cond.methodLink RX7 209 yX7_dayAsked ∈ wU := mw (i := 663) (by decide +kernel) (by decide +kernel)
theorem li_X7_273 : Cond.methodLink RX7 273 yX7_isBehind ∈ wU := mw (i := 667) (by decide +kernel) (by decide +kernel)
theorem li_L_89 : Cond.methodLink RL 89 yX7_begins ∈ wU := mw (i := 670) (by decide +kernel) (by decide +kernel)
theorem li_X7_173 : Cond.methodLink RX7 173 yX7_reckonOrder ∈ wU := mw (i := 674) (by decide +kernel) (by decide +kernel)
theorem li_X7_278 : Cond.methodLink RX7 278 yX2_stands ∈ wU := mw (i := 678) (by decide +kernel) (by decide +kernel)
theorem li_X7_177 : Cond.methodLink RX7 177 yX3_beginOf ∈ wU := mw (i := 679) (by decide +kernel) (by decide +kernel)
theorem li_X7_180 : Cond.methodLink RX7 180 yX7_dayOrNone ∈ wU := mw (i := 683) (by decide +kernel) (by decide +kernel)
theorem li_L_94 : Cond.methodLink RL 94 yX7_ends ∈ wU := mw (i := 686) (by decide +kernel) (by decide +kernel)
theorem li_X7_183 : Cond.methodLink RX7 183 yX3_endOf ∈ wU := mw (i := 690) (by decide +kernel) (by decide +kernel)
theorem li_L_98 : Cond.methodLink RL 98 yX7_counted ∈ wU := mw (i := 694) (by decide +kernel) (by decide +kernel)
theorem li_X7_186 : Cond.methodLink RX7 186 yX3_countedUpTo ∈ wU := mw (i := 698) (by decide +kernel) (by decide +kernel)
theorem li_L_103 : Cond.methodLink RL 103 yX7_taken ∈ wU := mw (i := 702) (by decide +kernel) (by decide +kernel)
theorem li_L_107 : Cond.methodLink RL 107 yX7_why ∈ wU := mw (i := 706) (by decide +kernel) (by decide +kernel)
theorem li_X7_189 : Cond.methodLink RX7 189 yX2_runs ∈ wU := mw (i := 710) (by decide +kernel) (by decide +kernel)
theorem li_X7_192 : Cond.methodLink RX7 192 yX1_leastOf ∈ wU := mw (i := 711) (by decide +kernel) (by decide +kernel)
theorem li_X1_70 : Cond.methodLink RX1 70 yX2_isFor ∈ wU := mw (i := 715) (by decide +kernel) (by decide +kernel)
theorem li_X7_196 : Cond.methodLink RX7 196 yX1_isHeld ∈ wU := mw (i := 716) (by decide +kernel) (by decide +kernel)
theorem ln_X1_59 : Cond.methodLinkNest RX1 59 yX7_isDay "TermReckoner" ∈ nwl := mn (i := 720) (by decide +kernel) (by decide +kernel)
theorem li_X1_62 : Cond.methodLink RX1 62 yX1_heldDays ∈ wU := mw (i := 721) (by decide +kernel) (by decide +kernel)
theorem li_L_111 : Cond.methodLink RL 111 yX7_by ∈ wU := mw (i := 722) (by decide +kernel) (by decide +kernel)
theorem li_X7_200 : Cond.methodLink RX7 200 yX7_why ∈ wU := mw (i := 726) (by decide +kernel) (by decide +kernel)
theorem li_L_115 : Cond.methodLink RL 115 yX7_full ∈ wU := mw (i := 727) (by decide +kernel) (by decide +kernel)
theorem li_L_120 : Cond.methodLink RL 120 yX7_watched ∈ wU := mw (i := 731) (by decide +kernel) (by decide +kernel)
theorem li_L_124 : Cond.methodLink RL 124 yX7_open ∈ wU := mw (i := 735) (by decide +kernel) (by decide +kernel)
theorem li_X7_206 : Cond.methodLink RX7 206 yX1_isOpen ∈ wU := mw (i := 739) (by decide +kernel) (by decide +kernel)
theorem li_L_128 : Cond.methodLink RL 128 yX7_over ∈ wU := mw (i := 740) (by decide +kernel) (by decide +kernel)
theorem li_X7_212 : Cond.methodLink RX7 212 yX1_isToldHeld ∈ wU := mw (i := 744) (by decide +kernel) (by decide +kernel)
theorem li_X1_66 : Cond.methodLink RX1 66 yX1_isHeld ∈ wU := mw (i := 748) (by decide +kernel) (by decide +kernel)
theorem li_L_132 : Cond.methodLink RL 132 yX7_ring ∈ wU := mw (i := 749) (by decide +kernel) (by decide +kernel)
theorem li_X7_215 : Cond.methodLink RX7 215 yX5_placeAt ∈ wU := mw (i := 753) (by decide +kernel) (by decide +kernel)
theorem li_L_136 : Cond.methodLink RL 136 yX7_check ∈ wU := mw (i := 757) (by decide +kernel) (by decide +kernel)
theorem li_X7_218 : Cond.methodLink RX7 218 yX3_doesCount ∈ wU := mw (i := 761) (by decide +kernel) (by decide +kernel)
theorem ln_X3_132 : Cond.methodLinkNest RX3 132 yX7_isDay "TermReckoner" ∈ nwl := mn (i := 765) (by decide +kernel) (by decide +kernel)
theorem li_L_140 : Cond.methodLink RL 140 yX7_image ∈ wU := mw (i := 766) (by decide +kernel) (by decide +kernel)
theorem li_X7_221 : Cond.methodLink RX7 221 yX0_number ∈ wU := mw (i := 770) (by decide +kernel) (by decide +kernel)
theorem li_L_144 : Cond.methodLink RL 144 yX7_take ∈ wU := mw (i := 774) (by decide +kernel) (by decide +kernel)
theorem li_X7_224 : Cond.methodLink RX7 224 yX7_today ∈ wU := mw (i := 778) (by decide +kernel) (by decide +kernel)
theorem li_X7_226 : Cond.methodLink RX7 226 yX7_letter ∈ wU := mw (i := 779) (by decide +kernel) (by decide +kernel)
theorem li_X7_229 : Cond.methodLink RX7 229 yX7_term ∈ wU := mw (i := 780) (by decide +kernel) (by decide +kernel)
theorem li_X7_233 : Cond.methodLink RX7 233 yX7_waits ∈ wU := mw (i := 781) (by decide +kernel) (by decide +kernel)
theorem li_X7_237 : Cond.methodLink RX7 237 yX7_stay ∈ wU := mw (i := 782) (by decide +kernel) (by decide +kernel)
theorem li_X7_240 : Cond.methodLink RX7 240 yX7_quash ∈ wU := mw (i := 783) (by decide +kernel) (by decide +kernel)
theorem li_X7_243 : Cond.methodLink RX7 243 yX7_month ∈ wU := mw (i := 784) (by decide +kernel) (by decide +kernel)
theorem li_X7_247 : Cond.methodLink RX7 247 yX7_held ∈ wU := mw (i := 785) (by decide +kernel) (by decide +kernel)
theorem li_X7_250 : Cond.methodLink RX7 250 yX7_tear ∈ wU := mw (i := 786) (by decide +kernel) (by decide +kernel)
theorem li_X7_253 : Cond.methodLink RX7 253 yX7_copy ∈ wU := mw (i := 787) (by decide +kernel) (by decide +kernel)
theorem li_X7_256 : Cond.methodLink RX7 256 yX7_off ∈ wU := mw (i := 788) (by decide +kernel) (by decide +kernel)
theorem li_X7_259 : Cond.methodLink RX7 259 yX7_back ∈ wU := mw (i := 789) (by decide +kernel) (by decide +kernel)
theorem li_X7_262 : Cond.methodLink RX7 262 yX7_grant ∈ wU := mw (i := 790) (by decide +kernel) (by decide +kernel)
theorem li_X7_265 : Cond.methodLink RX7 265 yX7_recall ∈ wU := mw (i := 791) (by decide +kernel) (by decide +kernel)
theorem li_L_149 : Cond.methodLink RL 149 yX7_count ∈ wU := mw (i := 792) (by decide +kernel) (by decide +kernel)
theorem li_L_12 : Cond.methodLink RL 12 yX8_init ∈ wU := mw (i := 798) (by decide +kernel) (by decide +kernel)
theorem li_L_17 : Cond.methodLink RL 17 yX8_person ∈ wU := mw (i := 904) (by decide +kernel) (by decide +kernel)
theorem li_L_22 : Cond.methodLink RL 22 yX8_today ∈ wU := mw (i := 908) (by decide +kernel) (by decide +kernel)
theorem li_L_27 : Cond.methodLink RL 27 yX8_as ∈ wU := mw (i := 912) (by decide +kernel) (by decide +kernel)
theorem li_L_32 : Cond.methodLink RL 32 yX8_letter ∈ wU := mw (i := 916) (by decide +kernel) (by decide +kernel)
theorem li_X8_156 : Cond.methodLink RX8 156 yX8_room ∈ wU := mw (i := 920) (by decide +kernel) (by decide +kernel)
theorem li_X8_150 : Cond.methodLink RX8 150 yX8_isPerson ∈ wU := mw (i := 924) (by decide +kernel) (by decide +kernel)
theorem li_X8_153 : Cond.methodLink RX8 153 yX8_isPlace ∈ wU := mw (i := 928) (by decide +kernel) (by decide +kernel)
theorem li_X8_140 : Cond.methodLink RX8 140 yX8_tellAgain ∈ wU := mw (i := 931) (by decide +kernel) (by decide +kernel)
theorem li_X8_103 : Cond.methodLink RX8 103 yX8_begin ∈ wU := mw (i := 935) (by decide +kernel) (by decide +kernel)
theorem li_X8_109 : Cond.methodLink RX8 109 yX8_again ∈ wU := mw (i := 939) (by decide +kernel) (by decide +kernel)
theorem li_X8_113 : Cond.methodLink RX8 113 yX8_months ∈ wU := mw (i := 943) (by decide +kernel) (by decide +kernel)
theorem li_X8_159 : Cond.methodLink RX8 159 yX8_comes ∈ wU := mw (i := 947) (by decide +kernel) (by decide +kernel)
theorem li_L_37 : Cond.methodLink RL 37 yX8_term ∈ wU := mw (i := 951) (by decide +kernel) (by decide +kernel)
theorem li_X8_166 : Cond.methodLink RX8 166 yX8_isTerm ∈ wU := mw (i := 955) (by decide +kernel) (by decide +kernel)
theorem li_X8_163 : Cond.methodLink RX8 163 yX8_isDay ∈ wU := mw (i := 958) (by decide +kernel) (by decide +kernel)
theorem li_L_42 : Cond.methodLink RL 42 yX8_waits ∈ wU := mw (i := 961) (by decide +kernel) (by decide +kernel)
theorem li_X8_180 : Cond.methodLink RX8 180 yX8_isRing ∈ wU := mw (i := 965) (by decide +kernel) (by decide +kernel)
theorem li_X8_173 : Cond.methodLink RX8 173 yX8_names ∈ wU := mw (i := 969) (by decide +kernel) (by decide +kernel)
theorem li_X8_117 : Cond.methodLink RX8 117 yX8_runs ∈ wU := mw (i := 973) (by decide +kernel) (by decide +kernel)
theorem li_X8_176 : Cond.methodLink RX8 176 yX8_isBetter ∈ wU := mw (i := 977) (by decide +kernel) (by decide +kernel)
theorem li_L_46 : Cond.methodLink RL 46 yX8_stay ∈ wU := mw (i := 981) (by decide +kernel) (by decide +kernel)
theorem li_L_51 : Cond.methodLink RL 51 yX8_quash ∈ wU := mw (i := 985) (by decide +kernel) (by decide +kernel)
theorem li_L_56 : Cond.methodLink RL 56 yX8_month ∈ wU := mw (i := 989) (by decide +kernel) (by decide +kernel)
theorem li_X8_186 : Cond.methodLink RX8 186 yX8_isMonth ∈ wU := mw (i := 993) (by decide +kernel) (by decide +kernel)
theorem li_L_60 : Cond.methodLink RL 60 yX8_held ∈ wU := mw (i := 996) (by decide +kernel) (by decide +kernel)
theorem li_L_64 : Cond.methodLink RL 64 yX8_tear ∈ wU := mw (i := 1000) (by decide +kernel) (by decide +kernel)
theorem li_L_68 : Cond.methodLink RL 68 yX8_copy ∈ wU := mw (i := 1004) (by decide +kernel) (by decide +kernel)
theorem li_L_72 : Cond.methodLink RL 72 yX8_off ∈ wU := mw (i := 1008) (by decide +kernel) (by decide +kernel)
theorem li_X8_189 : Cond.methodLink RX8 189 yX8_isRuled ∈ wU := mw (i := 1012) (by decide +kernel) (by decide +kernel)
theorem li_X8_121 : Cond.methodLink RX8 121 yX8_isLive ∈ wU := mw (i := 1016) (by decide +kernel) (by decide +kernel)
theorem li_L_76 : Cond.methodLink RL 76 yX8_back ∈ wU := mw (i := 1020) (by decide +kernel) (by decide +kernel)
theorem li_X8_192 : Cond.methodLink RX8 192 yX8_reckon ∈ wU := mw (i := 1024) (by decide +kernel) (by decide +kernel)
theorem li_X8_143 : Cond.methodLink RX8 143 yX8_isReady ∈ wU := mw (i := 1028) (by decide +kernel) (by decide +kernel)
theorem li_X8_146 : Cond.methodLink RX8 146 yX8_goThrough ∈ wU := mw (i := 1032) (by decide +kernel) (by decide +kernel)
theorem li_X8_124 : Cond.methodLink RX8 124 yX8_beginning ∈ wU := mw (i := 1036) (by decide +kernel) (by decide +kernel)
theorem li_X8_128 : Cond.methodLink RX8 128 yX8_thousandths ∈ wU := mw (i := 1040) (by decide +kernel) (by decide +kernel)
theorem li_X8_132 : Cond.methodLink RX8 132 yX8_has ∈ wU := mw (i := 1043) (by decide +kernel) (by decide +kernel)
theorem li_X8_136 : Cond.methodLink RX8 136 yX8_isHeld ∈ wU := mw (i := 1047) (by decide +kernel) (by decide +kernel)
theorem li_L_80 : Cond.methodLink RL 80 yX8_grant ∈ wU := mw (i := 1051) (by decide +kernel) (by decide +kernel)
theorem li_X8_195 : Cond.methodLink RX8 195 yX8_watchedNow ∈ wU := mw (i := 1055) (by decide +kernel) (by decide +kernel)
theorem li_L_84 : Cond.methodLink RL 84 yX8_recall ∈ wU := mw (i := 1059) (by decide +kernel) (by decide +kernel)
theorem li_X8_198 : Cond.methodLink RX8 198 yX8_fullNow ∈ wU := mw (i := 1063) (by decide +kernel) (by decide +kernel)
theorem li_L_88 : Cond.methodLink RL 88 yX8_kind ∈ wU := mw (i := 1067) (by decide +kernel) (by decide +kernel)
theorem li_X8_205 : Cond.methodLink RX8 205 yX8_isThere ∈ wU := mw (i := 1071) (by decide +kernel) (by decide +kernel)
theorem li_X8_202 : Cond.methodLink RX8 202 yX8_known ∈ wU := mw (i := 1075) (by decide +kernel) (by decide +kernel)
theorem li_L_93 : Cond.methodLink RL 93 yX8_begins ∈ wU := mw (i := 1079) (by decide +kernel) (by decide +kernel)
theorem li_X8_208 : Cond.methodLink RX8 208 yX8_isOrder ∈ wU := mw (i := 1083) (by decide +kernel) (by decide +kernel)
theorem li_L_97 : Cond.methodLink RL 97 yX8_ends ∈ wU := mw (i := 1087) (by decide +kernel) (by decide +kernel)
theorem li_L_102 : Cond.methodLink RL 102 yX8_counted ∈ wU := mw (i := 1091) (by decide +kernel) (by decide +kernel)
theorem li_L_106 : Cond.methodLink RL 106 yX8_taken ∈ wU := mw (i := 1095) (by decide +kernel) (by decide +kernel)
theorem li_L_110 : Cond.methodLink RL 110 yX8_why ∈ wU := mw (i := 1099) (by decide +kernel) (by decide +kernel)
theorem li_L_114 : Cond.methodLink RL 114 yX8_by ∈ wU := mw (i := 1103) (by decide +kernel) (by decide +kernel)
theorem li_X8_211 : Cond.methodLink RX8 211 yX8_why ∈ wU := mw (i := 1107) (by decide +kernel) (by decide +kernel)
theorem li_L_119 : Cond.methodLink RL 119 yX8_full ∈ wU := mw (i := 1108) (by decide +kernel) (by decide +kernel)
theorem li_L_123 : Cond.methodLink RL 123 yX8_watched ∈ wU := mw (i := 1112) (by decide +kernel) (by decide +kernel)
theorem li_L_127 : Cond.methodLink RL 127 yX8_open ∈ wU := mw (i := 1116) (by decide +kernel) (by decide +kernel)
theorem li_L_131 : Cond.methodLink RL 131 yX8_over ∈ wU := mw (i := 1120) (by decide +kernel) (by decide +kernel)
theorem li_L_135 : Cond.methodLink RL 135 yX8_ring ∈ wU := mw (i := 1124) (by decide +kernel) (by decide +kernel)
theorem li_L_139 : Cond.methodLink RL 139 yX8_check ∈ wU := mw (i := 1128) (by decide +kernel) (by decide +kernel)
theorem li_L_143 : Cond.methodLink RL 143 yX8_image ∈ wU := mw (i := 1132) (by decide +kernel) (by decide +kernel)
theorem li_L_148 : Cond.methodLink RL 148 yX8_take ∈ wU := mw (i := 1136) (by decide +kernel) (by decide +kernel)
theorem li_X8_214 : Cond.methodLink RX8 214 yX8_today ∈ wU := mw (i := 1140) (by decide +kernel) (by decide +kernel)
theorem li_X8_216 : Cond.methodLink RX8 216 yX8_letter ∈ wU := mw (i := 1141) (by decide +kernel) (by decide +kernel)
theorem li_X8_219 : Cond.methodLink RX8 219 yX8_term ∈ wU := mw (i := 1142) (by decide +kernel) (by decide +kernel)
theorem li_X8_223 : Cond.methodLink RX8 223 yX8_waits ∈ wU := mw (i := 1143) (by decide +kernel) (by decide +kernel)
theorem li_X8_227 : Cond.methodLink RX8 227 yX8_stay ∈ wU := mw (i := 1144) (by decide +kernel) (by decide +kernel)
theorem li_X8_230 : Cond.methodLink RX8 230 yX8_quash ∈ wU := mw (i := 1145) (by decide +kernel) (by decide +kernel)
theorem li_X8_233 : Cond.methodLink RX8 233 yX8_month ∈ wU := mw (i := 1146) (by decide +kernel) (by decide +kernel)
theorem li_X8_236 : Cond.methodLink RX8 236 yX8_held ∈ wU := mw (i := 1147) (by decide +kernel) (by decide +kernel)
theorem li_X8_239 : Cond.methodLink RX8 239 yX8_tear ∈ wU := mw (i := 1148) (by decide +kernel) (by decide +kernel)
theorem li_X8_242 : Cond.methodLink RX8 242 yX8_copy ∈ wU := mw (i := 1149) (by decide +kernel) (by decide +kernel)
theorem li_X8_245 : Cond.methodLink RX8 245 yX8_off ∈ wU := mw (i := 1150) (by decide +kernel) (by decide +kernel)
theorem li_X8_248 : Cond.methodLink RX8 248 yX8_back ∈ wU := mw (i := 1151) (by decide +kernel) (by decide +kernel)
theorem li_X8_251 : Cond.methodLink RX8 251 yX8_grant ∈ wU := mw (i := 1152) (by decide +kernel) (by decide +kernel)
theorem li_X8_253 : Cond.methodLink RX8 253 yX8_recall ∈ wU := mw (i := 1153) (by decide +kernel) (by decide +kernel)
theorem li_L_152 : Cond.methodLink RL 152 yX8_count ∈ wU := mw (i := 1154) (by decide +kernel) (by decide +kernel)
end
section
/-! numbers, roles -/
theorem bm32 {x : Int} (h1 : -2147483648 ≤ x) (h2 : x < 2147483648) : x.bmod (2 ^ 32) = x := by
  rw [Int.bmod_def]
  split <;> omega
theorem i_lo (x : Int32) : -2147483648 ≤ x.toInt := by
  have := Int32.le_toInt x
  omega
theorem i_hi (x : Int32) : x.toInt < 2147483648 := by
  have := Int32.toInt_lt x
  omega
theorem i_add {x y : Int32} (h1 : -2147483648 ≤ x.toInt + y.toInt) (h2 : x.toInt + y.toInt < 2147483648) : (x + y).toInt = x.toInt + y.toInt := by
  rw [Int32.toInt_add, bm32 h1 h2]
theorem i_sub {x y : Int32} (h1 : -2147483648 ≤ x.toInt - y.toInt) (h2 : x.toInt - y.toInt < 2147483648) : (x - y).toInt = x.toInt - y.toInt := by
  rw [Int32.toInt_sub, bm32 h1 h2]
theorem i_mul {x y : Int32} (h1 : -2147483648 ≤ x.toInt * y.toInt) (h2 : x.toInt * y.toInt < 2147483648) : (x * y).toInt = x.toInt * y.toInt := by
  rw [Int32.toInt_mul, bm32 h1 h2]
theorem i_div {x y : Int32} (h1 : 0 ≤ x.toInt) (h2 : 0 < y.toInt) : (x / y).toInt = x.toInt / y.toInt := by
  have hb := i_hi x
  have h3 : 0 ≤ x.toInt / y.toInt := Int.ediv_nonneg h1 (Int.le_of_lt h2)
  have h4 : x.toInt / y.toInt ≤ x.toInt := Int.ediv_le_self _ h1
  rw [Int32.toInt_div, Int.tdiv_eq_ediv_of_nonneg h1, bm32 (by omega) (by omega)]
theorem i_neg {x : Int32} (h : x.toInt ≠ -2147483648) : (-x).toInt = -x.toInt := by
  have := i_lo x
  have := i_hi x
  rw [Int32.toInt_neg, bm32 (by omega) (by omega)]
theorem i_ext {x y : Int32} (h : x.toInt = y.toInt) : x = y := Int32.toInt_inj.mp h
theorem i_n {x : Int32} (h : 0 ≤ x.toInt) : x = nI x.toInt.toNat := by
  have := i_hi x
  apply i_ext
  rw [nI_toInt (by omega)]
  omega
def bI (p : Prop) [Decidable p] : Int32 := if p then 1 else 0
theorem bI_0 {p : Prop} [Decidable p] : bI p = 0 ↔ ¬ p := by unfold bI; split <;> simp_all
theorem bI_t {p : Prop} [Decidable p] (h : p) : bI p = 1 := by simp [bI, h]
theorem bI_f {p : Prop} [Decidable p] (h : ¬ p) : bI p = 0 := by simp [bI, h]
theorem bI_nar {p : Prop} [Decidable p] : narrow .boolean (.int (bI p)) = .int (bI p) := by unfold bI; split <;> rfl
theorem bI_zn {p : Prop} [Decidable p] : vp_nar .boolean (bI p) = bI p := by unfold bI; split <;> rfl
theorem po_int {Po : Option Value → St → Prop} {w : St} {a b : Int32} (h : Po (some (.int a)) w) (e : a = b) : Po (some (.int b)) w := e ▸ h
theorem a_if_eq_b {X : Cx} {cc : ByteArray} {own : String} {nL d k n pc : Nat} {ls : List (Option Value)} {st : List Value} {w : St} {p : Prop} [Decidable p] {off : Int} (tgt : Nat) (hX : Kx X cc own nL d) (hd : decode cc pc = .ok (.ifCond .eq off, 3)) (ht : (pc : Int) + off = (tgt : Int)) (kt : ¬ p → A X k n tgt ls st w) (kf : p → A X k n (pc + 3) ls st w) : A X k n pc ls (.int (bI p) :: st) w :=
  a_if_eq tgt hX hd ht (fun q => kt (bI_0.mp q)) (fun q => kf (Decidable.not_not.mp (fun z => q (bI_0.mpr z))))
theorem a_if_ne_b {X : Cx} {cc : ByteArray} {own : String} {nL d k n pc : Nat} {ls : List (Option Value)} {st : List Value} {w : St} {p : Prop} [Decidable p] {off : Int} (tgt : Nat) (hX : Kx X cc own nL d) (hd : decode cc pc = .ok (.ifCond .ne off, 3)) (ht : (pc : Int) + off = (tgt : Int)) (kt : p → A X k n tgt ls st w) (kf : ¬ p → A X k n (pc + 3) ls st w) : A X k n pc ls (.int (bI p) :: st) w :=
  a_if_ne tgt hX hd ht (fun q => kt (Decidable.not_not.mp (fun z => q (bI_0.mpr z)))) (fun q => kf (bI_0.mp q))
theorem K1_1 {r : Nat} (h : kd r = 1) : kd (r + 1) = 14 := (by decide +kernel : ∀ r, r < 248 → kd r = 1 → kd (r + 1) = 14) r (kd_lt h (by decide)) h
theorem K1_2 {r : Nat} (h : kd r = 1) : kd (r + 2) = 10 := (by decide +kernel : ∀ r, r < 248 → kd r = 1 → kd (r + 2) = 10) r (kd_lt h (by decide)) h
theorem K1_3 {r : Nat} (h : kd r = 1) : kd (r + 3) = 10 := (by decide +kernel : ∀ r, r < 248 → kd r = 1 → kd (r + 3) = 10) r (kd_lt h (by decide)) h
theorem K1_4 {r : Nat} (h : kd r = 1) : kd (r + 4) = 10 := (by decide +kernel : ∀ r, r < 248 → kd r = 1 → kd (r + 4) = 10) r (kd_lt h (by decide)) h
theorem K1_p {r j : Nat} (h : kd r = 1) (hj : j < 12) : kd (r + 1 + 4 + j) = 2 := (by decide +kernel : ∀ r, r < 248 → kd r = 1 → ∀ j, j < 12 → kd (r + 1 + 4 + j) = 2) r (kd_lt h (by decide)) h j hj
theorem K4_1 {r : Nat} (h : kd r = 4) : kd (r + 1) = 13 := (by decide +kernel : ∀ r, r < 248 → kd r = 4 → kd (r + 1) = 13) r (kd_lt h (by decide)) h
theorem K4_f {r j : Nat} (h : kd r = 4) (hj : j < 6) : kd (r + 1 + 1 + 17 * j) = 1 := (by decide +kernel : ∀ r, r < 248 → kd r = 4 → ∀ j, j < 6 → kd (r + 1 + 1 + 17 * j) = 1) r (kd_lt h (by decide)) h j hj
theorem L1_2 {r : Nat} (h : kd r = 1) : ln (r + 2) = 120 := (by decide +kernel : ∀ r, r < 248 → kd r = 1 → ln (r + 2) = 120) r (kd_lt h (by decide)) h
theorem L1_3 {r : Nat} (h : kd r = 1) : ln (r + 3) = 120 := (by decide +kernel : ∀ r, r < 248 → kd r = 1 → ln (r + 3) = 120) r (kd_lt h (by decide)) h
theorem L1_4 {r : Nat} (h : kd r = 1) : ln (r + 4) = 120 := (by decide +kernel : ∀ r, r < 248 → kd r = 1 → ln (r + 4) = 120) r (kd_lt h (by decide)) h
theorem le_nlt {x y : Int32} (h : ¬ x < y) : y ≤ x := Int32.not_lt.mp h
theorem lt_nle {x y : Int32} (h : ¬ x ≤ y) : y < x := Int32.not_le.mp h
abbrev nmP (s p : Int32) : Prop := (s >>> (p &&& 31)) &&& 1 ≠ 0
def bFrom (k : Int32) : Int32 := if k ≤ 0 then 1073741823 else if k < 30 then (1073741823 : Int32) &&& ((1073741823 : Int32) <<< (k &&& 31)) else 0
def bUpTo (k : Int32) : Int32 := if k < 0 then 0 else if k < 29 then ((1 : Int32) <<< ((k + 1) &&& 31)) - 1 else 1073741823
theorem ms_MAX : Cond.static Lib.Math.max.name ∈ wU := mw (i := 545) (by decide +kernel) (by decide +kernel)
theorem mc_MAX : Cond.code Lib.Math.max.name Lib.Math.max.code 2 (some .int) ∈ wU := mw (i := 546) (by decide +kernel) (by decide +kernel)
theorem ms_MIN : Cond.static Lib.Math.min.name ∈ wU := mw (i := 542) (by decide +kernel) (by decide +kernel)
theorem mc_MIN : Cond.code Lib.Math.min.name Lib.Math.min.code 2 (some .int) ∈ wU := mw (i := 543) (by decide +kernel) (by decide +kernel)
theorem li_X3_110 : Cond.methodLink RX3 110 Lib.Math.min.name ∈ wU := mw (i := 541) (by decide +kernel) (by decide +kernel)
theorem li_X3_105 : Cond.methodLink RX3 105 Lib.Math.max.name ∈ wU := mw (i := 544) (by decide +kernel) (by decide +kernel)
theorem li_X6_37 : Cond.methodLink RX6 37 Lib.Math.min.name ∈ wU := mw (i := 605) (by decide +kernel) (by decide +kernel)
theorem li_X6_47 : Cond.methodLink RX6 47 Lib.Math.max.name ∈ wU := mw (i := 606) (by decide +kernel) (by decide +kernel)
theorem li_X7_161 : Cond.methodLink RX7 161 Lib.Math.max.name ∈ wU := mw (i := 654) (by decide +kernel) (by decide +kernel)
theorem a_mmax {X : Cx} {cc : ByteArray} {own : String} {nL d k n pc idx : Nat} {ls : List (Option Value)} {st : List Value} {w : St} {x y : Int32} (hX : Kx X cc own nL d) (hd0 : 0 < d) (hls : ls.length = nL) (hsm : (st.map fun v => v.category).sum ≤ 8) (hd : decode cc pc = .ok (.invokestatic idx, 3)) (hl : Cond.methodLink own idx Lib.Math.max.name ∈ wU) (kk : A X k n (pc + 3) ls (.int (if x < y then y else x) :: st) w) : A X k n pc ls (.int y :: .int x :: st) w := by
  intro H locs arr hW hS hL hk
  have h1 := hX.2.2.2.2.2.2.2.1
  have h2 := hX.2.2.2.2.2.2.2.2
  exact va_mmax hX.1 hX.2.1 (by rw [hX.2.2.1, ← hls]; exact hL.1.1.symm) hX.2.2.2.1 (hX.2.2.2.2.1 _ hl) (hX.2.2.2.2.1 _ ms_MAX) (hX.2.2.2.2.1 _ ini_J9) (hX.2.2.2.2.1 _ mc_MAX) (by omega) (by omega) hk.1 hk.2 hd (kk H locs arr hW hS hL hk)
theorem a_mmin {X : Cx} {cc : ByteArray} {own : String} {nL d k n pc idx : Nat} {ls : List (Option Value)} {st : List Value} {w : St} {x y : Int32} (hX : Kx X cc own nL d) (hd0 : 0 < d) (hls : ls.length = nL) (hsm : (st.map fun v => v.category).sum ≤ 8) (hd : decode cc pc = .ok (.invokestatic idx, 3)) (hl : Cond.methodLink own idx Lib.Math.min.name ∈ wU) (kk : A X k n (pc + 3) ls (.int (if y < x then y else x) :: st) w) : A X k n pc ls (.int y :: .int x :: st) w := by
  intro H locs arr hW hS hL hk
  have h1 := hX.2.2.2.2.2.2.2.1
  have h2 := hX.2.2.2.2.2.2.2.2
  exact va_mmin hX.1 hX.2.1 (by rw [hX.2.2.1, ← hls]; exact hL.1.1.symm) hX.2.2.2.1 (hX.2.2.2.2.1 _ hl) (hX.2.2.2.2.1 _ ms_MIN) (hX.2.2.2.2.1 _ ini_J9) (hX.2.2.2.2.1 _ mc_MIN) (by omega) (by omega) hk.1 hk.2 hd (kk H locs arr hW hS hL hk)
/-- one role's cells alone are other -/
def Fr (w w' : St) (S : Nat → Prop) : Prop := w'.2 = w.2 ∧ ∀ r, ¬ S r → w'.1 r = w.1 r
theorem Fr.rf {w : St} {S : Nat → Prop} : Fr w w S := ⟨rfl, fun _ _ => rfl⟩
theorem Fr.set {w w' : St} {S : Nat → Prop} {r j : Nat} {v : Int32} (h : Fr w w' S) (hs : S r) : Fr w (wset w' r j v) S := by
  refine ⟨h.1, fun q hq => ?_⟩
  rw [wset_ne w' r j v (fun e : q = r => hq (by rw [e]; exact hs))]
  exact h.2 q hq
theorem Fr.tr {w w' w'' : St} {S : Nat → Prop} (h : Fr w w' S) (h2 : Fr w' w'' S) : Fr w w'' S := ⟨h2.1.trans h.1, fun q hq => (h2.2 q hq).trans (h.2 q hq)⟩
theorem Fr.mono {w w' : St} {S S' : Nat → Prop} (h : Fr w w' S) (hs : ∀ q, S q → S' q) : Fr w w' S' := ⟨h.1, fun q hq => h.2 q (fun z => hq (hs q z))⟩
end
section
/-! static helpers of the class -/
abbrev T_X7_isDay : Tr := fun lay av w Po => ∃ (a : Int32), av = [.int a] ∧ Po (some (.int (bI (0 ≤ a ∧ a < 3600)))) w
set_option maxRecDepth 100000 in
set_option maxHeartbeats 4000000 in
theorem c_X7_isDay : Ct yX7_isDay cX7_isDay 1 (some .boolean) 0 0 0 T_X7_isDay := by
  refine Ct.mk (by decide +kernel) ?_
  intro X av w Po hX hR hT
  obtain ⟨a, rfl, h⟩ := hT
  refine ⟨rfl, ?_⟩
  show A X 0 0 0 [some (.int a)] [] w
  refine a_iload_n hX dX7_isDay_0 rfl ?_
  refine a_if_lt 15 hX dX7_isDay_1 (by decide) (fun c_1 => ?_) (fun c_1 => ?_)
  · refine a_iconst (0) hX dX7_isDay_15 (by decide) ?_
    refine a_iret hX hR dX7_isDay_16 ⟨Nat.le_refl _, Nat.le_refl _⟩ rfl ?_
    exact po_int h (by grind [bI])
  · refine a_iload_n hX dX7_isDay_4 rfl ?_
    refine a_sipush (3600) hX dX7_isDay_5 (by decide) ?_
    refine a_icmp_ge 15 hX dX7_isDay_8 (by decide) (fun c_8 => ?_) (fun c_8 => ?_)
    · refine a_iconst (0) hX dX7_isDay_15 (by decide) ?_
      refine a_iret hX hR dX7_isDay_16 ⟨Nat.le_refl _, Nat.le_refl _⟩ rfl ?_
      exact po_int h (by grind [bI])
    · refine a_iconst (1) hX dX7_isDay_11 (by decide) ?_
      refine a_goto 16 hX dX7_isDay_12 (by decide) ?_
      refine a_iret hX hR dX7_isDay_16 ⟨Nat.le_refl _, Nat.le_refl _⟩ rfl ?_
      exact po_int h (by grind [bI])
abbrev T_X7_isMonth : Tr := fun lay av w Po => ∃ (a : Int32), av = [.int a] ∧ Po (some (.int (bI (0 ≤ a ∧ a < 120)))) w
set_option maxRecDepth 100000 in
set_option maxHeartbeats 4000000 in
theorem c_X7_isMonth : Ct yX7_isMonth cX7_isMonth 1 (some .boolean) 0 0 0 T_X7_isMonth := by
  refine Ct.mk (by decide +kernel) ?_
  intro X av w Po hX hR hT
  obtain ⟨a, rfl, h⟩ := hT
  refine ⟨rfl, ?_⟩
  show A X 0 0 0 [some (.int a)] [] w
  refine a_iload_n hX dX7_isMonth_0 rfl ?_
  refine a_if_lt 14 hX dX7_isMonth_1 (by decide) (fun c_1 => ?_) (fun c_1 => ?_)
  · refine a_iconst (0) hX dX7_isMonth_14 (by decide) ?_
    refine a_iret hX hR dX7_isMonth_15 ⟨Nat.le_refl _, Nat.le_refl _⟩ rfl ?_
    exact po_int h (by grind [bI])
  · refine a_iload_n hX dX7_isMonth_4 rfl ?_
    refine a_bipush (120) hX dX7_isMonth_5 (by decide) ?_
    refine a_icmp_ge 14 hX dX7_isMonth_7 (by decide) (fun c_7 => ?_) (fun c_7 => ?_)
    · refine a_iconst (0) hX dX7_isMonth_14 (by decide) ?_
      refine a_iret hX hR dX7_isMonth_15 ⟨Nat.le_refl _, Nat.le_refl _⟩ rfl ?_
      exact po_int h (by grind [bI])
    · refine a_iconst (1) hX dX7_isMonth_10 (by decide) ?_
      refine a_goto 15 hX dX7_isMonth_11 (by decide) ?_
      refine a_iret hX hR dX7_isMonth_15 ⟨Nat.le_refl _, Nat.le_refl _⟩ rfl ?_
      exact po_int h (by grind [bI])
abbrev T_X7_isPlace : Tr := fun lay av w Po => ∃ (a : Int32), av = [.int a] ∧ Po (some (.int (bI (0 ≤ a ∧ a < 12)))) w
set_option maxRecDepth 100000 in
set_option maxHeartbeats 4000000 in
theorem c_X7_isPlace : Ct yX7_isPlace cX7_isPlace 1 (some .boolean) 0 0 0 T_X7_isPlace := by
  refine Ct.mk (by decide +kernel) ?_
  intro X av w Po hX hR hT
  obtain ⟨a, rfl, h⟩ := hT
  refine ⟨rfl, ?_⟩
  show A X 0 0 0 [some (.int a)] [] w
  refine a_iload_n hX dX7_isPlace_0 rfl ?_
  refine a_if_lt 14 hX dX7_isPlace_1 (by decide) (fun c_1 => ?_) (fun c_1 => ?_)
  · refine a_iconst (0) hX dX7_isPlace_14 (by decide) ?_
    refine a_iret hX hR dX7_isPlace_15 ⟨Nat.le_refl _, Nat.le_refl _⟩ rfl ?_
    exact po_int h (by grind [bI])
  · refine a_iload_n hX dX7_isPlace_4 rfl ?_
    refine a_bipush (12) hX dX7_isPlace_5 (by decide) ?_
    refine a_icmp_ge 14 hX dX7_isPlace_7 (by decide) (fun c_7 => ?_) (fun c_7 => ?_)
    · refine a_iconst (0) hX dX7_isPlace_14 (by decide) ?_
      refine a_iret hX hR dX7_isPlace_15 ⟨Nat.le_refl _, Nat.le_refl _⟩ rfl ?_
      exact po_int h (by grind [bI])
    · refine a_iconst (1) hX dX7_isPlace_10 (by decide) ?_
      refine a_goto 15 hX dX7_isPlace_11 (by decide) ?_
      refine a_iret hX hR dX7_isPlace_15 ⟨Nat.le_refl _, Nat.le_refl _⟩ rfl ?_
      exact po_int h (by grind [bI])
abbrev T_X7_isNeed : Tr := fun lay av w Po => ∃ (a : Int32), av = [.int a] ∧ Po (some (.int (bI (1 ≤ a ∧ a ≤ 3600)))) w
set_option maxRecDepth 100000 in
set_option maxHeartbeats 4000000 in
theorem c_X7_isNeed : Ct yX7_isNeed cX7_isNeed 1 (some .boolean) 0 0 0 T_X7_isNeed := by
  refine Ct.mk (by decide +kernel) ?_
  intro X av w Po hX hR hT
  obtain ⟨a, rfl, h⟩ := hT
  refine ⟨rfl, ?_⟩
  show A X 0 0 0 [some (.int a)] [] w
  refine a_iload_n hX dX7_isNeed_0 rfl ?_
  refine a_iconst (1) hX dX7_isNeed_1 (by decide) ?_
  refine a_icmp_lt 16 hX dX7_isNeed_2 (by decide) (fun c_2 => ?_) (fun c_2 => ?_)
  · refine a_iconst (0) hX dX7_isNeed_16 (by decide) ?_
    refine a_iret hX hR dX7_isNeed_17 ⟨Nat.le_refl _, Nat.le_refl _⟩ rfl ?_
    exact po_int h (by grind [bI])
  · refine a_iload_n hX dX7_isNeed_5 rfl ?_
    refine a_sipush (3600) hX dX7_isNeed_6 (by decide) ?_
    refine a_icmp_gt 16 hX dX7_isNeed_9 (by decide) (fun c_9 => ?_) (fun c_9 => ?_)
    · refine a_iconst (0) hX dX7_isNeed_16 (by decide) ?_
      refine a_iret hX hR dX7_isNeed_17 ⟨Nat.le_refl _, Nat.le_refl _⟩ rfl ?_
      exact po_int h (by grind [bI])
    · refine a_iconst (1) hX dX7_isNeed_12 (by decide) ?_
      refine a_goto 17 hX dX7_isNeed_13 (by decide) ?_
      refine a_iret hX hR dX7_isNeed_17 ⟨Nat.le_refl _, Nat.le_refl _⟩ rfl ?_
      exact po_int h (by grind [bI])
abbrev T_X7_isSet : Tr := fun lay av w Po => ∃ (a : Int32), av = [.int a] ∧ Po (some (.int (bI (0 ≤ a ∧ a < 4096)))) w
set_option maxRecDepth 100000 in
set_option maxHeartbeats 4000000 in
theorem c_X7_isSet : Ct yX7_isSet cX7_isSet 1 (some .boolean) 0 0 0 T_X7_isSet := by
  refine Ct.mk (by decide +kernel) ?_
  intro X av w Po hX hR hT
  obtain ⟨a, rfl, h⟩ := hT
  refine ⟨rfl, ?_⟩
  show A X 0 0 0 [some (.int a)] [] w
  refine a_iload_n hX dX7_isSet_0 rfl ?_
  refine a_if_lt 15 hX dX7_isSet_1 (by decide) (fun c_1 => ?_) (fun c_1 => ?_)
  · refine a_iconst (0) hX dX7_isSet_15 (by decide) ?_
    refine a_iret hX hR dX7_isSet_16 ⟨Nat.le_refl _, Nat.le_refl _⟩ rfl ?_
    exact po_int h (by grind [bI])
  · refine a_iload_n hX dX7_isSet_4 rfl ?_
    refine a_sipush (4096) hX dX7_isSet_5 (by decide) ?_
    refine a_icmp_ge 15 hX dX7_isSet_8 (by decide) (fun c_8 => ?_) (fun c_8 => ?_)
    · refine a_iconst (0) hX dX7_isSet_15 (by decide) ?_
      refine a_iret hX hR dX7_isSet_16 ⟨Nat.le_refl _, Nat.le_refl _⟩ rfl ?_
      exact po_int h (by grind [bI])
    · refine a_iconst (1) hX dX7_isSet_11 (by decide) ?_
      refine a_goto 16 hX dX7_isSet_12 (by decide) ?_
      refine a_iret hX hR dX7_isSet_16 ⟨Nat.le_refl _, Nat.le_refl _⟩ rfl ?_
      exact po_int h (by grind [bI])
abbrev T_X7_names : Tr := fun lay av w Po => ∃ (s p : Int32), av = [.int s, .int p] ∧ Po (some (.int (bI (nmP s p)))) w
set_option maxRecDepth 100000 in
set_option maxHeartbeats 4000000 in
theorem c_X7_names : Ct yX7_names cX7_names 2 (some .boolean) 0 0 0 T_X7_names := by
  refine Ct.mk (by decide +kernel) ?_
  intro X av w Po hX hR hT
  obtain ⟨s, p, rfl, h⟩ := hT
  refine ⟨rfl, ?_⟩
  show A X 0 0 0 [some (.int s), some (.int p)] [] w
  refine a_iload_n hX dX7_names_0 rfl ?_
  refine a_iload_n hX dX7_names_1 rfl ?_
  refine a_ishr hX dX7_names_2 ?_
  refine a_iconst (1) hX dX7_names_3 (by decide) ?_
  refine a_iand hX dX7_names_4 ?_
  refine a_if_eq 12 hX dX7_names_5 (by decide) (fun c_5 => ?_) (fun c_5 => ?_)
  · refine a_iconst (0) hX dX7_names_12 (by decide) ?_
    refine a_iret hX hR dX7_names_13 ⟨Nat.le_refl _, Nat.le_refl _⟩ rfl ?_
    exact po_int h (by grind [bI])
  · refine a_iconst (1) hX dX7_names_8 (by decide) ?_
    refine a_goto 13 hX dX7_names_9 (by decide) ?_
    refine a_iret hX hR dX7_names_13 ⟨Nat.le_refl _, Nat.le_refl _⟩ rfl ?_
    exact po_int h (by grind [bI])
abbrev T_X7_part : Tr := fun lay av w Po => ∃ (a t : Int32), av = [.int a, .int t] ∧ Po (some (.int ((a * t + 999) / 1000))) w
set_option maxRecDepth 100000 in
set_option maxHeartbeats 4000000 in
theorem c_X7_part : Ct yX7_part cX7_part 2 (some .int) 0 0 0 T_X7_part := by
  refine Ct.mk (by decide +kernel) ?_
  intro X av w Po hX hR hT
  obtain ⟨a, t, rfl, h⟩ := hT
  refine ⟨rfl, ?_⟩
  show A X 0 0 0 [some (.int a), some (.int t)] [] w
  refine a_iload_n hX dX7_part_0 rfl ?_
  refine a_iload_n hX dX7_part_1 rfl ?_
  refine a_imul hX dX7_part_2 ?_
  refine a_sipush (999) hX dX7_part_3 (by decide) ?_
  refine a_iadd hX dX7_part_6 ?_
  refine a_sipush (1000) hX dX7_part_7 (by decide) ?_
  refine a_idiv hX dX7_part_10 (by decide) ?_
  refine a_iret hX hR dX7_part_11 ⟨Nat.le_refl _, Nat.le_refl _⟩ rfl ?_
  exact h
abbrev T_X7_dayOrNone : Tr := fun lay av w Po => ∃ (a : Int32), av = [.int a] ∧ Po (some (.int (if 0 ≤ a ∧ a < 3600 then a else -1))) w
set_option maxRecDepth 100000 in
set_option maxHeartbeats 4000000 in
theorem c_X7_dayOrNone : Ct yX7_dayOrNone cX7_dayOrNone 1 (some .int) 1 0 0 T_X7_dayOrNone := by
  refine Ct.mk (by decide +kernel) ?_
  intro X av w Po hX hR hT
  obtain ⟨a, rfl, h⟩ := hT
  refine ⟨rfl, ?_⟩
  show A X 0 0 0 [some (.int a)] [] w
  refine a_iload_n hX dX7_dayOrNone_0 rfl ?_
  refine a_callS [_] hX c_X7_isDay mi_X7_isDay ms_X7_isDay li_X7_52 (by decide) rfl rfl (Nat.le_of_ble_eq_true rfl) (fun q => q) dX7_dayOrNone_1 ⟨_, rfl, ?_⟩
  refine a_if_eq_b 11 hX dX7_dayOrNone_4 (by decide) (fun c_4 => ?_) (fun c_4 => ?_)
  · refine a_iconst (-1) hX dX7_dayOrNone_11 (by decide) ?_
    refine a_iret hX hR dX7_dayOrNone_12 ⟨Nat.le_refl _, Nat.le_refl _⟩ rfl ?_
    exact po_int h (by first | exact if_pos ‹_› | exact if_neg ‹_›)
  · refine a_iload_n hX dX7_dayOrNone_7 rfl ?_
    refine a_goto 12 hX dX7_dayOrNone_8 (by decide) ?_
    refine a_iret hX hR dX7_dayOrNone_12 ⟨Nat.le_refl _, Nat.le_refl _⟩ rfl ?_
    exact po_int h (by first | exact if_pos ‹_› | exact if_neg ‹_›)
abbrev T_X7_bitsFrom : Tr := fun lay av w Po => ∃ (a : Int32), av = [.int a] ∧ Po (some (.int (bFrom a))) w
set_option maxRecDepth 100000 in
set_option maxHeartbeats 4000000 in
theorem c_X7_bitsFrom : Ct yX7_bitsFrom cX7_bitsFrom 1 (some .int) 0 0 0 T_X7_bitsFrom := by
  refine Ct.mk (by decide +kernel) ?_
  intro X av w Po hX hR hT
  obtain ⟨a, rfl, h⟩ := hT
  refine ⟨rfl, ?_⟩
  show A X 0 0 0 [some (.int a)] [] w
  refine a_iload_n hX dX7_bitsFrom_0 rfl ?_
  refine a_if_gt 8 hX dX7_bitsFrom_1 (by decide) (fun c_1 => ?_) (fun c_1 => ?_)
  · refine a_iload_n hX dX7_bitsFrom_8 rfl ?_
    refine a_bipush (30) hX dX7_bitsFrom_9 (by decide) ?_
    refine a_icmp_ge 26 hX dX7_bitsFrom_11 (by decide) (fun c_11 => ?_) (fun c_11 => ?_)
    · refine a_iconst (0) hX dX7_bitsFrom_26 (by decide) ?_
      refine a_iret hX hR dX7_bitsFrom_27 ⟨Nat.le_refl _, Nat.le_refl _⟩ rfl ?_
      exact po_int h (by unfold bFrom; grind)
    · refine a_ldcw hX dX7_bitsFrom_14 co_X7_268 ?_
      refine a_ldcw hX dX7_bitsFrom_17 co_X7_268 ?_
      refine a_iload_n hX dX7_bitsFrom_20 rfl ?_
      refine a_ishl hX dX7_bitsFrom_21 ?_
      refine a_iand hX dX7_bitsFrom_22 ?_
      refine a_goto 27 hX dX7_bitsFrom_23 (by decide) ?_
      refine a_iret hX hR dX7_bitsFrom_27 ⟨Nat.le_refl _, Nat.le_refl _⟩ rfl ?_
      exact po_int h (by unfold bFrom; grind)
  · refine a_ldcw hX dX7_bitsFrom_4 co_X7_268 ?_
    refine a_iret hX hR dX7_bitsFrom_7 ⟨Nat.le_refl _, Nat.le_refl _⟩ rfl ?_
    exact po_int h (by unfold bFrom; grind)
abbrev T_X7_bitsUpTo : Tr := fun lay av w Po => ∃ (a : Int32), av = [.int a] ∧ Po (some (.int (bUpTo a))) w
set_option maxRecDepth 100000 in
set_option maxHeartbeats 4000000 in
theorem c_X7_bitsUpTo : Ct yX7_bitsUpTo cX7_bitsUpTo 1 (some .int) 0 0 0 T_X7_bitsUpTo := by
  refine Ct.mk (by decide +kernel) ?_
  intro X av w Po hX hR hT
  obtain ⟨a, rfl, h⟩ := hT
  refine ⟨rfl, ?_⟩
  show A X 0 0 0 [some (.int a)] [] w
  refine a_iload_n hX dX7_bitsUpTo_0 rfl ?_
  refine a_if_ge 6 hX dX7_bitsUpTo_1 (by decide) (fun c_1 => ?_) (fun c_1 => ?_)
  · refine a_iload_n hX dX7_bitsUpTo_6 rfl ?_
    refine a_bipush (29) hX dX7_bitsUpTo_7 (by decide) ?_
    refine a_icmp_ge 22 hX dX7_bitsUpTo_9 (by decide) (fun c_9 => ?_) (fun c_9 => ?_)
    · refine a_ldcw hX dX7_bitsUpTo_22 co_X7_268 ?_
      refine a_iret hX hR dX7_bitsUpTo_25 ⟨Nat.le_refl _, Nat.le_refl _⟩ rfl ?_
      exact po_int h (by unfold bUpTo; grind)
    · refine a_iconst (1) hX dX7_bitsUpTo_12 (by decide) ?_
      refine a_iload_n hX dX7_bitsUpTo_13 rfl ?_
      refine a_iconst (1) hX dX7_bitsUpTo_14 (by decide) ?_
      refine a_iadd hX dX7_bitsUpTo_15 ?_
      refine a_ishl hX dX7_bitsUpTo_16 ?_
      refine a_iconst (1) hX dX7_bitsUpTo_17 (by decide) ?_
      refine a_isub hX dX7_bitsUpTo_18 ?_
      refine a_goto 25 hX dX7_bitsUpTo_19 (by decide) ?_
      refine a_iret hX hR dX7_bitsUpTo_25 ⟨Nat.le_refl _, Nat.le_refl _⟩ rfl ?_
      exact po_int h (by unfold bUpTo; grind)
  · refine a_iconst (0) hX dX7_bitsUpTo_4 (by decide) ?_
    refine a_iret hX hR dX7_bitsUpTo_5 ⟨Nat.le_refl _, Nat.le_refl _⟩ rfl ?_
    exact po_int h (by unfold bUpTo; grind)
abbrev T_X7_isBehind : Tr := fun lay av w Po => ∃ (i : Nat) (a : Int32), av = [.ref (w.2.2.2 i), .int a] ∧ (i < w.2.2.1) ∧ Po (some (.int (bI (a < w.1 (248 + i) 0)))) w
set_option maxRecDepth 100000 in
set_option maxHeartbeats 4000000 in
theorem c_X7_isBehind : Ct yX7_isBehind cX7_isBehind 2 (some .boolean) 0 0 0 T_X7_isBehind := by
  refine Ct.mk (by decide +kernel) ?_
  intro X av w Po hX hR hT
  obtain ⟨i, a, rfl, hi, h⟩ := hT
  refine ⟨rfl, ?_⟩
  show A X 0 0 0 [some (.ref (w.2.2.2 i)), some (.int a)] [] w
  refine a_aload_n hX dX7_isBehind_0 rfl ?_
  refine a_ifnull hX dX7_isBehind_1 ?_
  refine a_aload_n hX dX7_isBehind_4 rfl ?_
  refine gf_X7_277 hi hX dX7_isBehind_5 ?_
  refine a_iload_n hX dX7_isBehind_8 rfl ?_
  refine a_icmp_le 16 hX dX7_isBehind_9 (by decide) (fun c_9 => ?_) (fun c_9 => ?_)
  · refine a_iconst (0) hX dX7_isBehind_16 (by decide) ?_
    refine a_iret hX hR dX7_isBehind_17 ⟨Nat.le_refl _, Nat.le_refl _⟩ rfl ?_
    exact po_int h (by grind [bI])
  · refine a_iconst (1) hX dX7_isBehind_12 (by decide) ?_
    refine a_goto 17 hX dX7_isBehind_13 (by decide) ?_
    refine a_iret hX hR dX7_isBehind_17 ⟨Nat.le_refl _, Nat.le_refl _⟩ rfl ?_
    exact po_int h (by grind [bI])
end
section
/-! Place, Tally -/
abbrev T_X2_wipe : Tr := fun lay av w Po => ∃ (r : Nat), av = [.ref (lay r)] ∧ (kd r = 2) ∧ ∀ w' : St, Fr w w' (fun q => q = r) ∧ (∀ k, k < 9 → w'.1 r k = if k = 5 then -1 else 0) → Po none w'
set_option maxRecDepth 100000 in
set_option maxHeartbeats 4000000 in
theorem c_X2_wipe : Ct yX2_wipe cX2_wipe 1 none 0 0 0 T_X2_wipe := by
  refine Ct.mk (by decide +kernel) ?_
  intro X av w Po hX hR hT
  obtain ⟨r, rfl, hr, h⟩ := hT
  refine ⟨rfl, ?_⟩
  show A X 0 0 0 [some (.ref (xlay X r))] [] w
  refine a_aload_n hX dX2_wipe_0 rfl ?_
  refine a_iconst (0) hX dX2_wipe_1 (by decide) ?_
  refine pf_X2_9 hr hX dX2_wipe_2 ?_
  refine a_aload_n hX dX2_wipe_5 rfl ?_
  refine a_iconst (0) hX dX2_wipe_6 (by decide) ?_
  refine pf_X2_15 hr hX dX2_wipe_7 ?_
  refine a_aload_n hX dX2_wipe_10 rfl ?_
  refine a_iconst (0) hX dX2_wipe_11 (by decide) ?_
  refine pf_X2_18 hr hX dX2_wipe_12 ?_
  refine a_aload_n hX dX2_wipe_15 rfl ?_
  refine a_iconst (0) hX dX2_wipe_16 (by decide) ?_
  refine pf_X2_21 hr hX dX2_wipe_17 ?_
  refine a_aload_n hX dX2_wipe_20 rfl ?_
  refine a_iconst (0) hX dX2_wipe_21 (by decide) ?_
  refine pf_X2_24 hr hX dX2_wipe_22 ?_
  refine a_aload_n hX dX2_wipe_25 rfl ?_
  refine a_iconst (-1) hX dX2_wipe_26 (by decide) ?_
  refine pf_X2_27 hr hX dX2_wipe_27 ?_
  refine a_aload_n hX dX2_wipe_30 rfl ?_
  refine a_iconst (0) hX dX2_wipe_31 (by decide) ?_
  refine pf_X2_30 hr hX dX2_wipe_32 ?_
  refine a_aload_n hX dX2_wipe_35 rfl ?_
  refine a_iconst (0) hX dX2_wipe_36 (by decide) ?_
  refine pf_X2_33 hr hX dX2_wipe_37 ?_
  refine a_aload_n hX dX2_wipe_40 rfl ?_
  refine a_iconst (0) hX dX2_wipe_41 (by decide) ?_
  refine pf_X2_36 hr hX dX2_wipe_42 ?_
  refine a_vret hX hR dX2_wipe_45 ⟨Nat.le_refl _, Nat.le_refl _⟩ ?_
  refine h _ ⟨?_, ?_⟩
  · repeat (refine Fr.set ?_ rfl)
    exact Fr.rf
  · intro k hk
    simp only [wset_1]
    grind
abbrev T_X2_runs : Tr := fun lay av w Po => ∃ (r : Nat), av = [.ref (lay r)] ∧ (kd r = 2) ∧ Po (some (.int (bI (2 ≤ w.1 r 0 ∧ w.1 r 0 ≤ 5)))) w
set_option maxRecDepth 100000 in
set_option maxHeartbeats 4000000 in
theorem c_X2_runs : Ct yX2_runs cX2_runs 1 (some .boolean) 0 0 0 T_X2_runs := by
  refine Ct.mk (by decide +kernel) ?_
  intro X av w Po hX hR hT
  obtain ⟨r, rfl, hr, h⟩ := hT
  refine ⟨rfl, ?_⟩
  show A X 0 0 0 [some (.ref (xlay X r))] [] w
  refine a_aload_n hX dX2_runs_0 rfl ?_
  refine gf_X2_9 hr hX dX2_runs_1 ?_
  refine a_iconst (2) hX dX2_runs_4 (by decide) ?_
  refine a_icmp_lt 20 hX dX2_runs_5 (by decide) (fun c_5 => ?_) (fun c_5 => ?_)
  · refine a_iconst (0) hX dX2_runs_20 (by decide) ?_
    refine a_iret hX hR dX2_runs_21 ⟨Nat.le_refl _, Nat.le_refl _⟩ rfl ?_
    exact po_int h (by grind [bI])
  · refine a_aload_n hX dX2_runs_8 rfl ?_
    refine gf_X2_9 hr hX dX2_runs_9 ?_
    refine a_iconst (5) hX dX2_runs_12 (by decide) ?_
    refine a_icmp_gt 20 hX dX2_runs_13 (by decide) (fun c_13 => ?_) (fun c_13 => ?_)
    · refine a_iconst (0) hX dX2_runs_20 (by decide) ?_
      refine a_iret hX hR dX2_runs_21 ⟨Nat.le_refl _, Nat.le_refl _⟩ rfl ?_
      exact po_int h (by grind [bI])
    · refine a_iconst (1) hX dX2_runs_16 (by decide) ?_
      refine a_goto 21 hX dX2_runs_17 (by decide) ?_
      refine a_iret hX hR dX2_runs_21 ⟨Nat.le_refl _, Nat.le_refl _⟩ rfl ?_
      exact po_int h (by grind [bI])
abbrev T_X2_isQuashed : Tr := fun lay av w Po => ∃ (r : Nat), av = [.ref (lay r)] ∧ (kd r = 2) ∧ Po (some (.int (bI (w.1 r 5 ≠ -1)))) w
set_option maxRecDepth 100000 in
set_option maxHeartbeats 4000000 in
theorem c_X2_isQuashed : Ct yX2_isQuashed cX2_isQuashed 1 (some .boolean) 0 0 0 T_X2_isQuashed := by
  refine Ct.mk (by decide +kernel) ?_
  intro X av w Po hX hR hT
  obtain ⟨r, rfl, hr, h⟩ := hT
  refine ⟨rfl, ?_⟩
  show A X 0 0 0 [some (.ref (xlay X r))] [] w
  refine a_aload_n hX dX2_isQuashed_0 rfl ?_
  refine gf_X2_27 hr hX dX2_isQuashed_1 ?_
  refine a_iconst (-1) hX dX2_isQuashed_4 (by decide) ?_
  refine a_icmp_eq 12 hX dX2_isQuashed_5 (by decide) (fun c_5 => ?_) (fun c_5 => ?_)
  · refine a_iconst (0) hX dX2_isQuashed_12 (by decide) ?_
    refine a_iret hX hR dX2_isQuashed_13 ⟨Nat.le_refl _, Nat.le_refl _⟩ rfl ?_
    exact po_int h (by grind [bI])
  · refine a_iconst (1) hX dX2_isQuashed_8 (by decide) ?_
    refine a_goto 13 hX dX2_isQuashed_9 (by decide) ?_
    refine a_iret hX hR dX2_isQuashed_13 ⟨Nat.le_refl _, Nat.le_refl _⟩ rfl ?_
    exact po_int h (by grind [bI])
abbrev T_X2_stands : Tr := fun lay av w Po => ∃ (r : Nat), av = [.ref (lay r)] ∧ (kd r = 2) ∧ Po (some (.int (bI ((2 ≤ w.1 r 0 ∧ w.1 r 0 ≤ 5) ∧ w.1 r 5 = -1)))) w
set_option maxRecDepth 100000 in
set_option maxHeartbeats 4000000 in
theorem c_X2_stands : Ct yX2_stands cX2_stands 1 (some .boolean) 1 0 0 T_X2_stands := by
  refine Ct.mk (by decide +kernel) ?_
  intro X av w Po hX hR hT
  obtain ⟨r, rfl, hr, h⟩ := hT
  refine ⟨rfl, ?_⟩
  show A X 0 0 0 [some (.ref (xlay X r))] [] w
  refine a_aload_n hX dX2_stands_0 rfl ?_
  refine a_callV [] hX c_X2_runs mi_X2_runs mv_X2_runs se_X2_runs (klt hr (by decide)) (adr_lt (kd_lt hr (by decide))) (cell_2 hr) rfl li_X2_39 (by decide) rfl rfl (Nat.le_of_ble_eq_true rfl) (fun q => q) dX2_stands_1 ⟨_, rfl, (by assumption), ?_⟩
  refine a_if_eq_b 18 hX dX2_stands_4 (by decide) (fun c_4 => ?_) (fun c_4 => ?_)
  · refine a_iconst (0) hX dX2_stands_18 (by decide) ?_
    refine a_iret hX hR dX2_stands_19 ⟨Nat.le_refl _, Nat.le_refl _⟩ rfl ?_
    exact po_int h (by grind [bI])
  · refine a_aload_n hX dX2_stands_7 rfl ?_
    refine a_callV [] hX c_X2_isQuashed mi_X2_isQuashed mv_X2_isQuashed se_X2_isQuashed (klt hr (by decide)) (adr_lt (kd_lt hr (by decide))) (cell_2 hr) rfl li_X2_43 (by decide) rfl rfl (Nat.le_of_ble_eq_true rfl) (fun q => q) dX2_stands_8 ⟨_, rfl, (by assumption), ?_⟩
    refine a_if_ne_b 18 hX dX2_stands_11 (by decide) (fun c_11 => ?_) (fun c_11 => ?_)
    · refine a_iconst (0) hX dX2_stands_18 (by decide) ?_
      refine a_iret hX hR dX2_stands_19 ⟨Nat.le_refl _, Nat.le_refl _⟩ rfl ?_
      exact po_int h (by grind [bI])
    · refine a_iconst (1) hX dX2_stands_14 (by decide) ?_
      refine a_goto 19 hX dX2_stands_15 (by decide) ?_
      refine a_iret hX hR dX2_stands_19 ⟨Nat.le_refl _, Nat.le_refl _⟩ rfl ?_
      exact po_int h (by grind [bI])
abbrev T_X2_mayHaveRule : Tr := fun lay av w Po => ∃ (r : Nat), av = [.ref (lay r)] ∧ (kd r = 2) ∧ Po (some (.int (bI (((2 ≤ w.1 r 0 ∧ w.1 r 0 ≤ 5) ∧ w.1 r 5 = -1) ∧ w.1 r 0 ≠ 5)))) w
set_option maxRecDepth 100000 in
set_option maxHeartbeats 4000000 in
theorem c_X2_mayHaveRule : Ct yX2_mayHaveRule cX2_mayHaveRule 1 (some .boolean) 2 0 0 T_X2_mayHaveRule := by
  refine Ct.mk (by decide +kernel) ?_
  intro X av w Po hX hR hT
  obtain ⟨r, rfl, hr, h⟩ := hT
  refine ⟨rfl, ?_⟩
  show A X 0 0 0 [some (.ref (xlay X r))] [] w
  refine a_aload_n hX dX2_mayHaveRule_0 rfl ?_
  refine a_callV [] hX c_X2_stands mi_X2_stands mv_X2_stands se_X2_stands (klt hr (by decide)) (adr_lt (kd_lt hr (by decide))) (cell_2 hr) rfl li_X2_46 (by decide) rfl rfl (Nat.le_of_ble_eq_true rfl) (fun q => q) dX2_mayHaveRule_1 ⟨_, rfl, (by assumption), ?_⟩
  refine a_if_eq_b 19 hX dX2_mayHaveRule_4 (by decide) (fun c_4 => ?_) (fun c_4 => ?_)
  · refine a_iconst (0) hX dX2_mayHaveRule_19 (by decide) ?_
    refine a_iret hX hR dX2_mayHaveRule_20 ⟨Nat.le_refl _, Nat.le_refl _⟩ rfl ?_
    exact po_int h (by grind [bI])
  · refine a_aload_n hX dX2_mayHaveRule_7 rfl ?_
    refine gf_X2_9 hr hX dX2_mayHaveRule_8 ?_
    refine a_iconst (5) hX dX2_mayHaveRule_11 (by decide) ?_
    refine a_icmp_eq 19 hX dX2_mayHaveRule_12 (by decide) (fun c_12 => ?_) (fun c_12 => ?_)
    · refine a_iconst (0) hX dX2_mayHaveRule_19 (by decide) ?_
      refine a_iret hX hR dX2_mayHaveRule_20 ⟨Nat.le_refl _, Nat.le_refl _⟩ rfl ?_
      exact po_int h (by grind [bI])
    · refine a_iconst (1) hX dX2_mayHaveRule_15 (by decide) ?_
      refine a_goto 20 hX dX2_mayHaveRule_16 (by decide) ?_
      refine a_iret hX hR dX2_mayHaveRule_20 ⟨Nat.le_refl _, Nat.le_refl _⟩ rfl ?_
      exact po_int h (by grind [bI])
abbrev T_X2_isFor : Tr := fun lay av w Po => ∃ (r : Nat) (a p : Int32), av = [.ref (lay r), .int a, .int p] ∧ (kd r = 2) ∧ Po (some (.int (bI (w.1 r 0 = a ∧ w.1 r 5 = -1 ∧ nmP (w.1 r 4) p)))) w
set_option maxRecDepth 100000 in
set_option maxHeartbeats 4000000 in
theorem c_X2_isFor : Ct yX2_isFor cX2_isFor 3 (some .boolean) 1 0 0 T_X2_isFor := by
  refine Ct.mk (by decide +kernel) ?_
  intro X av w Po hX hR hT
  obtain ⟨r, a, p, rfl, hr, h⟩ := hT
  refine ⟨rfl, ?_⟩
  show A X 0 0 0 [some (.ref (xlay X r)), some (.int a), some (.int p)] [] w
  refine a_aload_n hX dX2_isFor_0 rfl ?_
  refine gf_X2_9 hr hX dX2_isFor_1 ?_
  refine a_iload_n hX dX2_isFor_4 rfl ?_
  refine a_icmp_ne 30 hX dX2_isFor_5 (by decide) (fun c_5 => ?_) (fun c_5 => ?_)
  · refine a_iconst (0) hX dX2_isFor_30 (by decide) ?_
    refine a_iret hX hR dX2_isFor_31 ⟨Nat.le_refl _, Nat.le_refl _⟩ rfl ?_
    exact po_int h (by grind [bI])
  · refine a_aload_n hX dX2_isFor_8 rfl ?_
    refine a_callV [] hX c_X2_isQuashed mi_X2_isQuashed mv_X2_isQuashed se_X2_isQuashed (klt hr (by decide)) (adr_lt (kd_lt hr (by decide))) (cell_2 hr) rfl li_X2_43 (by decide) rfl rfl (Nat.le_of_ble_eq_true rfl) (fun q => q) dX2_isFor_9 ⟨_, rfl, (by assumption), ?_⟩
    refine a_if_ne_b 30 hX dX2_isFor_12 (by decide) (fun c_12 => ?_) (fun c_12 => ?_)
    · refine a_iconst (0) hX dX2_isFor_30 (by decide) ?_
      refine a_iret hX hR dX2_isFor_31 ⟨Nat.le_refl _, Nat.le_refl _⟩ rfl ?_
      exact po_int h (by grind [bI])
    · refine a_aload_n hX dX2_isFor_15 rfl ?_
      refine gf_X2_24 hr hX dX2_isFor_16 ?_
      refine a_iload_n hX dX2_isFor_19 rfl ?_
      refine a_callSN [_, _] hX c_X7_names mi_X7_names ms_X7_names ln_X2_49 (by decide) rfl rfl (Nat.le_of_ble_eq_true rfl) (fun q => q) dX2_isFor_20 ⟨_, _, rfl, ?_⟩
      refine a_if_eq_b 30 hX dX2_isFor_23 (by decide) (fun c_23 => ?_) (fun c_23 => ?_)
      · refine a_iconst (0) hX dX2_isFor_30 (by decide) ?_
        refine a_iret hX hR dX2_isFor_31 ⟨Nat.le_refl _, Nat.le_refl _⟩ rfl ?_
        exact po_int h (by grind [bI])
      · refine a_iconst (1) hX dX2_isFor_26 (by decide) ?_
        refine a_goto 31 hX dX2_isFor_27 (by decide) ?_
        refine a_iret hX hR dX2_isFor_31 ⟨Nat.le_refl _, Nat.le_refl _⟩ rfl ?_
        exact po_int h (by grind [bI])
abbrev T_X2_mostTaken : Tr := fun lay av w Po => ∃ (r : Nat), av = [.ref (lay r)] ∧ (kd r = 2) ∧ Po (some (.int (w.1 r 3 - (w.1 r 3 * w.1 r 7 + 999) / 1000))) w
set_option maxRecDepth 100000 in
set_option maxHeartbeats 4000000 in
theorem c_X2_mostTaken : Ct yX2_mostTaken cX2_mostTaken 1 (some .int) 1 0 0 T_X2_mostTaken := by
  refine Ct.mk (by decide +kernel) ?_
  intro X av w Po hX hR hT
  obtain ⟨r, rfl, hr, h⟩ := hT
  refine ⟨rfl, ?_⟩
  show A X 0 0 0 [some (.ref (xlay X r))] [] w
  refine a_aload_n hX dX2_mostTaken_0 rfl ?_
  refine gf_X2_21 hr hX dX2_mostTaken_1 ?_
  refine a_aload_n hX dX2_mostTaken_4 rfl ?_
  refine gf_X2_21 hr hX dX2_mostTaken_5 ?_
  refine a_aload_n hX dX2_mostTaken_8 rfl ?_
  refine gf_X2_33 hr hX dX2_mostTaken_9 ?_
  refine a_callSN [_, _] hX c_X7_part mi_X7_part ms_X7_part ln_X2_53 (by decide) rfl rfl (Nat.le_of_ble_eq_true rfl) (fun q => q) dX2_mostTaken_12 ⟨_, _, rfl, ?_⟩
  refine a_isub hX dX2_mostTaken_15 ?_
  refine a_iret hX hR dX2_mostTaken_16 ⟨Nat.le_refl _, Nat.le_refl _⟩ rfl ?_
  exact h
abbrev T_X6_start : Tr := fun lay av w Po => ∃ (r : Nat), av = [.ref (lay 216), .ref (lay r)] ∧ (kd r = 2) ∧ ∀ w' : St, Fr w w' (fun q => q = 216) ∧ (w'.1 216 0 = w.1 r 6 ∧ w'.1 216 1 = w.1 r 3 - (w.1 r 3 * w.1 r 7 + 999) / 1000 ∧ w'.1 216 2 = w.1 r 8 ∧ w'.1 216 3 = 0 ∧ w'.1 216 4 = 0 ∧ w'.1 216 5 = 0) → Po none w'
set_option maxRecDepth 100000 in
set_option maxHeartbeats 4000000 in
theorem c_X6_start : Ct yX6_start cX6_start 2 none 2 0 0 T_X6_start := by
  refine Ct.mk (by decide +kernel) ?_
  intro X av w Po hX hR hT
  obtain ⟨r, rfl, hr, h⟩ := hT
  refine ⟨rfl, ?_⟩
  show A X 0 0 0 [some (.ref (xlay X 216)), some (.ref (xlay X r))] [] w
  refine a_aload_n hX dX6_start_0 rfl ?_
  refine a_aload_n hX dX6_start_1 rfl ?_
  refine gf_X6_30 hr hX dX6_start_2 ?_
  refine pf_X6_9 rfl hX dX6_start_5 ?_
  refine a_aload_n hX dX6_start_8 rfl ?_
  refine a_aload_n hX dX6_start_9 rfl ?_
  refine a_callV [] hX c_X2_mostTaken mi_X2_mostTaken mv_X2_mostTaken se_X2_mostTaken (klt hr (by decide)) (adr_lt (kd_lt hr (by decide))) (cell_2 hr) rfl li_X6_33 (by decide) rfl rfl (Nat.le_of_ble_eq_true rfl) (fun q => q) dX6_start_10 ⟨_, rfl, (by assumption), ?_⟩
  refine pf_X6_15 rfl hX dX6_start_13 ?_
  refine a_aload_n hX dX6_start_16 rfl ?_
  refine a_aload_n hX dX6_start_17 rfl ?_
  refine gf_X6_36 hr hX dX6_start_18 ?_
  refine pf_X6_18 rfl hX dX6_start_21 ?_
  refine a_aload_n hX dX6_start_24 rfl ?_
  refine a_iconst (0) hX dX6_start_25 (by decide) ?_
  refine pf_X6_21 rfl hX dX6_start_26 ?_
  refine a_aload_n hX dX6_start_29 rfl ?_
  refine a_iconst (0) hX dX6_start_30 (by decide) ?_
  refine pf_X6_24 rfl hX dX6_start_31 ?_
  refine a_aload_n hX dX6_start_34 rfl ?_
  refine a_iconst (0) hX dX6_start_35 (by decide) ?_
  refine pf_X6_27 rfl hX dX6_start_36 ?_
  refine a_vret hX hR dX6_start_39 ⟨Nat.le_refl _, Nat.le_refl _⟩ ?_
  have hne : r ≠ 216 := fun e => absurd (e ▸ hr) (by decide)
  refine h _ ⟨?_, ?_⟩
  · repeat (refine Fr.set ?_ rfl)
    exact Fr.rf
  · simp [wset_1, hne]
/-- TAKEN when the row that goes on is longer by a -/
def tkW (f : Nat → Int32) (a : Int32) : Int32 := if 0 < f 0 then (if f 4 + (f 5 + a) / f 0 < f 1 then f 4 + (f 5 + a) / f 0 else f 1) else 0
def rcW (f : Nat → Int32) (a : Int32) : Int32 := f 3 + a + (if 0 < tkW f a - f 2 then tkW f a - f 2 else 0)
abbrev T_X6_takenWith : Tr := fun lay av w Po => ∃ (a : Int32), av = [.ref (lay 216), .int a] ∧ Po (some (.int (tkW (w.1 216) a))) w
set_option maxRecDepth 100000 in
set_option maxHeartbeats 4000000 in
theorem c_X6_takenWith : Ct yX6_takenWith cX6_takenWith 2 (some .int) 1 0 0 T_X6_takenWith := by
  refine Ct.mk (by decide +kernel) ?_
  intro X av w Po hX hR hT
  obtain ⟨a, rfl, h⟩ := hT
  refine ⟨rfl, ?_⟩
  show A X 0 0 0 [some (.ref (xlay X 216)), some (.int a)] [] w
  refine a_aload_n hX dX6_takenWith_0 rfl ?_
  refine gf_X6_9 rfl hX dX6_takenWith_1 ?_
  refine a_if_le 33 hX dX6_takenWith_4 (by decide) (fun c_4 => ?_) (fun c_4 => ?_)
  · refine a_iconst (0) hX dX6_takenWith_33 (by decide) ?_
    refine a_iret hX hR dX6_takenWith_34 ⟨Nat.le_refl _, Nat.le_refl _⟩ rfl ?_
    exact po_int h (by unfold tkW; grind)
  · refine a_aload_n hX dX6_takenWith_7 rfl ?_
    refine gf_X6_15 rfl hX dX6_takenWith_8 ?_
    refine a_aload_n hX dX6_takenWith_11 rfl ?_
    refine gf_X6_24 rfl hX dX6_takenWith_12 ?_
    refine a_aload_n hX dX6_takenWith_15 rfl ?_
    refine gf_X6_27 rfl hX dX6_takenWith_16 ?_
    refine a_iload_n hX dX6_takenWith_19 rfl ?_
    refine a_iadd hX dX6_takenWith_20 ?_
    refine a_aload_n hX dX6_takenWith_21 rfl ?_
    refine gf_X6_9 rfl hX dX6_takenWith_22 ?_
    refine a_idiv hX dX6_takenWith_25 (fun z => by grind) ?_
    refine a_iadd hX dX6_takenWith_26 ?_
    refine a_mmin hX (by decide) rfl (Nat.le_of_ble_eq_true rfl) dX6_takenWith_27 li_X6_37 ?_
    refine a_goto 34 hX dX6_takenWith_30 (by decide) ?_
    refine a_iret hX hR dX6_takenWith_34 ⟨Nat.le_refl _, Nat.le_refl _⟩ rfl ?_
    exact po_int h (by unfold tkW; grind)
abbrev T_X6_reachedWith : Tr := fun lay av w Po => ∃ (a : Int32), av = [.ref (lay 216), .int a] ∧ Po (some (.int (rcW (w.1 216) a))) w
set_option maxRecDepth 100000 in
set_option maxHeartbeats 4000000 in
theorem c_X6_reachedWith : Ct yX6_reachedWith cX6_reachedWith 2 (some .int) 2 0 0 T_X6_reachedWith := by
  refine Ct.mk (by decide +kernel) ?_
  intro X av w Po hX hR hT
  obtain ⟨a, rfl, h⟩ := hT
  refine ⟨rfl, ?_⟩
  show A X 0 0 0 [some (.ref (xlay X 216)), some (.int a)] [] w
  refine a_aload_n hX dX6_reachedWith_0 rfl ?_
  refine gf_X6_21 rfl hX dX6_reachedWith_1 ?_
  refine a_iload_n hX dX6_reachedWith_4 rfl ?_
  refine a_iadd hX dX6_reachedWith_5 ?_
  refine a_iconst (0) hX dX6_reachedWith_6 (by decide) ?_
  refine a_aload_n hX dX6_reachedWith_7 rfl ?_
  refine a_iload_n hX dX6_reachedWith_8 rfl ?_
  refine a_callV [_] hX c_X6_takenWith mi_X6_takenWith mv_X6_takenWith se_X6_takenWith (klt rfl (by decide)) (adr_lt (kd_lt rfl (by decide))) (cell_6 rfl) rfl li_X6_43 (by decide) rfl rfl (Nat.le_of_ble_eq_true rfl) (fun q => q) dX6_reachedWith_9 ⟨_, rfl, ?_⟩
  refine a_aload_n hX dX6_reachedWith_12 rfl ?_
  refine gf_X6_18 rfl hX dX6_reachedWith_13 ?_
  refine a_isub hX dX6_reachedWith_16 ?_
  refine a_mmax hX (by decide) rfl (Nat.le_of_ble_eq_true rfl) dX6_reachedWith_17 li_X6_47 ?_
  refine a_iadd hX dX6_reachedWith_20 ?_
  refine a_iret hX hR dX6_reachedWith_21 ⟨Nat.le_refl _, Nat.le_refl _⟩ rfl ?_
  exact po_int h (by unfold rcW; grind)
abbrev T_X6_addDays : Tr := fun lay av w Po => ∃ (a : Int32), av = [.ref (lay 216), .int a] ∧ ∀ w' : St, Fr w w' (fun q => q = 216) ∧ w'.1 216 = upd (upd (w.1 216) 3 (w.1 216 3 + a)) 5 (w.1 216 5 + a) → Po none w'
set_option maxRecDepth 100000 in
set_option maxHeartbeats 4000000 in
theorem c_X6_addDays : Ct yX6_addDays cX6_addDays 2 none 0 0 0 T_X6_addDays := by
  refine Ct.mk (by decide +kernel) ?_
  intro X av w Po hX hR hT
  obtain ⟨a, rfl, h⟩ := hT
  refine ⟨rfl, ?_⟩
  show A X 0 0 0 [some (.ref (xlay X 216)), some (.int a)] [] w
  refine a_aload_n hX dX6_addDays_0 rfl ?_
  refine a_dup hX dX6_addDays_1 rfl ?_
  refine gf_X6_21 rfl hX dX6_addDays_2 ?_
  refine a_iload_n hX dX6_addDays_5 rfl ?_
  refine a_iadd hX dX6_addDays_6 ?_
  refine pf_X6_21 rfl hX dX6_addDays_7 ?_
  refine a_aload_n hX dX6_addDays_10 rfl ?_
  refine a_dup hX dX6_addDays_11 rfl ?_
  refine gf_X6_27 rfl hX dX6_addDays_12 ?_
  refine a_iload_n hX dX6_addDays_15 rfl ?_
  refine a_iadd hX dX6_addDays_16 ?_
  refine pf_X6_27 rfl hX dX6_addDays_17 ?_
  refine a_vret hX hR dX6_addDays_20 ⟨Nat.le_refl _, Nat.le_refl _⟩ ?_
  refine h _ ⟨?_, ?_⟩
  · repeat (refine Fr.set ?_ rfl)
    exact Fr.rf
  · simp [wset_row, upd]
def brR (f : Nat → Int32) : Nat → Int32 := upd (upd f 4 (if 0 < f 0 then f 4 + f 5 / f 0 else f 4)) 5 0
abbrev T_X6_breakRow : Tr := fun lay av w Po => av = [.ref (lay 216)] ∧ ∀ w' : St, Fr w w' (fun q => q = 216) ∧ w'.1 216 = brR (w.1 216) → Po none w'
set_option maxRecDepth 100000 in
set_option maxHeartbeats 4000000 in
theorem c_X6_breakRow : Ct yX6_breakRow cX6_breakRow 1 none 0 0 0 T_X6_breakRow := by
  refine Ct.mk (by decide +kernel) ?_
  intro X av w Po hX hR hT
  obtain ⟨rfl, h⟩ := hT
  refine ⟨rfl, ?_⟩
  show A X 0 0 0 [some (.ref (xlay X 216))] [] w
  refine a_aload_n hX dX6_breakRow_0 rfl ?_
  refine gf_X6_9 rfl hX dX6_breakRow_1 ?_
  refine a_if_le 25 hX dX6_breakRow_4 (by decide) (fun c_4 => ?_) (fun c_4 => ?_)
  · refine a_aload_n hX dX6_breakRow_25 rfl ?_
    refine a_iconst (0) hX dX6_breakRow_26 (by decide) ?_
    refine pf_X6_27 rfl hX dX6_breakRow_27 ?_
    refine a_vret hX hR dX6_breakRow_30 ⟨Nat.le_refl _, Nat.le_refl _⟩ ?_
    refine h _ ⟨?_, ?_⟩
    · repeat (refine Fr.set ?_ rfl)
      exact Fr.rf
    · funext j
      simp only [wset_row, brR, upd]
      grind
  · refine a_aload_n hX dX6_breakRow_7 rfl ?_
    refine a_dup hX dX6_breakRow_8 rfl ?_
    refine gf_X6_24 rfl hX dX6_breakRow_9 ?_
    refine a_aload_n hX dX6_breakRow_12 rfl ?_
    refine gf_X6_27 rfl hX dX6_breakRow_13 ?_
    refine a_aload_n hX dX6_breakRow_16 rfl ?_
    refine gf_X6_9 rfl hX dX6_breakRow_17 ?_
    refine a_idiv hX dX6_breakRow_20 (fun z => by grind) ?_
    refine a_iadd hX dX6_breakRow_21 ?_
    refine pf_X6_24 rfl hX dX6_breakRow_22 ?_
    refine a_aload_n hX dX6_breakRow_25 rfl ?_
    refine a_iconst (0) hX dX6_breakRow_26 (by decide) ?_
    refine pf_X6_27 rfl hX dX6_breakRow_27 ?_
    refine a_vret hX hR dX6_breakRow_30 ⟨Nat.le_refl _, Nat.le_refl _⟩ ?_
    refine h _ ⟨?_, ?_⟩
    · repeat (refine Fr.set ?_ rfl)
      exact Fr.rf
    · funext j
      simp only [wset_row, brR, upd]
      grind
end
