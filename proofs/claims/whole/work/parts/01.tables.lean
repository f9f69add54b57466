-- ===== PART A: goes FIRST, ahead of the names: the tables' words, and 'selects' of the private methods out of them =====
/-- a private method of a class that the tables say can be made, by its rows of tables_1 -/
def lw_okq (q : MethodName × Nat) : Prop := (q.1.cls ≠ "java/lang/invoke/MethodHandle" ∧ q.1.cls ≠ "java/lang/invoke/VarHandle") ∧ Cond.instantiable q.1.cls q.2 ∈ tables_1 ∧ Cond.privateMethod q.1 ∈ tables_1 ∧ Cond.instanceMethod q.1 ∈ tables_1
theorem lw_p0 : lw_okq (⟨"EvenWire$Bans", "toldOfWord", "(I)I"⟩, 6) := ⟨⟨by decide +kernel, by decide +kernel⟩, List.mem_of_getElem? (i := 26) (by decide +kernel), List.mem_of_getElem? (i := 282) (by decide +kernel), List.mem_of_getElem? (i := 283) (by decide +kernel)⟩
theorem lw_p1 : lw_okq (⟨"EvenWire$Maker", "explore", "(LEvenWire$Bans;)V"⟩, 9) := ⟨⟨by decide +kernel, by decide +kernel⟩, List.mem_of_getElem? (i := 52) (by decide +kernel), List.mem_of_getElem? (i := 294) (by decide +kernel), List.mem_of_getElem? (i := 295) (by decide +kernel)⟩
theorem lw_p2 : lw_okq (⟨"EvenWire$Maker", "placeFor", "(I)I"⟩, 9) := ⟨⟨by decide +kernel, by decide +kernel⟩, List.mem_of_getElem? (i := 52) (by decide +kernel), List.mem_of_getElem? (i := 312) (by decide +kernel), List.mem_of_getElem? (i := 313) (by decide +kernel)⟩
theorem lw_p3 : lw_okq (⟨"EvenWire$Bans", "breaksRuns", "(II)Z"⟩, 6) := ⟨⟨by decide +kernel, by decide +kernel⟩, List.mem_of_getElem? (i := 26) (by decide +kernel), List.mem_of_getElem? (i := 320) (by decide +kernel), List.mem_of_getElem? (i := 321) (by decide +kernel)⟩
theorem lw_p4 : lw_okq (⟨"EvenWire$Bans", "endsInWord", "(I)Z"⟩, 6) := ⟨⟨by decide +kernel, by decide +kernel⟩, List.mem_of_getElem? (i := 26) (by decide +kernel), List.mem_of_getElem? (i := 328) (by decide +kernel), List.mem_of_getElem? (i := 329) (by decide +kernel)⟩
theorem lw_p5 : lw_okq (⟨"EvenWire$Maker", "dropDead", "()V"⟩, 9) := ⟨⟨by decide +kernel, by decide +kernel⟩, List.mem_of_getElem? (i := 52) (by decide +kernel), List.mem_of_getElem? (i := 335) (by decide +kernel), List.mem_of_getElem? (i := 336) (by decide +kernel)⟩
theorem lw_p6 : lw_okq (⟨"EvenWire$Maker", "dropDeadOnce", "()Z"⟩, 9) := ⟨⟨by decide +kernel, by decide +kernel⟩, List.mem_of_getElem? (i := 52) (by decide +kernel), List.mem_of_getElem? (i := 339) (by decide +kernel), List.mem_of_getElem? (i := 340) (by decide +kernel)⟩
theorem lw_p7 : lw_okq (⟨"EvenWire$Maker", "groupAfter", "(II)I"⟩, 9) := ⟨⟨by decide +kernel, by decide +kernel⟩, List.mem_of_getElem? (i := 52) (by decide +kernel), List.mem_of_getElem? (i := 343) (by decide +kernel), List.mem_of_getElem? (i := 344) (by decide +kernel)⟩
theorem lw_p8 : lw_okq (⟨"EvenWire$Maker", "refine", "()Z"⟩, 9) := ⟨⟨by decide +kernel, by decide +kernel⟩, List.mem_of_getElem? (i := 52) (by decide +kernel), List.mem_of_getElem? (i := 347) (by decide +kernel), List.mem_of_getElem? (i := 348) (by decide +kernel)⟩
theorem lw_p9 : lw_okq (⟨"EvenWire$Maker", "split", "(I)Z"⟩, 9) := ⟨⟨by decide +kernel, by decide +kernel⟩, List.mem_of_getElem? (i := 52) (by decide +kernel), List.mem_of_getElem? (i := 351) (by decide +kernel), List.mem_of_getElem? (i := 352) (by decide +kernel)⟩
theorem lw_p10 : lw_okq (⟨"EvenWire$Wire", "adopt", "(II)V"⟩, 5) := ⟨⟨by decide +kernel, by decide +kernel⟩, List.mem_of_getElem? (i := 86) (by decide +kernel), List.mem_of_getElem? (i := 374) (by decide +kernel), List.mem_of_getElem? (i := 375) (by decide +kernel)⟩
theorem lw_p11 : lw_okq (⟨"EvenWire$Missing", "startAnywhere", "(LEvenWire$Wire;)V"⟩, 6) := ⟨⟨by decide +kernel, by decide +kernel⟩, List.mem_of_getElem? (i := 119) (by decide +kernel), List.mem_of_getElem? (i := 510) (by decide +kernel), List.mem_of_getElem? (i := 511) (by decide +kernel)⟩
theorem lw_p12 : lw_okq (⟨"EvenWire$Missing", "addEnd", "(II)V"⟩, 6) := ⟨⟨by decide +kernel, by decide +kernel⟩, List.mem_of_getElem? (i := 119) (by decide +kernel), List.mem_of_getElem? (i := 515) (by decide +kernel), List.mem_of_getElem? (i := 516) (by decide +kernel)⟩
theorem lw_p13 : lw_okq (⟨"EvenWire$Missing", "searchLength", "(LEvenWire$Wire;I)V"⟩, 6) := ⟨⟨by decide +kernel, by decide +kernel⟩, List.mem_of_getElem? (i := 119) (by decide +kernel), List.mem_of_getElem? (i := 519) (by decide +kernel), List.mem_of_getElem? (i := 520) (by decide +kernel)⟩
theorem lw_p14 : lw_okq (⟨"EvenWire$Missing", "goOn", "(LEvenWire$Wire;IJI)V"⟩, 6) := ⟨⟨by decide +kernel, by decide +kernel⟩, List.mem_of_getElem? (i := 119) (by decide +kernel), List.mem_of_getElem? (i := 523) (by decide +kernel), List.mem_of_getElem? (i := 524) (by decide +kernel)⟩
theorem lw_p15 : lw_okq (⟨"EvenWire$Weights", "weighEnds", "(LEvenWire$Wire;LEvenWire$Ladder;I)V"⟩, 1) := ⟨⟨by decide +kernel, by decide +kernel⟩, List.mem_of_getElem? (i := 144) (by decide +kernel), List.mem_of_getElem? (i := 572) (by decide +kernel), List.mem_of_getElem? (i := 573) (by decide +kernel)⟩
def lw_privs_1 : List (MethodName × Nat) := [(⟨"EvenWire$Bans", "toldOfWord", "(I)I"⟩, 6), (⟨"EvenWire$Maker", "explore", "(LEvenWire$Bans;)V"⟩, 9), (⟨"EvenWire$Maker", "placeFor", "(I)I"⟩, 9), (⟨"EvenWire$Bans", "breaksRuns", "(II)Z"⟩, 6), (⟨"EvenWire$Bans", "endsInWord", "(I)Z"⟩, 6), (⟨"EvenWire$Maker", "dropDead", "()V"⟩, 9), (⟨"EvenWire$Maker", "dropDeadOnce", "()Z"⟩, 9), (⟨"EvenWire$Maker", "groupAfter", "(II)I"⟩, 9), (⟨"EvenWire$Maker", "refine", "()Z"⟩, 9), (⟨"EvenWire$Maker", "split", "(I)Z"⟩, 9), (⟨"EvenWire$Wire", "adopt", "(II)V"⟩, 5), (⟨"EvenWire$Missing", "startAnywhere", "(LEvenWire$Wire;)V"⟩, 6), (⟨"EvenWire$Missing", "addEnd", "(II)V"⟩, 6), (⟨"EvenWire$Missing", "searchLength", "(LEvenWire$Wire;I)V"⟩, 6), (⟨"EvenWire$Missing", "goOn", "(LEvenWire$Wire;IJI)V"⟩, 6), (⟨"EvenWire$Weights", "weighEnds", "(LEvenWire$Wire;LEvenWire$Ladder;I)V"⟩, 1)]
theorem lw_r1 : ∀ q ∈ lw_privs_1, lw_okq q := List.forall_mem_cons.mpr ⟨lw_p0, List.forall_mem_cons.mpr ⟨lw_p1, List.forall_mem_cons.mpr ⟨lw_p2, List.forall_mem_cons.mpr ⟨lw_p3, List.forall_mem_cons.mpr ⟨lw_p4, List.forall_mem_cons.mpr ⟨lw_p5, List.forall_mem_cons.mpr ⟨lw_p6, List.forall_mem_cons.mpr ⟨lw_p7, List.forall_mem_cons.mpr ⟨lw_p8, List.forall_mem_cons.mpr ⟨lw_p9, List.forall_mem_cons.mpr ⟨lw_p10, List.forall_mem_cons.mpr ⟨lw_p11, List.forall_mem_cons.mpr ⟨lw_p12, List.forall_mem_cons.mpr ⟨lw_p13, List.forall_mem_cons.mpr ⟨lw_p14, List.forall_mem_cons.mpr ⟨lw_p15, fun _ h => absurd h List.not_mem_nil⟩⟩⟩⟩⟩⟩⟩⟩⟩⟩⟩⟩⟩⟩⟩⟩
theorem lw_p16 : lw_okq (⟨"EvenWire$Weights", "lower", "(LEvenWire$Wire;LEvenWire$Ladder;II)Z"⟩, 1) := ⟨⟨by decide +kernel, by decide +kernel⟩, List.mem_of_getElem? (i := 144) (by decide +kernel), List.mem_of_getElem? (i := 594) (by decide +kernel), List.mem_of_getElem? (i := 595) (by decide +kernel)⟩
theorem lw_p17 : lw_okq (⟨"EvenWire$Codebook", "dropPoor", "(LEvenWire$Wire;II)Z"⟩, 7) := ⟨⟨by decide +kernel, by decide +kernel⟩, List.mem_of_getElem? (i := 154) (by decide +kernel), List.mem_of_getElem? (i := 609) (by decide +kernel), List.mem_of_getElem? (i := 610) (by decide +kernel)⟩
theorem lw_p18 : lw_okq (⟨"EvenWire$Codebook", "enroll", "(LEvenWire$Wire;II)V"⟩, 7) := ⟨⟨by decide +kernel, by decide +kernel⟩, List.mem_of_getElem? (i := 154) (by decide +kernel), List.mem_of_getElem? (i := 616) (by decide +kernel), List.mem_of_getElem? (i := 617) (by decide +kernel)⟩
theorem lw_p19 : lw_okq (⟨"EvenWire$Codebook", "pieces", "(LEvenWire$Bits;)I"⟩, 7) := ⟨⟨by decide +kernel, by decide +kernel⟩, List.mem_of_getElem? (i := 154) (by decide +kernel), List.mem_of_getElem? (i := 706) (by decide +kernel), List.mem_of_getElem? (i := 707) (by decide +kernel)⟩
theorem lw_p20 : lw_okq (⟨"EvenWireModel", "findRaws", "()V"⟩, 42) := ⟨⟨by decide +kernel, by decide +kernel⟩, List.mem_of_getElem? (i := 809) (by decide +kernel), List.mem_of_getElem? (i := 976) (by decide +kernel), List.mem_of_getElem? (i := 977) (by decide +kernel)⟩
theorem lw_p21 : lw_okq (⟨"EvenWireModel", "rawOf", "(I)I"⟩, 42) := ⟨⟨by decide +kernel, by decide +kernel⟩, List.mem_of_getElem? (i := 809) (by decide +kernel), List.mem_of_getElem? (i := 983) (by decide +kernel), List.mem_of_getElem? (i := 984) (by decide +kernel)⟩
theorem lw_p22 : lw_okq (⟨"EvenWireModel", "behind", "(II)I"⟩, 42) := ⟨⟨by decide +kernel, by decide +kernel⟩, List.mem_of_getElem? (i := 809) (by decide +kernel), List.mem_of_getElem? (i := 987) (by decide +kernel), List.mem_of_getElem? (i := 988) (by decide +kernel)⟩
theorem lw_p23 : lw_okq (⟨"EvenWireModel", "endsBanned", "(I)Z"⟩, 42) := ⟨⟨by decide +kernel, by decide +kernel⟩, List.mem_of_getElem? (i := 809) (by decide +kernel), List.mem_of_getElem? (i := 991) (by decide +kernel), List.mem_of_getElem? (i := 992) (by decide +kernel)⟩
theorem lw_p24 : lw_okq (⟨"EvenWireModel", "longest", "()I"⟩, 42) := ⟨⟨by decide +kernel, by decide +kernel⟩, List.mem_of_getElem? (i := 809) (by decide +kernel), List.mem_of_getElem? (i := 995) (by decide +kernel), List.mem_of_getElem? (i := 996) (by decide +kernel)⟩
theorem lw_p25 : lw_okq (⟨"EvenWireModel", "prune", "()V"⟩, 42) := ⟨⟨by decide +kernel, by decide +kernel⟩, List.mem_of_getElem? (i := 809) (by decide +kernel), List.mem_of_getElem? (i := 999) (by decide +kernel), List.mem_of_getElem? (i := 1000) (by decide +kernel)⟩
theorem lw_p26 : lw_okq (⟨"EvenWireModel", "isAliveAt", "(I)Z"⟩, 42) := ⟨⟨by decide +kernel, by decide +kernel⟩, List.mem_of_getElem? (i := 809) (by decide +kernel), List.mem_of_getElem? (i := 1003) (by decide +kernel), List.mem_of_getElem? (i := 1004) (by decide +kernel)⟩
theorem lw_p27 : lw_okq (⟨"EvenWireModel", "refine", "()I"⟩, 42) := ⟨⟨by decide +kernel, by decide +kernel⟩, List.mem_of_getElem? (i := 809) (by decide +kernel), List.mem_of_getElem? (i := 1007) (by decide +kernel), List.mem_of_getElem? (i := 1008) (by decide +kernel)⟩
theorem lw_p28 : lw_okq (⟨"EvenWireModel", "signOf", "(II)I"⟩, 42) := ⟨⟨by decide +kernel, by decide +kernel⟩, List.mem_of_getElem? (i := 809) (by decide +kernel), List.mem_of_getElem? (i := 1011) (by decide +kernel), List.mem_of_getElem? (i := 1012) (by decide +kernel)⟩
theorem lw_p29 : lw_okq (⟨"EvenWireModel", "classAt", "(I)I"⟩, 42) := ⟨⟨by decide +kernel, by decide +kernel⟩, List.mem_of_getElem? (i := 809) (by decide +kernel), List.mem_of_getElem? (i := 1015) (by decide +kernel), List.mem_of_getElem? (i := 1016) (by decide +kernel)⟩
theorem lw_p30 : lw_okq (⟨"EvenWireModel", "stateOf", "(III)I"⟩, 42) := ⟨⟨by decide +kernel, by decide +kernel⟩, List.mem_of_getElem? (i := 809) (by decide +kernel), List.mem_of_getElem? (i := 1019) (by decide +kernel), List.mem_of_getElem? (i := 1020) (by decide +kernel)⟩
theorem lw_p31 : lw_okq (⟨"EvenWireModel", "isState", "(I)Z"⟩, 42) := ⟨⟨by decide +kernel, by decide +kernel⟩, List.mem_of_getElem? (i := 809) (by decide +kernel), List.mem_of_getElem? (i := 1031) (by decide +kernel), List.mem_of_getElem? (i := 1032) (by decide +kernel)⟩
def lw_privs_2 : List (MethodName × Nat) := [(⟨"EvenWire$Weights", "lower", "(LEvenWire$Wire;LEvenWire$Ladder;II)Z"⟩, 1), (⟨"EvenWire$Codebook", "dropPoor", "(LEvenWire$Wire;II)Z"⟩, 7), (⟨"EvenWire$Codebook", "enroll", "(LEvenWire$Wire;II)V"⟩, 7), (⟨"EvenWire$Codebook", "pieces", "(LEvenWire$Bits;)I"⟩, 7), (⟨"EvenWireModel", "findRaws", "()V"⟩, 42), (⟨"EvenWireModel", "rawOf", "(I)I"⟩, 42), (⟨"EvenWireModel", "behind", "(II)I"⟩, 42), (⟨"EvenWireModel", "endsBanned", "(I)Z"⟩, 42), (⟨"EvenWireModel", "longest", "()I"⟩, 42), (⟨"EvenWireModel", "prune", "()V"⟩, 42), (⟨"EvenWireModel", "isAliveAt", "(I)Z"⟩, 42), (⟨"EvenWireModel", "refine", "()I"⟩, 42), (⟨"EvenWireModel", "signOf", "(II)I"⟩, 42), (⟨"EvenWireModel", "classAt", "(I)I"⟩, 42), (⟨"EvenWireModel", "stateOf", "(III)I"⟩, 42), (⟨"EvenWireModel", "isState", "(I)Z"⟩, 42)]
theorem lw_r2 : ∀ q ∈ lw_privs_2, lw_okq q := List.forall_mem_cons.mpr ⟨lw_p16, List.forall_mem_cons.mpr ⟨lw_p17, List.forall_mem_cons.mpr ⟨lw_p18, List.forall_mem_cons.mpr ⟨lw_p19, List.forall_mem_cons.mpr ⟨lw_p20, List.forall_mem_cons.mpr ⟨lw_p21, List.forall_mem_cons.mpr ⟨lw_p22, List.forall_mem_cons.mpr ⟨lw_p23, List.forall_mem_cons.mpr ⟨lw_p24, List.forall_mem_cons.mpr ⟨lw_p25, List.forall_mem_cons.mpr ⟨lw_p26, List.forall_mem_cons.mpr ⟨lw_p27, List.forall_mem_cons.mpr ⟨lw_p28, List.forall_mem_cons.mpr ⟨lw_p29, List.forall_mem_cons.mpr ⟨lw_p30, List.forall_mem_cons.mpr ⟨lw_p31, fun _ h => absurd h List.not_mem_nil⟩⟩⟩⟩⟩⟩⟩⟩⟩⟩⟩⟩⟩⟩⟩⟩
theorem lw_p32 : lw_okq (⟨"EvenWireModel", "goes", "(II)I"⟩, 42) := ⟨⟨by decide +kernel, by decide +kernel⟩, List.mem_of_getElem? (i := 809) (by decide +kernel), List.mem_of_getElem? (i := 1035) (by decide +kernel), List.mem_of_getElem? (i := 1036) (by decide +kernel)⟩
theorem lw_p33 : lw_okq (⟨"EvenWireModel", "walks", "(IJI)I"⟩, 42) := ⟨⟨by decide +kernel, by decide +kernel⟩, List.mem_of_getElem? (i := 809) (by decide +kernel), List.mem_of_getElem? (i := 1047) (by decide +kernel), List.mem_of_getElem? (i := 1048) (by decide +kernel)⟩
theorem lw_p34 : lw_okq (⟨"EvenWireModel", "tellMany", "(I)V"⟩, 42) := ⟨⟨by decide +kernel, by decide +kernel⟩, List.mem_of_getElem? (i := 809) (by decide +kernel), List.mem_of_getElem? (i := 1060) (by decide +kernel), List.mem_of_getElem? (i := 1061) (by decide +kernel)⟩
theorem lw_p35 : lw_okq (⟨"EvenWireModel", "reachFrom", "(II)V"⟩, 42) := ⟨⟨by decide +kernel, by decide +kernel⟩, List.mem_of_getElem? (i := 809) (by decide +kernel), List.mem_of_getElem? (i := 1078) (by decide +kernel), List.mem_of_getElem? (i := 1079) (by decide +kernel)⟩
theorem lw_p36 : lw_okq (⟨"EvenWireModel", "comes", "(II)Z"⟩, 42) := ⟨⟨by decide +kernel, by decide +kernel⟩, List.mem_of_getElem? (i := 809) (by decide +kernel), List.mem_of_getElem? (i := 1086) (by decide +kernel), List.mem_of_getElem? (i := 1087) (by decide +kernel)⟩
theorem lw_p37 : lw_okq (⟨"EvenWireModel", "allWeights", "()I"⟩, 42) := ⟨⟨by decide +kernel, by decide +kernel⟩, List.mem_of_getElem? (i := 809) (by decide +kernel), List.mem_of_getElem? (i := 1107) (by decide +kernel), List.mem_of_getElem? (i := 1108) (by decide +kernel)⟩
theorem lw_p38 : lw_okq (⟨"EvenWireModel", "weighed", "(II)J"⟩, 42) := ⟨⟨by decide +kernel, by decide +kernel⟩, List.mem_of_getElem? (i := 809) (by decide +kernel), List.mem_of_getElem? (i := 1111) (by decide +kernel), List.mem_of_getElem? (i := 1112) (by decide +kernel)⟩
theorem lw_p39 : lw_okq (⟨"EvenWireModel", "leading", "(I)I"⟩, 42) := ⟨⟨by decide +kernel, by decide +kernel⟩, List.mem_of_getElem? (i := 809) (by decide +kernel), List.mem_of_getElem? (i := 1125) (by decide +kernel), List.mem_of_getElem? (i := 1126) (by decide +kernel)⟩
theorem lw_p40 : lw_okq (⟨"EvenWireModel", "wordAt", "(II)I"⟩, 42) := ⟨⟨by decide +kernel, by decide +kernel⟩, List.mem_of_getElem? (i := 809) (by decide +kernel), List.mem_of_getElem? (i := 1137) (by decide +kernel), List.mem_of_getElem? (i := 1138) (by decide +kernel)⟩
theorem lw_p41 : lw_okq (⟨"EvenWireModel", "isMemberAt", "(I)Z"⟩, 42) := ⟨⟨by decide +kernel, by decide +kernel⟩, List.mem_of_getElem? (i := 809) (by decide +kernel), List.mem_of_getElem? (i := 1141) (by decide +kernel), List.mem_of_getElem? (i := 1142) (by decide +kernel)⟩
theorem lw_p42 : lw_okq (⟨"EvenWireModel", "readAt", "(II)I"⟩, 42) := ⟨⟨by decide +kernel, by decide +kernel⟩, List.mem_of_getElem? (i := 809) (by decide +kernel), List.mem_of_getElem? (i := 1149) (by decide +kernel), List.mem_of_getElem? (i := 1150) (by decide +kernel)⟩
theorem lw_p43 : lw_okq (⟨"EvenWireModel", "tellLead", "()I"⟩, 42) := ⟨⟨by decide +kernel, by decide +kernel⟩, List.mem_of_getElem? (i := 809) (by decide +kernel), List.mem_of_getElem? (i := 1169) (by decide +kernel), List.mem_of_getElem? (i := 1170) (by decide +kernel)⟩
theorem lw_p44 : lw_okq (⟨"EvenWireModel", "home", "()I"⟩, 42) := ⟨⟨by decide +kernel, by decide +kernel⟩, List.mem_of_getElem? (i := 809) (by decide +kernel), List.mem_of_getElem? (i := 1173) (by decide +kernel), List.mem_of_getElem? (i := 1174) (by decide +kernel)⟩
def lw_privs_3 : List (MethodName × Nat) := [(⟨"EvenWireModel", "goes", "(II)I"⟩, 42), (⟨"EvenWireModel", "walks", "(IJI)I"⟩, 42), (⟨"EvenWireModel", "tellMany", "(I)V"⟩, 42), (⟨"EvenWireModel", "reachFrom", "(II)V"⟩, 42), (⟨"EvenWireModel", "comes", "(II)Z"⟩, 42), (⟨"EvenWireModel", "allWeights", "()I"⟩, 42), (⟨"EvenWireModel", "weighed", "(II)J"⟩, 42), (⟨"EvenWireModel", "leading", "(I)I"⟩, 42), (⟨"EvenWireModel", "wordAt", "(II)I"⟩, 42), (⟨"EvenWireModel", "isMemberAt", "(I)Z"⟩, 42), (⟨"EvenWireModel", "readAt", "(II)I"⟩, 42), (⟨"EvenWireModel", "tellLead", "()I"⟩, 42), (⟨"EvenWireModel", "home", "()I"⟩, 42)]
theorem lw_r3 : ∀ q ∈ lw_privs_3, lw_okq q := List.forall_mem_cons.mpr ⟨lw_p32, List.forall_mem_cons.mpr ⟨lw_p33, List.forall_mem_cons.mpr ⟨lw_p34, List.forall_mem_cons.mpr ⟨lw_p35, List.forall_mem_cons.mpr ⟨lw_p36, List.forall_mem_cons.mpr ⟨lw_p37, List.forall_mem_cons.mpr ⟨lw_p38, List.forall_mem_cons.mpr ⟨lw_p39, List.forall_mem_cons.mpr ⟨lw_p40, List.forall_mem_cons.mpr ⟨lw_p41, List.forall_mem_cons.mpr ⟨lw_p42, List.forall_mem_cons.mpr ⟨lw_p43, List.forall_mem_cons.mpr ⟨lw_p44, fun _ h => absurd h List.not_mem_nil⟩⟩⟩⟩⟩⟩⟩⟩⟩⟩⟩⟩⟩
def lw_privs : List (MethodName × Nat) := lw_privs_1 ++ (lw_privs_2 ++ (lw_privs_3))
def lw_tbl : List Cond := k2_sels lw_privs ++ tables_1
theorem lw_privs_ok : ∀ q ∈ lw_privs, lw_okq q := by
  show ∀ q ∈ lw_privs_1 ++ (lw_privs_2 ++ (lw_privs_3)), lw_okq q
  exact List.forall_mem_append.mpr ⟨lw_r1, List.forall_mem_append.mpr ⟨lw_r2, lw_r3⟩⟩
-- names: classes, fields in the order of the slots, types (out of the printed names)
def RX0 : String := "EvenWire$Bans"
def TX0 : u_T := fun k => match k with
  | 0 => ("EvenWire$Bans", "wordBits", "[I", true)
  | 1 => ("EvenWire$Bans", "wordLengths", "[I", true)
  | 2 => ("EvenWire$Bans", "words", "I", false)
  | 3 => ("EvenWire$Bans", "fewest", "I", false)
  | 4 => ("EvenWire$Bans", "most", "I", false)
  | _ => ("EvenWire$Bans", "lean", "I", false)
def tyX0 : Nat → FieldType := fun k => match k with
  | 0 => .array .int
  | 1 => .array .int
  | 2 => .int
  | 3 => .int
  | 4 => .int
  | _ => .int
abbrev wsX00 : List Cond := u_ws RX0 TX0 6
theorem nmX0 : ∀ a, a < 6 → ∀ b, b < 6 → a ≠ b → (TX0 a).2.1 ≠ (TX0 b).2.1 := by decide +kernel
theorem tyX0_ok : ∀ k, k < 6 → parseFieldDescriptor (TX0 k).2.2.1 = some (tyX0 k) := by decide +kernel
def RX1 : String := "EvenWire$Bits"
def TX1 : u_T := fun k => match k with
  | 0 => ("EvenWire$Bits", "bits", "[I", true)
  | _ => ("EvenWire$Bits", "size", "I", false)
def tyX1 : Nat → FieldType := fun k => match k with
  | 0 => .array .int
  | _ => .int
abbrev wsX10 : List Cond := u_ws RX1 TX1 2
theorem nmX1 : ∀ a, a < 2 → ∀ b, b < 2 → a ≠ b → (TX1 a).2.1 ≠ (TX1 b).2.1 := by decide +kernel
theorem tyX1_ok : ∀ k, k < 2 → parseFieldDescriptor (TX1 k).2.2.1 = some (tyX1 k) := by decide +kernel
def RX2 : String := "EvenWire$Codebook"
def TX2 : u_T := fun k => match k with
  | 0 => ("EvenWire$Codebook", "toMembers", "LEvenWire$Ladder;", true)
  | 1 => ("EvenWire$Codebook", "members", "[I", true)
  | 2 => ("EvenWire$Codebook", "lead", "LEvenWire$Bits;", true)
  | 3 => ("EvenWire$Codebook", "size", "I", false)
  | 4 => ("EvenWire$Codebook", "pieceLength", "I", false)
  | 5 => ("EvenWire$Codebook", "wordLength", "I", false)
  | _ => ("EvenWire$Codebook", "home", "I", false)
def tyX2 : Nat → FieldType := fun k => match k with
  | 0 => .object "EvenWire$Ladder"
  | 1 => .array .int
  | 2 => .object "EvenWire$Bits"
  | 3 => .int
  | 4 => .int
  | 5 => .int
  | _ => .int
abbrev wsX20 : List Cond := u_ws RX2 TX2 7
theorem nmX2 : ∀ a, a < 7 → ∀ b, b < 7 → a ≠ b → (TX2 a).2.1 ≠ (TX2 b).2.1 := by decide +kernel
theorem tyX2_ok : ∀ k, k < 7 → parseFieldDescriptor (TX2 k).2.2.1 = some (tyX2 k) := by decide +kernel
def RX3 : String := "EvenWire$Ladder"
def TX3 : u_T := fun k => match k with
  | _ => ("EvenWire$Ladder", "sums", "[J", true)
def tyX3 : Nat → FieldType := fun k => match k with
  | _ => .array .long
abbrev wsX30 : List Cond := u_ws RX3 TX3 1
theorem nmX3 : ∀ a, a < 1 → ∀ b, b < 1 → a ≠ b → (TX3 a).2.1 ≠ (TX3 b).2.1 := by decide +kernel
theorem tyX3_ok : ∀ k, k < 1 → parseFieldDescriptor (TX3 k).2.2.1 = some (tyX3 k) := by decide +kernel
def RX4 : String := "EvenWire$Maker"
def TX4 : u_T := fun k => match k with
  | 0 => ("EvenWire$Maker", "placeOf", "[I", true)
  | 1 => ("EvenWire$Maker", "keys", "[I", true)
  | 2 => ("EvenWire$Maker", "next", "[I", true)
  | 3 => ("EvenWire$Maker", "group", "[I", true)
  | 4 => ("EvenWire$Maker", "fresh", "[I", true)
  | 5 => ("EvenWire$Maker", "table", "[I", true)
  | 6 => ("EvenWire$Maker", "base", "I", false)
  | 7 => ("EvenWire$Maker", "found", "I", false)
  | _ => ("EvenWire$Maker", "groups", "I", false)
def tyX4 : Nat → FieldType := fun k => match k with
  | 0 => .array .int
  | 1 => .array .int
  | 2 => .array .int
  | 3 => .array .int
  | 4 => .array .int
  | 5 => .array .int
  | 6 => .int
  | 7 => .int
  | _ => .int
abbrev wsX40 : List Cond := u_ws RX4 TX4 9
theorem nmX4 : ∀ a, a < 9 → ∀ b, b < 9 → a ≠ b → (TX4 a).2.1 ≠ (TX4 b).2.1 := by decide +kernel
theorem tyX4_ok : ∀ k, k < 9 → parseFieldDescriptor (TX4 k).2.2.1 = some (tyX4 k) := by decide +kernel
def RX5 : String := "EvenWire$Missing"
def TX5 : u_T := fun k => match k with
  | 0 => ("EvenWire$Missing", "low", "[J", true)
  | 1 => ("EvenWire$Missing", "high", "[J", true)
  | 2 => ("EvenWire$Missing", "searched", "I", false)
  | 3 => ("EvenWire$Missing", "length", "I", false)
  | 4 => ("EvenWire$Missing", "bits", "I", false)
  | _ => ("EvenWire$Missing", "last", "I", false)
def tyX5 : Nat → FieldType := fun k => match k with
  | 0 => .array .long
  | 1 => .array .long
  | 2 => .int
  | 3 => .int
  | 4 => .int
  | _ => .int
abbrev wsX50 : List Cond := u_ws RX5 TX5 6
theorem nmX5 : ∀ a, a < 6 → ∀ b, b < 6 → a ≠ b → (TX5 a).2.1 ≠ (TX5 b).2.1 := by decide +kernel
theorem tyX5_ok : ∀ k, k < 6 → parseFieldDescriptor (TX5 k).2.2.1 = some (tyX5 k) := by decide +kernel
def RX6 : String := "EvenWire$Weights"
def TX6 : u_T := fun k => match k with
  | _ => ("EvenWire$Weights", "weights", "[I", true)
def tyX6 : Nat → FieldType := fun k => match k with
  | _ => .array .int
abbrev wsX60 : List Cond := u_ws RX6 TX6 1
theorem nmX6 : ∀ a, a < 1 → ∀ b, b < 1 → a ≠ b → (TX6 a).2.1 ≠ (TX6 b).2.1 := by decide +kernel
theorem tyX6_ok : ∀ k, k < 1 → parseFieldDescriptor (TX6 k).2.2.1 = some (tyX6 k) := by decide +kernel
def RX7 : String := "EvenWire$Wire"
def TX7 : u_T := fun k => match k with
  | 0 => ("EvenWire$Wire", "next", "[I", true)
  | 1 => ("EvenWire$Wire", "parent", "[I", true)
  | 2 => ("EvenWire$Wire", "lastBit", "[I", true)
  | 3 => ("EvenWire$Wire", "depth", "[I", true)
  | _ => ("EvenWire$Wire", "size", "I", false)
def tyX7 : Nat → FieldType := fun k => match k with
  | 0 => .array .int
  | 1 => .array .int
  | 2 => .array .int
  | 3 => .array .int
  | _ => .int
abbrev wsX70 : List Cond := u_ws RX7 TX7 5
theorem nmX7 : ∀ a, a < 5 → ∀ b, b < 5 → a ≠ b → (TX7 a).2.1 ≠ (TX7 b).2.1 := by decide +kernel
theorem tyX7_ok : ∀ k, k < 5 → parseFieldDescriptor (TX7 k).2.2.1 = some (tyX7 k) := by decide +kernel
def RX8 : String := "EvenWire"
def TX8 : u_T := fun k => match k with
  | 0 => ("EvenWire", "bans", "LEvenWire$Bans;", true)
  | 1 => ("EvenWire", "maker", "LEvenWire$Maker;", true)
  | 2 => ("EvenWire", "wire", "LEvenWire$Wire;", true)
  | 3 => ("EvenWire", "anywhere", "LEvenWire$Ladder;", true)
  | 4 => ("EvenWire", "paths", "LEvenWire$Ladder;", true)
  | 5 => ("EvenWire", "missing", "LEvenWire$Missing;", true)
  | 6 => ("EvenWire", "weights", "LEvenWire$Weights;", true)
  | 7 => ("EvenWire", "codebook", "LEvenWire$Codebook;", true)
  | 8 => ("EvenWire", "messageBits", "LEvenWire$Bits;", true)
  | 9 => ("EvenWire", "plateBits", "LEvenWire$Bits;", true)
  | 10 => ("EvenWire", "draft", "LEvenWire$Bits;", true)
  | _ => ("EvenWire", "builds", "I", false)
def tyX8 : Nat → FieldType := fun k => match k with
  | 0 => .object "EvenWire$Bans"
  | 1 => .object "EvenWire$Maker"
  | 2 => .object "EvenWire$Wire"
  | 3 => .object "EvenWire$Ladder"
  | 4 => .object "EvenWire$Ladder"
  | 5 => .object "EvenWire$Missing"
  | 6 => .object "EvenWire$Weights"
  | 7 => .object "EvenWire$Codebook"
  | 8 => .object "EvenWire$Bits"
  | 9 => .object "EvenWire$Bits"
  | 10 => .object "EvenWire$Bits"
  | _ => .int
abbrev wsX80 : List Cond := u_ws RX8 TX8 12
theorem nmX8 : ∀ a, a < 12 → ∀ b, b < 12 → a ≠ b → (TX8 a).2.1 ≠ (TX8 b).2.1 := by decide +kernel
theorem tyX8_ok : ∀ k, k < 12 → parseFieldDescriptor (TX8 k).2.2.1 = some (tyX8 k) := by decide +kernel
def RX9 : String := "EvenWireModel"
def TX9 : u_T := fun k => match k with
  | 0 => ("EvenWireModel", "d", "I", false)
  | 1 => ("EvenWireModel", "k", "I", false)
  | 2 => ("EvenWireModel", "words", "I", false)
  | 3 => ("EvenWireModel", "wordBits", "[I", true)
  | 4 => ("EvenWireModel", "wordSize", "[I", true)
  | 5 => ("EvenWireModel", "lean", "I", false)
  | 6 => ("EvenWireModel", "indexOf", "[I", true)
  | 7 => ("EvenWireModel", "raws", "I", false)
  | 8 => ("EvenWireModel", "rawCode", "[I", true)
  | 9 => ("EvenWireModel", "rawZero", "[I", true)
  | 10 => ("EvenWireModel", "rawOne", "[I", true)
  | 11 => ("EvenWireModel", "isAlive", "[Z", true)
  | 12 => ("EvenWireModel", "classOf", "[I", true)
  | 13 => ("EvenWireModel", "newClass", "[I", true)
  | 14 => ("EvenWireModel", "signOwn", "[I", true)
  | 15 => ("EvenWireModel", "signZero", "[I", true)
  | 16 => ("EvenWireModel", "signOne", "[I", true)
  | 17 => ("EvenWireModel", "states", "I", false)
  | 18 => ("EvenWireModel", "goZero", "[I", true)
  | 19 => ("EvenWireModel", "goOne", "[I", true)
  | 20 => ("EvenWireModel", "parent", "[I", true)
  | 21 => ("EvenWireModel", "byBit", "[I", true)
  | 22 => ("EvenWireModel", "depth", "[I", true)
  | 23 => ("EvenWireModel", "numberOf", "[I", true)
  | 24 => ("EvenWireModel", "rawFirst", "[I", true)
  | 25 => ("EvenWireModel", "weights", "[I", true)
  | 26 => ("EvenWireModel", "builds", "I", false)
  | 27 => ("EvenWireModel", "marked", "I", false)
  | 28 => ("EvenWireModel", "many", "[J", true)
  | 29 => ("EvenWireModel", "reach", "[I", true)
  | 30 => ("EvenWireModel", "before", "[I", true)
  | 31 => ("EvenWireModel", "table", "[I", true)
  | 32 => ("EvenWireModel", "members", "I", false)
  | 33 => ("EvenWireModel", "codeM", "I", false)
  | 34 => ("EvenWireModel", "codeN", "I", false)
  | 35 => ("EvenWireModel", "isMember", "[Z", true)
  | 36 => ("EvenWireModel", "said", "I", false)
  | 37 => ("EvenWireModel", "message", "[I", true)
  | 38 => ("EvenWireModel", "size", "I", false)
  | 39 => ("EvenWireModel", "plate", "[I", true)
  | 40 => ("EvenWireModel", "draft", "[I", true)
  | _ => ("EvenWireModel", "lead", "[I", true)
def tyX9 : Nat → FieldType := fun k => match k with
  | 0 => .int
  | 1 => .int
  | 2 => .int
  | 3 => .array .int
  | 4 => .array .int
  | 5 => .int
  | 6 => .array .int
  | 7 => .int
  | 8 => .array .int
  | 9 => .array .int
  | 10 => .array .int
  | 11 => .array .boolean
  | 12 => .array .int
  | 13 => .array .int
  | 14 => .array .int
  | 15 => .array .int
  | 16 => .array .int
  | 17 => .int
  | 18 => .array .int
  | 19 => .array .int
  | 20 => .array .int
  | 21 => .array .int
  | 22 => .array .int
  | 23 => .array .int
  | 24 => .array .int
  | 25 => .array .int
  | 26 => .int
  | 27 => .int
  | 28 => .array .long
  | 29 => .array .int
  | 30 => .array .int
  | 31 => .array .int
  | 32 => .int
  | 33 => .int
  | 34 => .int
  | 35 => .array .boolean
  | 36 => .int
  | 37 => .array .int
  | 38 => .int
  | 39 => .array .int
  | 40 => .array .int
  | _ => .array .int
abbrev wsX90 : List Cond := u_ws RX9 TX9 42
theorem nmX9 : ∀ a, a < 42 → ∀ b, b < 42 → a ≠ b → (TX9 a).2.1 ≠ (TX9 b).2.1 := by decide +kernel
theorem tyX9_ok : ∀ k, k < 42 → parseFieldDescriptor (TX9 k).2.2.1 = some (tyX9 k) := by decide +kernel
abbrev CL : List vw_C := [(RX0, TX0, 6), (RX1, TX1, 2), (RX2, TX2, 7), (RX3, TX3, 1), (RX4, TX4, 9), (RX5, TX5, 6), (RX6, TX6, 1), (RX7, TX7, 5), (RX8, TX8, 12), (RX9, TX9, 42)]
theorem t01 : 1 = 1 := rfl
