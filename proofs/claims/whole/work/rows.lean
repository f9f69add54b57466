section
-- ===== PART A: goes FIRST, ahead of the names: the tables' words, and 'selects' of the private methods out of them =====
/-- a private method of a class that the tables say can be made, by its rows of tables_1 -/
def lw_okq (q : MethodName × Nat) : Prop := (q.1.cls ≠ "java/lang/invoke/MethodHandle" ∧ q.1.cls ≠ "java/lang/invoke/VarHandle") ∧ Cond.instantiable q.1.cls q.2 ∈ tables_1 ∧ Cond.privateMethod q.1 ∈ tables_1 ∧ Cond.instanceMethod q.1 ∈ tables_1
theorem lw_p0 : lw_okq (⟨"EvenWire$Bans", "toldOfWord", "(I)I"⟩, 6) := ⟨⟨by decide +kernel, by decide +kernel⟩, List.mem_of_getElem? (i := 26) (by decide +kernel), List.mem_of_getElem? (i := 282) (by decide +kernel), List.mem_of_getElem? (i := 283) (by decide +kernel)⟩
theorem lw_p1 : lw_okq (⟨"EvenWire$Maker", "explore", "(LEvenWire$Bans;)V"⟩, 9) := ⟨⟨by decide +kernel, by decide +kernel⟩, List.mem_of_getElem? (i := 52) (by decide +kernel), List.mem_of_getElem? (i := 294) (by decide +kernel), List.mem_of_getElem? (i := 295) (by decide +kernel)⟩
theorem lw_p2 : lw_okq (⟨"EvenWire$Maker", "placeFor", "(I)I"⟩, 9) := ⟨⟨by decide +kernel, by decide +kernel⟩, List.mem_of_getElem? (i := 52) (by decide +kernel), List.mem_of_getElem? (i := 312) (by decide +kernel), List.mem_of_getElem? (i := 313) (by decide +kernel)⟩
theorem lw_p3 : lw_okq (⟨"EvenWire$Bans", "breaksRuns", "(II)Z"⟩, 6) := ⟨⟨by decide +kernel, by decide +kernel⟩, List.mem_of_getElem? (i := 26) (by decide +kernel), List.mem_of_getElem? (i := 320) (by decide +kernel), List.mem_of_getElem? (i := 321) (by decide +kernel)⟩
theorem lw_p4 : lw_okq (⟨"EvenWire$Bans", "endsInWord", "(I)Z"⟩, 6) := ⟨⟨by decide +kernel, by decide +kernel⟩, List.mem_of_getElem? (i := 26) (by decide +kernel), List.mem_of_getElem? (i := 328) (by decide +kernel), List.mem_of_getElem? (i := 329) (by decide +kernel)⟩
theorem lw_p5 : lw_okq (⟨"EvenWire$Maker", "dropDead", "()V"⟩, 9) := ⟨⟨by decide +kernel, by decide +kernel⟩, List.mem_of_getElem? (i := 52) (by decide +kernel), List.mem_of_getElem? (i := 335) (by decide +kernel), List.mem_of_getElem? (i := 336) (by decide +kernel)⟩
theorem lw_p6 : lw_okq (⟨"EvenWire$Maker", "dropDeadOnce", "()Z"⟩, 9) := ⟨⟨by decide +kernel, by decide +kernel⟩, List.mem_of_getElem? (i := 52) (by decide +kernel), List.mem_of_getElem? (i := 339) (by decide +kernel), List.mem_of_getElem? (i := 340) (by decide +kernel)⟩
theorem lw_p7 : lw_okq (⟨"EvenWire$Maker", "groupAfter", "(II)I"⟩, 9) := ⟨⟨by decide +kernel, by decide +kernel⟩, List.mem_of_getElem? (i := 52) (by decide +kernel), List.mem_of_getElem? (i := 343) (by decide +kernel), List.mem_of_getElem? (i := 344) (by decide +kernel)⟩
theorem lw_p8 : lw_okq (⟨"EvenWire$Maker", "refine", "()Z"⟩, 9) := ⟨⟨by decide +kernel, by decide +kernel⟩, List.mem_of_getElem? (i := 52) (by decide +kernel), List.mem_of_getElem? (i := 347) (by decide +kernel), List.mem_of_getElem? (i := 348) (by decide +kernel)⟩
theorem lw_p9 : lw_okq (⟨"EvenWire$Maker", "split", "(I)Z"⟩, 9) := ⟨⟨by decide +kernel, by decide +kernel⟩, List.mem_of_getElem? (i := 52) (by decide +kernel), List.mem_of_getElem? (i := 351) (by decide +kernel), List.mem_of_getElem? (i := 352) (by decide +kernel)⟩
theorem lw_p10 : lw_okq (⟨"EvenWire$Wire", "adopt", "(II)V"⟩, 5) := ⟨⟨by decide +kernel, by decide +kernel⟩, List.mem_of_getElem? (i := 86) (by decide +kernel), List.mem_of_getElem? (i := 374) (by decide +kernel), List.mem_of_getElem? (i := 375) (by decide +kernel)⟩
theorem lw_p11 : lw_okq (⟨"EvenWire$Missing", "startAnywhere", "(LEvenWire$Wire;)V"⟩, 6) := ⟨⟨by decide +kernel, by decide +kernel⟩, List.mem_of_getElem? (i := 119) (by decide +kernel), List.mem_of_getElem? (i := 510) (by decide +kernel), List.mem_of_getElem? (i := 511) (by decide +kernel)⟩
theorem lw_p12 : lw_okq (⟨"EvenWire$Missing", "addEnd", "(II)V"⟩, 6) := ⟨⟨by decide +kernel, by decide +kernel⟩, List.mem_of_getElem? (i := 119) (by decide +kernel), List.mem_of_getElem? (i := 515) (by decide +kernel), List.mem_of_getElem? (i := 516) (by decide +kernel)⟩
theorem lw_p13 : lw_okq (⟨"EvenWire$Missing", "searchLength", "(LEvenWire$Wire;I)V"⟩, 6) := ⟨⟨by decide +kernel, by decide +kernel⟩, List.mem_of_getElem? (i := 119) (by decide +kernel), List.mem_of_getElem? (i := 519) (by decide +kernel), List.mem_of_getElem? (i := 520) (by decide +kernel)⟩
theorem lw_p14 : lw_okq (⟨"EvenWire$Missing", "goOn", "(LEvenWire$Wire;IJI)V"⟩, 6) := ⟨⟨by decide +kernel, by decide +kernel⟩, List.mem_of_getElem? (i := 119) (by decide +kernel), List.mem_of_getElem? (i := 523) (by decide +kernel), List.mem_of_getElem? (i := 524) (by decide +kernel)⟩
theorem lw_p15 : lw_okq (⟨"EvenWire$Weights", "weighEnds", "(LEvenWire$Wire;LEvenWire$Ladder;I)V"⟩, 1) := ⟨⟨by decide +kernel, by decide +kernel⟩, List.mem_of_getElem? (i := 144) (by decide +kernel), List.mem_of_getElem? (i := 572) (by decide +kernel), List.mem_of_getElem? (i := 573) (by decide +kernel)⟩
def lw_privs_1 : List (MethodName × Nat) := [(⟨"EvenWire$Bans", "toldOfWord", "(I)I"⟩, 6), (⟨"EvenWire$Maker", "explore", "(LEvenWire$Bans;)V"⟩, 9), (⟨"EvenWire$Maker", "placeFor", "(I)I"⟩, 9), (⟨"EvenWire$Bans", "breaksRuns", "(II)Z"⟩, 6), (⟨"EvenWire$Bans", "endsInWord", "(I)Z"⟩, 6), (⟨"EvenWire$Maker", "dropDead", "()V"⟩, 9), (⟨"EvenWire$Maker", "dropDeadOnce", "()Z"⟩, 9), (⟨"EvenWire$Maker", "groupAfter", "(II)I"⟩, 9), (⟨"EvenWire$Maker", "refine", "()Z"⟩, 9), (⟨"EvenWire$Maker", "split", "(I)Z"⟩, 9), (⟨"EvenWire$Wire", "adopt", "(II)V"⟩, 5), (⟨"EvenWire$Missing", "startAnywhere", "(LEvenWire$Wire;)V"⟩, 6), (⟨"EvenWire$Missing", "addEnd", "(II)V"⟩, 6), (⟨"EvenWire$Missing", "searchLength", "(LEvenWire$Wire;I)V"⟩, 6), (⟨"EvenWire$Missing", "goOn", "(LEvenWire$Wire;IJI)V"⟩, 6), (⟨"EvenWire$Weights", "weighEnds", "(LEvenWire$Wire;LEvenWire$Ladder;I)V"⟩, 1)]
theorem lw_r1 : ∀ q ∈ lw_privs_1, lw_okq q := List.forall_mem_cons.mpr ⟨lw_p0, List.forall_mem_cons.mpr ⟨lw_p1, List.forall_mem_cons.mpr ⟨lw_p2, List.forall_mem_cons.mpr ⟨lw_p3, List.forall_mem_cons.mpr ⟨lw_p4, List.forall_mem_cons.mpr ⟨lw_p5, List.forall_mem_cons.mpr ⟨lw_p6, List.forall_mem_cons.mpr ⟨lw_p7, List.forall_mem_cons.mpr ⟨lw_p8, List.forall_mem_cons.mpr ⟨lw_p9, List.forall_mem_cons.mpr ⟨lw_p10, List.forall_mem_cons.mpr ⟨lw_p11, List.forall_mem_cons.mpr ⟨lw_p12, List.forall_mem_cons.mpr ⟨lw_p13, List.forall_mem_cons.mpr ⟨lw_p14, List.forall_mem_cons.mpr ⟨lw_p15, fun _ h => absurd h List.not_mem_nil⟩⟩⟩⟩⟩⟩⟩⟩⟩⟩⟩⟩⟩⟩⟩⟩
theorem lw_p16 : lw_okq (⟨"EvenWire$Weights", "lower", "(LEvenWire$Wire;LEvenWire$Ladder;II)Z"⟩, 1) := ⟨⟨by decide +kernel, by decide +kernel⟩, List.mem_of_getElem? (i := 144) (by decide +kernel), List.mem_of_getElem? (i := 594) (by decide +kernel), List.mem_of_getElem? (i := 595) (by decide +kernel)⟩
theorem lw_p17 : lw_okq (⟨"EvenWire$Codebook", "dropPoor", "(LEvenWire$Wire;II)Z"⟩, 7) := ⟨⟨by decide +kernel, by decide +kernel⟩, List.mem_of_getElem? (i := 154) (by decide +kernel), List.mem_of_getElem? (i := 609) (by decide +kernel), List.mem_of_getElem? (i := 610) (by decide +kernel)⟩
theorem lw_p18 : lw_okq (⟨"EvenWire$Codebook", "enroll", "(LEvenWire$Wire;II)V"⟩, 7) := ⟨⟨by decide +kernel, by decide +kernel⟩, List.mem_of_getElem? (i := 154) (by decide +kernel), List.mem_of_getElem? (i := 616) (by decide +kernel), List.mem_of_getElem? (i := 617) (by decide +kernel)⟩
theorem lw_p19 : lw_okq (⟨"EvenWire$Codebook", "pieces", "(LEvenWire$Bits;)I"⟩, 7) := ⟨⟨by decide +kernel, by decide +kernel⟩, List.mem_of_getElem? (i := 154) (by decide +kernel), List.mem_of_getElem? (i := 706) (by decide +kernel), List.mem_of_getElem? (i := 707) (by decide +kernel)⟩
theorem lw_p20 : lw_okq (⟨"EvenWireModel", "findRaws", "()V"⟩, 42) := ⟨⟨by decide +kernel, by decide +kernel⟩, List.mem_of_getElem? (i := 809) (by decide +kernel), List.mem_of_getElem? (i := 976) (by decide +kernel), List.mem_of_getElem? (i := 977) (by decide +kernel)⟩
theorem lw_p21 : lw_okq (⟨"EvenWireModel", "rawOf", "(I)I"⟩, 42) := ⟨⟨by decide +kernel, by decide +kernel⟩, List.mem_of_getElem? (i := 809) (by decide +kernel), List.mem_of_getElem? (i := 983) (by decide +kernel), List.mem_of_getElem? (i := 984) (by decide +kernel)⟩
theorem lw_p22 : lw_okq (⟨"EvenWireModel", "behind", "(II)I"⟩, 42) := ⟨⟨by decide +kernel, by decide +kernel⟩, List.mem_of_getElem? (i := 809) (by decide +kernel), List.mem_of_getElem? (i := 987) (by decide +kernel), List.mem_of_getElem? (i := 988) (by decide +kernel)⟩
theorem lw_p23 : lw_okq (⟨"EvenWireModel", "endsBanned", "(I)Z"⟩, 42) := ⟨⟨by decide +kernel, by decide +kernel⟩, List.mem_of_getElem? (i := 809) (by decide +kernel), List.mem_of_getElem? (i := 991) (by decide +kernel), List.mem_of_getElem? (i := 992) (by decide +kernel)⟩
theorem lw_p24 : lw_okq (⟨"EvenWireModel", "longest", "()I"⟩, 42) := ⟨⟨by decide +kernel, by decide +kernel⟩, List.mem_of_getElem? (i := 809) (by decide +kernel), List.mem_of_getElem? (i := 995) (by decide +kernel), List.mem_of_getElem? (i := 996) (by decide +kernel)⟩
theorem lw_p25 : lw_okq (⟨"EvenWireModel", "prune", "()V"⟩, 42) := ⟨⟨by decide +kernel, by decide +kernel⟩, List.mem_of_getElem? (i := 809) (by decide +kernel), List.mem_of_getElem? (i := 999) (by decide +kernel), List.mem_of_getElem? (i := 1000) (by decide +kernel)⟩
theorem lw_p26 : lw_okq (⟨"EvenWireModel", "isAliveAt", "(I)Z"⟩, 42) := ⟨⟨by decide +kernel, by decide +kernel⟩, List.mem_of_getElem? (i := 809) (by decide +kernel), List.mem_of_getElem? (i := 1003) (by decide +kernel), List.mem_of_getElem? (i := 1004) (by decide +kernel)⟩
theorem lw_p27 : lw_okq (⟨"EvenWireModel", "refine", "()I"⟩, 42) := ⟨⟨by decide +kernel, by decide +kernel⟩, List.mem_of_getElem? (i := 809) (by decide +kernel), List.mem_of_getElem? (i := 1007) (by decide +kernel), List.mem_of_getElem? (i := 1008) (by decide +kernel)⟩
theorem lw_p28 : lw_okq (⟨"EvenWireModel", "signOf", "(II)I"⟩, 42) := ⟨⟨by decide +kernel, by decide +kernel⟩, List.mem_of_getElem? (i := 809) (by decide +kernel), List.mem_of_getElem? (i := 1011) (by decide +kernel), List.mem_of_getElem? (i := 1012) (by decide +kernel)⟩
theorem lw_p29 : lw_okq (⟨"EvenWireModel", "classAt", "(I)I"⟩, 42) := ⟨⟨by decide +kernel, by decide +kernel⟩, List.mem_of_getElem? (i := 809) (by decide +kernel), List.mem_of_getElem? (i := 1015) (by decide +kernel), List.mem_of_getElem? (i := 1016) (by decide +kernel)⟩
theorem lw_p30 : lw_okq (⟨"EvenWireModel", "stateOf", "(III)I"⟩, 42) := ⟨⟨by decide +kernel, by decide +kernel⟩, List.mem_of_getElem? (i := 809) (by decide +kernel), List.mem_of_getElem? (i := 1019) (by decide +kernel), List.mem_of_getElem? (i := 1020) (by decide +kernel)⟩
theorem lw_p31 : lw_okq (⟨"EvenWireModel", "isState", "(I)Z"⟩, 42) := ⟨⟨by decide +kernel, by decide +kernel⟩, List.mem_of_getElem? (i := 809) (by decide +kernel), List.mem_of_getElem? (i := 1031) (by decide +kernel), List.mem_of_getElem? (i := 1032) (by decide +kernel)⟩
def lw_privs_2 : List (MethodName × Nat) := [(⟨"EvenWire$Weights", "lower", "(LEvenWire$Wire;LEvenWire$Ladder;II)Z"⟩, 1), (⟨"EvenWire$Codebook", "dropPoor", "(LEvenWire$Wire;II)Z"⟩, 7), (⟨"EvenWire$Codebook", "enroll", "(LEvenWire$Wire;II)V"⟩, 7), (⟨"EvenWire$Codebook", "pieces", "(LEvenWire$Bits;)I"⟩, 7), (⟨"EvenWireModel", "findRaws", "()V"⟩, 42), (⟨"EvenWireModel", "rawOf", "(I)I"⟩, 42), (⟨"EvenWireModel", "behind", "(II)I"⟩, 42), (⟨"EvenWireModel", "endsBanned", "(I)Z"⟩, 42), (⟨"EvenWireModel", "longest", "()I"⟩, 42), (⟨"EvenWireModel", "prune", "()V"⟩, 42), (⟨"EvenWireModel", "isAliveAt", "(I)Z"⟩, 42), (⟨"EvenWireModel", "refine", "()I"⟩, 42), (⟨"EvenWireModel", "signOf", "(II)I"⟩, 42), (⟨"EvenWireModel", "classAt", "(I)I"⟩, 42), (⟨"EvenWireModel", "stateOf", "(III)I"⟩, 42), (⟨"EvenWireModel", "isState", "(I)Z"⟩, 42)]
theorem lw_r2 : ∀ q ∈ lw_privs_2, lw_okq q := List.forall_mem_cons.mpr ⟨lw_p16, List.forall_mem_cons.mpr ⟨lw_p17, List.forall_mem_cons.mpr ⟨lw_p18, List.forall_mem_cons.mpr ⟨lw_p19, List.forall_mem_cons.mpr ⟨lw_p20, List.forall_mem_cons.mpr ⟨lw_p21, List.forall_mem_cons.mpr ⟨lw_p22, List.forall_mem_cons.mpr ⟨lw_p23, List.forall_mem_cons.mpr ⟨lw_p24, List.forall_mem_cons.mpr ⟨lw_p25, List.forall_mem_cons.mpr ⟨lw_p26, List.forall_mem_cons.mpr ⟨lw_p27, List.forall_mem_cons.mpr ⟨lw_p28, List.forall_mem_cons.mpr ⟨lw_p29, List.forall_mem_cons.mpr ⟨lw_p30, List.forall_mem_cons.mpr ⟨lw_p31, fun _ h => absurd h List.not_mem_nil⟩⟩⟩⟩⟩⟩⟩⟩⟩⟩⟩⟩⟩⟩⟩⟩
theorem lw_p32 : lw_okq (⟨"EvenWireModel", "goes", "(II)I"⟩, 42) := ⟨⟨by decide +kernel, by decide +kernel⟩, List.mem_of_getElem? (i := 809) (by decide +kernel), List.mem_of_getElem? (i := 1035) (by decide +kernel), List.mem_of_getElem? (i := 1036) (by decide +kernel)⟩
theorem lw_p33 : lw_okq (⟨"EvenWireModel", "walks", "(IJI)I"⟩, 42) := ⟨⟨by decide +kernel, by decide +kernel⟩, List.mem_of_getElem? (i := 809) (by decide +kernel), List.mem_of_getElem? (i := 1047) (by decide +kernel), List.mem_of_getElem? (i := 1048) (by decide +kernel)⟩
theorem lw_p34 : lw_okq (⟨"EvenWireModel", "tellMany", "(I)V"⟩, 42) := ⟨⟨by decide +kernel, by decide +kernel⟩, List.mem_of_getElem? (i := 809) (by decide +kernel), List.mem_of_getElem? (i := 1060) (by decide +kernel), List.mem_of_getElem? (i := 1061) (by decide +kernel)⟩
theorem lw_p35 : lw_okq (⟨"EvenWireModel", "reachFrom", "(II)V"⟩, 42) := ⟨⟨by decide +kernel, by decide +kernel⟩, List.mem_of_getElem? (i := 809) (by decide +kernel), List.mem_of_getElem? (i := 1078) (by decide +kernel), List.mem_of_getElem? (i := 1079) (by decide +kernel)⟩
theorem lw_p36 : lw_okq (⟨"EvenWireModel", "comes", "(II)Z"⟩, 42) := ⟨⟨by decide +kernel, by decide +kernel⟩, List.mem_of_getElem? (i := 809) (by decide +kernel), List.mem_of_getElem? (i := 1086) (by decide +kernel), List.mem_of_getElem? (i := 1087) (by decide +kernel)⟩
theorem lw_p37 : lw_okq (⟨"EvenWireModel", "allWeights", "()I"⟩, 42) := ⟨⟨by decide +kernel, by decide +kernel⟩, List.mem_of_getElem? (i := 809) (by decide +kernel), List.mem_of_getElem? (i := 1107) (by decide +kernel), List.mem_of_getElem? (i := 1108) (by decide +kernel)⟩
theorem lw_p38 : lw_okq (⟨"EvenWireModel", "weighed", "(II)J"⟩, 42) := ⟨⟨by decide +kernel, by decide +kernel⟩, List.mem_of_getElem? (i := 809) (by decide +kernel), List.mem_of_getElem? (i := 1111) (by decide +kernel), List.mem_of_getElem? (i := 1112) (by decide +kernel)⟩
theorem lw_p39 : lw_okq (⟨"EvenWireModel", "leading", "(I)I"⟩, 42) := ⟨⟨by decide +kernel, by decide +kernel⟩, List.mem_of_getElem? (i := 809) (by decide +kernel), List.mem_of_getElem? (i := 1125) (by decide +kernel), List.mem_of_getElem? (i := 1126) (by decide +kernel)⟩
theorem lw_p40 : lw_okq (⟨"EvenWireModel", "wordAt", "(II)I"⟩, 42) := ⟨⟨by decide +kernel, by decide +kernel⟩, List.mem_of_getElem? (i := 809) (by decide +kernel), List.mem_of_getElem? (i := 1137) (by decide +kernel), List.mem_of_getElem? (i := 1138) (by decide +kernel)⟩
theorem lw_p41 : lw_okq (⟨"EvenWireModel", "isMemberAt", "(I)Z"⟩, 42) := ⟨⟨by decide +kernel, by decide +kernel⟩, List.mem_of_getElem? (i := 809) (by decide +kernel), List.mem_of_getElem? (i := 1141) (by decide +kernel), List.mem_of_getElem? (i := 1142) (by decide +kernel)⟩
theorem lw_p42 : lw_okq (⟨"EvenWireModel", "readAt", "(II)I"⟩, 42) := ⟨⟨by decide +kernel, by decide +kernel⟩, List.mem_of_getElem? (i := 809) (by decide +kernel), List.mem_of_getElem? (i := 1149) (by decide +kernel), List.mem_of_getElem? (i := 1150) (by decide +kernel)⟩
theorem lw_p43 : lw_okq (⟨"EvenWireModel", "tellLead", "()I"⟩, 42) := ⟨⟨by decide +kernel, by decide +kernel⟩, List.mem_of_getElem? (i := 809) (by decide +kernel), List.mem_of_getElem? (i := 1169) (by decide +kernel), List.mem_of_getElem? (i := 1170) (by decide +kernel)⟩
theorem lw_p44 : lw_okq (⟨"EvenWireModel", "home", "()I"⟩, 42) := ⟨⟨by decide +kernel, by decide +kernel⟩, List.mem_of_getElem? (i := 809) (by decide +kernel), List.mem_of_getElem? (i := 1173) (by decide +kernel), List.mem_of_getElem? (i := 1174) (by decide +kernel)⟩
def lw_privs_3 : List (MethodName × Nat) := [(⟨"EvenWireModel", "goes", "(II)I"⟩, 42), (⟨"EvenWireModel", "walks", "(IJI)I"⟩, 42), (⟨"EvenWireModel", "tellMany", "(I)V"⟩, 42), (⟨"EvenWireModel", "reachFrom", "(II)V"⟩, 42), (⟨"EvenWireModel", "comes", "(II)Z"⟩, 42), (⟨"EvenWireModel", "allWeights", "()I"⟩, 42), (⟨"EvenWireModel", "weighed", "(II)J"⟩, 42), (⟨"EvenWireModel", "leading", "(I)I"⟩, 42), (⟨"EvenWireModel", "wordAt", "(II)I"⟩, 42), (⟨"EvenWireModel", "isMemberAt", "(I)Z"⟩, 42), (⟨"EvenWireModel", "readAt", "(II)I"⟩, 42), (⟨"EvenWireModel", "tellLead", "()I"⟩, 42), (⟨"EvenWireModel", "home", "()I"⟩, 42)]
theorem lw_r3 : ∀ q ∈ lw_privs_3, lw_okq q := List.forall_mem_cons.mpr ⟨lw_p32, List.forall_mem_cons.mpr ⟨lw_p33, List.forall_mem_cons.mpr ⟨lw_p34, List.forall_mem_cons.mpr ⟨lw_p35, List.forall_mem_cons.mpr ⟨lw_p36, List.forall_mem_cons.mpr ⟨lw_p37, List.forall_mem_cons.mpr ⟨lw_p38, List.forall_mem_cons.mpr ⟨lw_p39, List.forall_mem_cons.mpr ⟨lw_p40, List.forall_mem_cons.mpr ⟨lw_p41, List.forall_mem_cons.mpr ⟨lw_p42, List.forall_mem_cons.mpr ⟨lw_p43, List.forall_mem_cons.mpr ⟨lw_p44, fun _ h => absurd h List.not_mem_nil⟩⟩⟩⟩⟩⟩⟩⟩⟩⟩⟩⟩⟩
def lw_privs : List (MethodName × Nat) := lw_privs_1 ++ (lw_privs_2 ++ (lw_privs_3))
def lw_tbl : List Cond := k2_sels lw_privs ++ tables_1
theorem lw_privs_ok : ∀ q ∈ lw_privs, lw_okq q := by
  show ∀ q ∈ lw_privs_1 ++ (lw_privs_2 ++ (lw_privs_3)), lw_okq q
  exact List.forall_mem_append.mpr ⟨lw_r1, List.forall_mem_append.mpr ⟨lw_r2, lw_r3⟩⟩
-- names: classes, fields in the order of the slots, types (out of the printed names)
def RX0 : String := "EvenWire$Bans"
def TX0 : u_T := fun k => match k with
  | 0 => ("EvenWire$Bans", "wordBits", "[I", true)
  | 1 => ("EvenWire$Bans", "wordLengths", "[I", true)
  | 2 => ("EvenWire$Bans", "words", "I", false)
  | 3 => ("EvenWire$Bans", "fewest", "I", false)
  | 4 => ("EvenWire$Bans", "most", "I", false)
  | _ => ("EvenWire$Bans", "lean", "I", false)
def tyX0 : Nat → FieldType := fun k => match k with
  | 0 => .array .int
  | 1 => .array .int
  | 2 => .int
  | 3 => .int
  | 4 => .int
  | _ => .int
abbrev wsX00 : List Cond := u_ws RX0 TX0 6
theorem nmX0 : ∀ a, a < 6 → ∀ b, b < 6 → a ≠ b → (TX0 a).2.1 ≠ (TX0 b).2.1 := by decide +kernel
theorem tyX0_ok : ∀ k, k < 6 → parseFieldDescriptor (TX0 k).2.2.1 = some (tyX0 k) := by decide +kernel
def RX1 : String := "EvenWire$Bits"
def TX1 : u_T := fun k => match k with
  | 0 => ("EvenWire$Bits", "bits", "[I", true)
  | _ => ("EvenWire$Bits", "size", "I", false)
def tyX1 : Nat → FieldType := fun k => match k with
  | 0 => .array .int
  | _ => .int
abbrev wsX10 : List Cond := u_ws RX1 TX1 2
theorem nmX1 : ∀ a, a < 2 → ∀ b, b < 2 → a ≠ b → (TX1 a).2.1 ≠ (TX1 b).2.1 := by decide +kernel
theorem tyX1_ok : ∀ k, k < 2 → parseFieldDescriptor (TX1 k).2.2.1 = some (tyX1 k) := by decide +kernel
def RX2 : String := "EvenWire$Codebook"
def TX2 : u_T := fun k => match k with
  | 0 => ("EvenWire$Codebook", "toMembers", "LEvenWire$Ladder;", true)
  | 1 => ("EvenWire$Codebook", "members", "[I", true)
  | 2 => ("EvenWire$Codebook", "lead", "LEvenWire$Bits;", true)
  | 3 => ("EvenWire$Codebook", "size", "I", false)
  | 4 => ("EvenWire$Codebook", "pieceLength", "I", false)
  | 5 => ("EvenWire$Codebook", "wordLength", "I", false)
  | _ => ("EvenWire$Codebook", "home", "I", false)
def tyX2 : Nat → FieldType := fun k => match k with
  | 0 => .object "EvenWire$Ladder"
  | 1 => .array .int
  | 2 => .object "EvenWire$Bits"
  | 3 => .int
  | 4 => .int
  | 5 => .int
  | _ => .int
abbrev wsX20 : List Cond := u_ws RX2 TX2 7
theorem nmX2 : ∀ a, a < 7 → ∀ b, b < 7 → a ≠ b → (TX2 a).2.1 ≠ (TX2 b).2.1 := by decide +kernel
theorem tyX2_ok : ∀ k, k < 7 → parseFieldDescriptor (TX2 k).2.2.1 = some (tyX2 k) := by decide +kernel
def RX3 : String := "EvenWire$Ladder"
def TX3 : u_T := fun k => match k with
  | _ => ("EvenWire$Ladder", "sums", "[J", true)
def tyX3 : Nat → FieldType := fun k => match k with
  | _ => .array .long
abbrev wsX30 : List Cond := u_ws RX3 TX3 1
theorem nmX3 : ∀ a, a < 1 → ∀ b, b < 1 → a ≠ b → (TX3 a).2.1 ≠ (TX3 b).2.1 := by decide +kernel
theorem tyX3_ok : ∀ k, k < 1 → parseFieldDescriptor (TX3 k).2.2.1 = some (tyX3 k) := by decide +kernel
def RX4 : String := "EvenWire$Maker"
def TX4 : u_T := fun k => match k with
  | 0 => ("EvenWire$Maker", "placeOf", "[I", true)
  | 1 => ("EvenWire$Maker", "keys", "[I", true)
  | 2 => ("EvenWire$Maker", "next", "[I", true)
  | 3 => ("EvenWire$Maker", "group", "[I", true)
  | 4 => ("EvenWire$Maker", "fresh", "[I", true)
  | 5 => ("EvenWire$Maker", "table", "[I", true)
  | 6 => ("EvenWire$Maker", "base", "I", false)
  | 7 => ("EvenWire$Maker", "found", "I", false)
  | _ => ("EvenWire$Maker", "groups", "I", false)
def tyX4 : Nat → FieldType := fun k => match k with
  | 0 => .array .int
  | 1 => .array .int
  | 2 => .array .int
  | 3 => .array .int
  | 4 => .array .int
  | 5 => .array .int
  | 6 => .int
  | 7 => .int
  | _ => .int
abbrev wsX40 : List Cond := u_ws RX4 TX4 9
theorem nmX4 : ∀ a, a < 9 → ∀ b, b < 9 → a ≠ b → (TX4 a).2.1 ≠ (TX4 b).2.1 := by decide +kernel
theorem tyX4_ok : ∀ k, k < 9 → parseFieldDescriptor (TX4 k).2.2.1 = some (tyX4 k) := by decide +kernel
def RX5 : String := "EvenWire$Missing"
def TX5 : u_T := fun k => match k with
  | 0 => ("EvenWire$Missing", "low", "[J", true)
  | 1 => ("EvenWire$Missing", "high", "[J", true)
  | 2 => ("EvenWire$Missing", "searched", "I", false)
  | 3 => ("EvenWire$Missing", "length", "I", false)
  | 4 => ("EvenWire$Missing", "bits", "I", false)
  | _ => ("EvenWire$Missing", "last", "I", false)
def tyX5 : Nat → FieldType := fun k => match k with
  | 0 => .array .long
  | 1 => .array .long
  | 2 => .int
  | 3 => .int
  | 4 => .int
  | _ => .int
abbrev wsX50 : List Cond := u_ws RX5 TX5 6
theorem nmX5 : ∀ a, a < 6 → ∀ b, b < 6 → a ≠ b → (TX5 a).2.1 ≠ (TX5 b).2.1 := by decide +kernel
theorem tyX5_ok : ∀ k, k < 6 → parseFieldDescriptor (TX5 k).2.2.1 = some (tyX5 k) := by decide +kernel
def RX6 : String := "EvenWire$Weights"
def TX6 : u_T := fun k => match k with
  | _ => ("EvenWire$Weights", "weights", "[I", true)
def tyX6 : Nat → FieldType := fun k => match k with
  | _ => .array .int
abbrev wsX60 : List Cond := u_ws RX6 TX6 1
theorem nmX6 : ∀ a, a < 1 → ∀ b, b < 1 → a ≠ b → (TX6 a).2.1 ≠ (TX6 b).2.1 := by decide +kernel
theorem tyX6_ok : ∀ k, k < 1 → parseFieldDescriptor (TX6 k).2.2.1 = some (tyX6 k) := by decide +kernel
def RX7 : String := "EvenWire$Wire"
def TX7 : u_T := fun k => match k with
  | 0 => ("EvenWire$Wire", "next", "[I", true)
  | 1 => ("EvenWire$Wire", "parent", "[I", true)
  | 2 => ("EvenWire$Wire", "lastBit", "[I", true)
  | 3 => ("EvenWire$Wire", "depth", "[I", true)
  | _ => ("EvenWire$Wire", "size", "I", false)
def tyX7 : Nat → FieldType := fun k => match k with
  | 0 => .array .int
  | 1 => .array .int
  | 2 => .array .int
  | 3 => .array .int
  | _ => .int
abbrev wsX70 : List Cond := u_ws RX7 TX7 5
theorem nmX7 : ∀ a, a < 5 → ∀ b, b < 5 → a ≠ b → (TX7 a).2.1 ≠ (TX7 b).2.1 := by decide +kernel
theorem tyX7_ok : ∀ k, k < 5 → parseFieldDescriptor (TX7 k).2.2.1 = some (tyX7 k) := by decide +kernel
def RX8 : String := "EvenWire"
def TX8 : u_T := fun k => match k with
  | 0 => ("EvenWire", "bans", "LEvenWire$Bans;", true)
  | 1 => ("EvenWire", "maker", "LEvenWire$Maker;", true)
  | 2 => ("EvenWire", "wire", "LEvenWire$Wire;", true)
  | 3 => ("EvenWire", "anywhere", "LEvenWire$Ladder;", true)
  | 4 => ("EvenWire", "paths", "LEvenWire$Ladder;", true)
  | 5 => ("EvenWire", "missing", "LEvenWire$Missing;", true)
  | 6 => ("EvenWire", "weights", "LEvenWire$Weights;", true)
  | 7 => ("EvenWire", "codebook", "LEvenWire$Codebook;", true)
  | 8 => ("EvenWire", "messageBits", "LEvenWire$Bits;", true)
  | 9 => ("EvenWire", "plateBits", "LEvenWire$Bits;", true)
  | 10 => ("EvenWire", "draft", "LEvenWire$Bits;", true)
  | _ => ("EvenWire", "builds", "I", false)
def tyX8 : Nat → FieldType := fun k => match k with
  | 0 => .object "EvenWire$Bans"
  | 1 => .object "EvenWire$Maker"
  | 2 => .object "EvenWire$Wire"
  | 3 => .object "EvenWire$Ladder"
  | 4 => .object "EvenWire$Ladder"
  | 5 => .object "EvenWire$Missing"
  | 6 => .object "EvenWire$Weights"
  | 7 => .object "EvenWire$Codebook"
  | 8 => .object "EvenWire$Bits"
  | 9 => .object "EvenWire$Bits"
  | 10 => .object "EvenWire$Bits"
  | _ => .int
abbrev wsX80 : List Cond := u_ws RX8 TX8 12
theorem nmX8 : ∀ a, a < 12 → ∀ b, b < 12 → a ≠ b → (TX8 a).2.1 ≠ (TX8 b).2.1 := by decide +kernel
theorem tyX8_ok : ∀ k, k < 12 → parseFieldDescriptor (TX8 k).2.2.1 = some (tyX8 k) := by decide +kernel
def RX9 : String := "EvenWireModel"
def TX9 : u_T := fun k => match k with
  | 0 => ("EvenWireModel", "d", "I", false)
  | 1 => ("EvenWireModel", "k", "I", false)
  | 2 => ("EvenWireModel", "words", "I", false)
  | 3 => ("EvenWireModel", "wordBits", "[I", true)
  | 4 => ("EvenWireModel", "wordSize", "[I", true)
  | 5 => ("EvenWireModel", "lean", "I", false)
  | 6 => ("EvenWireModel", "indexOf", "[I", true)
  | 7 => ("EvenWireModel", "raws", "I", false)
  | 8 => ("EvenWireModel", "rawCode", "[I", true)
  | 9 => ("EvenWireModel", "rawZero", "[I", true)
  | 10 => ("EvenWireModel", "rawOne", "[I", true)
  | 11 => ("EvenWireModel", "isAlive", "[Z", true)
  | 12 => ("EvenWireModel", "classOf", "[I", true)
  | 13 => ("EvenWireModel", "newClass", "[I", true)
  | 14 => ("EvenWireModel", "signOwn", "[I", true)
  | 15 => ("EvenWireModel", "signZero", "[I", true)
  | 16 => ("EvenWireModel", "signOne", "[I", true)
  | 17 => ("EvenWireModel", "states", "I", false)
  | 18 => ("EvenWireModel", "goZero", "[I", true)
  | 19 => ("EvenWireModel", "goOne", "[I", true)
  | 20 => ("EvenWireModel", "parent", "[I", true)
  | 21 => ("EvenWireModel", "byBit", "[I", true)
  | 22 => ("EvenWireModel", "depth", "[I", true)
  | 23 => ("EvenWireModel", "numberOf", "[I", true)
  | 24 => ("EvenWireModel", "rawFirst", "[I", true)
  | 25 => ("EvenWireModel", "weights", "[I", true)
  | 26 => ("EvenWireModel", "builds", "I", false)
  | 27 => ("EvenWireModel", "marked", "I", false)
  | 28 => ("EvenWireModel", "many", "[J", true)
  | 29 => ("EvenWireModel", "reach", "[I", true)
  | 30 => ("EvenWireModel", "before", "[I", true)
  | 31 => ("EvenWireModel", "table", "[I", true)
  | 32 => ("EvenWireModel", "members", "I", false)
  | 33 => ("EvenWireModel", "codeM", "I", false)
  | 34 => ("EvenWireModel", "codeN", "I", false)
  | 35 => ("EvenWireModel", "isMember", "[Z", true)
  | 36 => ("EvenWireModel", "said", "I", false)
  | 37 => ("EvenWireModel", "message", "[I", true)
  | 38 => ("EvenWireModel", "size", "I", false)
  | 39 => ("EvenWireModel", "plate", "[I", true)
  | 40 => ("EvenWireModel", "draft", "[I", true)
  | _ => ("EvenWireModel", "lead", "[I", true)
def tyX9 : Nat → FieldType := fun k => match k with
  | 0 => .int
  | 1 => .int
  | 2 => .int
  | 3 => .array .int
  | 4 => .array .int
  | 5 => .int
  | 6 => .array .int
  | 7 => .int
  | 8 => .array .int
  | 9 => .array .int
  | 10 => .array .int
  | 11 => .array .boolean
  | 12 => .array .int
  | 13 => .array .int
  | 14 => .array .int
  | 15 => .array .int
  | 16 => .array .int
  | 17 => .int
  | 18 => .array .int
  | 19 => .array .int
  | 20 => .array .int
  | 21 => .array .int
  | 22 => .array .int
  | 23 => .array .int
  | 24 => .array .int
  | 25 => .array .int
  | 26 => .int
  | 27 => .int
  | 28 => .array .long
  | 29 => .array .int
  | 30 => .array .int
  | 31 => .array .int
  | 32 => .int
  | 33 => .int
  | 34 => .int
  | 35 => .array .boolean
  | 36 => .int
  | 37 => .array .int
  | 38 => .int
  | 39 => .array .int
  | 40 => .array .int
  | _ => .array .int
abbrev wsX90 : List Cond := u_ws RX9 TX9 42
theorem nmX9 : ∀ a, a < 42 → ∀ b, b < 42 → a ≠ b → (TX9 a).2.1 ≠ (TX9 b).2.1 := by decide +kernel
theorem tyX9_ok : ∀ k, k < 42 → parseFieldDescriptor (TX9 k).2.2.1 = some (tyX9 k) := by decide +kernel
abbrev CL : List vw_C := [(RX0, TX0, 6), (RX1, TX1, 2), (RX2, TX2, 7), (RX3, TX3, 1), (RX4, TX4, 9), (RX5, TX5, 6), (RX6, TX6, 1), (RX7, TX7, 5), (RX8, TX8, 12), (RX9, TX9, 42)]
theorem t01 : 1 = 1 := rfl
end
section
/-! numbers: an int is 'Int32.ofInt z', a long 'Int64.ofInt z', z an Int; what the machine does to them, said of z -/
def rI (z : Int) : Prop := -2147483648 ≤ z ∧ z < 2147483648
def rL (z : Int) : Prop := -9223372036854775808 ≤ z ∧ z < 9223372036854775808
theorem zI_toInt {z : Int} (h : rI z) : (Int32.ofInt z).toInt = z := Int32.toInt_ofInt_of_le (by have := h.1; omega) (by have := h.2; omega)
theorem zL_toInt {z : Int} (h : rL z) : (Int64.ofInt z).toInt = z := Int64.toInt_ofInt_of_le (by have := h.1; omega) (by have := h.2; omega)
theorem zI_lt {x y : Int} (hx : rI x) (hy : rI y) : Int32.ofInt x < Int32.ofInt y ↔ x < y := by rw [Int32.lt_iff_toInt_lt, zI_toInt hx, zI_toInt hy]
theorem zI_le {x y : Int} (hx : rI x) (hy : rI y) : Int32.ofInt x ≤ Int32.ofInt y ↔ x ≤ y := by rw [Int32.le_iff_toInt_le, zI_toInt hx, zI_toInt hy]
theorem zI_eq {x y : Int} (hx : rI x) (hy : rI y) : Int32.ofInt x = Int32.ofInt y ↔ x = y := by rw [← Int32.toInt_inj, zI_toInt hx, zI_toInt hy]
theorem zL_lt {x y : Int} (hx : rL x) (hy : rL y) : Int64.ofInt x < Int64.ofInt y ↔ x < y := by rw [Int64.lt_iff_toInt_lt, zL_toInt hx, zL_toInt hy]
theorem zL_eq {x y : Int} (hx : rL x) (hy : rL y) : Int64.ofInt x = Int64.ofInt y ↔ x = y := by rw [← Int64.toInt_inj, zL_toInt hx, zL_toInt hy]
theorem rI_0 : rI 0 := by unfold rI; omega
theorem zI_zero : Int32.ofInt 0 = 0 := by decide +kernel
theorem zI_eq0 {x : Int} (hx : rI x) : Int32.ofInt x = 0 ↔ x = 0 := by rw [← zI_zero, zI_eq hx rI_0]
theorem zI_lt0 {x : Int} (hx : rI x) : Int32.ofInt x < 0 ↔ x < 0 := by rw [← zI_zero, zI_lt hx rI_0]
theorem zI_le0 {x : Int} (hx : rI x) : Int32.ofInt x ≤ 0 ↔ x ≤ 0 := by rw [← zI_zero, zI_le hx rI_0]
theorem zI_0le {x : Int} (hx : rI x) : 0 ≤ Int32.ofInt x ↔ 0 ≤ x := by rw [← zI_zero, zI_le rI_0 hx]
theorem zI_0lt {x : Int} (hx : rI x) : 0 < Int32.ofInt x ↔ 0 < x := by rw [← zI_zero, zI_lt rI_0 hx]
theorem zI_clamp {z : Int} (h0 : 0 ≤ z) (h1 : z < 2147483648) : (Int32.ofInt z).toNatClampNeg = z.toNat := Int32.toNatClampNeg_ofInt_of_le (by omega) (by omega)
theorem zI_in {z : Int} {n : Nat} (h0 : 0 ≤ z) (h1 : z < (n : Int)) (hn : n ≤ 2147483647) : vp_in (Int32.ofInt z) n := by
  rw [vp_in_iff, zI_toInt (by unfold rI; omega)]
  omega
theorem zI_of (x : Int32) : ∃ z : Int, rI z ∧ x = Int32.ofInt z := ⟨x.toInt, ⟨by have := x.le_toInt; omega, by have := x.toInt_lt; omega⟩, (Int32.ofInt_toInt x).symm⟩
theorem zI_div {x y : Int} (h0 : 0 ≤ x) (hx : x < 2147483648) (h1 : 0 < y) (hy : y < 2147483648) : Int32.ofInt x / Int32.ofInt y = Int32.ofInt (x / y) := by
  obtain ⟨a, rfl⟩ := Int.eq_ofNat_of_zero_le h0
  obtain ⟨b, rfl⟩ := Int.eq_ofNat_of_zero_le (Int.le_of_lt h1)
  have e := pk_div (a := a) (d := b) (by omega) (by omega) (by omega)
  unfold nI at e
  rw [Int32.ofInt_eq_ofNat, Int32.ofInt_eq_ofNat, e, ← Int32.ofInt_eq_ofNat]
  rfl
theorem zI_rem {x y : Int} (h0 : 0 ≤ x) (hx : x < 2147483648) (h1 : 0 < y) (hy : y < 2147483648) : Int32.ofInt x - Int32.ofInt x / Int32.ofInt y * Int32.ofInt y = Int32.ofInt (x % y) := by
  rw [zI_div h0 hx h1 hy, ← Int32.ofInt_mul, ← Int32.ofInt_sub]
  congr 1
  have := Int.mul_ediv_add_emod x y
  rw [Int.mul_comm (x / y) y]
  omega
theorem zI_sl : ∀ n, n < 32 → ((Int32.ofNat n &&& 31).toBitVec.smod 32).toNat = n := by decide +kernel
theorem zI_su : ∀ n, n < 32 → (((Int32.ofNat n).toUInt32 &&& Int32.toUInt32 31).toBitVec % 32).toNat = n := by decide +kernel
theorem zI_nat (x : Int) : ((Int32.ofInt x).toBitVec.toNat : Int) = x % 4294967296 := by
  rw [Int32.toBitVec_ofInt, BitVec.toNat_ofInt]
  have : (0 : Int) ≤ x % 4294967296 := Int.emod_nonneg _ (by omega)
  show ((x % ((2 ^ 32 : Nat) : Int)).toNat : Int) = _
  rw [show ((2 ^ 32 : Nat) : Int) = 4294967296 from rfl]
  omega
theorem zL_nat (x : Int) : ((Int64.ofInt x).toBitVec.toNat : Int) = x % 18446744073709551616 := by
  rw [Int64.toBitVec_ofInt, BitVec.toNat_ofInt]
  have : (0 : Int) ≤ x % 18446744073709551616 := Int.emod_nonneg _ (by omega)
  show ((x % ((2 ^ 64 : Nat) : Int)).toNat : Int) = _
  rw [show ((2 ^ 64 : Nat) : Int) = 18446744073709551616 from rfl]
  omega
theorem zI_ext {x y : Int32} (h : (x.toBitVec.toNat : Int) = (y.toBitVec.toNat : Int)) : x = y := Int32.toBitVec.inj (BitVec.eq_of_toNat_eq (by omega))
theorem zL_ext {x y : Int64} (h : (x.toBitVec.toNat : Int) = (y.toBitVec.toNat : Int)) : x = y := Int64.toBitVec.inj (BitVec.eq_of_toNat_eq (by omega))
theorem zI_shl {x y : Int} (h0 : 0 ≤ y) (h1 : y < 32) : Int32.ofInt x <<< (Int32.ofInt y &&& 31) = Int32.ofInt (x * 2 ^ y.toNat) := by
  obtain ⟨k, rfl⟩ := Int.eq_ofNat_of_zero_le h0
  apply zI_ext
  rw [zI_nat, Int32.ofInt_eq_ofNat (n := k), pk_shl _ _ k (zI_sl k (by omega))]
  rw [show ((((Int32.ofInt x).toBitVec.toNat * 2 ^ k % 2 ^ 32 : Nat)) : Int) = ((Int32.ofInt x).toBitVec.toNat : Int) * 2 ^ k % 4294967296 by rw [Int.natCast_emod, Int.natCast_mul, Int.natCast_pow]; rfl]
  rw [zI_nat, Int.mul_emod, Int.emod_emod, ← Int.mul_emod]
  rfl
theorem zI_shr {x y : Int} (hx : rI x) (h0 : 0 ≤ y) (h1 : y < 32) : Int32.ofInt x >>> (Int32.ofInt y &&& 31) = Int32.ofInt (x / 2 ^ y.toNat) := by
  obtain ⟨k, rfl⟩ := Int.eq_ofNat_of_zero_le h0
  apply Int32.toInt_inj.mp
  rw [Int32.ofInt_eq_ofNat (n := k), pk_shr _ _ k (zI_sl k (by omega)), zI_toInt hx, Int.shiftRight_eq_div_pow]
  show x / ((2 ^ k : Nat) : Int) = _
  have hp : (0 : Int) < 2 ^ k := Int.pow_pos (by omega)
  rw [show ((2 ^ k : Nat) : Int) = (2 : Int) ^ k by rw [Int.natCast_pow]; rfl]
  have e : (Int32.ofInt (x / 2 ^ (k : Int).toNat)).toInt = x / 2 ^ k := by
    rw [Int.toNat_natCast]
    refine zI_toInt ⟨?_, ?_⟩
    · apply Int.le_ediv_of_mul_le hp
      have := hx.1
      have : (-2147483648 : Int) * 2 ^ k ≤ -2147483648 * 1 := Int.mul_le_mul_of_nonpos_left (by omega) (by omega)
      omega
    · apply Int.ediv_lt_of_lt_mul hp
      have := hx.2
      have : (2147483648 : Int) * 1 ≤ 2147483648 * 2 ^ k := Int.mul_le_mul_of_nonneg_left (by omega) (by omega)
      omega
  exact e.symm
theorem zI_ushr {x y : Int} (h0 : 0 ≤ y) (h1 : y < 32) : ((Int32.ofInt x).toUInt32 >>> ((Int32.ofInt y).toUInt32 &&& Int32.toUInt32 31)).toInt32 = Int32.ofInt (x % 4294967296 / 2 ^ y.toNat) := by
  obtain ⟨k, rfl⟩ := Int.eq_ofNat_of_zero_le h0
  apply zI_ext
  rw [zI_nat, Int32.ofInt_eq_ofNat (n := k), pk_ushr _ _ k (zI_su k (by omega)), Int.natCast_ediv, zI_nat, Int.natCast_pow, Int.toNat_natCast]
  have hp : (0 : Int) < 2 ^ k := Int.pow_pos (by omega)
  rw [Int.emod_eq_of_lt (Int.ediv_nonneg (Int.emod_nonneg _ (by omega)) (by omega))]
  · rfl
  · apply Int.ediv_lt_of_lt_mul hp
    have := Int.emod_lt_of_pos x (b := 4294967296) (by omega)
    have : (4294967296 : Int) * 1 ≤ 4294967296 * 2 ^ k := Int.mul_le_mul_of_nonneg_left (by omega) (by omega)
    omega
def iandZ (x y : Int) : Int := (Int32.ofInt x &&& Int32.ofInt y).toInt
def iorZ (x y : Int) : Int := (Int32.ofInt x ||| Int32.ofInt y).toInt
def ixorZ (x y : Int) : Int := (Int32.ofInt x ^^^ Int32.ofInt y).toInt
def landZ (x y : Int) : Int := (Int64.ofInt x &&& Int64.ofInt y).toInt
def lorZ (x y : Int) : Int := (Int64.ofInt x ||| Int64.ofInt y).toInt
theorem zI_and (x y : Int) : Int32.ofInt x &&& Int32.ofInt y = Int32.ofInt (iandZ x y) := (Int32.ofInt_toInt _).symm
theorem zI_or (x y : Int) : Int32.ofInt x ||| Int32.ofInt y = Int32.ofInt (iorZ x y) := (Int32.ofInt_toInt _).symm
theorem zI_xor (x y : Int) : Int32.ofInt x ^^^ Int32.ofInt y = Int32.ofInt (ixorZ x y) := (Int32.ofInt_toInt _).symm
theorem zL_and (x y : Int) : Int64.ofInt x &&& Int64.ofInt y = Int64.ofInt (landZ x y) := (Int64.ofInt_toInt _).symm
theorem zL_or (x y : Int) : Int64.ofInt x ||| Int64.ofInt y = Int64.ofInt (lorZ x y) := (Int64.ofInt_toInt _).symm
theorem zI_l {z : Int} (h : rI z) : (Int32.ofInt z).toInt64 = Int64.ofInt z := by
  apply Int64.toInt_inj.mp
  rw [Int32.toInt_toInt64, zI_toInt h, zL_toInt (by unfold rI at h; unfold rL; omega)]
theorem zL_i (z : Int) : (Int64.ofInt z).toInt32 = Int32.ofInt z := Int64.toInt32_ofInt
theorem zL_sl : ∀ n, n < 64 → (((Int32.ofNat n).toInt64 &&& 63).toBitVec.smod 64).toNat = n := by decide +kernel
theorem zL_su : ∀ n, n < 64 → ((Int32.ofNat n).toInt64.toUInt64 &&& Int64.toUInt64 63).toNat % 64 = n := by decide +kernel
theorem zL_shlN (a s : Int64) (k : Nat) (hs : (s.toBitVec.smod 64).toNat = k) : (a <<< s).toBitVec.toNat = a.toBitVec.toNat * 2 ^ k % 2 ^ 64 := by
  rw [Int64.toBitVec_shiftLeft, BitVec.shiftLeft_eq', BitVec.toNat_shiftLeft, hs, Nat.shiftLeft_eq]
theorem zL_shrN (a s : Int64) (k : Nat) (hs : (s.toBitVec.smod 64).toNat = k) : (a >>> s).toInt = a.toInt >>> k := by
  rw [← Int64.toInt_toBitVec, Int64.toBitVec_shiftRight, BitVec.sshiftRight_eq', BitVec.toInt_sshiftRight, hs]
  rfl
theorem zL_shl {x y : Int} (h0 : 0 ≤ y) (h1 : y < 64) : Int64.ofInt x <<< ((Int32.ofInt y).toInt64 &&& 63) = Int64.ofInt (x * 2 ^ y.toNat) := by
  obtain ⟨k, rfl⟩ := Int.eq_ofNat_of_zero_le h0
  apply zL_ext
  rw [zL_nat, Int32.ofInt_eq_ofNat (n := k), zL_shlN _ _ k (zL_sl k (by omega))]
  rw [show ((((Int64.ofInt x).toBitVec.toNat * 2 ^ k % 2 ^ 64 : Nat)) : Int) = ((Int64.ofInt x).toBitVec.toNat : Int) * 2 ^ k % 18446744073709551616 by rw [Int.natCast_emod, Int.natCast_mul, Int.natCast_pow]; rfl]
  rw [zL_nat, Int.mul_emod, Int.emod_emod, ← Int.mul_emod]
  rfl
theorem zL_shr {x y : Int} (hx : rL x) (h0 : 0 ≤ y) (h1 : y < 64) : Int64.ofInt x >>> ((Int32.ofInt y).toInt64 &&& 63) = Int64.ofInt (x / 2 ^ y.toNat) := by
  obtain ⟨k, rfl⟩ := Int.eq_ofNat_of_zero_le h0
  apply Int64.toInt_inj.mp
  rw [Int32.ofInt_eq_ofNat (n := k), zL_shrN _ _ k (zL_sl k (by omega)), zL_toInt hx, Int.shiftRight_eq_div_pow]
  show x / ((2 ^ k : Nat) : Int) = _
  have hp : (0 : Int) < 2 ^ k := Int.pow_pos (by omega)
  rw [show ((2 ^ k : Nat) : Int) = (2 : Int) ^ k by rw [Int.natCast_pow]; rfl]
  have e : (Int64.ofInt (x / 2 ^ (k : Int).toNat)).toInt = x / 2 ^ k := by
    rw [Int.toNat_natCast]
    refine zL_toInt ⟨?_, ?_⟩
    · apply Int.le_ediv_of_mul_le hp
      have := hx.1
      have : (-9223372036854775808 : Int) * 2 ^ k ≤ -9223372036854775808 * 1 := Int.mul_le_mul_of_nonpos_left (by omega) (by omega)
      omega
    · apply Int.ediv_lt_of_lt_mul hp
      have := hx.2
      have : (9223372036854775808 : Int) * 1 ≤ 9223372036854775808 * 2 ^ k := Int.mul_le_mul_of_nonneg_left (by omega) (by omega)
      omega
  exact e.symm
theorem zL_ushr {x y : Int} (h0 : 0 ≤ y) (h1 : y < 64) : ((Int64.ofInt x).toUInt64 >>> ((Int32.ofInt y).toInt64.toUInt64 &&& Int64.toUInt64 63)).toInt64 = Int64.ofInt (x % 18446744073709551616 / 2 ^ y.toNat) := by
  obtain ⟨k, rfl⟩ := Int.eq_ofNat_of_zero_le h0
  apply zL_ext
  have e : (((Int64.ofInt x).toUInt64 >>> ((Int32.ofInt (k : Int)).toInt64.toUInt64 &&& Int64.toUInt64 63)).toInt64).toBitVec.toNat = (Int64.ofInt x).toBitVec.toNat / 2 ^ k := by
    rw [Int32.ofInt_eq_ofNat (n := k)]
    show ((Int64.ofInt x).toUInt64 >>> _).toNat = _
    rw [UInt64.toNat_shiftRight, zL_su k (by omega), Nat.shiftRight_eq_div_pow]
    rfl
  rw [zL_nat, e, Int.natCast_ediv, zL_nat, Int.natCast_pow, Int.toNat_natCast]
  have hp : (0 : Int) < 2 ^ k := Int.pow_pos (by omega)
  rw [Int.emod_eq_of_lt (Int.ediv_nonneg (Int.emod_nonneg _ (by omega)) (by omega))]
  · rfl
  · apply Int.ediv_lt_of_lt_mul hp
    have := Int.emod_lt_of_pos x (b := 18446744073709551616) (by omega)
    have : (18446744073709551616 : Int) * 1 ≤ 18446744073709551616 * 2 ^ k := Int.mul_le_mul_of_nonneg_left (by omega) (by omega)
    omega
def cmpZ (x y : Int) : Int := if y < x then 1 else if x = y then 0 else -1
theorem zL_cmp {x y : Int} (hx : rL x) (hy : rL y) : lg_cmp (Int64.ofInt x) (Int64.ofInt y) = Int32.ofInt (cmpZ x y) := by
  unfold lg_cmp cmpZ
  simp only [gt_iff_lt, zL_lt hy hx, zL_eq hx hy]
  split
  · decide +kernel
  · split <;> decide +kernel
theorem zI_zbit {z : Int} (h : z = 0 ∨ z = 1) : narrow .boolean (.int (Int32.ofInt z)) = .int (Int32.ofInt z) := by
  rcases h with rfl | rfl <;> decide +kernel
theorem zI_vbit {z : Int} (h : z = 0 ∨ z = 1) : vp_nar .boolean (Int32.ofInt z) = Int32.ofInt z := by
  rcases h with rfl | rfl <;> decide +kernel
theorem zI_byte {n : Int} (h0 : -128 ≤ n) (h1 : n < 128) : (Int8.ofInt n).toInt32 = Int32.ofInt n := by
  apply Int32.toInt_inj.mp
  rw [Int8.toInt_toInt32, Int8.toInt_ofInt_of_le (by omega) (by omega), zI_toInt (by unfold rI; omega)]
theorem zI_short {n : Int} (h0 : -32768 ≤ n) (h1 : n < 32768) : (Int16.ofInt n).toInt32 = Int32.ofInt n := by
  apply Int32.toInt_inj.mp
  rw [Int16.toInt_toInt32, Int16.toInt_ofInt_of_le (by omega) (by omega), zI_toInt (by unfold rI; omega)]
theorem zI_sub (x y : Int) : Int32.ofInt x - Int32.ofInt y = Int32.ofInt (x - y) := (Int32.ofInt_sub x y).symm
end
section
/-! a small machine over numbers: values are numbers or places of the world's cells, a state is a table of numbers, a method's meaning is a predicate transformer -/
abbrev AV : Type := Int ⊕ Int ⊕ Option Nat
abbrev St : Type := Nat → Nat → Int
abbrev Spec : Type := List AV → St → (Option AV → St → Prop) → Prop
abbrev Shp : Type := (Nat × List (Option Nat)) ⊕ (Nat × Nat)
abbrev M3 : Type := Nat × Nat × Nat
def conc (a : Nat → Nat) : AV → Value
  | .inl z => .int (Int32.ofInt z)
  | .inr (.inl z) => .long (Int64.ofInt z)
  | .inr (.inr (some i)) => .ref (a i)
  | .inr (.inr none) => .null
def updR (σ : St) (i : Nat) (f : Nat → Int) : St := fun k => if k = i then f else σ k
def up1 (f : Nat → Int) (j : Nat) (z : Int) : Nat → Int := fun k => if k = j then z else f k
theorem updR_eq (σ : St) (i : Nat) (f : Nat → Int) : updR σ i f i = f := if_pos rfl
theorem updR_ne (σ : St) (i k : Nat) (f : Nat → Int) (h : k ≠ i) : updR σ i f k = σ k := if_neg h
theorem up1_eq (f : Nat → Int) (j : Nat) (z : Int) : up1 f j z j = z := if_pos rfl
theorem up1_ne (f : Nat → Int) (j k : Nat) (z : Int) (h : k ≠ j) : up1 f j z k = f k := if_neg h
/-- the cells: 0 the object; its parts; the reference and its arrays -/
def SH : List Shp := [
  .inl (8, [some 1, some 4, some 11, some 16, some 18, some 20, some 23, some 25, some 31, some 33, some 35, none]),
  .inl (0, [some 2, some 3, none, none, none, none]), .inr (0, 4), .inr (0, 4),
  .inl (4, [some 5, some 6, some 7, some 8, some 9, some 10, none, none, none]), .inr (0, 2816), .inr (0, 2816), .inr (0, 5632), .inr (0, 2816), .inr (0, 2816), .inr (0, 10201),
  .inl (7, [some 12, some 13, some 14, some 15, none]), .inr (0, 200), .inr (0, 100), .inr (0, 100), .inr (0, 100),
  .inl (3, [some 17]), .inr (1, 6100), .inl (3, [some 19]), .inr (1, 6100),
  .inl (5, [some 21, some 22, none, none, none, none]), .inr (1, 8192), .inr (1, 8192),
  .inl (6, [some 24]), .inr (0, 100),
  .inl (2, [some 26, some 28, some 29, none, none, none, none]), .inl (3, [some 27]), .inr (1, 6100), .inr (0, 100), .inl (1, [some 30, none]), .inr (0, 600),
  .inl (1, [some 32, none]), .inr (0, 600), .inl (1, [some 34, none]), .inr (0, 600), .inl (1, [some 36, none]), .inr (0, 600),
  .inl (9, [none, none, none, some 38, some 39, none, some 40, none, some 41, some 42, some 43, some 44, some 45, some 46, some 47, some 48, some 49, none, some 50, some 51, some 52, some 53, some 54, some 55, some 56, some 57, none, none, some 58, some 59, some 60, some 61, none, none, none, some 62, none, some 63, none, some 64, some 65, some 66]),
  .inr (0, 4), .inr (0, 4), .inr (0, 11264), .inr (0, 11264), .inr (0, 11264), .inr (0, 11264), .inr (2, 11264), .inr (0, 11264), .inr (0, 11264), .inr (0, 101), .inr (0, 101), .inr (0, 101),
  .inr (0, 100), .inr (0, 100), .inr (0, 100), .inr (0, 100), .inr (0, 100), .inr (0, 101), .inr (0, 100), .inr (0, 100), .inr (1, 6100), .inr (0, 100), .inr (0, 100), .inr (0, 10000), .inr (2, 100), .inr (0, 240), .inr (0, 600), .inr (0, 600), .inr (0, 100)]
def fV (a : Nat → Nat) (f : Nat → Int) (k : Nat) : Option Nat → Value
  | none => .int (Int32.ofInt (f k))
  | some t => .ref (a t)
def cellE (cA : Nat → ClassId) (a : Nat → Nat) (f : Nat → Int) : Shp → va_E
  | .inl (ci, fs) => .inr (ci, fs.mapIdx (fun k q => fV a f k q))
  | .inr (0, n) => .inl (cA 0, n, .inl (fun j => Int32.ofInt (f j)))
  | .inr (1, n) => .inl (cA 1, n, .inr (.inl (fun j => Int64.ofInt (f j))))
  | .inr (_, n) => .inl (cA 2, n, .inl (fun j => Int32.ofInt (f j)))
def wsOf (cA : Nat → ClassId) (a : Nat → Nat) (σ : St) : va_W := SH.mapIdx (fun i x => (a i, cellE cA a (σ i) x))
def tysOf (cA : Nat → ClassId) : List (ClassId × FieldType) := [(cA 0, .int), (cA 1, .long), (cA 2, .boolean)]
theorem wsOf_get {cA : Nat → ClassId} {a : Nat → Nat} {σ : St} {i : Nat} {x : Shp} (h : SH[i]? = some x) : (wsOf cA a σ)[i]? = some (a i, cellE cA a (σ i) x) := by
  unfold wsOf
  rw [List.getElem?_mapIdx, h]
  rfl
theorem wsOf_inv {cA : Nat → ClassId} {a : Nat → Nat} {σ : St} {i : Nat} {q : Nat × va_E} (h : (wsOf cA a σ)[i]? = some q) : ∃ x, SH[i]? = some x ∧ q = (a i, cellE cA a (σ i) x) := by
  unfold wsOf at h
  rw [List.getElem?_mapIdx] at h
  cases hx : SH[i]? with
  | none => rw [hx] at h; cases h
  | some x => rw [hx] at h; exact ⟨x, rfl, (Option.some.inj h).symm⟩
theorem wsOf_set {cA : Nat → ClassId} {a : Nat → Nat} {σ : St} {i : Nat} {x : Shp} {f : Nat → Int} {e : va_E} (h : SH[i]? = some x) (he : cellE cA a f x = e) : (wsOf cA a σ).set i (a i, e) = wsOf cA a (updR σ i f) := by
  apply List.ext_getElem?
  intro j
  by_cases hj : j = i
  · subst hj
    rw [wsOf_get h, updR_eq, he, List.getElem?_set_self]
    exact (List.getElem?_eq_some_iff.mp (wsOf_get (cA := cA) (a := a) (σ := σ) h)).1
  · rw [List.getElem?_set_ne (Ne.symm hj)]
    unfold wsOf
    rw [List.getElem?_mapIdx, List.getElem?_mapIdx, updR_ne _ _ _ _ hj]
/-- association lists -/
def lk {β : Type} : List (Nat × β) → Nat → Option β
  | [], _ => none
  | (b, v) :: r, x => if x = b then some v else lk r x
theorem lk_mem {β : Type} {l : List (Nat × β)} {x : Nat} {v : β} (h : lk l x = some v) : (x, v) ∈ l := by
  induction l with
  | nil => cases h
  | cons q r ih =>
    obtain ⟨b, w⟩ := q
    unfold lk at h
    split at h
    · next e => subst e; cases h; exact List.mem_cons_self
    · exact List.mem_cons_of_mem _ (ih h)
def lk1 {β : Type} : List (Nat × β) → Nat → (β → Prop) → Prop := fun l x f => match lk l x with
  | some v => f v
  | none => False
theorem lk1_inv {β : Type} {l : List (Nat × β)} {x : Nat} {f : β → Prop} (h : lk1 l x f) : ∃ v, (x, v) ∈ l ∧ f v := by
  unfold lk1 at h
  split at h
  · next v e => exact ⟨v, lk_mem e, h⟩
  · exact h.elim
/-- locals -/
def isLong : AV → Bool
  | .inr (.inl _) => true
  | _ => false
def sto1 : List AV → Nat → AV → List AV
  | [], _, _ => []
  | _ :: r, 0, v => v :: r
  | x :: r, 1, v => (if isLong x then .inr (.inr none) else x) :: sto1 r 0 v
  | x :: r, n + 2, v => x :: sto1 r (n + 1) v
def sto2 : List AV → Nat → AV → List AV
  | [], _, _ => []
  | _ :: r, 0, v => v :: sto1 r 0 (.inr (.inr none))
  | x :: r, 1, v => (if isLong x then .inr (.inr none) else x) :: sto2 r 0 v
  | x :: r, n + 2, v => x :: sto2 r (n + 1) v
def lvl (a : Nat → Nat) : Nat → List AV → List (Nat × Value)
  | _, [] => []
  | i, v :: r => if v = .inr (.inr none) then lvl a (i + 1) r else (i, conc a v) :: lvl a (i + 1) r
theorem lvl_mem {a : Nat → Nat} : ∀ {L : List AV} {i : Nat} {q : Nat × Value}, q ∈ lvl a i L ↔ ∃ (j : Nat) (v : AV), L[j]? = some v ∧ v ≠ .inr (.inr none) ∧ q = (i + j, conc a v)
  | [], i, q => by simp [lvl]
  | w :: r, i, q => by
    unfold lvl
    by_cases hw : w = .inr (.inr none)
    · rw [if_pos hw, lvl_mem]
      constructor
      · rintro ⟨j, v, h1, h2, h3⟩
        exact ⟨j + 1, v, by simpa using h1, h2, by rw [h3, Nat.add_assoc, Nat.add_comm 1 j]⟩
      · rintro ⟨j, v, h1, h2, h3⟩
        cases j with
        | zero => simp at h1; exact absurd (h1.symm.trans hw) h2
        | succ j => exact ⟨j, v, by simpa using h1, h2, by rw [h3, Nat.add_assoc, Nat.add_comm 1 j]⟩
    · rw [if_neg hw, List.mem_cons, lvl_mem]
      constructor
      · rintro (rfl | ⟨j, v, h1, h2, h3⟩)
        · exact ⟨0, w, rfl, hw, rfl⟩
        · exact ⟨j + 1, v, by simpa using h1, h2, by rw [h3, Nat.add_assoc, Nat.add_comm 1 j]⟩
      · rintro ⟨j, v, h1, h2, h3⟩
        cases j with
        | zero => simp at h1; subst h1; exact Or.inl h3
        | succ j => exact Or.inr ⟨j, v, by simpa using h1, h2, by rw [h3, Nat.add_assoc, Nat.add_comm 1 j]⟩
theorem sto1_len : ∀ (L : List AV) (i : Nat) (v : AV), (sto1 L i v).length = L.length
  | [], i, v => by cases i <;> rfl
  | _ :: r, 0, v => rfl
  | x :: r, 1, v => by simp only [sto1, List.length_cons, sto1_len r 0 v]
  | x :: r, n + 2, v => by simp only [sto1, List.length_cons, sto1_len r (n + 1) v]
theorem sto2_len : ∀ (L : List AV) (i : Nat) (v : AV), (sto2 L i v).length = L.length
  | [], i, v => by cases i <;> rfl
  | _ :: r, 0, v => by simp only [sto2, List.length_cons, sto1_len r 0 _]
  | x :: r, 1, v => by simp only [sto2, List.length_cons, sto2_len r 0 v]
  | x :: r, n + 2, v => by simp only [sto2, List.length_cons, sto2_len r (n + 1) v]
theorem sto1_get : ∀ {L : List AV} {i : Nat} {v : AV} {j : Nat} {w : AV}, (sto1 L i v)[j]? = some w → (j = i ∧ w = v) ∨ w = .inr (.inr none) ∨ (j ≠ i ∧ L[j]? = some w ∧ ¬ (j + 1 = i ∧ isLong w = true))
  | [], i, v, j, w, h => by cases i <;> simp [sto1] at h
  | x :: r, 0, v, j, w, h => by
    cases j with
    | zero => simp [sto1] at h; exact Or.inl ⟨rfl, h.symm⟩
    | succ j => simp [sto1] at h; exact Or.inr (Or.inr ⟨by omega, by simpa using h, by omega⟩)
  | x :: r, 1, v, j, w, h => by
    cases j with
    | zero =>
      simp only [sto1, List.getElem?_cons_zero, Option.some.injEq] at h
      by_cases hx : isLong x = true
      · rw [if_pos hx] at h; exact Or.inr (Or.inl h.symm)
      · rw [if_neg hx] at h; subst h; exact Or.inr (Or.inr ⟨by omega, rfl, fun q => hx q.2⟩)
    | succ j =>
      have h' : (sto1 r 0 v)[j]? = some w := by simpa [sto1] using h
      rcases sto1_get h' with ⟨h1, h2⟩ | h1 | ⟨h1, h2, h3⟩
      · exact Or.inl ⟨by omega, h2⟩
      · exact Or.inr (Or.inl h1)
      · exact Or.inr (Or.inr ⟨by omega, by simpa using h2, by omega⟩)
  | x :: r, n + 2, v, j, w, h => by
    cases j with
    | zero => simp [sto1] at h; exact Or.inr (Or.inr ⟨by omega, by simpa using h, by omega⟩)
    | succ j =>
      have h' : (sto1 r (n + 1) v)[j]? = some w := by simpa [sto1] using h
      rcases sto1_get h' with ⟨h1, h2⟩ | h1 | ⟨h1, h2, h3⟩
      · exact Or.inl ⟨by omega, h2⟩
      · exact Or.inr (Or.inl h1)
      · exact Or.inr (Or.inr ⟨by omega, by simpa using h2, fun q => h3 ⟨by omega, q.2⟩⟩)
theorem sto2_get : ∀ {L : List AV} {i : Nat} {v : AV} {j : Nat} {w : AV}, (sto2 L i v)[j]? = some w → (j = i ∧ w = v) ∨ w = .inr (.inr none) ∨ (j ≠ i ∧ j ≠ i + 1 ∧ L[j]? = some w ∧ ¬ (j + 1 = i ∧ isLong w = true))
  | [], i, v, j, w, h => by cases i <;> simp [sto2] at h
  | x :: r, 0, v, j, w, h => by
    cases j with
    | zero => simp [sto2] at h; exact Or.inl ⟨rfl, h.symm⟩
    | succ j =>
      have h' : (sto1 r 0 (.inr (.inr none)))[j]? = some w := by simpa [sto2] using h
      rcases sto1_get h' with ⟨h1, h2⟩ | h1 | ⟨h1, h2, h3⟩
      · exact Or.inr (Or.inl h2)
      · exact Or.inr (Or.inl h1)
      · exact Or.inr (Or.inr ⟨by omega, by omega, by simpa using h2, by omega⟩)
  | x :: r, 1, v, j, w, h => by
    cases j with
    | zero =>
      simp only [sto2, List.getElem?_cons_zero, Option.some.injEq] at h
      by_cases hx : isLong x = true
      · rw [if_pos hx] at h; exact Or.inr (Or.inl h.symm)
      · rw [if_neg hx] at h; subst h; exact Or.inr (Or.inr ⟨by omega, by omega, rfl, fun q => hx q.2⟩)
    | succ j =>
      have h' : (sto2 r 0 v)[j]? = some w := by simpa [sto2] using h
      rcases sto2_get h' with ⟨h1, h2⟩ | h1 | ⟨h1, h2, h3, h4⟩
      · exact Or.inl ⟨by omega, h2⟩
      · exact Or.inr (Or.inl h1)
      · exact Or.inr (Or.inr ⟨by omega, by omega, by simpa using h3, by omega⟩)
  | x :: r, n + 2, v, j, w, h => by
    cases j with
    | zero => simp [sto2] at h; exact Or.inr (Or.inr ⟨by omega, by omega, by simpa using h, by omega⟩)
    | succ j =>
      have h' : (sto2 r (n + 1) v)[j]? = some w := by simpa [sto2] using h
      rcases sto2_get h' with ⟨h1, h2⟩ | h1 | ⟨h1, h2, h3, h4⟩
      · exact Or.inl ⟨by omega, h2⟩
      · exact Or.inr (Or.inl h1)
      · exact Or.inr (Or.inr ⟨by omega, by omega, by simpa using h3, fun q => h4 ⟨by omega, q.2⟩⟩)
theorem conc_cat (a : Nat → Nat) (v : AV) : (conc a v).category = if isLong v then 2 else 1 := by
  rcases v with z | z | _ | i <;> rfl
/-- what the listed locals are behind a store -/
theorem lvl_sto1 {a : Nat → Nat} {ls : Array Slot} {nL : Nat} {L : List AV} {i : Nat} {v : AV} (h : lv_has ls nL ((i, conc a v) :: (lvl a 0 L).filter (fun q => !(q.1 == i) && !(q.1 + 1 == i && q.2.category == 2)))) : lv_has ls nL (lvl a 0 (sto1 L i v)) := by
  refine ⟨h.1, h.2.1, fun q hq => h.2.2 q ?_⟩
  obtain ⟨j, w, h1, h2, rfl⟩ := lvl_mem.mp hq
  rw [Nat.zero_add]
  rcases sto1_get h1 with ⟨rfl, rfl⟩ | h3 | ⟨h3, h4, h5⟩
  · exact List.mem_cons_self
  · exact absurd h3 h2
  · refine List.mem_cons_of_mem _ (List.mem_filter.mpr ⟨lvl_mem.mpr ⟨j, w, h4, h2, by rw [Nat.zero_add]⟩, ?_⟩)
    have e := conc_cat a w
    simp only [Bool.and_eq_true, Bool.not_eq_true', beq_eq_false_iff_ne, ne_eq, Bool.and_eq_false_iff]
    refine ⟨h3, ?_⟩
    by_cases hj : j + 1 = i
    · refine Or.inr ?_
      rw [e]
      by_cases hl : isLong w = true
      · exact absurd ⟨hj, hl⟩ h5
      · rw [if_neg hl]; decide
    · exact Or.inl hj
theorem lvl_sto2 {a : Nat → Nat} {ls : Array Slot} {nL : Nat} {L : List AV} {i : Nat} {v : AV} (h : lv_has ls nL ((i, conc a v) :: (lvl a 0 L).filter (fun q => !(q.1 == i) && (!(q.1 == i + 1) && !(q.1 + 1 == i && q.2.category == 2))))) : lv_has ls nL (lvl a 0 (sto2 L i v)) := by
  refine ⟨h.1, h.2.1, fun q hq => h.2.2 q ?_⟩
  obtain ⟨j, w, h1, h2, rfl⟩ := lvl_mem.mp hq
  rw [Nat.zero_add]
  rcases sto2_get h1 with ⟨rfl, rfl⟩ | h3 | ⟨h3, h3b, h4, h5⟩
  · exact List.mem_cons_self
  · exact absurd h3 h2
  · refine List.mem_cons_of_mem _ (List.mem_filter.mpr ⟨lvl_mem.mpr ⟨j, w, h4, h2, by rw [Nat.zero_add]⟩, ?_⟩)
    have e := conc_cat a w
    simp only [Bool.and_eq_true, Bool.not_eq_true', beq_eq_false_iff_ne, ne_eq, Bool.and_eq_false_iff]
    refine ⟨h3, h3b, ?_⟩
    by_cases hj : j + 1 = i
    · refine Or.inr ?_
      rw [e]
      by_cases hl : isLong w = true
      · exact absurd ⟨hj, hl⟩ h5
      · rw [if_neg hl]; decide
    · exact Or.inl hj
theorem lvl_at {a : Nat → Nat} {ls : Array Slot} {nL : Nat} {L : List AV} {i : Nat} {v : AV} (h : lv_has ls nL (lvl a 0 L)) (hv : L[i]? = some v) (hn : v ≠ .inr (.inr none)) : ls[i]? = some (.val (conc a v)) :=
  h.2.2 (i, conc a v) (lvl_mem.mpr ⟨i, v, hv, hn, by rw [Nat.zero_add]⟩)
/-- the locals at a method's entry -/
def ent : List AV → List AV
  | [] => []
  | v :: r => if isLong v then v :: .inr (.inr none) :: ent r else v :: ent r
theorem lvl_ent (a : Nat → Nat) (n : Nat) : ∀ (as : List AV) (i : Nat), ∀ q ∈ lvl a i (ent as ++ List.replicate n (.inr (.inr none))), q ∈ lv_args i (as.map (conc a))
  | [], i, q, h => by
    obtain ⟨j, v, h1, h2, -⟩ := lvl_mem.mp h
    rw [ent, List.nil_append] at h1
    exact absurd (List.eq_of_mem_replicate (List.mem_of_getElem? h1)) h2
  | v :: r, i, q, h => by
    rw [List.map_cons, lv_args, conc_cat]
    by_cases hv : isLong v = true
    · rw [if_pos hv, if_pos rfl]
      rw [ent, if_pos hv, List.cons_append, List.cons_append, lvl] at h
      have hn : v ≠ .inr (.inr none) := by intro e; subst e; cases hv
      rw [if_neg hn, lvl, if_pos rfl] at h
      rcases List.mem_cons.mp h with h | h
      · exact List.mem_cons.mpr (Or.inl h)
      · exact List.mem_cons_of_mem _ (lvl_ent a n r (i + 2) q h)
    · rw [if_neg hv, if_neg (by decide)]
      rw [ent, if_neg hv, List.cons_append, lvl] at h
      split at h
      · exact List.mem_cons_of_mem _ (lvl_ent a n r (i + 1) q h)
      · rcases List.mem_cons.mp h with h | h
        · exact List.mem_cons.mpr (Or.inl h)
        · exact List.mem_cons_of_mem _ (lvl_ent a n r (i + 1) q h)
end
section
/-! the small machine's step, by predicate transformers -/
def popI (st : List AV) (f : Int → List AV → Prop) : Prop := match st with
  | .inl z :: r => f z r
  | _ => False
def popL (st : List AV) (f : Int → List AV → Prop) : Prop := match st with
  | .inr (.inl z) :: r => f z r
  | _ => False
def popR (st : List AV) (f : Nat → List AV → Prop) : Prop := match st with
  | .inr (.inr (some i)) :: r => f i r
  | _ => False
def popV (st : List AV) (f : AV → List AV → Prop) : Prop := match st with
  | v :: r => f v r
  | [] => False
def popN : Nat → List AV → List AV → (List AV → List AV → Prop) → Prop
  | 0, as, st, f => f as st
  | n + 1, as, st, f => popV st fun v r => popN n (v :: as) r f
def ldI (L : List AV) (i : Nat) (f : Int → Prop) : Prop := match L[i]? with
  | some (.inl z) => f z
  | _ => False
def ldL (L : List AV) (i : Nat) (f : Int → Prop) : Prop := match L[i]? with
  | some (.inr (.inl z)) => f z
  | _ => False
def ldR (L : List AV) (i : Nat) (f : Nat → Prop) : Prop := match L[i]? with
  | some (.inr (.inr (some z))) => f z
  | _ => False
def oF (i ci k : Nat) (f : Option Nat → Prop) : Prop := match SH[i]? with
  | some (.inl (c, fs)) => c = ci ∧ (match fs[k]? with
    | some q => f q
    | none => False)
  | _ => False
def oC (i ci : Nat) : Prop := match SH[i]? with
  | some (.inl (c, _)) => c = ci
  | _ => False
def aF (i kd : Nat) (f : Nat → Prop) : Prop := match SH[i]? with
  | some (.inr (k, n)) => k = kd ∧ f n
  | _ => False
def aN (i : Nat) (f : Nat → Prop) : Prop := match SH[i]? with
  | some (.inr (k, n)) => (k = 0 ∨ k = 1 ∨ k = 2) ∧ f n
  | _ => False
def catS : List AV → Nat
  | [] => 0
  | v :: r => (if isLong v then 2 else 1) + catS r
def psh (v : Option AV) (r : List AV) : List AV := match v with
  | some v => v :: r
  | none => r
def fldV (t : Option Nat) (z : Int) : AV := match t with
  | none => .inl z
  | some t => .inr (.inr (some t))
def tgt (pc : Nat) (off : Int) (f : Nat → Prop) : Prop := 0 ≤ (pc : Int) + off ∧ f ((pc : Int) + off).toNat
def sw (pc : Nat) (z : Int) (f : Nat → Prop) : List Int → Int → Prop
  | [], _ => True
  | o :: os, lo => (z = lo → tgt pc o f) ∧ sw pc z f os (lo + 1)
def ilen : Instr → Nat
  | .iload _ | .lload _ | .aload _ | .istore _ | .lstore _ | .astore _ | .bipush _ | .ldc _ => 2
  | .sipush _ | .ldc_w _ | .ldc2_w _ | .iinc _ _ | .getfield _ | .putfield _ | .goto _ | .ifCond _ _ | .if_icmp _ _ | .invokevirtual _ | .invokestatic _ => 3
  | _ => 1
def isSw : Instr → Bool
  | .tableswitch .. => true
  | _ => false
def stp (sc : Prop) (Φ : List (Nat × Nat × Nat)) (κ : List (Nat × Int)) (Γ : List (Nat × Nat × Nat × Spec)) (rt : Nat) (Q : Option AV → St → Prop) (J : Nat → List AV → List AV → St → Prop)
    (pc : Nat) (o : Instr) (L st : List AV) (σ : St) (k : List AV → List AV → St → Prop) : Prop := match o with
  | .aload_n i => ldR L i.val fun z => k L (.inr (.inr (some z)) :: st) σ
  | .aload i => ldR L i fun z => k L (.inr (.inr (some z)) :: st) σ
  | .iload_n i => ldI L i.val fun z => k L (.inl z :: st) σ
  | .iload i => ldI L i fun z => k L (.inl z :: st) σ
  | .lload_n i => ldL L i.val fun z => k L (.inr (.inl z) :: st) σ
  | .lload i => ldL L i fun z => k L (.inr (.inl z) :: st) σ
  | .istore_n i => popI st fun z r => i.val < L.length ∧ k (sto1 L i.val (.inl z)) r σ
  | .istore i => popI st fun z r => i < L.length ∧ k (sto1 L i (.inl z)) r σ
  | .lstore_n i => popL st fun z r => i.val + 1 < L.length ∧ k (sto2 L i.val (.inr (.inl z))) r σ
  | .lstore i => popL st fun z r => i + 1 < L.length ∧ k (sto2 L i (.inr (.inl z))) r σ
  | .astore_n i => popR st fun z r => i.val < L.length ∧ k (sto1 L i.val (.inr (.inr (some z)))) r σ
  | .astore i => popR st fun z r => i < L.length ∧ k (sto1 L i (.inr (.inr (some z)))) r σ
  | .iconst z => k L (.inl z :: st) σ
  | .bipush z => -128 ≤ z ∧ z < 128 ∧ k L (.inl z :: st) σ
  | .sipush z => -32768 ≤ z ∧ z < 32768 ∧ k L (.inl z :: st) σ
  | .lconst i => k L (.inr (.inl (i.val : Int)) :: st) σ
  | .ldc i => i < 100000 ∧ lk1 κ i fun z => k L (.inl z :: st) σ
  | .ldc_w i => i < 100000 ∧ lk1 κ i fun z => k L (.inl z :: st) σ
  | .ldc2_w i => lk1 κ (i + 100000) fun z => k L (.inr (.inl z) :: st) σ
  | .iinc i z => ldI L i fun x => k (sto1 L i (.inl (x + z))) st σ
  | .iadd => popI st fun y r => popI r fun x r => k L (.inl (x + y) :: r) σ
  | .isub => popI st fun y r => popI r fun x r => k L (.inl (x - y) :: r) σ
  | .imul => popI st fun y r => popI r fun x r => k L (.inl (x * y) :: r) σ
  | .ineg => popI st fun x r => k L (.inl (-x) :: r) σ
  | .idiv => popI st fun y r => popI r fun x r => 0 ≤ x ∧ x < 2147483648 ∧ 0 < y ∧ y < 2147483648 ∧ k L (.inl (x / y) :: r) σ
  | .irem => popI st fun y r => popI r fun x r => 0 ≤ x ∧ x < 2147483648 ∧ 0 < y ∧ y < 2147483648 ∧ k L (.inl (x % y) :: r) σ
  | .ishl => popI st fun y r => popI r fun x r => 0 ≤ y ∧ y < 32 ∧ k L (.inl (x * 2 ^ y.toNat) :: r) σ
  | .ishr => popI st fun y r => popI r fun x r => rI x ∧ 0 ≤ y ∧ y < 32 ∧ k L (.inl (x / 2 ^ y.toNat) :: r) σ
  | .iushr => popI st fun y r => popI r fun x r => 0 ≤ y ∧ y < 32 ∧ k L (.inl (x % 4294967296 / 2 ^ y.toNat) :: r) σ
  | .iand => popI st fun y r => popI r fun x r => k L (.inl (iandZ x y) :: r) σ
  | .ior => popI st fun y r => popI r fun x r => k L (.inl (iorZ x y) :: r) σ
  | .ixor => popI st fun y r => popI r fun x r => k L (.inl (ixorZ x y) :: r) σ
  | .ladd => popL st fun y r => popL r fun x r => k L (.inr (.inl (x + y)) :: r) σ
  | .lsub => popL st fun y r => popL r fun x r => k L (.inr (.inl (x - y)) :: r) σ
  | .lmul => popL st fun y r => popL r fun x r => k L (.inr (.inl (x * y)) :: r) σ
  | .lshl => popI st fun y r => popL r fun x r => 0 ≤ y ∧ y < 64 ∧ k L (.inr (.inl (x * 2 ^ y.toNat)) :: r) σ
  | .lshr => popI st fun y r => popL r fun x r => rL x ∧ 0 ≤ y ∧ y < 64 ∧ k L (.inr (.inl (x / 2 ^ y.toNat)) :: r) σ
  | .lushr => popI st fun y r => popL r fun x r => 0 ≤ y ∧ y < 64 ∧ k L (.inr (.inl (x % 18446744073709551616 / 2 ^ y.toNat)) :: r) σ
  | .land => popL st fun y r => popL r fun x r => k L (.inr (.inl (landZ x y)) :: r) σ
  | .lor => popL st fun y r => popL r fun x r => k L (.inr (.inl (lorZ x y)) :: r) σ
  | .lcmp => popL st fun y r => popL r fun x r => rL x ∧ rL y ∧ k L (.inl (cmpZ x y) :: r) σ
  | .i2l => popI st fun x r => rI x ∧ k L (.inr (.inl x) :: r) σ
  | .l2i => popL st fun x r => k L (.inl x :: r) σ
  | .dup => popV st fun v r => isLong v = false ∧ k L (v :: v :: r) σ
  | .dup2 => popV st fun v r => popV r fun w r => isLong v = false ∧ isLong w = false ∧ k L (v :: w :: v :: w :: r) σ
  | .pop => popV st fun v r => isLong v = false ∧ k L r σ
  | .getfield x => popR st fun i r => lk1 Φ x fun q => oF i q.1 q.2 fun t => k L (fldV t (σ i q.2) :: r) σ
  | .putfield x => popI st fun z r => popR r fun i r => lk1 Φ x fun q => oF i q.1 q.2 fun t => t = none ∧ k L r (updR σ i (up1 (σ i) q.2 z))
  | .iaload => popI st fun j r => popR r fun i r => if i = 1000 then sc ∧ 0 ≤ j ∧ j < σ 1001 0 ∧ k L (.inl (σ 1000 j.toNat) :: r) σ else aF i 0 fun n => 0 ≤ j ∧ j < (n : Int) ∧ k L (.inl (σ i j.toNat) :: r) σ
  | .laload => popI st fun j r => popR r fun i r => aF i 1 fun n => 0 ≤ j ∧ j < (n : Int) ∧ k L (.inr (.inl (σ i j.toNat)) :: r) σ
  | .baload => popI st fun j r => popR r fun i r => aF i 2 fun n => 0 ≤ j ∧ j < (n : Int) ∧ k L (.inl (σ i j.toNat) :: r) σ
  | .iastore => popI st fun z r => popI r fun j r => popR r fun i r => aF i 0 fun n => 0 ≤ j ∧ j < (n : Int) ∧ k L r (updR σ i (up1 (σ i) j.toNat z))
  | .lastore => popL st fun z r => popI r fun j r => popR r fun i r => aF i 1 fun n => 0 ≤ j ∧ j < (n : Int) ∧ k L r (updR σ i (up1 (σ i) j.toNat z))
  | .bastore => popI st fun z r => popI r fun j r => popR r fun i r => aF i 2 fun n => 0 ≤ j ∧ j < (n : Int) ∧ (z = 0 ∨ z = 1) ∧ k L r (updR σ i (up1 (σ i) j.toNat z))
  | .arraylength => popR st fun i r => if i = 1000 then sc ∧ k L (.inl (σ 1001 0) :: r) σ else aN i fun n => k L (.inl (n : Int) :: r) σ
  | .goto off => tgt pc off fun t => J t L st σ
  | .ifCond c off => tgt pc off fun t => popI st fun z r => rI z ∧ (match c with
    | .eq => (z = 0 → J t L r σ) ∧ (¬ z = 0 → k L r σ)
    | .ne => (¬ z = 0 → J t L r σ) ∧ (z = 0 → k L r σ)
    | .lt => (z < 0 → J t L r σ) ∧ (0 ≤ z → k L r σ)
    | .ge => (0 ≤ z → J t L r σ) ∧ (z < 0 → k L r σ)
    | .gt => (0 < z → J t L r σ) ∧ (z ≤ 0 → k L r σ)
    | .le => (z ≤ 0 → J t L r σ) ∧ (0 < z → k L r σ))
  | .if_icmp c off => tgt pc off fun t => popI st fun y r => popI r fun x r => rI x ∧ rI y ∧ (match c with
    | .eq => (x = y → J t L r σ) ∧ (¬ x = y → k L r σ)
    | .ne => (¬ x = y → J t L r σ) ∧ (x = y → k L r σ)
    | .lt => (x < y → J t L r σ) ∧ (y ≤ x → k L r σ)
    | .ge => (y ≤ x → J t L r σ) ∧ (x < y → k L r σ)
    | .gt => (y < x → J t L r σ) ∧ (x ≤ y → k L r σ)
    | .le => (x ≤ y → J t L r σ) ∧ (y < x → k L r σ))
  | .tableswitch d lo hi offs => popI st fun z r => rI z ∧ hi + 1 = lo + offs.size ∧ ((z < lo ∨ hi < z) → tgt pc d fun t => J t L r σ) ∧ sw pc z (fun t => J t L r σ) offs.toList lo
  | .ireturn => popI st fun z r => r = [] ∧ (rt = 1 ∨ (rt = 3 ∧ (z = 0 ∨ z = 1))) ∧ Q (some (.inl z)) σ
  | .lreturn => popL st fun z r => r = [] ∧ rt = 2 ∧ Q (some (.inr (.inl z))) σ
  | .return_ => st = [] ∧ rt = 0 ∧ Q none σ
  | .invokevirtual x => lk1 Γ x fun g => popN g.2.1 [] st fun as r => popR r fun i r => 0 < g.1 ∧ oC i (g.1 - 1) ∧ catS r ≤ 8 ∧ g.2.2 (.inr (.inr (some i)) :: as) σ (fun v σ' => (sc → σ' 1000 = σ 1000 ∧ σ' 1001 = σ 1001) ∧ k L (psh v r) σ')
  | .invokestatic x => lk1 Γ x fun g => if g.1 = 1000 then popI st fun n r => popI r fun dp r => popR r fun d r => popI r fun sp r => popR r fun q r => aF q 0 fun nq => aF d 0 fun nd => catS r ≤ 8 ∧ 0 ≤ n ∧ 0 ≤ dp ∧ 0 ≤ sp ∧ sp + n ≤ (nq : Int) ∧ dp + n ≤ (nd : Int) ∧ k L r (updR σ d (va_cpy (σ q) (σ d) sp.toNat dp.toNat n.toNat))
    else popN g.2.1 [] st fun as r => g.1 = 0 ∧ catS r ≤ 8 ∧ g.2.2 as σ (fun v σ' => (sc → σ' 1000 = σ 1000 ∧ σ' 1001 = σ 1001) ∧ k L (psh v r) σ')
  | _ => False
def wpB (sc : Prop) (Φ : List (Nat × Nat × Nat)) (κ : List (Nat × Int)) (Γ : List (Nat × Nat × Nat × Spec)) (rt : Nat) (Q : Option AV → St → Prop) (J : Nat → List AV → List AV → St → Prop) : Nat → List Instr → List AV → List AV → St → Prop
  | pc, [], L, st, σ => J pc L st σ
  | pc, o :: r, L, st, σ => stp sc Φ κ Γ rt Q J pc o L st σ (fun L st σ => wpB sc Φ κ Γ rt Q J (pc + ilen o) r L st σ)
def okB (cc : ByteArray) : Nat → List Instr → Bool
  | _, [] => true
  | pc, o :: r => (match decode cc pc with
    | .ok (i, n) => decide (i = o) && (isSw o || n == ilen o)
    | .error _ => false) && okB cc (pc + ilen o) r
end
section
/-! the small machine is the machine -/
/-- the words that a callee may lean on -/
def TG : List Jvm.Cond := lw_tbl.filter goodWord
theorem tg_in {w : Jvm.Cond} (i : Nat) (h : lw_tbl[i]? = some w) (hg : goodWord w = true) : w ∈ TG := List.mem_filter.mpr ⟨List.mem_of_getElem? h, hg⟩
theorem tg_good : ∀ w ∈ TG, (w.onTables && w.keeps) = true ∨ ∃ ty, w = .arrayClass ty := fun _ h => good_of_word (List.mem_filter.mp h).2
theorem tg_tbl : ∀ w ∈ TG, w ∈ lw_tbl := fun _ h => (List.mem_filter.mp h).1
def rmOf (lv : Nat) : Room := { frames := lv, cells := 0, slots := 0, locals := 36 * lv }
def aQ (D : va_G) (cA : Nat → ClassId) (a : Nat → Nat) (Q : Option AV → St → Prop) (A : Nat → Prop) : Array Value → State → Outcome → State → Prop :=
  fun _ st oc t => (∃ (r : Option AV) (u : St), oc = .returned (r.map (conc a)) ∧ Q r u ∧ va_P D CL (wsOf cA a u) t.heap ∧ va_K D CL (tysOf cA) t ∧ va_D A (wsOf cA a u)) ∧ va_F A st t
/-- a method keeps a meaning -/
def Sat (l : Launch) (y : MethodName) (bytes : ByteArray) (maxL : Nat) (ret : Option FieldType) (lv : Nat) (S : Spec) : Prop :=
  ∀ (D : va_G) (cA : Nat → ClassId) (a : Nat → Nat) (sz : Nat) (σ : St) (as : List AV) (Q : Option AV → St → Prop), S as σ Q →
    Met l y (Jvm.Cond.code y bytes maxL ret :: TG) (rmOf lv) (va_Pc (as.map (conc a)) (fun U => U.heap.size = sz ∧ va_P D CL (wsOf cA a σ) U.heap ∧ va_K D CL (tysOf cA) U ∧ va_D (fun _ => True) (wsOf cA a σ))) (aQ D cA a Q (va_A (wsOf cA a σ) sz)) 0 0 (va_A (wsOf cA a σ) sz)
def CalleeOK (l : Launch) (own : String) (R : Room) (g : Nat × Nat × Nat × Spec) : Prop :=
  (g.2.1 = 1000 ∧ Jvm.Cond.methodLink own g.1 arraycopyName ∈ TG ∧ 1 ≤ R.frames ∧ 26 ≤ R.locals) ∨
  (g.2.1 ≠ 1000 ∧ ∃ (y : MethodName) (bytes : ByteArray) (maxL : Nat) (ret : Option FieldType) (lv : Nat),
    Sat l y bytes maxL ret lv g.2.2.2 ∧ (lv + 1 ≤ R.frames ∧ 8 + (maxL + 11) + 36 * lv ≤ R.locals) ∧ Jvm.Cond.methodLink own g.1 y ∈ TG ∧ Jvm.Cond.code y bytes maxL ret ∈ TG ∧ Jvm.Cond.initialized y.cls ∈ TG ∧
    (y.cls ≠ "java/lang/invoke/MethodHandle" ∧ y.cls ≠ "java/lang/invoke/VarHandle" ∧ (parseMethodDescriptor y.desc).map (fun d => d.parameters.length) = some g.2.2.1) ∧
    ((g.2.1 = 0 ∧ Jvm.Cond.static y ∈ TG) ∨ (0 < g.2.1 ∧ Jvm.Cond.instanceMethod y ∈ TG ∧ Jvm.Cond.selects y.cls y y ∈ TG ∧ ∃ T N, CL[g.2.1 - 1]? = some (y.cls, T, N))))
def FieldOK (own : String) (q : Nat × Nat × Nat) : Prop := ∃ (C : String) (T : u_T) (N : Nat) (ty : Nat → FieldType), CL[q.2.1]? = some (C, T, N) ∧ q.2.2 < N ∧ (T q.2.2).1 = C ∧ Jvm.Cond.fieldLink own q.1 C (T q.2.2).2.1 (T q.2.2).2.2.1 ∈ TG ∧
  (∀ w ∈ u_ws C T N, w ∈ TG) ∧ (∀ k, k < N → parseFieldDescriptor (T k).2.2.1 = some (ty k)) ∧ (∀ a, a < N → ∀ b, b < N → a ≠ b → (T a).2.1 ≠ (T b).2.1) ∧ (ty q.2.2 = .int → (T q.2.2).2.2.2 = false) ∧ (ty q.2.2 = .int ∨ ∀ (i : Nat) (fs : List (Option Nat)), SH[i]? = some (.inl (q.2.1, fs)) → fs[q.2.2]? ≠ some none)
def ConstOK (own : String) (q : Nat × Int) : Prop := (q.1 < 100000 → Jvm.Cond.constant own q.1 (Int32.ofInt q.2) ∈ TG) ∧ (100000 ≤ q.1 → Jvm.Cond.constantLong own (q.1 - 100000) (Int64.ofInt q.2) ∈ TG)
theorem tbl_native : Jvm.Cond.native arraycopyName ∈ TG ∧ Jvm.Cond.static arraycopyName ∈ TG ∧ Jvm.Cond.initialized "java/lang/System" ∈ TG := ⟨tg_in (401) (by decide +kernel) (by decide +kernel), tg_in (400) (by decide +kernel) (by decide +kernel), tg_in (60) (by decide +kernel) (by decide +kernel)⟩
section SOUND
variable {p : Program} {l : Launch} {e : Env} {R : Room} {s : State} {m : MethodId} {args : Array Value} {below : List Frame} {meth : Method} {c : Code} {cells slots : Nat} {Qf : State → Prop} {cc : ByteArray} {D : va_G} {cA : Nat → ClassId} {a : Nat → Nat} {A : Nat → Prop} {H0 : Heap} {own : String} {nL : Nat} {sc : Prop}
/-- the script, where there is one -/
def Scr (sc : Prop) (s : State) (a : Nat → Nat) (A : Nat → Prop) (H0 : Heap) (σ : St) : Prop := sc → va_X (a 1000) (σ 1001 0).toNat (fun j => Int32.ofInt (σ 1000 j)) s H0 ∧ a 1000 < H0.size ∧ ¬ A (a 1000) ∧ 0 ≤ σ 1001 0 ∧ σ 1001 0 < 2147483648
def Good (p : Program) (l : Launch) (e : Env) (R : Room) (s : State) (m : MethodId) (args : Array Value) (below : List Frame) (meth : Method) (c : Code) (cells slots : Nat) (Qf : State → Prop) (D : va_G) (cA : Nat → ClassId) (a : Nat → Nat) (A : Nat → Prop) (H0 : Heap) (nL : Nat) (sc : Prop) (pc : Nat) (L st : List AV) (σ : St) : Prop :=
  ∀ (H : Heap) (locs : List Loc) (ls : Array Slot), va_P D CL (wsOf cA a σ) H → va_D A (wsOf cA a σ) → va_S A H0 H locs → lv_has ls nL (lvl a 0 L) → L.length = nL → Scr sc s a A H0 σ → W p l e R s m args below meth c H locs cells slots Qf (F0 m pc ls (st.map (conc a)))
theorem catS_eq (a : Nat → Nat) : ∀ st : List AV, ((st.map (conc a)).map fun v => v.category).sum = catS st
  | [] => rfl
  | v :: r => by rw [List.map_cons, List.map_cons, List.sum_cons, catS_eq a r, conc_cat]; rfl
theorem popI_inv {st : List AV} {f : Int → List AV → Prop} (h : popI st f) : ∃ z r, st = .inl z :: r ∧ f z r := by
  unfold popI at h; split at h
  · exact ⟨_, _, rfl, h⟩
  · exact h.elim
theorem popL_inv {st : List AV} {f : Int → List AV → Prop} (h : popL st f) : ∃ z r, st = .inr (.inl z) :: r ∧ f z r := by
  unfold popL at h; split at h
  · exact ⟨_, _, rfl, h⟩
  · exact h.elim
theorem popR_inv {st : List AV} {f : Nat → List AV → Prop} (h : popR st f) : ∃ z r, st = .inr (.inr (some z)) :: r ∧ f z r := by
  unfold popR at h; split at h
  · exact ⟨_, _, rfl, h⟩
  · exact h.elim
theorem popV_inv {st : List AV} {f : AV → List AV → Prop} (h : popV st f) : ∃ z r, st = z :: r ∧ f z r := by
  unfold popV at h; split at h
  · exact ⟨_, _, rfl, h⟩
  · exact h.elim
theorem popN_inv : ∀ (n : Nat) (as st : List AV) (f : List AV → List AV → Prop), popN n as st f → ∃ bs r, st = bs.reverse ++ r ∧ bs.length = n ∧ f (bs ++ as) r
  | 0, as, st, f, h => ⟨[], st, rfl, rfl, h⟩
  | n + 1, as, st, f, h => by
    obtain ⟨v, r, rfl, h1⟩ := popV_inv h
    obtain ⟨bs, r', rfl, h2, h3⟩ := popN_inv n (v :: as) r f h1
    exact ⟨bs ++ [v], r', by simp, by simp [h2], by simpa using h3⟩
theorem ldI_inv {L : List AV} {i : Nat} {f : Int → Prop} (h : ldI L i f) : ∃ z, L[i]? = some (.inl z) ∧ f z := by
  unfold ldI at h; split at h
  · exact ⟨_, by assumption, h⟩
  · exact h.elim
theorem ldL_inv {L : List AV} {i : Nat} {f : Int → Prop} (h : ldL L i f) : ∃ z, L[i]? = some (.inr (.inl z)) ∧ f z := by
  unfold ldL at h; split at h
  · exact ⟨_, by assumption, h⟩
  · exact h.elim
theorem ldR_inv {L : List AV} {i : Nat} {f : Nat → Prop} (h : ldR L i f) : ∃ z, L[i]? = some (.inr (.inr (some z))) ∧ f z := by
  unfold ldR at h; split at h
  · exact ⟨_, by assumption, h⟩
  · exact h.elim
theorem oF_inv {i ci k : Nat} {f : Option Nat → Prop} (h : oF i ci k f) : ∃ fs q, SH[i]? = some (.inl (ci, fs)) ∧ fs[k]? = some q ∧ f q := by
  unfold oF at h
  split at h
  · next c fs hs =>
    obtain ⟨h1, h2⟩ := h
    subst h1
    split at h2
    · next q hq => exact ⟨fs, q, hs, hq, h2⟩
    · exact h2.elim
  · exact h.elim
theorem oC_inv {i ci : Nat} (h : oC i ci) : ∃ fs, SH[i]? = some (.inl (ci, fs)) := by
  unfold oC at h
  split at h
  · next c fs hs => subst h; exact ⟨fs, hs⟩
  · exact h.elim
theorem aF_inv {i kd : Nat} {f : Nat → Prop} (h : aF i kd f) : ∃ n, SH[i]? = some (.inr (kd, n)) ∧ f n := by
  unfold aF at h
  split at h
  · next k n hs =>
    obtain ⟨h1, h2⟩ := h
    subst h1
    exact ⟨n, hs, h2⟩
  · exact h.elim
theorem aN_inv {i : Nat} {f : Nat → Prop} (h : aN i f) : ∃ k n, SH[i]? = some (.inr (k, n)) ∧ (k = 0 ∨ k = 1 ∨ k = 2) ∧ f n := by
  unfold aN at h
  split at h
  · next k n hs => exact ⟨k, n, hs, h.1, h.2⟩
  · exact h.elim
theorem SH_len : ∀ x ∈ SH, ∀ k n, x = .inr (k, n) → n ≤ 2147483647 := by
  intro x hx k n e
  have h : SH.all (fun x => match x with
    | .inr (_, n) => decide (n ≤ 2147483647)
    | _ => true) = true := by decide +kernel
  have h1 := List.all_eq_true.mp h x hx
  subst e
  simpa using h1
theorem SH_le {i k n : Nat} (h : SH[i]? = some (.inr (k, n))) : n ≤ 2147483647 := SH_len _ (List.mem_of_getElem? h) k n rfl
theorem SH_1000 {x : Shp} {i : Nat} (h : SH[i]? = some x) : i ≠ 1000 ∧ i ≠ 1001 := by
  have h1 : i < SH.length := (List.getElem?_eq_some_iff.mp h).1
  have h2 : SH.length = 67 := by decide +kernel
  omega
theorem Scr_upd {σ : St} {i : Nat} {f : Nat → Int} (h : Scr sc s a A H0 σ) {x : Shp} (hi : SH[i]? = some x) : Scr sc s a A H0 (updR σ i f) := by
  intro hs
  have h1 := h hs
  rw [updR_ne _ _ _ _ (Ne.symm (SH_1000 hi).1), updR_ne _ _ _ _ (Ne.symm (SH_1000 hi).2)]
  exact h1
theorem cell_put {f : Nat → Int} {ci k : Nat} {fs : List (Option Nat)} {z : Int} (h : fs[k]? = some none) : cellE cA a (up1 f k z) (.inl (ci, fs)) = .inr (ci, (fs.mapIdx (fun k q => fV a f k q)).set k (.int (Int32.ofInt z))) := by
  show Sum.inr (ci, _) = _
  congr 2
  apply List.ext_getElem?
  intro j
  by_cases hj : j = k
  · subst hj
    rw [List.getElem?_set_self (by rw [List.length_mapIdx]; exact (List.getElem?_eq_some_iff.mp h).1), List.getElem?_mapIdx, h]
    show some (Value.int (Int32.ofInt (up1 f j z j))) = _
    rw [up1_eq]
  · rw [List.getElem?_set_ne (Ne.symm hj), List.getElem?_mapIdx, List.getElem?_mapIdx]
    cases fs[j]? with
    | none => rfl
    | some q =>
      cases q with
      | none => show some (Value.int (Int32.ofInt (up1 f k z j))) = some (Value.int (Int32.ofInt (f j))); rw [up1_ne _ _ _ _ hj]
      | some t => rfl
theorem up1_I {f : Nat → Int} {j : Nat} {z : Int} : (fun k => Int32.ofInt (up1 f j z k)) = upd (fun k => Int32.ofInt (f k)) j (Int32.ofInt z) := by
  funext k
  unfold up1 upd
  split <;> rfl
theorem up1_L {f : Nat → Int} {j : Nat} {z : Int} : (fun k => Int64.ofInt (up1 f j z k)) = vp_updL (fun k => Int64.ofInt (f k)) j (Int64.ofInt z) := by
  funext k
  unfold up1 vp_updL
  split <;> rfl
theorem cpy_I {f g : Nat → Int} {sp dp n : Nat} : (fun k => Int32.ofInt (va_cpy f g sp dp n k)) = va_cpy (fun k => Int32.ofInt (f k)) (fun k => Int32.ofInt (g k)) sp dp n := by
  funext k
  unfold va_cpy
  split <;> rfl
end SOUND
end
section
/-! the small machine's step is the machine's -/
section SOUND2
variable {p : Program} {l : Launch} {e : Env} {R : Room} {s : State} {m : MethodId} {args : Array Value} {below : List Frame} {meth : Method} {c : Code} {cells slots : Nat} {Qf : State → Prop} {cc : ByteArray} {D : va_G} {cA : Nat → ClassId} {a : Nat → Nat} {A : Nat → Prop} {H0 : Heap} {own : String} {nL : Nat} {sc : Prop}
theorem aq_call {H : Heap} {locs : List Loc} {pc : Nat} {ls : Array Slot} {st0 rest : List Value} {Q : Option AV → St → Prop} {A1 : Nat → Prop} {az : Array Value} {free : Addr → Prop}
    (hr : va_Run p l e R s m args below meth c H locs cells slots 0 0 (F0 m pc ls st0) rest (aQ D cA a Q A1 az) free) (hS : va_S A H0 H locs) (hA : ∀ q, q < H.size → A1 q → A q) (hf : ∀ q, free q → A q)
    (kk : ∀ (r : Option AV) (u : St) (H1 : Heap) (locs1 : List Loc), Q r u → va_P D CL (wsOf cA a u) H1 → va_D A1 (wsOf cA a u) → va_S A H0 H1 locs1 → W p l e R s m args below meth c H1 locs1 cells slots Qf (F0 m (pc + 3) ls ((r.map (conc a)).toList ++ rest))) : W p l e R s m args below meth c H locs cells slots Qf (F0 m pc ls st0) := by
  intro T hT X
  obtain ⟨v, st₀, t, T', L, h0, X', hL, e1, e2, ⟨⟨r, u, hv, hq, hP, hK, hD⟩, hz, hk⟩, st⟩ := hr T hT X
  cases hv
  rw [h0] at hz hk
  obtain ⟨t2, a1, b1⟩ := kk r u T'.heap (locs ++ L) hq (by rw [e1]; exact hP) hD
    ⟨Nat.le_trans hS.1 (by rw [e1]; exact hz), fun q h1 h2 => by rw [e1, hk q (Nat.lt_of_lt_of_le h1 hS.1) (fun z => h2 (hA q (Nat.lt_of_lt_of_le h1 hS.1) z))]; exact hS.2.1 q h1 h2, fun q hq => by
      rcases List.mem_append.mp hq with h | h
      · exact hS.2.2 q h
      · exact hf _ (hL q h)⟩ T' rfl X'
  exact ⟨t2, st t2 a1, b1⟩
theorem ws_A {σ : St} {H : Heap} {locs : List Loc} (hD : va_D A (wsOf cA a σ)) (hS : va_S A H0 H locs) (hA : ∀ q, H0.size ≤ q → A q) : ∀ q, va_A (wsOf cA a σ) H.size q → A q := by
  intro q h
  rcases h with ⟨k, e, h⟩ | h
  · exact hD.2 k (q, e) h
  · exact hA q (Nat.le_trans hS.1 h)
theorem sw_inv {pc : Nat} {z : Int} {f : Nat → Prop} : ∀ (os : List Int) (lo : Int), sw pc z f os lo → lo ≤ z → z < lo + os.length → ∃ o, os[(z - lo).toNat]? = some o ∧ tgt pc o f
  | [], lo, _, h1, h2 => by simp at h2; omega
  | o :: os, lo, h, h1, h2 => by
    by_cases hz : z = lo
    · subst hz
      exact ⟨o, by simp, h.1 rfl⟩
    · obtain ⟨o', g1, g2⟩ := sw_inv os (lo + 1) h.2 (by omega) (by simp at h2; omega)
      refine ⟨o', ?_, g2⟩
      rw [show (z - lo).toNat = (z - (lo + 1)).toNat + 1 by omega, List.getElem?_cons_succ]
      exact g1
set_option maxHeartbeats 4000000 in
theorem stp_ok (hx : p.tables.exec = Jvm.exec) (hb : c.code = cc) (hml : c.maxLocals = nL) (hown : s.vm.findClass own = some m.cls) (hts : ∀ w ∈ TG, w.before args s = true) (hK : va_K D CL (tysOf cA) s) (hA : ∀ q, H0.size ≤ q → A q) (hcs : cells ≤ R.cells ∧ slots ≤ R.slots)
    {Φ : List (Nat × Nat × Nat)} {κ : List (Nat × Int)} {Γ : List (Nat × Nat × Nat × Spec)} {rt : Nat} {Q : Option AV → St → Prop} (hΦ : ∀ q ∈ Φ, FieldOK own q) (hκ : ∀ q ∈ κ, ConstOK own q) (hΓ : ∀ g ∈ Γ, CalleeOK l own R g)
    (hrI : ∀ pc L z σ, decode cc pc = .ok (.ireturn, 1) → (rt = 1 ∨ (rt = 3 ∧ (z = 0 ∨ z = 1))) → Q (some (.inl z)) σ → Good p l e R s m args below meth c cells slots Qf D cA a A H0 nL sc pc L [.inl z] σ)
    (hrL : ∀ pc L z σ, decode cc pc = .ok (.lreturn, 1) → rt = 2 → Q (some (.inr (.inl z))) σ → Good p l e R s m args below meth c cells slots Qf D cA a A H0 nL sc pc L [.inr (.inl z)] σ)
    (hrV : ∀ pc L σ, decode cc pc = .ok (.return_, 1) → rt = 0 → Q none σ → Good p l e R s m args below meth c cells slots Qf D cA a A H0 nL sc pc L [] σ)
    {J : Nat → List AV → List AV → St → Prop} (hJ : ∀ pc L st σ, J pc L st σ → Good p l e R s m args below meth c cells slots Qf D cA a A H0 nL sc pc L st σ)
    {pc : Nat} {o : Instr} {L st : List AV} {σ : St} {k : List AV → List AV → St → Prop} (hk : ∀ L st σ, k L st σ → Good p l e R s m args below meth c cells slots Qf D cA a A H0 nL sc (pc + ilen o) L st σ)
    {n : Nat} (hd : decode cc pc = .ok (o, n)) (hn : isSw o = true ∨ n = ilen o) (h : stp sc Φ κ Γ rt Q J pc o L st σ k) : Good p l e R s m args below meth c cells slots Qf D cA a A H0 nL sc pc L st σ := by
  have goJ : ∀ {off : Int} {L st : List AV} {σ : St}, (tgt pc off fun t => J t L st σ) → ∃ t : Nat, (pc : Int) + off = (t : Int) ∧ Good p l e R s m args below meth c cells slots Qf D cA a A H0 nL sc t L st σ := by
    intro off L st σ h
    exact ⟨((pc : Int) + off).toNat, by have := h.1; omega, hJ _ _ _ _ h.2⟩
  cases o
  case iload i =>
    have hn : n = 2 := by simpa [isSw, ilen] using hn
    subst hn
    obtain ⟨z, h1, h2⟩ := ldI_inv h
    intro H locs ls hP hD hS hl hL hsc
    refine lv_iload hx hb hd (lvl_at hl h1 (fun q => by cases q)) ?_
    exact hk _ _ _ h2 H locs ls hP hD hS hl hL hsc
  case iload_n i =>
    have hn : n = 1 := by simpa [isSw, ilen] using hn
    subst hn
    obtain ⟨z, h1, h2⟩ := ldI_inv h
    intro H locs ls hP hD hS hl hL hsc
    refine lv_iload_n hx hb hd rfl (lvl_at hl h1 (fun q => by cases q)) ?_
    exact hk _ _ _ h2 H locs ls hP hD hS hl hL hsc
  case lload i =>
    have hn : n = 2 := by simpa [isSw, ilen] using hn
    subst hn
    obtain ⟨z, h1, h2⟩ := ldL_inv h
    intro H locs ls hP hD hS hl hL hsc
    refine lv_lload hx hb hd (lvl_at hl h1 (fun q => by cases q)) ?_
    exact hk _ _ _ h2 H locs ls hP hD hS hl hL hsc
  case lload_n i =>
    have hn : n = 1 := by simpa [isSw, ilen] using hn
    subst hn
    obtain ⟨z, h1, h2⟩ := ldL_inv h
    intro H locs ls hP hD hS hl hL hsc
    refine lv_lload_n hx hb hd rfl (lvl_at hl h1 (fun q => by cases q)) ?_
    exact hk _ _ _ h2 H locs ls hP hD hS hl hL hsc
  case aload i =>
    have hn : n = 2 := by simpa [isSw, ilen] using hn
    subst hn
    obtain ⟨z, h1, h2⟩ := ldR_inv h
    intro H locs ls hP hD hS hl hL hsc
    refine lv_aload hx hb hd (lvl_at hl h1 (fun q => by cases q)) ?_
    exact hk _ _ _ h2 H locs ls hP hD hS hl hL hsc
  case aload_n i =>
    have hn : n = 1 := by simpa [isSw, ilen] using hn
    subst hn
    obtain ⟨z, h1, h2⟩ := ldR_inv h
    intro H locs ls hP hD hS hl hL hsc
    refine lv_aload_n hx hb hd rfl (lvl_at hl h1 (fun q => by cases q)) ?_
    exact hk _ _ _ h2 H locs ls hP hD hS hl hL hsc
  case istore i =>
    have hn : n = 2 := by simpa [isSw, ilen] using hn
    subst hn
    obtain ⟨z, r, rfl, h1, h2⟩ := popI_inv h
    intro H locs ls hP hD hS hl hL hsc
    refine lv_istore hx hb hd hl (by rw [← hL]; exact h1) rfl (fun ls' hl' => ?_)
    exact hk _ _ _ h2 H locs ls' hP hD hS (lvl_sto1 hl') (by rw [sto1_len]; exact hL) hsc
  case istore_n i =>
    have hn : n = 1 := by simpa [isSw, ilen] using hn
    subst hn
    obtain ⟨z, r, rfl, h1, h2⟩ := popI_inv h
    intro H locs ls hP hD hS hl hL hsc
    refine lv_istore_n hx hb hd rfl hl (by rw [← hL]; exact h1) rfl (fun ls' hl' => ?_)
    exact hk _ _ _ h2 H locs ls' hP hD hS (lvl_sto1 hl') (by rw [sto1_len]; exact hL) hsc
  case lstore i =>
    have hn : n = 2 := by simpa [isSw, ilen] using hn
    subst hn
    obtain ⟨z, r, rfl, h1, h2⟩ := popL_inv h
    intro H locs ls hP hD hS hl hL hsc
    refine lv_lstore hx hb hd hl (by rw [← hL]; exact h1) rfl (fun ls' hl' => ?_)
    exact hk _ _ _ h2 H locs ls' hP hD hS (lvl_sto2 hl') (by rw [sto2_len]; exact hL) hsc
  case lstore_n i =>
    have hn : n = 1 := by simpa [isSw, ilen] using hn
    subst hn
    obtain ⟨z, r, rfl, h1, h2⟩ := popL_inv h
    intro H locs ls hP hD hS hl hL hsc
    refine lv_lstore_n hx hb hd rfl hl (by rw [← hL]; exact h1) rfl (fun ls' hl' => ?_)
    exact hk _ _ _ h2 H locs ls' hP hD hS (lvl_sto2 hl') (by rw [sto2_len]; exact hL) hsc
  case astore i =>
    have hn : n = 2 := by simpa [isSw, ilen] using hn
    subst hn
    obtain ⟨z, r, rfl, h1, h2⟩ := popR_inv h
    intro H locs ls hP hD hS hl hL hsc
    refine lv_astore hx hb hd hl (by rw [← hL]; exact h1) rfl (fun ls' hl' => ?_)
    exact hk _ _ _ h2 H locs ls' hP hD hS (lvl_sto1 hl') (by rw [sto1_len]; exact hL) hsc
  case astore_n i =>
    have hn : n = 1 := by simpa [isSw, ilen] using hn
    subst hn
    obtain ⟨z, r, rfl, h1, h2⟩ := popR_inv h
    intro H locs ls hP hD hS hl hL hsc
    refine lv_astore_n hx hb hd rfl hl (by rw [← hL]; exact h1) rfl (fun ls' hl' => ?_)
    exact hk _ _ _ h2 H locs ls' hP hD hS (lvl_sto1 hl') (by rw [sto1_len]; exact hL) hsc
  case iconst z =>
    have hn : n = 1 := by simpa [isSw, ilen] using hn
    subst hn
    intro H locs ls hP hD hS hl hL hsc
    exact lv_iconst hx hb hd rfl (hk _ _ _ h H locs ls hP hD hS hl hL hsc)
  case bipush z =>
    have hn : n = 2 := by simpa [isSw, ilen] using hn
    subst hn
    intro H locs ls hP hD hS hl hL hsc
    exact lv_bipush hx hb hd (zI_byte h.1 h.2.1) (hk _ _ _ h.2.2 H locs ls hP hD hS hl hL hsc)
  case sipush z =>
    have hn : n = 3 := by simpa [isSw, ilen] using hn
    subst hn
    intro H locs ls hP hD hS hl hL hsc
    exact lv_sipush hx hb hd (zI_short h.1 h.2.1) (hk _ _ _ h.2.2 H locs ls hP hD hS hl hL hsc)
  case lconst z =>
    have hn : n = 1 := by simpa [isSw, ilen] using hn
    subst hn
    intro H locs ls hP hD hS hl hL hsc
    exact lv_lconst hx hb hd (Int64.ofInt_eq_ofNat).symm (hk _ _ _ h H locs ls hP hD hS hl hL hsc)
  case ldc i =>
    have hn : n = 2 := by simpa [isSw, ilen] using hn
    subst hn
    obtain ⟨h0, h⟩ := h
    obtain ⟨z, h1, h2⟩ := lk1_inv h
    intro H locs ls hP hD hS hl hL hsc
    exact lv_ldc hx hb hown (hts _ ((hκ _ h1).1 h0)) hd (hk _ _ _ h2 H locs ls hP hD hS hl hL hsc)
  case ldc_w i =>
    have hn : n = 3 := by simpa [isSw, ilen] using hn
    subst hn
    obtain ⟨h0, h⟩ := h
    obtain ⟨z, h1, h2⟩ := lk1_inv h
    intro H locs ls hP hD hS hl hL hsc
    exact lv_ldcw hx hb hown (hts _ ((hκ _ h1).1 h0)) hd (hk _ _ _ h2 H locs ls hP hD hS hl hL hsc)
  case ldc2_w i =>
    have hn : n = 3 := by simpa [isSw, ilen] using hn
    subst hn
    obtain ⟨z, h1, h2⟩ := lk1_inv h
    intro H locs ls hP hD hS hl hL hsc
    have hw := (hκ _ h1).2 (by omega)
    rw [Nat.add_sub_cancel] at hw
    exact lv_ldc2 hx hb hown (hts _ hw) hd (hk _ _ _ h2 H locs ls hP hD hS hl hL hsc)
  case iinc i z =>
    have hn : n = 3 := by simpa [isSw, ilen] using hn
    subst hn
    obtain ⟨x, h1, h2⟩ := ldI_inv h
    intro H locs ls hP hD hS hl hL hsc
    obtain ⟨q, hq⟩ := List.getElem?_of_mem (lvl_mem (a := a) (i := 0).mpr ⟨i, _, h1, (fun q => by cases q), rfl⟩)
    rw [Nat.zero_add] at hq
    exact lv_iinc hx hb hd hl hq (Int32.ofInt_add x z).symm (by rw [← hL]; exact (List.getElem?_eq_some_iff.mp h1).1) rfl (fun ls' hl' => hk _ _ _ h2 H locs ls' hP hD hS (lvl_sto1 (v := .inl (x + z)) hl') (by rw [sto1_len]; exact hL) hsc)
  case iadd =>
    have hn : n = 1 := by simpa [isSw, ilen] using hn
    subst hn
    obtain ⟨y, r, rfl, h⟩ := popI_inv h
    obtain ⟨x, r, rfl, h⟩ := popI_inv h
    intro H locs ls hP hD hS hl hL hsc
    refine lv_iadd hx hb hd ?_
    have g := hk _ _ _ h H locs ls hP hD hS hl hL hsc
    rw [List.map_cons, conc] at g
    rw [← Int32.ofInt_add]
    exact g
  case isub =>
    have hn : n = 1 := by simpa [isSw, ilen] using hn
    subst hn
    obtain ⟨y, r, rfl, h⟩ := popI_inv h
    obtain ⟨x, r, rfl, h⟩ := popI_inv h
    intro H locs ls hP hD hS hl hL hsc
    refine lv_isub hx hb hd ?_
    have g := hk _ _ _ h H locs ls hP hD hS hl hL hsc
    rw [List.map_cons, conc] at g
    rw [← Int32.ofInt_sub]
    exact g
  case imul =>
    have hn : n = 1 := by simpa [isSw, ilen] using hn
    subst hn
    obtain ⟨y, r, rfl, h⟩ := popI_inv h
    obtain ⟨x, r, rfl, h⟩ := popI_inv h
    intro H locs ls hP hD hS hl hL hsc
    refine lv_imul hx hb hd ?_
    have g := hk _ _ _ h H locs ls hP hD hS hl hL hsc
    rw [List.map_cons, conc] at g
    rw [← Int32.ofInt_mul]
    exact g
  case iand =>
    have hn : n = 1 := by simpa [isSw, ilen] using hn
    subst hn
    obtain ⟨y, r, rfl, h⟩ := popI_inv h
    obtain ⟨x, r, rfl, h⟩ := popI_inv h
    intro H locs ls hP hD hS hl hL hsc
    refine lv_iand hx hb hd ?_
    have g := hk _ _ _ h H locs ls hP hD hS hl hL hsc
    rw [List.map_cons, conc] at g
    rw [zI_and]
    exact g
  case ior =>
    have hn : n = 1 := by simpa [isSw, ilen] using hn
    subst hn
    obtain ⟨y, r, rfl, h⟩ := popI_inv h
    obtain ⟨x, r, rfl, h⟩ := popI_inv h
    intro H locs ls hP hD hS hl hL hsc
    refine lv_ior hx hb hd ?_
    have g := hk _ _ _ h H locs ls hP hD hS hl hL hsc
    rw [List.map_cons, conc] at g
    rw [zI_or]
    exact g
  case ixor =>
    have hn : n = 1 := by simpa [isSw, ilen] using hn
    subst hn
    obtain ⟨y, r, rfl, h⟩ := popI_inv h
    obtain ⟨x, r, rfl, h⟩ := popI_inv h
    intro H locs ls hP hD hS hl hL hsc
    refine lv_ixor hx hb hd ?_
    have g := hk _ _ _ h H locs ls hP hD hS hl hL hsc
    rw [List.map_cons, conc] at g
    rw [zI_xor]
    exact g
  case ladd =>
    have hn : n = 1 := by simpa [isSw, ilen] using hn
    subst hn
    obtain ⟨y, r, rfl, h⟩ := popL_inv h
    obtain ⟨x, r, rfl, h⟩ := popL_inv h
    intro H locs ls hP hD hS hl hL hsc
    refine lv_ladd hx hb hd ?_
    have g := hk _ _ _ h H locs ls hP hD hS hl hL hsc
    rw [List.map_cons, conc] at g
    rw [← Int64.ofInt_add]
    exact g
  case lsub =>
    have hn : n = 1 := by simpa [isSw, ilen] using hn
    subst hn
    obtain ⟨y, r, rfl, h⟩ := popL_inv h
    obtain ⟨x, r, rfl, h⟩ := popL_inv h
    intro H locs ls hP hD hS hl hL hsc
    refine lv_lsub hx hb hd ?_
    have g := hk _ _ _ h H locs ls hP hD hS hl hL hsc
    rw [List.map_cons, conc] at g
    rw [← Int64.ofInt_sub]
    exact g
  case lmul =>
    have hn : n = 1 := by simpa [isSw, ilen] using hn
    subst hn
    obtain ⟨y, r, rfl, h⟩ := popL_inv h
    obtain ⟨x, r, rfl, h⟩ := popL_inv h
    intro H locs ls hP hD hS hl hL hsc
    refine lv_lmul hx hb hd ?_
    have g := hk _ _ _ h H locs ls hP hD hS hl hL hsc
    rw [List.map_cons, conc] at g
    rw [← Int64.ofInt_mul]
    exact g
  case land =>
    have hn : n = 1 := by simpa [isSw, ilen] using hn
    subst hn
    obtain ⟨y, r, rfl, h⟩ := popL_inv h
    obtain ⟨x, r, rfl, h⟩ := popL_inv h
    intro H locs ls hP hD hS hl hL hsc
    refine lv_land hx hb hd ?_
    have g := hk _ _ _ h H locs ls hP hD hS hl hL hsc
    rw [List.map_cons, conc] at g
    rw [zL_and]
    exact g
  case lor =>
    have hn : n = 1 := by simpa [isSw, ilen] using hn
    subst hn
    obtain ⟨y, r, rfl, h⟩ := popL_inv h
    obtain ⟨x, r, rfl, h⟩ := popL_inv h
    intro H locs ls hP hD hS hl hL hsc
    refine lv_lor hx hb hd ?_
    have g := hk _ _ _ h H locs ls hP hD hS hl hL hsc
    rw [List.map_cons, conc] at g
    rw [zL_or]
    exact g
  case idiv =>
    have hn : n = 1 := by simpa [isSw, ilen] using hn
    subst hn
    obtain ⟨y, r, rfl, h⟩ := popI_inv h
    obtain ⟨x, r, rfl, h⟩ := popI_inv h
    intro H locs ls hP hD hS hl hL hsc
    obtain ⟨h1, h2, h3, h4, h5⟩ := h
    refine lv_idiv hx hb hd (by rw [zI_eq0 (by unfold rI; omega)]; omega) ?_
    have g := hk _ _ _ h5 H locs ls hP hD hS hl hL hsc
    rw [List.map_cons, conc] at g
    rw [zI_div h1 h2 h3 h4]
    exact g
  case irem =>
    have hn : n = 1 := by simpa [isSw, ilen] using hn
    subst hn
    obtain ⟨y, r, rfl, h⟩ := popI_inv h
    obtain ⟨x, r, rfl, h⟩ := popI_inv h
    intro H locs ls hP hD hS hl hL hsc
    obtain ⟨h1, h2, h3, h4, h5⟩ := h
    refine lv_irem hx hb hd (by rw [zI_eq0 (by unfold rI; omega)]; omega) ?_
    have g := hk _ _ _ h5 H locs ls hP hD hS hl hL hsc
    rw [List.map_cons, conc] at g
    rw [zI_rem h1 h2 h3 h4]
    exact g
  case ishl =>
    have hn : n = 1 := by simpa [isSw, ilen] using hn
    subst hn
    obtain ⟨y, r, rfl, h⟩ := popI_inv h
    obtain ⟨x, r, rfl, h⟩ := popI_inv h
    intro H locs ls hP hD hS hl hL hsc
    obtain ⟨h1, h2, h5⟩ := h
    refine lv_ishl hx hb hd ?_
    have g := hk _ _ _ h5 H locs ls hP hD hS hl hL hsc
    rw [List.map_cons, conc] at g
    rw [zI_shl h1 h2]
    exact g
  case ishr =>
    have hn : n = 1 := by simpa [isSw, ilen] using hn
    subst hn
    obtain ⟨y, r, rfl, h⟩ := popI_inv h
    obtain ⟨x, r, rfl, h⟩ := popI_inv h
    intro H locs ls hP hD hS hl hL hsc
    obtain ⟨h0, h1, h2, h5⟩ := h
    refine lv_ishr hx hb hd ?_
    have g := hk _ _ _ h5 H locs ls hP hD hS hl hL hsc
    rw [List.map_cons, conc] at g
    rw [zI_shr h0 h1 h2]
    exact g
  case iushr =>
    have hn : n = 1 := by simpa [isSw, ilen] using hn
    subst hn
    obtain ⟨y, r, rfl, h⟩ := popI_inv h
    obtain ⟨x, r, rfl, h1, h2, h5⟩ := popI_inv h
    intro H locs ls hP hD hS hl hL hsc
    exact lv_iushr hx hb hd (zI_ushr h1 h2) (hk _ _ _ h5 H locs ls hP hD hS hl hL hsc)
  case lshl =>
    have hn : n = 1 := by simpa [isSw, ilen] using hn
    subst hn
    obtain ⟨y, r, rfl, h⟩ := popI_inv h
    obtain ⟨x, r, rfl, h1, h2, h5⟩ := popL_inv h
    intro H locs ls hP hD hS hl hL hsc
    exact lv_lshl hx hb hd (zL_shl h1 h2) (hk _ _ _ h5 H locs ls hP hD hS hl hL hsc)
  case lshr =>
    have hn : n = 1 := by simpa [isSw, ilen] using hn
    subst hn
    obtain ⟨y, r, rfl, h⟩ := popI_inv h
    obtain ⟨x, r, rfl, h0, h1, h2, h5⟩ := popL_inv h
    intro H locs ls hP hD hS hl hL hsc
    exact lv_lshr hx hb hd (zL_shr h0 h1 h2) (hk _ _ _ h5 H locs ls hP hD hS hl hL hsc)
  case lushr =>
    have hn : n = 1 := by simpa [isSw, ilen] using hn
    subst hn
    obtain ⟨y, r, rfl, h⟩ := popI_inv h
    obtain ⟨x, r, rfl, h1, h2, h5⟩ := popL_inv h
    intro H locs ls hP hD hS hl hL hsc
    exact lv_lushr hx hb hd (zL_ushr h1 h2) (hk _ _ _ h5 H locs ls hP hD hS hl hL hsc)
  case ineg =>
    have hn : n = 1 := by simpa [isSw, ilen] using hn
    subst hn
    obtain ⟨x, r, rfl, h⟩ := popI_inv h
    intro H locs ls hP hD hS hl hL hsc
    refine lv_ineg hx hb hd ?_
    rw [← Int32.ofInt_neg]
    exact hk _ _ _ h H locs ls hP hD hS hl hL hsc
  case lcmp =>
    have hn : n = 1 := by simpa [isSw, ilen] using hn
    subst hn
    obtain ⟨y, r, rfl, h⟩ := popL_inv h
    obtain ⟨x, r, rfl, h1, h2, h5⟩ := popL_inv h
    intro H locs ls hP hD hS hl hL hsc
    refine W.lcmp hx hb hd ?_
    rw [zL_cmp h1 h2]
    exact hk _ _ _ h5 H locs ls hP hD hS hl hL hsc
  case i2l =>
    have hn : n = 1 := by simpa [isSw, ilen] using hn
    subst hn
    obtain ⟨x, r, rfl, h1, h5⟩ := popI_inv h
    intro H locs ls hP hD hS hl hL hsc
    exact lv_i2l hx hb hd (zI_l h1) (hk _ _ _ h5 H locs ls hP hD hS hl hL hsc)
  case l2i =>
    have hn : n = 1 := by simpa [isSw, ilen] using hn
    subst hn
    obtain ⟨x, r, rfl, h5⟩ := popL_inv h
    intro H locs ls hP hD hS hl hL hsc
    exact lv_l2i hx hb hd (zL_i x) (hk _ _ _ h5 H locs ls hP hD hS hl hL hsc)
  case dup =>
    have hn : n = 1 := by simpa [isSw, ilen] using hn
    subst hn
    obtain ⟨v, r, rfl, h1, h5⟩ := popV_inv h
    intro H locs ls hP hD hS hl hL hsc
    exact lv_dup hx hb hd (by rw [conc_cat, h1]; rfl) (hk _ _ _ h5 H locs ls hP hD hS hl hL hsc)
  case pop =>
    have hn : n = 1 := by simpa [isSw, ilen] using hn
    subst hn
    obtain ⟨v, r, rfl, h1, h5⟩ := popV_inv h
    intro H locs ls hP hD hS hl hL hsc
    exact lv_pop hx hb hd (by rw [conc_cat, h1]; rfl) (hk _ _ _ h5 H locs ls hP hD hS hl hL hsc)
  case dup2 =>
    have hn : n = 1 := by simpa [isSw, ilen] using hn
    subst hn
    obtain ⟨v, r, rfl, h⟩ := popV_inv h
    obtain ⟨w, r, rfl, h1, h2, h5⟩ := popV_inv h
    intro H locs ls hP hD hS hl hL hsc
    exact lv_dup2_11 hx hb hd (by rw [conc_cat, h1]; rfl) (by rw [conc_cat, h2]; rfl) (hk _ _ _ h5 H locs ls hP hD hS hl hL hsc)
  case getfield x =>
    have hn : n = 3 := by simpa [isSw, ilen] using hn
    subst hn
    obtain ⟨i, r, rfl, h⟩ := popR_inv h
    obtain ⟨⟨ci, kf⟩, h1, h⟩ := lk1_inv h
    obtain ⟨fs, t, h2, h3, h5⟩ := oF_inv h
    obtain ⟨C, T, N, ty, f1, f2, f3, f4, f5, f6, f7, f8, f9⟩ := hΦ _ h1
    intro H locs ls hP hD hS hl hL hsc
    refine va_get (v := fV a (σ i) kf t) (ref := C) (Ts := TG) hx hb hts f5 hown hK hP i (wsOf_get h2) f1 kf f2 (hts _ f4) (by rw [f3]; exact fun _ q => q) (by rw [List.getElem?_mapIdx, h3]; rfl) hd ?_
    have g := hk _ _ _ h5 H locs ls hP hD hS hl hL hsc
    rw [List.map_cons] at g
    cases t with
    | none => exact g
    | some t => exact g
  case putfield x =>
    have hn : n = 3 := by simpa [isSw, ilen] using hn
    subst hn
    obtain ⟨z, r, rfl, h⟩ := popI_inv h
    obtain ⟨i, r, rfl, h⟩ := popR_inv h
    obtain ⟨⟨ci, kf⟩, h1, h⟩ := lk1_inv h
    obtain ⟨fs, t, h2, h3, h4, h5⟩ := oF_inv h
    subst h4
    obtain ⟨C, T, N, ty, f1, f2, f3, f4, f5, f6, f7, f8, f9⟩ := hΦ _ h1
    have f10 : ty kf = .int := f9.resolve_right (fun q => q i fs h2 h3)
    intro H locs ls hP hD hS hl hL hsc
    refine va_put (ref := C) (Ts := TG) (ty := .int) hx hb hts f5 ty f6 f7 hown hK hP hD hS i (wsOf_get h2) f1 kf f2 (hts _ f4) (by rw [f3]; exact fun _ q => q) (f8 f10) (by rw [f6 kf f2, f10]) rfl rfl (by rw [List.length_mapIdx]; exact (List.getElem?_eq_some_iff.mp h3).1) hd (fun H1 locs1 hP1 hD1 hS1 => ?_)
    have ew := wsOf_set (cA := cA) (a := a) (σ := σ) h2 (cell_put (cA := cA) (a := a) (f := σ i) (z := z) h3)
    have hP1 : va_P D CL (wsOf cA a (updR σ i (up1 (σ i) kf z))) H1 := by rw [← ew]; exact hP1
    have hD1 : va_D A (wsOf cA a (updR σ i (up1 (σ i) kf z))) := by rw [← ew]; exact hD1
    exact hk _ _ _ h5 H1 locs1 ls hP1 hD1 hS1 hl hL (Scr_upd hsc h2)
  case iaload =>
    have hn : n = 1 := by simpa [isSw, ilen] using hn
    subst hn
    obtain ⟨j, r, rfl, h⟩ := popI_inv h
    obtain ⟨i, r, rfl, hq⟩ := popR_inv h
    split at hq
    · next hi =>
      subst hi
      obtain ⟨h1, h3, h4, h5⟩ := hq
      intro H locs ls hP hD hS hl hL hsc
      obtain ⟨x1, x2, x3, x4, x5⟩ := hsc h1
      refine va_sld hx hb x1 x2 x3 hS (zI_in h3 (by omega) (by omega)) hd ?_
      rw [zI_clamp h3 (by omega)]
      exact hk _ _ _ h5 H locs ls hP hD hS hl hL hsc
    · obtain ⟨n, h2, h3, h4, h5⟩ := aF_inv hq
      intro H locs ls hP hD hS hl hL hsc
      have hle := SH_le h2
      refine va_iald hx hb hK hP i 0 (wsOf_get h2) rfl (zI_in h3 h4 hle) hd ?_
      rw [zI_clamp h3 (by omega)]
      exact hk _ _ _ h5 H locs ls hP hD hS hl hL hsc
  case laload =>
    have hn : n = 1 := by simpa [isSw, ilen] using hn
    subst hn
    obtain ⟨j, r, rfl, h⟩ := popI_inv h
    obtain ⟨i, r, rfl, h⟩ := popR_inv h
    obtain ⟨n, h2, h3, h4, h5⟩ := aF_inv h
    intro H locs ls hP hD hS hl hL hsc
    have hle := SH_le h2
    refine va_lald hx hb hK hP i 1 (wsOf_get h2) rfl (zI_in h3 h4 hle) hd ?_
    rw [zI_clamp h3 (by omega)]
    exact hk _ _ _ h5 H locs ls hP hD hS hl hL hsc
  case baload =>
    have hn : n = 1 := by simpa [isSw, ilen] using hn
    subst hn
    obtain ⟨j, r, rfl, h⟩ := popI_inv h
    obtain ⟨i, r, rfl, h⟩ := popR_inv h
    obtain ⟨n, h2, h3, h4, h5⟩ := aF_inv h
    intro H locs ls hP hD hS hl hL hsc
    have hle := SH_le h2
    refine va_zald hx hb hK hP i 2 (wsOf_get h2) rfl (zI_in h3 h4 hle) hd ?_
    rw [zI_clamp h3 (by omega)]
    exact hk _ _ _ h5 H locs ls hP hD hS hl hL hsc
  case iastore =>
    have hn : n = 1 := by simpa [isSw, ilen] using hn
    subst hn
    obtain ⟨z, r, rfl, h⟩ := popI_inv h
    obtain ⟨j, r, rfl, h⟩ := popI_inv h
    obtain ⟨i, r, rfl, h⟩ := popR_inv h
    obtain ⟨n, h2, h3, h4, h5⟩ := aF_inv h
    intro H locs ls hP hD hS hl hL hsc
    have hle := SH_le h2
    refine va_iast hx hb hK hP hD hS i 0 (wsOf_get h2) rfl (zI_in h3 h4 hle) hd (fun H1 locs1 hP1 hD1 hS1 => ?_)
    rw [zI_clamp h3 (by omega), ← up1_I] at hP1 hD1
    have ew := wsOf_set (cA := cA) (a := a) (σ := σ) (f := up1 (σ i) j.toNat z) h2 rfl
    have hP1 : va_P D CL (wsOf cA a (updR σ i (up1 (σ i) j.toNat z))) H1 := by rw [← ew]; exact hP1
    have hD1 : va_D A (wsOf cA a (updR σ i (up1 (σ i) j.toNat z))) := by rw [← ew]; exact hD1
    exact hk _ _ _ h5 H1 locs1 ls hP1 hD1 hS1 hl hL (Scr_upd hsc h2)
  case lastore =>
    have hn : n = 1 := by simpa [isSw, ilen] using hn
    subst hn
    obtain ⟨z, r, rfl, h⟩ := popL_inv h
    obtain ⟨j, r, rfl, h⟩ := popI_inv h
    obtain ⟨i, r, rfl, h⟩ := popR_inv h
    obtain ⟨n, h2, h3, h4, h5⟩ := aF_inv h
    intro H locs ls hP hD hS hl hL hsc
    have hle := SH_le h2
    refine va_last hx hb hK hP hD hS i 1 (wsOf_get h2) rfl (zI_in h3 h4 hle) hd (fun H1 locs1 hP1 hD1 hS1 => ?_)
    rw [zI_clamp h3 (by omega), ← up1_L] at hP1 hD1
    have ew := wsOf_set (cA := cA) (a := a) (σ := σ) (f := up1 (σ i) j.toNat z) h2 rfl
    have hP1 : va_P D CL (wsOf cA a (updR σ i (up1 (σ i) j.toNat z))) H1 := by rw [← ew]; exact hP1
    have hD1 : va_D A (wsOf cA a (updR σ i (up1 (σ i) j.toNat z))) := by rw [← ew]; exact hD1
    exact hk _ _ _ h5 H1 locs1 ls hP1 hD1 hS1 hl hL (Scr_upd hsc h2)
  case bastore =>
    have hn : n = 1 := by simpa [isSw, ilen] using hn
    subst hn
    obtain ⟨z, r, rfl, h⟩ := popI_inv h
    obtain ⟨j, r, rfl, h⟩ := popI_inv h
    obtain ⟨i, r, rfl, h⟩ := popR_inv h
    obtain ⟨n, h2, h3, h4, h6, h5⟩ := aF_inv h
    intro H locs ls hP hD hS hl hL hsc
    have hle := SH_le h2
    refine va_zast hx hb hK hP hD hS i 2 (wsOf_get h2) rfl (zI_in h3 h4 hle) hd (fun H1 locs1 hP1 hD1 hS1 => ?_)
    rw [zI_clamp h3 (by omega), zI_vbit h6, ← up1_I] at hP1 hD1
    have ew := wsOf_set (cA := cA) (a := a) (σ := σ) (f := up1 (σ i) j.toNat z) h2 rfl
    have hP1 : va_P D CL (wsOf cA a (updR σ i (up1 (σ i) j.toNat z))) H1 := by rw [← ew]; exact hP1
    have hD1 : va_D A (wsOf cA a (updR σ i (up1 (σ i) j.toNat z))) := by rw [← ew]; exact hD1
    exact hk _ _ _ h5 H1 locs1 ls hP1 hD1 hS1 hl hL (Scr_upd hsc h2)
  case arraylength =>
    have hn : n = 1 := by simpa [isSw, ilen] using hn
    subst hn
    obtain ⟨i, r, rfl, hq⟩ := popR_inv h
    split at hq
    · next hi =>
      subst hi
      obtain ⟨h1, h5⟩ := hq
      intro H locs ls hP hD hS hl hL hsc
      obtain ⟨x1, x2, x3, x4, x5⟩ := hsc h1
      refine va_slen hx hb x1 x2 x3 hS hd ?_
      rw [← Int32.ofInt_eq_ofNat, Int.toNat_of_nonneg x4]
      exact hk _ _ _ h5 H locs ls hP hD hS hl hL hsc
    · obtain ⟨kd, n, h2, h3, h5⟩ := aN_inv hq
      intro H locs ls hP hD hS hl hL hsc
      have g := hk _ _ _ h5 H locs ls hP hD hS hl hL hsc
      rcases h3 with rfl | rfl | rfl
      · exact va_alen hx hb hK hP i 0 (wsOf_get h2) (ty := .int) rfl (Int32.ofInt_eq_ofNat).symm hd g
      · exact va_alen hx hb hK hP i 1 (wsOf_get h2) (ty := .long) rfl (Int32.ofInt_eq_ofNat).symm hd g
      · exact va_alen hx hb hK hP i 2 (wsOf_get h2) (ty := .boolean) rfl (Int32.ofInt_eq_ofNat).symm hd g
  case goto off =>
    have hn : n = 3 := by simpa [isSw, ilen] using hn
    subst hn
    obtain ⟨t, h1, h2⟩ := goJ h
    intro H locs ls hP hD hS hl hL hsc
    exact lv_goto hx hb hd h1 (h2 H locs ls hP hD hS hl hL hsc)
  case ifCond cond off =>
    have hn : n = 3 := by simpa [isSw, ilen] using hn
    subst hn
    have e1 : (pc : Int) + off = (((pc : Int) + off).toNat : Int) := by have := h.1; omega
    obtain ⟨z, r, rfl, h1, h2⟩ := popI_inv h.2
    intro H locs ls hP hD hS hl hL hsc
    cases cond with
    | eq =>
      refine lv_if_eq hx hb hd e1 (fun q => hJ _ _ _ _ (h2.1 ?_) H locs ls hP hD hS hl hL hsc) (fun q => hk _ _ _ (h2.2 ?_) H locs ls hP hD hS hl hL hsc)
      · simp only [zI_eq0 h1, zI_lt0 h1, zI_0le h1, zI_0lt h1, zI_le0 h1, ge_iff_le, gt_iff_lt] at q; omega
      · simp only [zI_eq0 h1, zI_lt0 h1, zI_0le h1, zI_0lt h1, zI_le0 h1, ge_iff_le, gt_iff_lt] at q; omega
    | ne =>
      refine lv_if_ne hx hb hd e1 (fun q => hJ _ _ _ _ (h2.1 ?_) H locs ls hP hD hS hl hL hsc) (fun q => hk _ _ _ (h2.2 ?_) H locs ls hP hD hS hl hL hsc)
      · simp only [zI_eq0 h1, zI_lt0 h1, zI_0le h1, zI_0lt h1, zI_le0 h1, ge_iff_le, gt_iff_lt] at q; omega
      · simp only [zI_eq0 h1, zI_lt0 h1, zI_0le h1, zI_0lt h1, zI_le0 h1, ge_iff_le, gt_iff_lt] at q; omega
    | lt =>
      refine lv_if_lt hx hb hd e1 (fun q => hJ _ _ _ _ (h2.1 ?_) H locs ls hP hD hS hl hL hsc) (fun q => hk _ _ _ (h2.2 ?_) H locs ls hP hD hS hl hL hsc)
      · simp only [zI_eq0 h1, zI_lt0 h1, zI_0le h1, zI_0lt h1, zI_le0 h1, ge_iff_le, gt_iff_lt] at q; omega
      · simp only [zI_eq0 h1, zI_lt0 h1, zI_0le h1, zI_0lt h1, zI_le0 h1, ge_iff_le, gt_iff_lt] at q; omega
    | ge =>
      refine lv_if_ge hx hb hd e1 (fun q => hJ _ _ _ _ (h2.1 ?_) H locs ls hP hD hS hl hL hsc) (fun q => hk _ _ _ (h2.2 ?_) H locs ls hP hD hS hl hL hsc)
      · simp only [zI_eq0 h1, zI_lt0 h1, zI_0le h1, zI_0lt h1, zI_le0 h1, ge_iff_le, gt_iff_lt] at q; omega
      · simp only [zI_eq0 h1, zI_lt0 h1, zI_0le h1, zI_0lt h1, zI_le0 h1, ge_iff_le, gt_iff_lt] at q; omega
    | gt =>
      refine lv_if_gt hx hb hd e1 (fun q => hJ _ _ _ _ (h2.1 ?_) H locs ls hP hD hS hl hL hsc) (fun q => hk _ _ _ (h2.2 ?_) H locs ls hP hD hS hl hL hsc)
      · simp only [zI_eq0 h1, zI_lt0 h1, zI_0le h1, zI_0lt h1, zI_le0 h1, ge_iff_le, gt_iff_lt] at q; omega
      · simp only [zI_eq0 h1, zI_lt0 h1, zI_0le h1, zI_0lt h1, zI_le0 h1, ge_iff_le, gt_iff_lt] at q; omega
    | le =>
      refine lv_if_le hx hb hd e1 (fun q => hJ _ _ _ _ (h2.1 ?_) H locs ls hP hD hS hl hL hsc) (fun q => hk _ _ _ (h2.2 ?_) H locs ls hP hD hS hl hL hsc)
      · simp only [zI_eq0 h1, zI_lt0 h1, zI_0le h1, zI_0lt h1, zI_le0 h1, ge_iff_le, gt_iff_lt] at q; omega
      · simp only [zI_eq0 h1, zI_lt0 h1, zI_0le h1, zI_0lt h1, zI_le0 h1, ge_iff_le, gt_iff_lt] at q; omega
  case if_icmp cond off =>
    have hn : n = 3 := by simpa [isSw, ilen] using hn
    subst hn
    have e1 : (pc : Int) + off = (((pc : Int) + off).toNat : Int) := by have := h.1; omega
    obtain ⟨y, r, rfl, hq⟩ := popI_inv h.2
    obtain ⟨x, r, rfl, h1, h0, h2⟩ := popI_inv hq
    intro H locs ls hP hD hS hl hL hsc
    cases cond with
    | eq =>
      refine lv_icmp_eq hx hb hd e1 (fun q => hJ _ _ _ _ (h2.1 ?_) H locs ls hP hD hS hl hL hsc) (fun q => hk _ _ _ (h2.2 ?_) H locs ls hP hD hS hl hL hsc)
      · simp only [zI_eq h1 h0, zI_lt h1 h0, zI_lt h0 h1, zI_le h1 h0, zI_le h0 h1, ge_iff_le, gt_iff_lt] at q; omega
      · simp only [zI_eq h1 h0, zI_lt h1 h0, zI_lt h0 h1, zI_le h1 h0, zI_le h0 h1, ge_iff_le, gt_iff_lt] at q; omega
    | ne =>
      refine lv_icmp_ne hx hb hd e1 (fun q => hJ _ _ _ _ (h2.1 ?_) H locs ls hP hD hS hl hL hsc) (fun q => hk _ _ _ (h2.2 ?_) H locs ls hP hD hS hl hL hsc)
      · simp only [zI_eq h1 h0, zI_lt h1 h0, zI_lt h0 h1, zI_le h1 h0, zI_le h0 h1, ge_iff_le, gt_iff_lt] at q; omega
      · simp only [zI_eq h1 h0, zI_lt h1 h0, zI_lt h0 h1, zI_le h1 h0, zI_le h0 h1, ge_iff_le, gt_iff_lt] at q; omega
    | lt =>
      refine lv_icmp_lt hx hb hd e1 (fun q => hJ _ _ _ _ (h2.1 ?_) H locs ls hP hD hS hl hL hsc) (fun q => hk _ _ _ (h2.2 ?_) H locs ls hP hD hS hl hL hsc)
      · simp only [zI_eq h1 h0, zI_lt h1 h0, zI_lt h0 h1, zI_le h1 h0, zI_le h0 h1, ge_iff_le, gt_iff_lt] at q; omega
      · simp only [zI_eq h1 h0, zI_lt h1 h0, zI_lt h0 h1, zI_le h1 h0, zI_le h0 h1, ge_iff_le, gt_iff_lt] at q; omega
    | ge =>
      refine lv_icmp_ge hx hb hd e1 (fun q => hJ _ _ _ _ (h2.1 ?_) H locs ls hP hD hS hl hL hsc) (fun q => hk _ _ _ (h2.2 ?_) H locs ls hP hD hS hl hL hsc)
      · simp only [zI_eq h1 h0, zI_lt h1 h0, zI_lt h0 h1, zI_le h1 h0, zI_le h0 h1, ge_iff_le, gt_iff_lt] at q; omega
      · simp only [zI_eq h1 h0, zI_lt h1 h0, zI_lt h0 h1, zI_le h1 h0, zI_le h0 h1, ge_iff_le, gt_iff_lt] at q; omega
    | gt =>
      refine lv_icmp_gt hx hb hd e1 (fun q => hJ _ _ _ _ (h2.1 ?_) H locs ls hP hD hS hl hL hsc) (fun q => hk _ _ _ (h2.2 ?_) H locs ls hP hD hS hl hL hsc)
      · simp only [zI_eq h1 h0, zI_lt h1 h0, zI_lt h0 h1, zI_le h1 h0, zI_le h0 h1, ge_iff_le, gt_iff_lt] at q; omega
      · simp only [zI_eq h1 h0, zI_lt h1 h0, zI_lt h0 h1, zI_le h1 h0, zI_le h0 h1, ge_iff_le, gt_iff_lt] at q; omega
    | le =>
      refine lv_icmp_le hx hb hd e1 (fun q => hJ _ _ _ _ (h2.1 ?_) H locs ls hP hD hS hl hL hsc) (fun q => hk _ _ _ (h2.2 ?_) H locs ls hP hD hS hl hL hsc)
      · simp only [zI_eq h1 h0, zI_lt h1 h0, zI_lt h0 h1, zI_le h1 h0, zI_le h0 h1, ge_iff_le, gt_iff_lt] at q; omega
      · simp only [zI_eq h1 h0, zI_lt h1 h0, zI_lt h0 h1, zI_le h1 h0, zI_le h0 h1, ge_iff_le, gt_iff_lt] at q; omega
  case tableswitch d lo hi offs =>
    obtain ⟨z, r, rfl, h1, h2, h3, h4⟩ := popI_inv h
    intro H locs ls hP hD hS hl hL hsc
    by_cases hz : z < lo ∨ hi < z
    · obtain ⟨t, e1, e2⟩ := goJ (h3 hz)
      exact lv_tableOut hx hb hd (by rw [zI_toInt h1]; exact hz) e1 (e2 H locs ls hP hD hS hl hL hsc)
    · obtain ⟨o, g1, g2⟩ := sw_inv _ _ h4 (by omega) (by simp; omega)
      obtain ⟨t, e1, e2⟩ := goJ g2
      refine lv_tableIn hx hb hd (by rw [zI_toInt h1]; omega) (by rw [zI_toInt h1]; omega) (off := o) ?_ e1 (e2 H locs ls hP hD hS hl hL hsc)
      rw [zI_toInt h1, ← Array.getElem?_toList]
      exact g1
  case ireturn =>
    have hn : n = 1 := by simpa [isSw, ilen] using hn
    subst hn
    obtain ⟨z, r, rfl, h1, h2, h3⟩ := popI_inv h
    subst h1
    exact hrI _ _ _ _ hd h2 h3
  case lreturn =>
    have hn : n = 1 := by simpa [isSw, ilen] using hn
    subst hn
    obtain ⟨z, r, rfl, h1, h2, h3⟩ := popL_inv h
    subst h1
    exact hrL _ _ _ _ hd h2 h3
  case return_ =>
    have hn : n = 1 := by simpa [isSw, ilen] using hn
    subst hn
    obtain ⟨h1, h2, h3⟩ := h
    subst h1
    exact hrV _ _ _ hd h2 h3
  case invokestatic x =>
    have hn : n = 3 := by simpa [isSw, ilen] using hn
    subst hn
    obtain ⟨g, h1, hq⟩ := lk1_inv h
    split at hq
    · next hg =>
      obtain ⟨n, r, rfl, hq1⟩ := popI_inv hq
      obtain ⟨dp, r, rfl, hq2⟩ := popI_inv hq1
      obtain ⟨d, r, rfl, hq3⟩ := popR_inv hq2
      obtain ⟨sp, r, rfl, hq4⟩ := popI_inv hq3
      obtain ⟨q, r, rfl, hq5⟩ := popR_inv hq4
      obtain ⟨nq, k1, hq6⟩ := aF_inv hq5
      obtain ⟨nd, k2, k3, k4, k5, k6, k7, k8, k9⟩ := aF_inv hq6
      have g1 := (hΓ _ h1).resolve_right (fun q => q.1 hg)
      intro H locs ls hP hD hS hl hL hsc
      have l1 := SH_le k1
      have l2 := SH_le k2
      have i0 := zI_0le (x := n) (by unfold rI; omega)
      refine va_copyi hx hb (by rw [hml, hl.1]) hown (hts _ g1.2.1) (hts _ tbl_native.1) (hts _ tbl_native.2.1) (hts _ tbl_native.2.2) hK hP hD hS q d 0 0 (wsOf_get k1) (wsOf_get k2) (ty := .int) rfl rfl rfl (by rw [zI_lt0 (by unfold rI; omega)]; omega) (by rw [zI_lt0 (by unfold rI; omega)]; omega) (by rw [zI_lt0 (by unfold rI; omega)]; omega) (by rw [zI_clamp k6 (by omega), zI_clamp k4 (by omega)]; omega) (by rw [zI_clamp k5 (by omega), zI_clamp k4 (by omega)]; omega) (fun _ _ => rfl) g1.2.2.1 ?_ hd (fun H1 locs1 hP1 hD1 hS1 => ?_)
      · rw [catS_eq]
        have := g1.2.2.2
        have e : nativeFrameWords "java/lang/System" "arraycopy" 5 = 7 := by decide +kernel
        omega
      · rw [zI_clamp k6 (by omega), zI_clamp k5 (by omega), zI_clamp k4 (by omega), ← cpy_I] at hP1 hD1
        have ew := wsOf_set (cA := cA) (a := a) (σ := σ) (f := va_cpy (σ q) (σ d) sp.toNat dp.toNat n.toNat) k2 rfl
        have hP1 : va_P D CL (wsOf cA a (updR σ d (va_cpy (σ q) (σ d) sp.toNat dp.toNat n.toNat))) H1 := by rw [← ew]; exact hP1
        have hD1 : va_D A (wsOf cA a (updR σ d (va_cpy (σ q) (σ d) sp.toNat dp.toNat n.toNat))) := by rw [← ew]; exact hD1
        exact hk _ _ _ k9 H1 locs1 ls hP1 hD1 hS1 hl hL (Scr_upd hsc k2)
    · next hg =>
      obtain ⟨bs, r, rfl, hn, h0, h2, h3⟩ := popN_inv _ _ _ _ hq
      rw [List.append_nil] at h3
      obtain ⟨-, y, bytes, maxL, ret, lv, k1, k2, k3, k4, k5, k6, k7⟩ := (hΓ _ h1).resolve_left (fun q => hg q.1)
      have k7 := k7.resolve_right (fun q => by have := q.1; dsimp only at this; omega)
      intro H locs ls hP hD hS hl hL hsc
      have hrun := va_runS (l := l) (p := p) (e := e) (R := R) (below := below) (meth := meth) (H := H) (locs := locs) (cells := cells) (slots := slots) (g := F0 m pc ls ((bs.reverse ++ r).map (conc a))) (As := bs.map (conc a)) (rest := r.map (conc a)) (Ts := TG) ⟨hx, hb, hml, hown, hts⟩ (k1 D cA a H.size σ bs _ h3)
        ⟨callB_of (own := own) (index := x) g.2.1 hts (fun w hw => (List.mem_cons.mp hw).elim (fun q => q ▸ ⟨k4, tg_good _ k4⟩) (fun q => ⟨q, tg_good _ q⟩)) rfl rfl rfl (hts _ k5) (hts _ k3) k6 k2, hts _ k7.2⟩
        ⟨fun _ U g mk q => ⟨q.1, q.2.1, q.2.2.1, va_K.moved (u := U) (U := U.calling g mk _) (Vm.Alike.refl U.vm) q.2.2.2.1, q.2.2.2.2⟩,  fun U hU hW => ⟨by simp [conc], by rw [hU], by rw [hU]; exact hP, va_K.moved hW.alike hK, ⟨hD.1, fun _ _ _ => trivial⟩⟩⟩
        rfl (by rw [List.length_map]; exact hn) hl.1 (by simp) (by rw [catS_eq]; show 2 * 0 + _ ≤ 8; omega) hd hcs
      have hA1 := ws_A hD hS hA
      refine aq_call hrun hS (fun q _ h9 => hA1 q h9) hA1 (fun r' u H1 locs1 hq hP1 hD1 hS1 => ?_)
      have g := hk _ _ _ hq.2 H1 locs1 ls hP1 (hD1.weaken (fun _ q _ h9 => hA1 q.1 h9)) hS1 hl hL (fun z => by rw [(hq.1 z).1, (hq.1 z).2]; exact hsc z)
      cases r' with
      | none => exact g
      | some v => exact g
  case invokevirtual x =>
    have hn : n = 3 := by simpa [isSw, ilen] using hn
    subst hn
    obtain ⟨g, h1, hq⟩ := lk1_inv h
    obtain ⟨bs, r, rfl, hn, hq⟩ := popN_inv _ _ _ _ hq
    rw [List.append_nil] at hq
    obtain ⟨i, r, rfl, h0, h01, h2, h3⟩ := popR_inv hq
    obtain ⟨fs, hsh⟩ := oC_inv h01
    have hg : g.1 ≠ 1000 := by
      intro q
      rw [q] at hsh
      have := (by decide +kernel : SH.all (fun x => match x with | .inl (c, _) => decide (c < 10) | _ => true) = true)
      have := List.all_eq_true.mp this _ (List.mem_of_getElem? hsh)
      simp at this
    obtain ⟨-, y, bytes, maxL, ret, lv, k1, k2, k3, k4, k5, k6, k7⟩ := (hΓ _ h1).resolve_left (fun q => hg q.1)
    obtain ⟨-, k7, k8, T, N, k9⟩ := k7.resolve_left (fun q => by have := q.1; dsimp only at this; omega)
    intro H locs ls hP hD hS hl hL hsc
    have hrecv : ∃ cellB : Cell, H[a i]? = some cellB ∧ cellB.vm.isStatics = false ∧ s.vm.findClass y.cls = some cellB.cls := by
      obtain ⟨r9, e1, cell, q1, q2, q3, q4⟩ := hP i _ (wsOf_get hsh)
      have hr9 : r9 = (y.cls, T, N) := Option.some.inj (e1.symm.trans k9)
      subst hr9
      obtain ⟨hS9, hfc, kC, hkC, hkind⟩ := hK.1 _ _ k9
      exact ⟨cell, q1, by rw [q3]; rfl, by rw [q2]; exact hfc⟩
    have hrun := va_runV (l := l) (p := p) (e := e) (R := R) (below := below) (meth := meth) (H := H) (locs := locs) (cells := cells) (slots := slots) (g := F0 m pc ls ((bs.reverse ++ .inr (.inr (some i)) :: r).map (conc a))) (b := a i) (C := y.cls) (As := bs.map (conc a)) (rest := r.map (conc a)) (Ts := TG) ⟨hx, hb, hml, hown, hts⟩ (k1 D cA a H.size σ _ _ h3)
      ⟨callB_of (own := own) (index := x) g.2.1 hts (fun w hw => (List.mem_cons.mp hw).elim (fun q => q ▸ ⟨k4, tg_good _ k4⟩) (fun q => ⟨q, tg_good _ q⟩)) rfl rfl rfl (hts _ k5) (hts _ k3) k6 k2, hts _ k7, hts _ k8⟩
      ⟨fun _ U g mk q => ⟨q.1, q.2.1, q.2.2.1, va_K.moved (u := U) (U := U.calling g mk _) (Vm.Alike.refl U.vm) q.2.2.2.1, q.2.2.2.2⟩, hrecv, fun U hU hW => ⟨by simp [conc], by rw [hU], by rw [hU]; exact hP, va_K.moved hW.alike hK, ⟨hD.1, fun _ _ _ => trivial⟩⟩⟩
      rfl (by rw [List.length_map]; exact hn) hl.1 (by simp [conc]) (by rw [catS_eq]; show 2 * 0 + _ ≤ 8; omega) hd hcs
    have hA1 := ws_A hD hS hA
    refine aq_call hrun hS (fun q _ h9 => hA1 q h9) hA1 (fun r' u H1 locs1 hq hP1 hD1 hS1 => ?_)
    have g := hk _ _ _ hq.2 H1 locs1 ls hP1 (hD1.weaken (fun _ q _ h9 => hA1 q.1 h9)) hS1 hl hL (fun z => by rw [(hq.1 z).1, (hq.1 z).2]; exact hsc z)
    cases r' with
    | none => exact g
    | some v => exact g
  all_goals exact h.elim
end SOUND2
end
section
/-! blocks, cuts, a method's meaning out of its conditions -/
def ltM (x y : M3) : Prop := x.1 < y.1 ∨ (x.1 = y.1 ∧ (x.2.1 < y.2.1 ∨ (x.2.1 = y.2.1 ∧ x.2.2 < y.2.2)))
theorem ltM_ind {P : M3 → Prop} (h : ∀ μ, (∀ ν, ltM ν μ → P ν) → P μ) : ∀ μ, P μ := by
  have key : ∀ (a b c : Nat), P (a, b, c) := by
    intro a
    induction a using Nat.strongRecOn with
    | _ a iha =>
      intro b
      induction b using Nat.strongRecOn with
      | _ b ihb =>
        intro c
        induction c using Nat.strongRecOn with
        | _ c ihc =>
          refine h _ fun ν hν => ?_
          obtain ⟨x, y, z⟩ := ν
          rcases hν with h1 | ⟨h1, h2 | ⟨h2, h3⟩⟩
          · exact iha x h1 y z
          · have h1 : x = a := h1
            subst h1
            exact ihb y h2 z
          · have h1 : x = a := h1
            have h2 : y = b := h2
            subst h1
            subst h2
            exact ihc z h3
  exact fun μ => key μ.1 μ.2.1 μ.2.2
def ltO (x : M3) (y : Option M3) : Prop := match y with
  | some y => ltM x y
  | none => True
abbrev Cuts : Type := List (Nat × (List AV → List AV → St → M3 → Prop))
def atC (cuts : Cuts) (μ : Option M3) (pc : Nat) (L st : List AV) (σ : St) (k : Prop) : Prop := match lk cuts pc with
  | some I => ∃ μ', ltO μ' μ ∧ I L st σ μ'
  | none => k
def wpN (sc : Prop) (Φ : List (Nat × Nat × Nat)) (κ : List (Nat × Int)) (Γ : List (Nat × Nat × Nat × Spec)) (rt : Nat) (Q : Option AV → St → Prop) (prog : List (Nat × List Instr)) (cuts : Cuts) (μ : Option M3) : Nat → Nat → List AV → List AV → St → Prop
  | 0, _, _, _, _ => False
  | n + 1, pc, L, st, σ => lk1 prog pc fun blk => wpB sc Φ κ Γ rt Q (fun pc L st σ => atC cuts μ pc L st σ (wpN sc Φ κ Γ rt Q prog cuts μ n pc L st σ)) pc blk L st σ
section LOOP
variable {p : Program} {l : Launch} {e : Env} {R : Room} {s : State} {m : MethodId} {args : Array Value} {below : List Frame} {meth : Method} {c : Code} {cells slots : Nat} {Qf : State → Prop} {cc : ByteArray} {D : va_G} {cA : Nat → ClassId} {a : Nat → Nat} {A : Nat → Prop} {H0 : Heap} {own : String} {nL : Nat} {sc : Prop}
theorem wp_ok (hx : p.tables.exec = Jvm.exec) (hb : c.code = cc) (hml : c.maxLocals = nL) (hown : s.vm.findClass own = some m.cls) (hts : ∀ w ∈ TG, w.before args s = true) (hK : va_K D CL (tysOf cA) s) (hA : ∀ q, H0.size ≤ q → A q) (hcs : cells ≤ R.cells ∧ slots ≤ R.slots)
    {Φ : List (Nat × Nat × Nat)} {κ : List (Nat × Int)} {Γ : List (Nat × Nat × Nat × Spec)} {rt : Nat} {Q : Option AV → St → Prop} (hΦ : ∀ q ∈ Φ, FieldOK own q) (hκ : ∀ q ∈ κ, ConstOK own q) (hΓ : ∀ g ∈ Γ, CalleeOK l own R g)
    (hrI : ∀ pc L z σ, decode cc pc = .ok (.ireturn, 1) → (rt = 1 ∨ (rt = 3 ∧ (z = 0 ∨ z = 1))) → Q (some (.inl z)) σ → Good p l e R s m args below meth c cells slots Qf D cA a A H0 nL sc pc L [.inl z] σ)
    (hrL : ∀ pc L z σ, decode cc pc = .ok (.lreturn, 1) → rt = 2 → Q (some (.inr (.inl z))) σ → Good p l e R s m args below meth c cells slots Qf D cA a A H0 nL sc pc L [.inr (.inl z)] σ)
    (hrV : ∀ pc L σ, decode cc pc = .ok (.return_, 1) → rt = 0 → Q none σ → Good p l e R s m args below meth c cells slots Qf D cA a A H0 nL sc pc L [] σ)
    {J : Nat → List AV → List AV → St → Prop} (hJ : ∀ pc L st σ, J pc L st σ → Good p l e R s m args below meth c cells slots Qf D cA a A H0 nL sc pc L st σ) :
    ∀ (blk : List Instr) (pc : Nat) (L st : List AV) (σ : St), okB cc pc blk = true → wpB sc Φ κ Γ rt Q J pc blk L st σ → Good p l e R s m args below meth c cells slots Qf D cA a A H0 nL sc pc L st σ
  | [], pc, L, st, σ, _, h => hJ _ _ _ _ h
  | o :: r, pc, L, st, σ, ho, h => by
    unfold okB at ho
    rw [Bool.and_eq_true] at ho
    obtain ⟨h1, h2⟩ := ho
    split at h1
    · next i n hd =>
      rw [Bool.and_eq_true, decide_eq_true_eq] at h1
      obtain ⟨rfl, h3⟩ := h1
      have h3 : isSw i = true ∨ n = ilen i := by simpa using h3
      exact stp_ok hx hb hml hown hts hK hA hcs hΦ hκ hΓ hrI hrL hrV hJ (fun L st σ hk => wp_ok hx hb hml hown hts hK hA hcs hΦ hκ hΓ hrI hrL hrV hJ r _ L st σ h2 hk) hd h3 h
    · cases h1
theorem wpN_ok (hx : p.tables.exec = Jvm.exec) (hb : c.code = cc) (hml : c.maxLocals = nL) (hown : s.vm.findClass own = some m.cls) (hts : ∀ w ∈ TG, w.before args s = true) (hK : va_K D CL (tysOf cA) s) (hA : ∀ q, H0.size ≤ q → A q) (hcs : cells ≤ R.cells ∧ slots ≤ R.slots)
    {Φ : List (Nat × Nat × Nat)} {κ : List (Nat × Int)} {Γ : List (Nat × Nat × Nat × Spec)} {rt : Nat} {Q : Option AV → St → Prop} (hΦ : ∀ q ∈ Φ, FieldOK own q) (hκ : ∀ q ∈ κ, ConstOK own q) (hΓ : ∀ g ∈ Γ, CalleeOK l own R g)
    (hrI : ∀ pc L z σ, decode cc pc = .ok (.ireturn, 1) → (rt = 1 ∨ (rt = 3 ∧ (z = 0 ∨ z = 1))) → Q (some (.inl z)) σ → Good p l e R s m args below meth c cells slots Qf D cA a A H0 nL sc pc L [.inl z] σ)
    (hrL : ∀ pc L z σ, decode cc pc = .ok (.lreturn, 1) → rt = 2 → Q (some (.inr (.inl z))) σ → Good p l e R s m args below meth c cells slots Qf D cA a A H0 nL sc pc L [.inr (.inl z)] σ)
    (hrV : ∀ pc L σ, decode cc pc = .ok (.return_, 1) → rt = 0 → Q none σ → Good p l e R s m args below meth c cells slots Qf D cA a A H0 nL sc pc L [] σ)
    {prog : List (Nat × List Instr)} (hp : ∀ q ∈ prog, okB cc q.1 q.2 = true) {cuts : Cuts} {μ : Option M3}
    (hc : ∀ q ∈ cuts, ∀ L st σ ν, ltO ν μ → q.2 L st σ ν → Good p l e R s m args below meth c cells slots Qf D cA a A H0 nL sc q.1 L st σ) :
    ∀ (n pc : Nat) (L st : List AV) (σ : St), wpN sc Φ κ Γ rt Q prog cuts μ n pc L st σ → Good p l e R s m args below meth c cells slots Qf D cA a A H0 nL sc pc L st σ
  | 0, _, _, _, _, h => h.elim
  | n + 1, pc, L, st, σ, h => by
    obtain ⟨blk, h1, h2⟩ := lk1_inv h
    refine wp_ok hx hb hml hown hts hK hA hcs hΦ hκ hΓ hrI hrL hrV (fun pc L st σ hj => ?_) blk pc L st σ (hp _ h1) h2
    unfold atC at hj
    split at hj
    · next I hI =>
      obtain ⟨ν, h3, h4⟩ := hj
      exact hc _ (lk_mem hI) L st σ ν h3 h4
    · exact wpN_ok hx hb hml hown hts hK hA hcs hΦ hκ hΓ hrI hrL hrV hp hc n pc L st σ hj
theorem cut_ok (hx : p.tables.exec = Jvm.exec) (hb : c.code = cc) (hml : c.maxLocals = nL) (hown : s.vm.findClass own = some m.cls) (hts : ∀ w ∈ TG, w.before args s = true) (hK : va_K D CL (tysOf cA) s) (hA : ∀ q, H0.size ≤ q → A q) (hcs : cells ≤ R.cells ∧ slots ≤ R.slots)
    {Φ : List (Nat × Nat × Nat)} {κ : List (Nat × Int)} {Γ : List (Nat × Nat × Nat × Spec)} {rt : Nat} {Q : Option AV → St → Prop} (hΦ : ∀ q ∈ Φ, FieldOK own q) (hκ : ∀ q ∈ κ, ConstOK own q) (hΓ : ∀ g ∈ Γ, CalleeOK l own R g)
    (hrI : ∀ pc L z σ, decode cc pc = .ok (.ireturn, 1) → (rt = 1 ∨ (rt = 3 ∧ (z = 0 ∨ z = 1))) → Q (some (.inl z)) σ → Good p l e R s m args below meth c cells slots Qf D cA a A H0 nL sc pc L [.inl z] σ)
    (hrL : ∀ pc L z σ, decode cc pc = .ok (.lreturn, 1) → rt = 2 → Q (some (.inr (.inl z))) σ → Good p l e R s m args below meth c cells slots Qf D cA a A H0 nL sc pc L [.inr (.inl z)] σ)
    (hrV : ∀ pc L σ, decode cc pc = .ok (.return_, 1) → rt = 0 → Q none σ → Good p l e R s m args below meth c cells slots Qf D cA a A H0 nL sc pc L [] σ)
    {prog : List (Nat × List Instr)} (hp : ∀ q ∈ prog, okB cc q.1 q.2 = true) {cuts : Cuts} {n : Nat}
    (hc : ∀ q ∈ cuts, ∀ L st σ ν, q.2 L st σ ν → wpN sc Φ κ Γ rt Q prog cuts (some ν) n q.1 L st σ) :
    ∀ ν, ∀ q ∈ cuts, ∀ L st σ, q.2 L st σ ν → Good p l e R s m args below meth c cells slots Qf D cA a A H0 nL sc q.1 L st σ := by
  refine ltM_ind fun ν ih q hq L st σ h => ?_
  exact wpN_ok hx hb hml hown hts hK hA hcs hΦ hκ hΓ hrI hrL hrV hp (μ := some ν) (fun q' hq' L st σ ν' h1 h2 => ih ν' h1 q' hq' L st σ h2) n _ L st σ (hc q hq L st σ ν h)
end LOOP
def entL (maxL : Nat) (as : List AV) : List AV := ent as ++ List.replicate (maxL - (ent as).length) (.inr (.inr none))
theorem ent_len (a : Nat → Nat) : ∀ as : List AV, (lg_sl (as.map (conc a))).length = (ent as).length
  | [] => rfl
  | v :: r => by
    have ih := ent_len a r
    unfold lg_sl at ih ⊢
    rw [List.map_cons, List.flatMap_cons, List.length_append, ih, conc_cat, ent]
    by_cases hv : isLong v = true
    · rw [if_pos hv, if_pos rfl, if_pos hv]
      simp only [List.length_cons, List.length_nil]
      omega
    · rw [if_neg hv, if_neg (by decide), if_neg hv]
      simp only [List.length_cons, List.length_nil]
      omega
set_option maxHeartbeats 1000000 in
theorem sat_of {l : Launch} {y : MethodName} {bytes : ByteArray} {maxL : Nat} {ret : Option FieldType} {lv : Nat} {S : Spec} (hy : plainName y.cls = true)
    {Φ : List (Nat × Nat × Nat)} {κ : List (Nat × Int)} {Γ : List (Nat × Nat × Nat × Spec)} {rt : Nat} (hΦ : ∀ q ∈ Φ, FieldOK y.cls q) (hκ : ∀ q ∈ κ, ConstOK y.cls q) (hΓ : ∀ g ∈ Γ, CalleeOK l y.cls (rmOf lv) g)
    (hrt : (rt = 0 ∧ ret = none) ∨ (rt = 1 ∧ ret = some .int) ∨ (rt = 2 ∧ ret = some .long) ∨ (rt = 3 ∧ ret = some .boolean))
    {prog : List (Nat × List Instr)} (hp : ∀ q ∈ prog, okB bytes q.1 q.2 = true)
    (vc : ∀ as σ Q, S as σ Q → (ent as).length ≤ maxL ∧ ∃ (cuts : Cuts) (n : Nat), wpN False Φ κ Γ rt Q prog cuts none n 0 (entL maxL as) [] σ ∧ ∀ q ∈ cuts, ∀ L st σ ν, q.2 L st σ ν → wpN False Φ κ Γ rt Q prog cuts (some ν) n q.1 L st σ) :
    Sat l y bytes maxL ret lv S := by
  intro D cA a sz σ as Q hS0
  obtain ⟨hlen, cuts, n, h0, hc⟩ := vc as σ Q hS0
  refine Met.ofW (cc := bytes) (maxL := maxL) (ret := ret) hy rfl ?_
  intro p e s m args below meth c s₁ B hml hv
  obtain ⟨rfl, hsz, hP, hK, hD0⟩ := hv
  have hx := B.exec
  have hb := B.bytes
  have hr := B.returns
  have hts := atoms_spec (ws := Jvm.Cond.code y bytes maxL ret :: TG) B.pre
  have hown : s.vm.findClass y.cls = some m.cls := findClass_of_methodNamed B.named
  have hlocks := B.notSynchronized
  subst hsz
  have hD := hD0.self (sz := s.heap.size)
  generalize hAe : va_A (wsOf cA a σ) s.heap.size = A at hD ⊢
  have hA : ∀ q : Nat, s.heap.size ≤ q → A q := fun q h => by rw [← hAe]; exact Or.inr h
  have hS : va_S A s.heap s.heap [] := va_S.rf
  have hl0 := lv_entry (as.map (conc a)) (n := maxL) (by rw [ent_len]; exact hlen)
  rw [lg_entry_eq]
  generalize (lg_sl (as.map (conc a)) ++ List.replicate (maxL - (lg_sl (as.map (conc a))).length) Slot.unset).toArray = ls at hl0 ⊢
  have hl : lv_has ls maxL (lvl a 0 (entL maxL as)) := ⟨hl0.1, hl0.2.1, fun q hq => hl0.2.2 q (lvl_ent a _ as 0 q hq)⟩
  have hL : (entL maxL as).length = maxL := by
    unfold entL
    rw [List.length_append, List.length_replicate]
    omega
  have hts' : ∀ w ∈ TG, w.before (as.map (conc a)).toArray s = true := fun w hw => hts w (List.mem_cons_of_mem _ hw)
  have rI' : ∀ pc L z u, decode bytes pc = .ok (.ireturn, 1) → (rt = 1 ∨ (rt = 3 ∧ (z = 0 ∨ z = 1))) → Q (some (.inl z)) u → Good p l e (rmOf lv) s m (as.map (conc a)).toArray below meth c 0 0 (MQ below (aQ D cA a Q A) (as.map (conc a)).toArray s 0 0 A) D cA a A s.heap maxL False pc L [.inl z] u := by
    intro pc L z u hd hk hq H locs ls hP hD hS hl hL _
    have post : ∀ t : State, t.heap = H → s.WarmedH t.vm → aQ D cA a Q A (as.map (conc a)).toArray s (.returned (some (.int (Int32.ofInt z)))) t := fun t ht hW => ⟨⟨some (.inl z), u, rfl, hq, by rw [ht]; exact hP, va_K.moved hW.alike hK, hD⟩, hS.F ht⟩
    rcases hk with hk | ⟨hk, hz⟩
    · have hret : ret = some .int := by rcases hrt with ⟨h1, h2⟩ | ⟨h1, h2⟩ | ⟨h1, h2⟩ | ⟨h1, h2⟩ <;> first | exact h2 | omega
      exact W.iret hx hb (hr.trans hret) post hS.2.2 hd
    · have hret : ret = some .boolean := by rcases hrt with ⟨h1, h2⟩ | ⟨h1, h2⟩ | ⟨h1, h2⟩ | ⟨h1, h2⟩ <;> first | exact h2 | omega
      exact W.zret hx hb (hr.trans hret) (zI_zbit hz) post hS.2.2 hd
  have rL' : ∀ pc L z u, decode bytes pc = .ok (.lreturn, 1) → rt = 2 → Q (some (.inr (.inl z))) u → Good p l e (rmOf lv) s m (as.map (conc a)).toArray below meth c 0 0 (MQ below (aQ D cA a Q A) (as.map (conc a)).toArray s 0 0 A) D cA a A s.heap maxL False pc L [.inr (.inl z)] u := by
    intro pc L z u hd hk hq H locs ls hP hD hS hl hL _
    have hret : ret = some .long := by rcases hrt with ⟨h1, h2⟩ | ⟨h1, h2⟩ | ⟨h1, h2⟩ | ⟨h1, h2⟩ <;> first | exact h2 | omega
    exact W.lret hx hb (hr.trans hret) (fun t ht hW => ⟨⟨some (.inr (.inl z)), u, rfl, hq, by rw [ht]; exact hP, va_K.moved hW.alike hK, hD⟩, hS.F ht⟩) hS.2.2 hd
  have rV' : ∀ pc L u, decode bytes pc = .ok (.return_, 1) → rt = 0 → Q none u → Good p l e (rmOf lv) s m (as.map (conc a)).toArray below meth c 0 0 (MQ below (aQ D cA a Q A) (as.map (conc a)).toArray s 0 0 A) D cA a A s.heap maxL False pc L [] u := by
    intro pc L u hd hk hq H locs ls hP hD hS hl hL _
    have hret : ret = none := by rcases hrt with ⟨h1, h2⟩ | ⟨h1, h2⟩ | ⟨h1, h2⟩ | ⟨h1, h2⟩ <;> first | exact h2 | omega
    exact W.vret hx hb (hr.trans hret) (fun t ht hW => ⟨⟨none, u, rfl, hq, by rw [ht]; exact hP, va_K.moved hW.alike hK, hD⟩, hS.F ht⟩) hS.2.2 hd
  have hcut := cut_ok (l := l) (e := e) (R := rmOf lv) (below := below) (meth := meth) (cells := 0) (slots := 0) (nL := maxL) (sc := False) hx hb hml hown hts' hK hA ⟨Nat.zero_le _, Nat.zero_le _⟩ hΦ hκ hΓ rI' rL' rV' hp hc
  exact wpN_ok hx hb hml hown hts' hK hA ⟨Nat.zero_le _, Nat.zero_le _⟩ hΦ hκ hΓ rI' rL' rV' hp (μ := none) (fun q hq L st σ ν _ h => hcut ν q hq L st σ h) n 0 _ [] σ h0 s.heap [] ls hP hD hS hl hL (fun z => z.elim)
end
