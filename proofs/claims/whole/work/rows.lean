section
-- ===== PART A: goes FIRST, ahead of the names: the tables' words, and 'selects' of the private methods out of them =====
/-- a private method of a class that the tables say can be made, by its rows of tables_1 -/
def lw_okq (q : MethodName × Nat) : Prop := (q.1.cls ≠ "java/lang/invoke/MethodHandle" ∧ q.1.cls ≠ "java/lang/invoke/VarHandle") ∧ Cond.instantiable q.1.cls q.2 ∈ tables_1 ∧ Cond.privateMethod q.1 ∈ tables_1 ∧ Cond.instanceMethod q.1 ∈ tables_1
theorem lw_p0 : lw_okq (⟨"EvenWire$Bans", "toldOfWord", "(I)I"⟩, 6) := ⟨⟨by decide +kernel, by decide +kernel⟩, List.mem_of_getElem? (i := 26) (by decide +kernel), List.mem_of_getElem? (i := 282) (by decide +kernel), List.mem_of_getElem? (i := 283) (by decide +kernel)⟩
theorem lw_p1 : lw_okq (⟨"EvenWire$Maker", "explore", "(LEvenWire$Bans;)V"⟩, 9) := ⟨⟨by decide +kernel, by decide +kernel⟩, List.mem_of_getElem? (i := 52) (by decide +kernel), List.mem_of_getElem? (i := 294) (by decide +kernel), List.mem_of_getElem? (i := 295) (by decide +kernel)⟩
theorem lw_p2 : lw_okq (⟨"EvenWire$Maker", "placeFor", "(I)I"⟩, 9) := ⟨⟨by decide +kernel, by decide +kernel⟩, List.mem_of_getElem? (i := 52) (by decide +kernel), List.mem_of_getElem? (i := 312) (by decide +kernel), List.mem_of_getElem? (i := 313) (by decide +kernel)⟩
theorem lw_p3 : lw_okq (⟨"EvenWire$Bans", "breaksRuns", "(II)Z"⟩, 6) := ⟨⟨by decide +kernel, by decide +kernel⟩, List.mem_of_getElem? (i := 26) (by decide +kernel), List.mem_of_getElem? (i := 320) (by decide +kernel), List.mem_of_getElem? (i := 321) (by decide +kernel)⟩
theorem lw_p4 : lw_okq (⟨"EvenWire$Bans", "endsInWord", "(I)Z"⟩, 6) := ⟨⟨by decide +kernel, by decide +kernel⟩, List.mem_of_getElem? (i := 26) (by decide +kernel), List.mem_of_getElem? (i := 328) (by decide +kernel), List.mem_of_getElem? (i := 329) (by decide +kernel)⟩
theorem lw_p5 : lw_okq (⟨"EvenWire$Maker", "dropDead", "()V"⟩, 9) := ⟨⟨by decide +kernel, by decide +kernel⟩, List.mem_of_getElem? (i := 52) (by decide +kernel), List.mem_of_getElem? (i := 335) (by decide +kernel), List.mem_of_getElem? (i := 336) (by decide +kernel)⟩
theorem lw_p6 : lw_okq (⟨"EvenWire$Maker", "dropDeadOnce", "()Z"⟩, 9) := ⟨⟨by decide +kernel, by decide +kernel⟩, List.mem_of_getElem? (i := 52) (by decide +kernel), List.mem_of_getElem? (i := 339) (by decide +kernel), List.mem_of_getElem? (i := 340) (by decide +kernel)⟩
theorem lw_p7 : lw_okq (⟨"EvenWire$Maker", "groupAfter", "(II)I"⟩, 9) := ⟨⟨by decide +kernel, by decide +kernel⟩, List.mem_of_getElem? (i := 52) (by decide +kernel), List.mem_of_getElem? (i := 343) (by decide +kernel), List.mem_of_getElem? (i := 344) (by decide +kernel)⟩
theorem lw_p8 : lw_okq (⟨"EvenWire$Maker", "refine", "()Z"⟩, 9) := ⟨⟨by decide +kernel, by decide +kernel⟩, List.mem_of_getElem? (i := 52) (by decide +kernel), List.mem_of_getElem? (i := 347) (by decide +kernel), List.mem_of_getElem? (i := 348) (by decide +kernel)⟩
theorem lw_p9 : lw_okq (⟨"EvenWire$Maker", "split", "(I)Z"⟩, 9) := ⟨⟨by decide +kernel, by decide +kernel⟩, List.mem_of_getElem? (i := 52) (by decide +kernel), List.mem_of_getElem? (i := 351) (by decide +kernel), List.mem_of_getElem? (i := 352) (by decide +kernel)⟩
theorem lw_p10 : lw_okq (⟨"EvenWire$Wire", "adopt", "(II)V"⟩, 5) := ⟨⟨by decide +kernel, by decide +kernel⟩, List.mem_of_getElem? (i := 86) (by decide +kernel), List.mem_of_getElem? (i := 374) (by decide +kernel), List.mem_of_getElem? (i := 375) (by decide +kernel)⟩
theorem lw_p11 : lw_okq (⟨"EvenWire$Missing", "startAnywhere", "(LEvenWire$Wire;)V"⟩, 6) := ⟨⟨by decide +kernel, by decide +kernel⟩, List.mem_of_getElem? (i := 119) (by decide +kernel), List.mem_of_getElem? (i := 510) (by decide +kernel), List.mem_of_getElem? (i := 511) (by decide +kernel)⟩
theorem lw_p12 : lw_okq (⟨"EvenWire$Missing", "addEnd", "(II)V"⟩, 6) := ⟨⟨by decide +kernel, by decide +kernel⟩, List.mem_of_getElem? (i := 119) (by decide +kernel), List.mem_of_getElem? (i := 515) (by decide +kernel), List.mem_of_getElem? (i := 516) (by decide +kernel)⟩
theorem lw_p13 : lw_okq (⟨"EvenWire$Missing", "searchLength", "(LEvenWire$Wire;I)V"⟩, 6) := ⟨⟨by decide +kernel, by decide +kernel⟩, List.mem_of_getElem? (i := 119) (by decide +kernel), List.mem_of_getElem? (i := 519) (by decide +kernel), List.mem_of_getElem? (i := 520) (by decide +kernel)⟩
theorem lw_p14 : lw_okq (⟨"EvenWire$Missing", "goOn", "(LEvenWire$Wire;IJI)V"⟩, 6) := ⟨⟨by decide +kernel, by decide +kernel⟩, List.mem_of_getElem? (i := 119) (by decide +kernel), List.mem_of_getElem? (i := 523) (by decide +kernel), List.mem_of_getElem? (i := 524) (by decide +kernel)⟩
theorem lw_p15 : lw_okq (⟨"EvenWire$Weights", "weighEnds", "(LEvenWire$Wire;LEvenWire$Ladder;I)V"⟩, 1) := ⟨⟨by decide +kernel, by decide +kernel⟩, List.mem_of_getElem? (i := 144) (by decide +kernel), List.mem_of_getElem? (i := 572) (by decide +kernel), List.mem_of_getElem? (i := 573) (by decide +kernel)⟩
def lw_privs_1 : List (MethodName × Nat) := [(⟨"EvenWire$Bans", "toldOfWord", "(I)I"⟩, 6), (⟨"EvenWire$Maker", "explore", "(LEvenWire$Bans;)V"⟩, 9), (⟨"EvenWire$Maker", "placeFor", "(I)I"⟩, 9), (⟨"EvenWire$Bans", "breaksRuns", "(II)Z"⟩, 6), (⟨"EvenWire$Bans", "endsInWord", "(I)Z"⟩, 6), (⟨"EvenWire$Maker", "dropDead", "()V"⟩, 9), (⟨"EvenWire$Maker", "dropDeadOnce", "()Z"⟩, 9), (⟨"EvenWire$Maker", "groupAfter", "(II)I"⟩, 9), (⟨"EvenWire$Maker", "refine", "()Z"⟩, 9), (⟨"EvenWire$Maker", "split", "(I)Z"⟩, 9), (⟨"EvenWire$Wire", "adopt", "(II)V"⟩, 5), (⟨"EvenWire$Missing", "startAnywhere", "(LEvenWire$Wire;)V"⟩, 6), (⟨"EvenWire$Missing", "addEnd", "(II)V"⟩, 6), (⟨"EvenWire$Missing", "searchLength", "(LEvenWire$Wire;I)V"⟩, 6), (⟨"EvenWire$Missing", "goOn", "(LEvenWire$Wire;IJI)V"⟩, 6), (⟨"EvenWire$Weights", "weighEnds", "(LEvenWire$Wire;LEvenWire$Ladder;I)V"⟩, 1)]
theorem lw_r1 : ∀ q ∈ lw_privs_1, lw_okq q := List.forall_mem_cons.mpr ⟨lw_p0, List.forall_mem_cons.mpr ⟨lw_p1, List.forall_mem_cons.mpr ⟨lw_p2, List.forall_mem_cons.mpr ⟨lw_p3, List.forall_mem_cons.mpr ⟨lw_p4, List.forall_mem_cons.mpr ⟨lw_p5, List.forall_mem_cons.mpr ⟨lw_p6, List.forall_mem_cons.mpr ⟨lw_p7, List.forall_mem_cons.mpr ⟨lw_p8, List.forall_mem_cons.mpr ⟨lw_p9, List.forall_mem_cons.mpr ⟨lw_p10, List.forall_mem_cons.mpr ⟨lw_p11, List.forall_mem_cons.mpr ⟨lw_p12, List.forall_mem_cons.mpr ⟨lw_p13, List.forall_mem_cons.mpr ⟨lw_p14, List.forall_mem_cons.mpr ⟨lw_p15, fun _ h => absurd h List.not_mem_nil⟩⟩⟩⟩⟩⟩⟩⟩⟩⟩⟩⟩⟩⟩⟩⟩
theorem lw_p16 : lw_okq (⟨"EvenWire$Weights", "lower", "(LEvenWire$Wire;LEvenWire$Ladder;II)Z"⟩, 1) := ⟨⟨by decide +kernel, by decide +kernel⟩, List.mem_of_getElem? (i := 144) (by decide +kernel), List.mem_of_getElem? (i := 594) (by decide +kernel), List.mem_of_getElem? (i := 595) (by decide +kernel)⟩
theorem lw_p17 : lw_okq (⟨"EvenWire$Codebook", "dropPoor", "(LEvenWire$Wire;II)Z"⟩, 7) := ⟨⟨by decide +kernel, by decide +kernel⟩, List.mem_of_getElem? (i := 154) (by decide +kernel), List.mem_of_getElem? (i := 609) (by decide +kernel), List.mem_of_getElem? (i := 610) (by decide +kernel)⟩
theorem lw_p18 : lw_okq (⟨"EvenWire$Codebook", "enroll", "(LEvenWire$Wire;II)V"⟩, 7) := ⟨⟨by decide +kernel, by decide +kernel⟩, List.mem_of_getElem? (i := 154) (by decide +kernel), List.mem_of_getElem? (i := 616) (by decide +kernel), List.mem_of_getElem? (i := 617) (by decide +kernel)⟩
theorem lw_p19 : lw_okq (⟨"EvenWire$Codebook", "pieces", "(LEvenWire$Bits;)I"⟩, 7) := ⟨⟨by decide +kernel, by decide +kernel⟩, List.mem_of_getElem? (i := 154) (by decide +kernel), List.mem_of_getElem? (i := 706) (by decide +kernel), List.mem_of_getElem? (i := 707) (by decide +kernel)⟩
theorem lw_p20 : lw_okq (⟨"EvenWireModel", "findRaws", "()V"⟩, 42) := ⟨⟨by decide +kernel, by decide +kernel⟩, List.mem_of_getElem? (i := 809) (by decide +kernel), List.mem_of_getElem? (i := 976) (by decide +kernel), List.mem_of_getElem? (i := 977) (by decide +kernel)⟩
theorem lw_p21 : lw_okq (⟨"EvenWireModel", "rawOf", "(I)I"⟩, 42) := ⟨⟨by decide +kernel, by decide +kernel⟩, List.mem_of_getElem? (i := 809) (by decide +kernel), List.mem_of_getElem? (i := 983) (by decide +kernel), List.mem_of_getElem? (i := 984) (by decide +kernel)⟩
theorem lw_p22 : lw_okq (⟨"EvenWireModel", "behind", "(II)I"⟩, 42) := ⟨⟨by decide +kernel, by decide +kernel⟩, List.mem_of_getElem? (i := 809) (by decide +kernel), List.mem_of_getElem? (i := 987) (by decide +kernel), List.mem_of_getElem? (i := 988) (by decide +kernel)⟩
theorem lw_p23 : lw_okq (⟨"EvenWireModel", "endsBanned", "(I)Z"⟩, 42) := ⟨⟨by decide +kernel, by decide +kernel⟩, List.mem_of_getElem? (i := 809) (by decide +kernel), List.mem_of_getElem? (i := 991) (by decide +kernel), List.mem_of_getElem? (i := 992) (by decide +kernel)⟩
theorem lw_p24 : lw_okq (⟨"EvenWireModel", "longest", "()I"⟩, 42) := ⟨⟨by decide +kernel, by decide +kernel⟩, List.mem_of_getElem? (i := 809) (by decide +kernel), List.mem_of_getElem? (i := 995) (by decide +kernel), List.mem_of_getElem? (i := 996) (by decide +kernel)⟩
theorem lw_p25 : lw_okq (⟨"EvenWireModel", "prune", "()V"⟩, 42) := ⟨⟨by decide +kernel, by decide +kernel⟩, List.mem_of_getElem? (i := 809) (by decide +kernel), List.mem_of_getElem? (i := 999) (by decide +kernel), List.mem_of_getElem? (i := 1000) (by decide +kernel)⟩
theorem lw_p26 : lw_okq (⟨"EvenWireModel", "isAliveAt", "(I)Z"⟩, 42) := ⟨⟨by decide +kernel, by decide +kernel⟩, List.mem_of_getElem? (i := 809) (by decide +kernel), List.mem_of_getElem? (i := 1003) (by decide +kernel), List.mem_of_getElem? (i := 1004) (by decide +kernel)⟩
theorem lw_p27 : lw_okq (⟨"EvenWireModel", "refine", "()I"⟩, 42) := ⟨⟨by decide +kernel, by decide +kernel⟩, List.mem_of_getElem? (i := 809) (by decide +kernel), List.mem_of_getElem? (i := 1007) (by decide +kernel), List.mem_of_getElem? (i := 1008) (by decide +kernel)⟩
theorem lw_p28 : lw_okq (⟨"EvenWireModel", "signOf", "(II)I"⟩, 42) := ⟨⟨by decide +kernel, by decide +kernel⟩, List.mem_of_getElem? (i := 809) (by decide +kernel), List.mem_of_getElem? (i := 1011) (by decide +kernel), List.mem_of_getElem? (i := 1012) (by decide +kernel)⟩
theorem lw_p29 : lw_okq (⟨"EvenWireModel", "classAt", "(I)I"⟩, 42) := ⟨⟨by decide +kernel, by decide +kernel⟩, List.mem_of_getElem? (i := 809) (by decide +kernel), List.mem_of_getElem? (i := 1015) (by decide +kernel), List.mem_of_getElem? (i := 1016) (by decide +kernel)⟩
theorem lw_p30 : lw_okq (⟨"EvenWireModel", "stateOf", "(III)I"⟩, 42) := ⟨⟨by decide +kernel, by decide +kernel⟩, List.mem_of_getElem? (i := 809) (by decide +kernel), List.mem_of_getElem? (i := 1019) (by decide +kernel), List.mem_of_getElem? (i := 1020) (by decide +kernel)⟩
theorem lw_p31 : lw_okq (⟨"EvenWireModel", "isState", "(I)Z"⟩, 42) := ⟨⟨by decide +kernel, by decide +kernel⟩, List.mem_of_getElem? (i := 809) (by decide +kernel), List.mem_of_getElem? (i := 1031) (by decide +kernel), List.mem_of_getElem? (i := 1032) (by decide +kernel)⟩
def lw_privs_2 : List (MethodName × Nat) := [(⟨"EvenWire$Weights", "lower", "(LEvenWire$Wire;LEvenWire$Ladder;II)Z"⟩, 1), (⟨"EvenWire$Codebook", "dropPoor", "(LEvenWire$Wire;II)Z"⟩, 7), (⟨"EvenWire$Codebook", "enroll", "(LEvenWire$Wire;II)V"⟩, 7), (⟨"EvenWire$Codebook", "pieces", "(LEvenWire$Bits;)I"⟩, 7), (⟨"EvenWireModel", "findRaws", "()V"⟩, 42), (⟨"EvenWireModel", "rawOf", "(I)I"⟩, 42), (⟨"EvenWireModel", "behind", "(II)I"⟩, 42), (⟨"EvenWireModel", "endsBanned", "(I)Z"⟩, 42), (⟨"EvenWireModel", "longest", "()I"⟩, 42), (⟨"EvenWireModel", "prune", "()V"⟩, 42), (⟨"EvenWireModel", "isAliveAt", "(I)Z"⟩, 42), (⟨"EvenWireModel", "refine", "()I"⟩, 42), (⟨"EvenWireModel", "signOf", "(II)I"⟩, 42), (⟨"EvenWireModel", "classAt", "(I)I"⟩, 42), (⟨"EvenWireModel", "stateOf", "(III)I"⟩, 42), (⟨"EvenWireModel", "isState", "(I)Z"⟩, 42)]
theorem lw_r2 : ∀ q ∈ lw_privs_2, lw_okq q := List.forall_mem_cons.mpr ⟨lw_p16, List.forall_mem_cons.mpr ⟨lw_p17, List.forall_mem_cons.mpr ⟨lw_p18, List.forall_mem_cons.mpr ⟨lw_p19, List.forall_mem_cons.mpr ⟨lw_p20, List.forall_mem_cons.mpr ⟨lw_p21, List.forall_mem_cons.mpr ⟨lw_p22, List.forall_mem_cons.mpr ⟨lw_p23, List.forall_mem_cons.mpr ⟨lw_p24, List.forall_mem_cons.mpr ⟨lw_p25, List.forall_mem_cons.mpr ⟨lw_p26, List.forall_mem_cons.mpr ⟨lw_p27, List.forall_mem_cons.mpr ⟨lw_p28, List.forall_mem_cons.mpr ⟨lw_p29, List.forall_mem_cons.mpr ⟨lw_p30, List.forall_mem_cons.mpr ⟨lw_p31, fun _ h => absurd h List.not_mem_nil⟩⟩⟩⟩⟩⟩⟩⟩⟩⟩⟩⟩⟩⟩⟩⟩
theorem lw_p32 : lw_okq (⟨"EvenWireModel", "goes", "(II)I"⟩, 42) := ⟨⟨by decide +kernel, by decide +kernel⟩, List.mem_of_getElem? (i := 809) (by decide +kernel), List.mem_of_getElem? (i := 1035) (by decide +kernel), List.mem_of_getElem? (i := 1036) (by decide +kernel)⟩
theorem lw_p33 : lw_okq (⟨"EvenWireModel", "walks", "(IJI)I"⟩, 42) := ⟨⟨by decide +kernel, by decide +kernel⟩, List.mem_of_getElem? (i := 809) (by decide +kernel), List.mem_of_getElem? (i := 1047) (by decide +kernel), List.mem_of_getElem? (i := 1048) (by decide +kernel)⟩
theorem lw_p34 : lw_okq (⟨"EvenWireModel", "tellMany", "(I)V"⟩, 42) := ⟨⟨by decide +kernel, by decide +kernel⟩, List.mem_of_getElem? (i := 809) (by decide +kernel), List.mem_of_getElem? (i := 1060) (by decide +kernel), List.mem_of_getElem? (i := 1061) (by decide +kernel)⟩
theorem lw_p35 : lw_okq (⟨"EvenWireModel", "reachFrom", "(II)V"⟩, 42) := ⟨⟨by decide +kernel, by decide +kernel⟩, List.mem_of_getElem? (i := 809) (by decide +kernel), List.mem_of_getElem? (i := 1078) (by decide +kernel), List.mem_of_getElem? (i := 1079) (by decide +kernel)⟩
theorem lw_p36 : lw_okq (⟨"EvenWireModel", "comes", "(II)Z"⟩, 42) := ⟨⟨by decide +kernel, by decide +kernel⟩, List.mem_of_getElem? (i := 809) (by decide +kernel), List.mem_of_getElem? (i := 1086) (by decide +kernel), List.mem_of_getElem? (i := 1087) (by decide +kernel)⟩
theorem lw_p37 : lw_okq (⟨"EvenWireModel", "allWeights", "()I"⟩, 42) := ⟨⟨by decide +kernel, by decide +kernel⟩, List.mem_of_getElem? (i := 809) (by decide +kernel), List.mem_of_getElem? (i := 1107) (by decide +kernel), List.mem_of_getElem? (i := 1108) (by decide +kernel)⟩
theorem lw_p38 : lw_okq (⟨"EvenWireModel", "weighed", "(II)J"⟩, 42) := ⟨⟨by decide +kernel, by decide +kernel⟩, List.mem_of_getElem? (i := 809) (by decide +kernel), List.mem_of_getElem? (i := 1111) (by decide +kernel), List.mem_of_getElem? (i := 1112) (by decide +kernel)⟩
theorem lw_p39 : lw_okq (⟨"EvenWireModel", "leading", "(I)I"⟩, 42) := ⟨⟨by decide +kernel, by decide +kernel⟩, List.mem_of_getElem? (i := 809) (by decide +kernel), List.mem_of_getElem? (i := 1125) (by decide +kernel), List.mem_of_getElem? (i := 1126) (by decide +kernel)⟩
theorem lw_p40 : lw_okq (⟨"EvenWireModel", "wordAt", "(II)I"⟩, 42) := ⟨⟨by decide +kernel, by decide +kernel⟩, List.mem_of_getElem? (i := 809) (by decide +kernel), List.mem_of_getElem? (i := 1137) (by decide +kernel), List.mem_of_getElem? (i := 1138) (by decide +kernel)⟩
theorem lw_p41 : lw_okq (⟨"EvenWireModel", "isMemberAt", "(I)Z"⟩, 42) := ⟨⟨by decide +kernel, by decide +kernel⟩, List.mem_of_getElem? (i := 809) (by decide +kernel), List.mem_of_getElem? (i := 1141) (by decide +kernel), List.mem_of_getElem? (i := 1142) (by decide +kernel)⟩
theorem lw_p42 : lw_okq (⟨"EvenWireModel", "readAt", "(II)I"⟩, 42) := ⟨⟨by decide +kernel, by decide +kernel⟩, List.mem_of_getElem? (i := 809) (by decide +kernel), List.mem_of_getElem? (i := 1149) (by decide +kernel), List.mem_of_getElem? (i := 1150) (by decide +kernel)⟩
theorem lw_p43 : lw_okq (⟨"EvenWireModel", "tellLead", "()I"⟩, 42) := ⟨⟨by decide +kernel, by decide +kernel⟩, List.mem_of_getElem? (i := 809) (by decide +kernel), List.mem_of_getElem? (i := 1169) (by decide +kernel), List.mem_of_getElem? (i := 1170) (by decide +kernel)⟩
theorem lw_p44 : lw_okq (⟨"EvenWireModel", "home", "()I"⟩, 42) := ⟨⟨by decide +kernel, by decide +kernel⟩, List.mem_of_getElem? (i := 809) (by decide +kernel), List.mem_of_getElem? (i := 1173) (by decide +kernel), List.mem_of_getElem? (i := 1174) (by decide +kernel)⟩
def lw_privs_3 : List (MethodName × Nat) := [(⟨"EvenWireModel", "goes", "(II)I"⟩, 42), (⟨"EvenWireModel", "walks", "(IJI)I"⟩, 42), (⟨"EvenWireModel", "tellMany", "(I)V"⟩, 42), (⟨"EvenWireModel", "reachFrom", "(II)V"⟩, 42), (⟨"EvenWireModel", "comes", "(II)Z"⟩, 42), (⟨"EvenWireModel", "allWeights", "()I"⟩, 42), (⟨"EvenWireModel", "weighed", "(II)J"⟩, 42), (⟨"EvenWireModel", "leading", "(I)I"⟩, 42), (⟨"EvenWireModel", "wordAt", "(II)I"⟩, 42), (⟨"EvenWireModel", "isMemberAt", "(I)Z"⟩, 42), (⟨"EvenWireModel", "readAt", "(II)I"⟩, 42), (⟨"EvenWireModel", "tellLead", "()I"⟩, 42), (⟨"EvenWireModel", "home", "()I"⟩, 42)]
theorem lw_r3 : ∀ q ∈ lw_privs_3, lw_okq q := List.forall_mem_cons.mpr ⟨lw_p32, List.forall_mem_cons.mpr ⟨lw_p33, List.forall_mem_cons.mpr ⟨lw_p34, List.forall_mem_cons.mpr ⟨lw_p35, List.forall_mem_cons.mpr ⟨lw_p36, List.forall_mem_cons.mpr ⟨lw_p37, List.forall_mem_cons.mpr ⟨lw_p38, List.forall_mem_cons.mpr ⟨lw_p39, List.forall_mem_cons.mpr ⟨lw_p40, List.forall_mem_cons.mpr ⟨lw_p41, List.forall_mem_cons.mpr ⟨lw_p42, List.forall_mem_cons.mpr ⟨lw_p43, List.forall_mem_cons.mpr ⟨lw_p44, fun _ h => absurd h List.not_mem_nil⟩⟩⟩⟩⟩⟩⟩⟩⟩⟩⟩⟩⟩
def lw_privs : List (MethodName × Nat) := lw_privs_1 ++ (lw_privs_2 ++ (lw_privs_3))
def lw_tbl : List Cond := k2_sels lw_privs ++ tables_1
theorem lw_privs_ok : ∀ q ∈ lw_privs, lw_okq q := by
  show ∀ q ∈ lw_privs_1 ++ (lw_privs_2 ++ (lw_privs_3)), lw_okq q
  exact List.forall_mem_append.mpr ⟨lw_r1, List.forall_mem_append.mpr ⟨lw_r2, lw_r3⟩⟩
-- names: classes, fields in the order of the slots, types (out of the printed names)
def RX0 : String := "EvenWire$Bans"
def TX0 : u_T := fun k => match k with
  | 0 => ("EvenWire$Bans", "wordBits", "[I", true)
  | 1 => ("EvenWire$Bans", "wordLengths", "[I", true)
  | 2 => ("EvenWire$Bans", "words", "I", false)
  | 3 => ("EvenWire$Bans", "fewest", "I", false)
  | 4 => ("EvenWire$Bans", "most", "I", false)
  | _ => ("EvenWire$Bans", "lean", "I", false)
def tyX0 : Nat → FieldType := fun k => match k with
  | 0 => .array .int
  | 1 => .array .int
  | 2 => .int
  | 3 => .int
  | 4 => .int
  | _ => .int
abbrev wsX00 : List Cond := u_ws RX0 TX0 6
theorem nmX0 : ∀ a, a < 6 → ∀ b, b < 6 → a ≠ b → (TX0 a).2.1 ≠ (TX0 b).2.1 := by decide +kernel
theorem tyX0_ok : ∀ k, k < 6 → parseFieldDescriptor (TX0 k).2.2.1 = some (tyX0 k) := by decide +kernel
def RX1 : String := "EvenWire$Bits"
def TX1 : u_T := fun k => match k with
  | 0 => ("EvenWire$Bits", "bits", "[I", true)
  | _ => ("EvenWire$Bits", "size", "I", false)
def tyX1 : Nat → FieldType := fun k => match k with
  | 0 => .array .int
  | _ => .int
abbrev wsX10 : List Cond := u_ws RX1 TX1 2
theorem nmX1 : ∀ a, a < 2 → ∀ b, b < 2 → a ≠ b → (TX1 a).2.1 ≠ (TX1 b).2.1 := by decide +kernel
theorem tyX1_ok : ∀ k, k < 2 → parseFieldDescriptor (TX1 k).2.2.1 = some (tyX1 k) := by decide +kernel
def RX2 : String := "EvenWire$Codebook"
def TX2 : u_T := fun k => match k with
  | 0 => ("EvenWire$Codebook", "toMembers", "LEvenWire$Ladder;", true)
  | 1 => ("EvenWire$Codebook", "members", "[I", true)
  | 2 => ("EvenWire$Codebook", "lead", "LEvenWire$Bits;", true)
  | 3 => ("EvenWire$Codebook", "size", "I", false)
  | 4 => ("EvenWire$Codebook", "pieceLength", "I", false)
  | 5 => ("EvenWire$Codebook", "wordLength", "I", false)
  | _ => ("EvenWire$Codebook", "home", "I", false)
def tyX2 : Nat → FieldType := fun k => match k with
  | 0 => .object "EvenWire$Ladder"
  | 1 => .array .int
  | 2 => .object "EvenWire$Bits"
  | 3 => .int
  | 4 => .int
  | 5 => .int
  | _ => .int
abbrev wsX20 : List Cond := u_ws RX2 TX2 7
theorem nmX2 : ∀ a, a < 7 → ∀ b, b < 7 → a ≠ b → (TX2 a).2.1 ≠ (TX2 b).2.1 := by decide +kernel
theorem tyX2_ok : ∀ k, k < 7 → parseFieldDescriptor (TX2 k).2.2.1 = some (tyX2 k) := by decide +kernel
def RX3 : String := "EvenWire$Ladder"
def TX3 : u_T := fun k => match k with
  | _ => ("EvenWire$Ladder", "sums", "[J", true)
def tyX3 : Nat → FieldType := fun k => match k with
  | _ => .array .long
abbrev wsX30 : List Cond := u_ws RX3 TX3 1
theorem nmX3 : ∀ a, a < 1 → ∀ b, b < 1 → a ≠ b → (TX3 a).2.1 ≠ (TX3 b).2.1 := by decide +kernel
theorem tyX3_ok : ∀ k, k < 1 → parseFieldDescriptor (TX3 k).2.2.1 = some (tyX3 k) := by decide +kernel
def RX4 : String := "EvenWire$Maker"
def TX4 : u_T := fun k => match k with
  | 0 => ("EvenWire$Maker", "placeOf", "[I", true)
  | 1 => ("EvenWire$Maker", "keys", "[I", true)
  | 2 => ("EvenWire$Maker", "next", "[I", true)
  | 3 => ("EvenWire$Maker", "group", "[I", true)
  | 4 => ("EvenWire$Maker", "fresh", "[I", true)
  | 5 => ("EvenWire$Maker", "table", "[I", true)
  | 6 => ("EvenWire$Maker", "base", "I", false)
  | 7 => ("EvenWire$Maker", "found", "I", false)
  | _ => ("EvenWire$Maker", "groups", "I", false)
def tyX4 : Nat → FieldType := fun k => match k with
  | 0 => .array .int
  | 1 => .array .int
  | 2 => .array .int
  | 3 => .array .int
  | 4 => .array .int
  | 5 => .array .int
  | 6 => .int
  | 7 => .int
  | _ => .int
abbrev wsX40 : List Cond := u_ws RX4 TX4 9
theorem nmX4 : ∀ a, a < 9 → ∀ b, b < 9 → a ≠ b → (TX4 a).2.1 ≠ (TX4 b).2.1 := by decide +kernel
theorem tyX4_ok : ∀ k, k < 9 → parseFieldDescriptor (TX4 k).2.2.1 = some (tyX4 k) := by decide +kernel
def RX5 : String := "EvenWire$Missing"
def TX5 : u_T := fun k => match k with
  | 0 => ("EvenWire$Missing", "low", "[J", true)
  | 1 => ("EvenWire$Missing", "high", "[J", true)
  | 2 => ("EvenWire$Missing", "searched", "I", false)
  | 3 => ("EvenWire$Missing", "length", "I", false)
  | 4 => ("EvenWire$Missing", "bits", "I", false)
  | _ => ("EvenWire$Missing", "last", "I", false)
def tyX5 : Nat → FieldType := fun k => match k with
  | 0 => .array .long
  | 1 => .array .long
  | 2 => .int
  | 3 => .int
  | 4 => .int
  | _ => .int
abbrev wsX50 : List Cond := u_ws RX5 TX5 6
theorem nmX5 : ∀ a, a < 6 → ∀ b, b < 6 → a ≠ b → (TX5 a).2.1 ≠ (TX5 b).2.1 := by decide +kernel
theorem tyX5_ok : ∀ k, k < 6 → parseFieldDescriptor (TX5 k).2.2.1 = some (tyX5 k) := by decide +kernel
def RX6 : String := "EvenWire$Weights"
def TX6 : u_T := fun k => match k with
  | _ => ("EvenWire$Weights", "weights", "[I", true)
def tyX6 : Nat → FieldType := fun k => match k with
  | _ => .array .int
abbrev wsX60 : List Cond := u_ws RX6 TX6 1
theorem nmX6 : ∀ a, a < 1 → ∀ b, b < 1 → a ≠ b → (TX6 a).2.1 ≠ (TX6 b).2.1 := by decide +kernel
theorem tyX6_ok : ∀ k, k < 1 → parseFieldDescriptor (TX6 k).2.2.1 = some (tyX6 k) := by decide +kernel
def RX7 : String := "EvenWire$Wire"
def TX7 : u_T := fun k => match k with
  | 0 => ("EvenWire$Wire", "next", "[I", true)
  | 1 => ("EvenWire$Wire", "parent", "[I", true)
  | 2 => ("EvenWire$Wire", "lastBit", "[I", true)
  | 3 => ("EvenWire$Wire", "depth", "[I", true)
  | _ => ("EvenWire$Wire", "size", "I", false)
def tyX7 : Nat → FieldType := fun k => match k with
  | 0 => .array .int
  | 1 => .array .int
  | 2 => .array .int
  | 3 => .array .int
  | _ => .int
abbrev wsX70 : List Cond := u_ws RX7 TX7 5
theorem nmX7 : ∀ a, a < 5 → ∀ b, b < 5 → a ≠ b → (TX7 a).2.1 ≠ (TX7 b).2.1 := by decide +kernel
theorem tyX7_ok : ∀ k, k < 5 → parseFieldDescriptor (TX7 k).2.2.1 = some (tyX7 k) := by decide +kernel
def RX8 : String := "EvenWire"
def TX8 : u_T := fun k => match k with
  | 0 => ("EvenWire", "bans", "LEvenWire$Bans;", true)
  | 1 => ("EvenWire", "maker", "LEvenWire$Maker;", true)
  | 2 => ("EvenWire", "wire", "LEvenWire$Wire;", true)
  | 3 => ("EvenWire", "anywhere", "LEvenWire$Ladder;", true)
  | 4 => ("EvenWire", "paths", "LEvenWire$Ladder;", true)
  | 5 => ("EvenWire", "missing", "LEvenWire$Missing;", true)
  | 6 => ("EvenWire", "weights", "LEvenWire$Weights;", true)
  | 7 => ("EvenWire", "codebook", "LEvenWire$Codebook;", true)
  | 8 => ("EvenWire", "messageBits", "LEvenWire$Bits;", true)
  | 9 => ("EvenWire", "plateBits", "LEvenWire$Bits;", true)
  | 10 => ("EvenWire", "draft", "LEvenWire$Bits;", true)
  | _ => ("EvenWire", "builds", "I", false)
def tyX8 : Nat → FieldType := fun k => match k with
  | 0 => .object "EvenWire$Bans"
  | 1 => .object "EvenWire$Maker"
  | 2 => .object "EvenWire$Wire"
  | 3 => .object "EvenWire$Ladder"
  | 4 => .object "EvenWire$Ladder"
  | 5 => .object "EvenWire$Missing"
  | 6 => .object "EvenWire$Weights"
  | 7 => .object "EvenWire$Codebook"
  | 8 => .object "EvenWire$Bits"
  | 9 => .object "EvenWire$Bits"
  | 10 => .object "EvenWire$Bits"
  | _ => .int
abbrev wsX80 : List Cond := u_ws RX8 TX8 12
theorem nmX8 : ∀ a, a < 12 → ∀ b, b < 12 → a ≠ b → (TX8 a).2.1 ≠ (TX8 b).2.1 := by decide +kernel
theorem tyX8_ok : ∀ k, k < 12 → parseFieldDescriptor (TX8 k).2.2.1 = some (tyX8 k) := by decide +kernel
def RX9 : String := "EvenWireModel"
def TX9 : u_T := fun k => match k with
  | 0 => ("EvenWireModel", "d", "I", false)
  | 1 => ("EvenWireModel", "k", "I", false)
  | 2 => ("EvenWireModel", "words", "I", false)
  | 3 => ("EvenWireModel", "wordBits", "[I", true)
  | 4 => ("EvenWireModel", "wordSize", "[I", true)
  | 5 => ("EvenWireModel", "lean", "I", false)
  | 6 => ("EvenWireModel", "indexOf", "[I", true)
  | 7 => ("EvenWireModel", "raws", "I", false)
  | 8 => ("EvenWireModel", "rawCode", "[I", true)
  | 9 => ("EvenWireModel", "rawZero", "[I", true)
  | 10 => ("EvenWireModel", "rawOne", "[I", true)
  | 11 => ("EvenWireModel", "isAlive", "[Z", true)
  | 12 => ("EvenWireModel", "classOf", "[I", true)
  | 13 => ("EvenWireModel", "newClass", "[I", true)
  | 14 => ("EvenWireModel", "signOwn", "[I", true)
  | 15 => ("EvenWireModel", "signZero", "[I", true)
  | 16 => ("EvenWireModel", "signOne", "[I", true)
  | 17 => ("EvenWireModel", "states", "I", false)
  | 18 => ("EvenWireModel", "goZero", "[I", true)
  | 19 => ("EvenWireModel", "goOne", "[I", true)
  | 20 => ("EvenWireModel", "parent", "[I", true)
  | 21 => ("EvenWireModel", "byBit", "[I", true)
  | 22 => ("EvenWireModel", "depth", "[I", true)
  | 23 => ("EvenWireModel", "numberOf", "[I", true)
  | 24 => ("EvenWireModel", "rawFirst", "[I", true)
  | 25 => ("EvenWireModel", "weights", "[I", true)
  | 26 => ("EvenWireModel", "builds", "I", false)
  | 27 => ("EvenWireModel", "marked", "I", false)
  | 28 => ("EvenWireModel", "many", "[J", true)
  | 29 => ("EvenWireModel", "reach", "[I", true)
  | 30 => ("EvenWireModel", "before", "[I", true)
  | 31 => ("EvenWireModel", "table", "[I", true)
  | 32 => ("EvenWireModel", "members", "I", false)
  | 33 => ("EvenWireModel", "codeM", "I", false)
  | 34 => ("EvenWireModel", "codeN", "I", false)
  | 35 => ("EvenWireModel", "isMember", "[Z", true)
  | 36 => ("EvenWireModel", "said", "I", false)
  | 37 => ("EvenWireModel", "message", "[I", true)
  | 38 => ("EvenWireModel", "size", "I", false)
  | 39 => ("EvenWireModel", "plate", "[I", true)
  | 40 => ("EvenWireModel", "draft", "[I", true)
  | _ => ("EvenWireModel", "lead", "[I", true)
def tyX9 : Nat → FieldType := fun k => match k with
  | 0 => .int
  | 1 => .int
  | 2 => .int
  | 3 => .array .int
  | 4 => .array .int
  | 5 => .int
  | 6 => .array .int
  | 7 => .int
  | 8 => .array .int
  | 9 => .array .int
  | 10 => .array .int
  | 11 => .array .boolean
  | 12 => .array .int
  | 13 => .array .int
  | 14 => .array .int
  | 15 => .array .int
  | 16 => .array .int
  | 17 => .int
  | 18 => .array .int
  | 19 => .array .int
  | 20 => .array .int
  | 21 => .array .int
  | 22 => .array .int
  | 23 => .array .int
  | 24 => .array .int
  | 25 => .array .int
  | 26 => .int
  | 27 => .int
  | 28 => .array .long
  | 29 => .array .int
  | 30 => .array .int
  | 31 => .array .int
  | 32 => .int
  | 33 => .int
  | 34 => .int
  | 35 => .array .boolean
  | 36 => .int
  | 37 => .array .int
  | 38 => .int
  | 39 => .array .int
  | 40 => .array .int
  | _ => .array .int
abbrev wsX90 : List Cond := u_ws RX9 TX9 42
theorem nmX9 : ∀ a, a < 42 → ∀ b, b < 42 → a ≠ b → (TX9 a).2.1 ≠ (TX9 b).2.1 := by decide +kernel
theorem tyX9_ok : ∀ k, k < 42 → parseFieldDescriptor (TX9 k).2.2.1 = some (tyX9 k) := by decide +kernel
abbrev CL : List vw_C := [(RX0, TX0, 6), (RX1, TX1, 2), (RX2, TX2, 7), (RX3, TX3, 1), (RX4, TX4, 9), (RX5, TX5, 6), (RX6, TX6, 1), (RX7, TX7, 5), (RX8, TX8, 12), (RX9, TX9, 42)]
theorem t01 : 1 = 1 := rfl
end
section
/-! numbers: an int is 'Int32.ofInt z', a long 'Int64.ofInt z', z an Int; what the machine does to them, said of z -/
def rI (z : Int) : Prop := -2147483648 ≤ z ∧ z < 2147483648
def rL (z : Int) : Prop := -9223372036854775808 ≤ z ∧ z < 9223372036854775808
theorem zI_toInt {z : Int} (h : rI z) : (Int32.ofInt z).toInt = z := Int32.toInt_ofInt_of_le (by have := h.1; omega) (by have := h.2; omega)
theorem zL_toInt {z : Int} (h : rL z) : (Int64.ofInt z).toInt = z := Int64.toInt_ofInt_of_le (by have := h.1; omega) (by have := h.2; omega)
theorem zI_lt {x y : Int} (hx : rI x) (hy : rI y) : Int32.ofInt x < Int32.ofInt y ↔ x < y := by rw [Int32.lt_iff_toInt_lt, zI_toInt hx, zI_toInt hy]
theorem zI_le {x y : Int} (hx : rI x) (hy : rI y) : Int32.ofInt x ≤ Int32.ofInt y ↔ x ≤ y := by rw [Int32.le_iff_toInt_le, zI_toInt hx, zI_toInt hy]
theorem zI_eq {x y : Int} (hx : rI x) (hy : rI y) : Int32.ofInt x = Int32.ofInt y ↔ x = y := by rw [← Int32.toInt_inj, zI_toInt hx, zI_toInt hy]
theorem zL_lt {x y : Int} (hx : rL x) (hy : rL y) : Int64.ofInt x < Int64.ofInt y ↔ x < y := by rw [Int64.lt_iff_toInt_lt, zL_toInt hx, zL_toInt hy]
theorem zL_eq {x y : Int} (hx : rL x) (hy : rL y) : Int64.ofInt x = Int64.ofInt y ↔ x = y := by rw [← Int64.toInt_inj, zL_toInt hx, zL_toInt hy]
theorem rI_0 : rI 0 := by unfold rI; omega
theorem zI_zero : Int32.ofInt 0 = 0 := by decide +kernel
theorem zI_eq0 {x : Int} (hx : rI x) : Int32.ofInt x = 0 ↔ x = 0 := by rw [← zI_zero, zI_eq hx rI_0]
theorem zI_lt0 {x : Int} (hx : rI x) : Int32.ofInt x < 0 ↔ x < 0 := by rw [← zI_zero, zI_lt hx rI_0]
theorem zI_le0 {x : Int} (hx : rI x) : Int32.ofInt x ≤ 0 ↔ x ≤ 0 := by rw [← zI_zero, zI_le hx rI_0]
theorem zI_0le {x : Int} (hx : rI x) : 0 ≤ Int32.ofInt x ↔ 0 ≤ x := by rw [← zI_zero, zI_le rI_0 hx]
theorem zI_0lt {x : Int} (hx : rI x) : 0 < Int32.ofInt x ↔ 0 < x := by rw [← zI_zero, zI_lt rI_0 hx]
theorem zI_clamp {z : Int} (h0 : 0 ≤ z) (h1 : z < 2147483648) : (Int32.ofInt z).toNatClampNeg = z.toNat := Int32.toNatClampNeg_ofInt_of_le (by omega) (by omega)
theorem zI_in {z : Int} {n : Nat} (h0 : 0 ≤ z) (h1 : z < (n : Int)) (hn : n ≤ 2147483647) : vp_in (Int32.ofInt z) n := by
  rw [vp_in_iff, zI_toInt (by unfold rI; omega)]
  omega
theorem zI_of (x : Int32) : ∃ z : Int, rI z ∧ x = Int32.ofInt z := ⟨x.toInt, ⟨by have := x.le_toInt; omega, by have := x.toInt_lt; omega⟩, (Int32.ofInt_toInt x).symm⟩
theorem zI_div {x y : Int} (h0 : 0 ≤ x) (hx : x < 2147483648) (h1 : 0 < y) (hy : y < 2147483648) : Int32.ofInt x / Int32.ofInt y = Int32.ofInt (x / y) := by
  obtain ⟨a, rfl⟩ := Int.eq_ofNat_of_zero_le h0
  obtain ⟨b, rfl⟩ := Int.eq_ofNat_of_zero_le (Int.le_of_lt h1)
  have e := pk_div (a := a) (d := b) (by omega) (by omega) (by omega)
  unfold nI at e
  rw [Int32.ofInt_eq_ofNat, Int32.ofInt_eq_ofNat, e, ← Int32.ofInt_eq_ofNat]
  rfl
theorem zI_rem {x y : Int} (h0 : 0 ≤ x) (hx : x < 2147483648) (h1 : 0 < y) (hy : y < 2147483648) : Int32.ofInt x - Int32.ofInt x / Int32.ofInt y * Int32.ofInt y = Int32.ofInt (x % y) := by
  rw [zI_div h0 hx h1 hy, ← Int32.ofInt_mul, ← Int32.ofInt_sub]
  congr 1
  have := Int.mul_ediv_add_emod x y
  rw [Int.mul_comm (x / y) y]
  omega
theorem zI_sl : ∀ n, n < 32 → ((Int32.ofNat n &&& 31).toBitVec.smod 32).toNat = n := by decide +kernel
theorem zI_su : ∀ n, n < 32 → (((Int32.ofNat n).toUInt32 &&& Int32.toUInt32 31).toBitVec % 32).toNat = n := by decide +kernel
theorem zI_nat (x : Int) : ((Int32.ofInt x).toBitVec.toNat : Int) = x % 4294967296 := by
  rw [Int32.toBitVec_ofInt, BitVec.toNat_ofInt]
  have : (0 : Int) ≤ x % 4294967296 := Int.emod_nonneg _ (by omega)
  show ((x % ((2 ^ 32 : Nat) : Int)).toNat : Int) = _
  rw [show ((2 ^ 32 : Nat) : Int) = 4294967296 from rfl]
  omega
theorem zL_nat (x : Int) : ((Int64.ofInt x).toBitVec.toNat : Int) = x % 18446744073709551616 := by
  rw [Int64.toBitVec_ofInt, BitVec.toNat_ofInt]
  have : (0 : Int) ≤ x % 18446744073709551616 := Int.emod_nonneg _ (by omega)
  show ((x % ((2 ^ 64 : Nat) : Int)).toNat : Int) = _
  rw [show ((2 ^ 64 : Nat) : Int) = 18446744073709551616 from rfl]
  omega
theorem zI_ext {x y : Int32} (h : (x.toBitVec.toNat : Int) = (y.toBitVec.toNat : Int)) : x = y := Int32.toBitVec.inj (BitVec.eq_of_toNat_eq (by omega))
theorem zL_ext {x y : Int64} (h : (x.toBitVec.toNat : Int) = (y.toBitVec.toNat : Int)) : x = y := Int64.toBitVec.inj (BitVec.eq_of_toNat_eq (by omega))
theorem zI_shl {x y : Int} (h0 : 0 ≤ y) (h1 : y < 32) : Int32.ofInt x <<< (Int32.ofInt y &&& 31) = Int32.ofInt (x * 2 ^ y.toNat) := by
  obtain ⟨k, rfl⟩ := Int.eq_ofNat_of_zero_le h0
  apply zI_ext
  rw [zI_nat, Int32.ofInt_eq_ofNat (n := k), pk_shl _ _ k (zI_sl k (by omega))]
  rw [show ((((Int32.ofInt x).toBitVec.toNat * 2 ^ k % 2 ^ 32 : Nat)) : Int) = ((Int32.ofInt x).toBitVec.toNat : Int) * 2 ^ k % 4294967296 by rw [Int.natCast_emod, Int.natCast_mul, Int.natCast_pow]; rfl]
  rw [zI_nat, Int.mul_emod, Int.emod_emod, ← Int.mul_emod]
  rfl
theorem zI_shr {x y : Int} (hx : rI x) (h0 : 0 ≤ y) (h1 : y < 32) : Int32.ofInt x >>> (Int32.ofInt y &&& 31) = Int32.ofInt (x / 2 ^ y.toNat) := by
  obtain ⟨k, rfl⟩ := Int.eq_ofNat_of_zero_le h0
  apply Int32.toInt_inj.mp
  rw [Int32.ofInt_eq_ofNat (n := k), pk_shr _ _ k (zI_sl k (by omega)), zI_toInt hx, Int.shiftRight_eq_div_pow]
  show x / ((2 ^ k : Nat) : Int) = _
  have hp : (0 : Int) < 2 ^ k := Int.pow_pos (by omega)
  rw [show ((2 ^ k : Nat) : Int) = (2 : Int) ^ k by rw [Int.natCast_pow]; rfl]
  have e : (Int32.ofInt (x / 2 ^ (k : Int).toNat)).toInt = x / 2 ^ k := by
    rw [Int.toNat_natCast]
    refine zI_toInt ⟨?_, ?_⟩
    · apply Int.le_ediv_of_mul_le hp
      have := hx.1
      have : (-2147483648 : Int) * 2 ^ k ≤ -2147483648 * 1 := Int.mul_le_mul_of_nonpos_left (by omega) (by omega)
      omega
    · apply Int.ediv_lt_of_lt_mul hp
      have := hx.2
      have : (2147483648 : Int) * 1 ≤ 2147483648 * 2 ^ k := Int.mul_le_mul_of_nonneg_left (by omega) (by omega)
      omega
  exact e.symm
theorem zI_ushr {x y : Int} (h0 : 0 ≤ y) (h1 : y < 32) : ((Int32.ofInt x).toUInt32 >>> ((Int32.ofInt y).toUInt32 &&& Int32.toUInt32 31)).toInt32 = Int32.ofInt (x % 4294967296 / 2 ^ y.toNat) := by
  obtain ⟨k, rfl⟩ := Int.eq_ofNat_of_zero_le h0
  apply zI_ext
  rw [zI_nat, Int32.ofInt_eq_ofNat (n := k), pk_ushr _ _ k (zI_su k (by omega)), Int.natCast_ediv, zI_nat, Int.natCast_pow, Int.toNat_natCast]
  have hp : (0 : Int) < 2 ^ k := Int.pow_pos (by omega)
  rw [Int.emod_eq_of_lt (Int.ediv_nonneg (Int.emod_nonneg _ (by omega)) (by omega))]
  · rfl
  · apply Int.ediv_lt_of_lt_mul hp
    have := Int.emod_lt_of_pos x (b := 4294967296) (by omega)
    have : (4294967296 : Int) * 1 ≤ 4294967296 * 2 ^ k := Int.mul_le_mul_of_nonneg_left (by omega) (by omega)
    omega
def iandZ (x y : Int) : Int := (Int32.ofInt x &&& Int32.ofInt y).toInt
def iorZ (x y : Int) : Int := (Int32.ofInt x ||| Int32.ofInt y).toInt
def ixorZ (x y : Int) : Int := (Int32.ofInt x ^^^ Int32.ofInt y).toInt
def landZ (x y : Int) : Int := (Int64.ofInt x &&& Int64.ofInt y).toInt
def lorZ (x y : Int) : Int := (Int64.ofInt x ||| Int64.ofInt y).toInt
theorem zI_and (x y : Int) : Int32.ofInt x &&& Int32.ofInt y = Int32.ofInt (iandZ x y) := (Int32.ofInt_toInt _).symm
theorem zI_or (x y : Int) : Int32.ofInt x ||| Int32.ofInt y = Int32.ofInt (iorZ x y) := (Int32.ofInt_toInt _).symm
theorem zI_xor (x y : Int) : Int32.ofInt x ^^^ Int32.ofInt y = Int32.ofInt (ixorZ x y) := (Int32.ofInt_toInt _).symm
theorem zL_and (x y : Int) : Int64.ofInt x &&& Int64.ofInt y = Int64.ofInt (landZ x y) := (Int64.ofInt_toInt _).symm
theorem zL_or (x y : Int) : Int64.ofInt x ||| Int64.ofInt y = Int64.ofInt (lorZ x y) := (Int64.ofInt_toInt _).symm
theorem zI_l {z : Int} (h : rI z) : (Int32.ofInt z).toInt64 = Int64.ofInt z := by
  apply Int64.toInt_inj.mp
  rw [Int32.toInt_toInt64, zI_toInt h, zL_toInt (by unfold rI at h; unfold rL; omega)]
theorem zL_i (z : Int) : (Int64.ofInt z).toInt32 = Int32.ofInt z := Int64.toInt32_ofInt
theorem zL_sl : ∀ n, n < 64 → (((Int32.ofNat n).toInt64 &&& 63).toBitVec.smod 64).toNat = n := by decide +kernel
theorem zL_su : ∀ n, n < 64 → ((Int32.ofNat n).toInt64.toUInt64 &&& Int64.toUInt64 63).toNat % 64 = n := by decide +kernel
theorem zL_shlN (a s : Int64) (k : Nat) (hs : (s.toBitVec.smod 64).toNat = k) : (a <<< s).toBitVec.toNat = a.toBitVec.toNat * 2 ^ k % 2 ^ 64 := by
  rw [Int64.toBitVec_shiftLeft, BitVec.shiftLeft_eq', BitVec.toNat_shiftLeft, hs, Nat.shiftLeft_eq]
theorem zL_shrN (a s : Int64) (k : Nat) (hs : (s.toBitVec.smod 64).toNat = k) : (a >>> s).toInt = a.toInt >>> k := by
  rw [← Int64.toInt_toBitVec, Int64.toBitVec_shiftRight, BitVec.sshiftRight_eq', BitVec.toInt_sshiftRight, hs]
  rfl
theorem zL_shl {x y : Int} (h0 : 0 ≤ y) (h1 : y < 64) : Int64.ofInt x <<< ((Int32.ofInt y).toInt64 &&& 63) = Int64.ofInt (x * 2 ^ y.toNat) := by
  obtain ⟨k, rfl⟩ := Int.eq_ofNat_of_zero_le h0
  apply zL_ext
  rw [zL_nat, Int32.ofInt_eq_ofNat (n := k), zL_shlN _ _ k (zL_sl k (by omega))]
  rw [show ((((Int64.ofInt x).toBitVec.toNat * 2 ^ k % 2 ^ 64 : Nat)) : Int) = ((Int64.ofInt x).toBitVec.toNat : Int) * 2 ^ k % 18446744073709551616 by rw [Int.natCast_emod, Int.natCast_mul, Int.natCast_pow]; rfl]
  rw [zL_nat, Int.mul_emod, Int.emod_emod, ← Int.mul_emod]
  rfl
theorem zL_shr {x y : Int} (hx : rL x) (h0 : 0 ≤ y) (h1 : y < 64) : Int64.ofInt x >>> ((Int32.ofInt y).toInt64 &&& 63) = Int64.ofInt (x / 2 ^ y.toNat) := by
  obtain ⟨k, rfl⟩ := Int.eq_ofNat_of_zero_le h0
  apply Int64.toInt_inj.mp
  rw [Int32.ofInt_eq_ofNat (n := k), zL_shrN _ _ k (zL_sl k (by omega)), zL_toInt hx, Int.shiftRight_eq_div_pow]
  show x / ((2 ^ k : Nat) : Int) = _
  have hp : (0 : Int) < 2 ^ k := Int.pow_pos (by omega)
  rw [show ((2 ^ k : Nat) : Int) = (2 : Int) ^ k by rw [Int.natCast_pow]; rfl]
  have e : (Int64.ofInt (x / 2 ^ (k : Int).toNat)).toInt = x / 2 ^ k := by
    rw [Int.toNat_natCast]
    refine zL_toInt ⟨?_, ?_⟩
    · apply Int.le_ediv_of_mul_le hp
      have := hx.1
      have : (-9223372036854775808 : Int) * 2 ^ k ≤ -9223372036854775808 * 1 := Int.mul_le_mul_of_nonpos_left (by omega) (by omega)
      omega
    · apply Int.ediv_lt_of_lt_mul hp
      have := hx.2
      have : (9223372036854775808 : Int) * 1 ≤ 9223372036854775808 * 2 ^ k := Int.mul_le_mul_of_nonneg_left (by omega) (by omega)
      omega
  exact e.symm
theorem zL_ushr {x y : Int} (h0 : 0 ≤ y) (h1 : y < 64) : ((Int64.ofInt x).toUInt64 >>> ((Int32.ofInt y).toInt64.toUInt64 &&& Int64.toUInt64 63)).toInt64 = Int64.ofInt (x % 18446744073709551616 / 2 ^ y.toNat) := by
  obtain ⟨k, rfl⟩ := Int.eq_ofNat_of_zero_le h0
  apply zL_ext
  have e : (((Int64.ofInt x).toUInt64 >>> ((Int32.ofInt (k : Int)).toInt64.toUInt64 &&& Int64.toUInt64 63)).toInt64).toBitVec.toNat = (Int64.ofInt x).toBitVec.toNat / 2 ^ k := by
    rw [Int32.ofInt_eq_ofNat (n := k)]
    show ((Int64.ofInt x).toUInt64 >>> _).toNat = _
    rw [UInt64.toNat_shiftRight, zL_su k (by omega), Nat.shiftRight_eq_div_pow]
    rfl
  rw [zL_nat, e, Int.natCast_ediv, zL_nat, Int.natCast_pow, Int.toNat_natCast]
  have hp : (0 : Int) < 2 ^ k := Int.pow_pos (by omega)
  rw [Int.emod_eq_of_lt (Int.ediv_nonneg (Int.emod_nonneg _ (by omega)) (by omega))]
  · rfl
  · apply Int.ediv_lt_of_lt_mul hp
    have := Int.emod_lt_of_pos x (b := 18446744073709551616) (by omega)
    have : (18446744073709551616 : Int) * 1 ≤ 18446744073709551616 * 2 ^ k := Int.mul_le_mul_of_nonneg_left (by omega) (by omega)
    omega
def cmpZ (x y : Int) : Int := if y < x then 1 else if x = y then 0 else -1
theorem zL_cmp {x y : Int} (hx : rL x) (hy : rL y) : lg_cmp (Int64.ofInt x) (Int64.ofInt y) = Int32.ofInt (cmpZ x y) := by
  unfold lg_cmp cmpZ
  simp only [gt_iff_lt, zL_lt hy hx, zL_eq hx hy]
  split
  · decide +kernel
  · split <;> decide +kernel
theorem zI_zbit {z : Int} (h : z = 0 ∨ z = 1) : narrow .boolean (.int (Int32.ofInt z)) = .int (Int32.ofInt z) := by
  rcases h with rfl | rfl <;> decide +kernel
theorem zI_vbit {z : Int} (h : z = 0 ∨ z = 1) : vp_nar .boolean (Int32.ofInt z) = Int32.ofInt z := by
  rcases h with rfl | rfl <;> decide +kernel
theorem zI_byte {n : Int} (h0 : -128 ≤ n) (h1 : n < 128) : (Int8.ofInt n).toInt32 = Int32.ofInt n := by
  apply Int32.toInt_inj.mp
  rw [Int8.toInt_toInt32, Int8.toInt_ofInt_of_le (by omega) (by omega), zI_toInt (by unfold rI; omega)]
theorem zI_short {n : Int} (h0 : -32768 ≤ n) (h1 : n < 32768) : (Int16.ofInt n).toInt32 = Int32.ofInt n := by
  apply Int32.toInt_inj.mp
  rw [Int16.toInt_toInt32, Int16.toInt_ofInt_of_le (by omega) (by omega), zI_toInt (by unfold rI; omega)]
theorem zI_sub (x y : Int) : Int32.ofInt x - Int32.ofInt y = Int32.ofInt (x - y) := (Int32.ofInt_sub x y).symm
end
section
/-! a small machine over numbers: values are numbers or places of the world's cells, a state is a table of numbers, a method's meaning is a predicate transformer -/
abbrev AV : Type := Int ⊕ Int ⊕ Option Nat
abbrev St : Type := Nat → Nat → Int
abbrev Spec : Type := List AV → St → (Option AV → St → Prop) → Prop
abbrev Shp : Type := (Nat × List (Option Nat)) ⊕ (Nat × Nat)
abbrev M3 : Type := Nat × Nat × Nat
def conc (a : Nat → Nat) : AV → Value
  | .inl z => .int (Int32.ofInt z)
  | .inr (.inl z) => .long (Int64.ofInt z)
  | .inr (.inr (some i)) => .ref (a i)
  | .inr (.inr none) => .null
def updR (σ : St) (i : Nat) (f : Nat → Int) : St := fun k => if k = i then f else σ k
def up1 (f : Nat → Int) (j : Nat) (z : Int) : Nat → Int := fun k => if k = j then z else f k
theorem updR_eq (σ : St) (i : Nat) (f : Nat → Int) : updR σ i f i = f := if_pos rfl
theorem updR_ne (σ : St) (i k : Nat) (f : Nat → Int) (h : k ≠ i) : updR σ i f k = σ k := if_neg h
theorem up1_eq (f : Nat → Int) (j : Nat) (z : Int) : up1 f j z j = z := if_pos rfl
theorem up1_ne (f : Nat → Int) (j k : Nat) (z : Int) (h : k ≠ j) : up1 f j z k = f k := if_neg h
/-- the cells: 0 the object; its parts; the reference and its arrays -/
def SH : List Shp := [
  .inl (8, [some 1, some 4, some 11, some 16, some 18, some 20, some 23, some 25, some 31, some 33, some 35, none]),
  .inl (0, [some 2, some 3, none, none, none, none]), .inr (0, 4), .inr (0, 4),
  .inl (4, [some 5, some 6, some 7, some 8, some 9, some 10, none, none, none]), .inr (0, 2816), .inr (0, 2816), .inr (0, 5632), .inr (0, 2816), .inr (0, 2816), .inr (0, 10201),
  .inl (7, [some 12, some 13, some 14, some 15, none]), .inr (0, 200), .inr (0, 100), .inr (0, 100), .inr (0, 100),
  .inl (3, [some 17]), .inr (1, 6100), .inl (3, [some 19]), .inr (1, 6100),
  .inl (5, [some 21, some 22, none, none, none, none]), .inr (1, 8192), .inr (1, 8192),
  .inl (6, [some 24]), .inr (0, 100),
  .inl (2, [some 26, some 28, some 29, none, none, none, none]), .inl (3, [some 27]), .inr (1, 6100), .inr (0, 100), .inl (1, [some 30, none]), .inr (0, 600),
  .inl (1, [some 32, none]), .inr (0, 600), .inl (1, [some 34, none]), .inr (0, 600), .inl (1, [some 36, none]), .inr (0, 600),
  .inl (9, [none, none, none, some 38, some 39, none, some 40, none, some 41, some 42, some 43, some 44, some 45, some 46, some 47, some 48, some 49, none, some 50, some 51, some 52, some 53, some 54, some 55, some 56, some 57, none, none, some 58, some 59, some 60, some 61, none, none, none, some 62, none, some 63, none, some 64, some 65, some 66]),
  .inr (0, 4), .inr (0, 4), .inr (0, 11264), .inr (0, 11264), .inr (0, 11264), .inr (0, 11264), .inr (2, 11264), .inr (0, 11264), .inr (0, 11264), .inr (0, 101), .inr (0, 101), .inr (0, 101),
  .inr (0, 100), .inr (0, 100), .inr (0, 100), .inr (0, 100), .inr (0, 100), .inr (0, 101), .inr (0, 100), .inr (0, 100), .inr (1, 6100), .inr (0, 100), .inr (0, 100), .inr (0, 10000), .inr (2, 100), .inr (0, 240), .inr (0, 600), .inr (0, 600), .inr (0, 100)]
def fV (a : Nat → Nat) (f : Nat → Int) (k : Nat) : Option Nat → Value
  | none => .int (Int32.ofInt (f k))
  | some t => .ref (a t)
def cellE (cA : Nat → ClassId) (a : Nat → Nat) (f : Nat → Int) : Shp → va_E
  | .inl (ci, fs) => .inr (ci, fs.mapIdx (fun k q => fV a f k q))
  | .inr (0, n) => .inl (cA 0, n, .inl (fun j => Int32.ofInt (f j)))
  | .inr (1, n) => .inl (cA 1, n, .inr (.inl (fun j => Int64.ofInt (f j))))
  | .inr (_, n) => .inl (cA 2, n, .inl (fun j => Int32.ofInt (f j)))
def wsOf (cA : Nat → ClassId) (a : Nat → Nat) (σ : St) : va_W := SH.mapIdx (fun i x => (a i, cellE cA a (σ i) x))
def tysOf (cA : Nat → ClassId) : List (ClassId × FieldType) := [(cA 0, .int), (cA 1, .long), (cA 2, .boolean)]
theorem wsOf_get {cA : Nat → ClassId} {a : Nat → Nat} {σ : St} {i : Nat} {x : Shp} (h : SH[i]? = some x) : (wsOf cA a σ)[i]? = some (a i, cellE cA a (σ i) x) := by
  unfold wsOf
  rw [List.getElem?_mapIdx, h]
  rfl
theorem wsOf_inv {cA : Nat → ClassId} {a : Nat → Nat} {σ : St} {i : Nat} {q : Nat × va_E} (h : (wsOf cA a σ)[i]? = some q) : ∃ x, SH[i]? = some x ∧ q = (a i, cellE cA a (σ i) x) := by
  unfold wsOf at h
  rw [List.getElem?_mapIdx] at h
  cases hx : SH[i]? with
  | none => rw [hx] at h; cases h
  | some x => rw [hx] at h; exact ⟨x, rfl, (Option.some.inj h).symm⟩
theorem wsOf_set {cA : Nat → ClassId} {a : Nat → Nat} {σ : St} {i : Nat} {x : Shp} {f : Nat → Int} {e : va_E} (h : SH[i]? = some x) (he : cellE cA a f x = e) : (wsOf cA a σ).set i (a i, e) = wsOf cA a (updR σ i f) := by
  apply List.ext_getElem?
  intro j
  by_cases hj : j = i
  · subst hj
    rw [wsOf_get h, updR_eq, he, List.getElem?_set_self]
    exact (List.getElem?_eq_some_iff.mp (wsOf_get (cA := cA) (a := a) (σ := σ) h)).1
  · rw [List.getElem?_set_ne (Ne.symm hj)]
    unfold wsOf
    rw [List.getElem?_mapIdx, List.getElem?_mapIdx, updR_ne _ _ _ _ hj]
/-- association lists -/
def lk {β : Type} : List (Nat × β) → Nat → Option β
  | [], _ => none
  | (b, v) :: r, x => if x = b then some v else lk r x
theorem lk_mem {β : Type} {l : List (Nat × β)} {x : Nat} {v : β} (h : lk l x = some v) : (x, v) ∈ l := by
  induction l with
  | nil => cases h
  | cons q r ih =>
    obtain ⟨b, w⟩ := q
    unfold lk at h
    split at h
    · next e => subst e; cases h; exact List.mem_cons_self
    · exact List.mem_cons_of_mem _ (ih h)
def lk1 {β : Type} : List (Nat × β) → Nat → (β → Prop) → Prop := fun l x f => match lk l x with
  | some v => f v
  | none => False
theorem lk1_inv {β : Type} {l : List (Nat × β)} {x : Nat} {f : β → Prop} (h : lk1 l x f) : ∃ v, (x, v) ∈ l ∧ f v := by
  unfold lk1 at h
  split at h
  · next v e => exact ⟨v, lk_mem e, h⟩
  · exact h.elim
/-- locals -/
def isLong : AV → Bool
  | .inr (.inl _) => true
  | _ => false
def sto1 : List AV → Nat → AV → List AV
  | [], _, _ => []
  | _ :: r, 0, v => v :: r
  | x :: r, 1, v => (if isLong x then .inr (.inr none) else x) :: sto1 r 0 v
  | x :: r, n + 2, v => x :: sto1 r (n + 1) v
def sto2 : List AV → Nat → AV → List AV
  | [], _, _ => []
  | _ :: r, 0, v => v :: sto1 r 0 (.inr (.inr none))
  | x :: r, 1, v => (if isLong x then .inr (.inr none) else x) :: sto2 r 0 v
  | x :: r, n + 2, v => x :: sto2 r (n + 1) v
def lvl (a : Nat → Nat) : Nat → List AV → List (Nat × Value)
  | _, [] => []
  | i, v :: r => if v = .inr (.inr none) then lvl a (i + 1) r else (i, conc a v) :: lvl a (i + 1) r
theorem lvl_mem {a : Nat → Nat} : ∀ {L : List AV} {i : Nat} {q : Nat × Value}, q ∈ lvl a i L ↔ ∃ (j : Nat) (v : AV), L[j]? = some v ∧ v ≠ .inr (.inr none) ∧ q = (i + j, conc a v)
  | [], i, q => by simp [lvl]
  | w :: r, i, q => by
    unfold lvl
    by_cases hw : w = .inr (.inr none)
    · rw [if_pos hw, lvl_mem]
      constructor
      · rintro ⟨j, v, h1, h2, h3⟩
        exact ⟨j + 1, v, by simpa using h1, h2, by rw [h3, Nat.add_assoc, Nat.add_comm 1 j]⟩
      · rintro ⟨j, v, h1, h2, h3⟩
        cases j with
        | zero => simp at h1; exact absurd (h1.symm.trans hw) h2
        | succ j => exact ⟨j, v, by simpa using h1, h2, by rw [h3, Nat.add_assoc, Nat.add_comm 1 j]⟩
    · rw [if_neg hw, List.mem_cons, lvl_mem]
      constructor
      · rintro (rfl | ⟨j, v, h1, h2, h3⟩)
        · exact ⟨0, w, rfl, hw, rfl⟩
        · exact ⟨j + 1, v, by simpa using h1, h2, by rw [h3, Nat.add_assoc, Nat.add_comm 1 j]⟩
      · rintro ⟨j, v, h1, h2, h3⟩
        cases j with
        | zero => simp at h1; subst h1; exact Or.inl h3
        | succ j => exact Or.inr ⟨j, v, by simpa using h1, h2, by rw [h3, Nat.add_assoc, Nat.add_comm 1 j]⟩
theorem sto1_len : ∀ (L : List AV) (i : Nat) (v : AV), (sto1 L i v).length = L.length
  | [], i, v => by cases i <;> rfl
  | _ :: r, 0, v => rfl
  | x :: r, 1, v => by simp only [sto1, List.length_cons, sto1_len r 0 v]
  | x :: r, n + 2, v => by simp only [sto1, List.length_cons, sto1_len r (n + 1) v]
theorem sto2_len : ∀ (L : List AV) (i : Nat) (v : AV), (sto2 L i v).length = L.length
  | [], i, v => by cases i <;> rfl
  | _ :: r, 0, v => by simp only [sto2, List.length_cons, sto1_len r 0 _]
  | x :: r, 1, v => by simp only [sto2, List.length_cons, sto2_len r 0 v]
  | x :: r, n + 2, v => by simp only [sto2, List.length_cons, sto2_len r (n + 1) v]
theorem sto1_get : ∀ {L : List AV} {i : Nat} {v : AV} {j : Nat} {w : AV}, (sto1 L i v)[j]? = some w → (j = i ∧ w = v) ∨ w = .inr (.inr none) ∨ (j ≠ i ∧ L[j]? = some w ∧ ¬ (j + 1 = i ∧ isLong w = true))
  | [], i, v, j, w, h => by cases i <;> simp [sto1] at h
  | x :: r, 0, v, j, w, h => by
    cases j with
    | zero => simp [sto1] at h; exact Or.inl ⟨rfl, h.symm⟩
    | succ j => simp [sto1] at h; exact Or.inr (Or.inr ⟨by omega, by simpa using h, by omega⟩)
  | x :: r, 1, v, j, w, h => by
    cases j with
    | zero =>
      simp only [sto1, List.getElem?_cons_zero, Option.some.injEq] at h
      by_cases hx : isLong x = true
      · rw [if_pos hx] at h; exact Or.inr (Or.inl h.symm)
      · rw [if_neg hx] at h; subst h; exact Or.inr (Or.inr ⟨by omega, rfl, fun q => hx q.2⟩)
    | succ j =>
      have h' : (sto1 r 0 v)[j]? = some w := by simpa [sto1] using h
      rcases sto1_get h' with ⟨h1, h2⟩ | h1 | ⟨h1, h2, h3⟩
      · exact Or.inl ⟨by omega, h2⟩
      · exact Or.inr (Or.inl h1)
      · exact Or.inr (Or.inr ⟨by omega, by simpa using h2, by omega⟩)
  | x :: r, n + 2, v, j, w, h => by
    cases j with
    | zero => simp [sto1] at h; exact Or.inr (Or.inr ⟨by omega, by simpa using h, by omega⟩)
    | succ j =>
      have h' : (sto1 r (n + 1) v)[j]? = some w := by simpa [sto1] using h
      rcases sto1_get h' with ⟨h1, h2⟩ | h1 | ⟨h1, h2, h3⟩
      · exact Or.inl ⟨by omega, h2⟩
      · exact Or.inr (Or.inl h1)
      · exact Or.inr (Or.inr ⟨by omega, by simpa using h2, fun q => h3 ⟨by omega, q.2⟩⟩)
theorem sto2_get : ∀ {L : List AV} {i : Nat} {v : AV} {j : Nat} {w : AV}, (sto2 L i v)[j]? = some w → (j = i ∧ w = v) ∨ w = .inr (.inr none) ∨ (j ≠ i ∧ j ≠ i + 1 ∧ L[j]? = some w ∧ ¬ (j + 1 = i ∧ isLong w = true))
  | [], i, v, j, w, h => by cases i <;> simp [sto2] at h
  | x :: r, 0, v, j, w, h => by
    cases j with
    | zero => simp [sto2] at h; exact Or.inl ⟨rfl, h.symm⟩
    | succ j =>
      have h' : (sto1 r 0 (.inr (.inr none)))[j]? = some w := by simpa [sto2] using h
      rcases sto1_get h' with ⟨h1, h2⟩ | h1 | ⟨h1, h2, h3⟩
      · exact Or.inr (Or.inl h2)
      · exact Or.inr (Or.inl h1)
      · exact Or.inr (Or.inr ⟨by omega, by omega, by simpa using h2, by omega⟩)
  | x :: r, 1, v, j, w, h => by
    cases j with
    | zero =>
      simp only [sto2, List.getElem?_cons_zero, Option.some.injEq] at h
      by_cases hx : isLong x = true
      · rw [if_pos hx] at h; exact Or.inr (Or.inl h.symm)
      · rw [if_neg hx] at h; subst h; exact Or.inr (Or.inr ⟨by omega, by omega, rfl, fun q => hx q.2⟩)
    | succ j =>
      have h' : (sto2 r 0 v)[j]? = some w := by simpa [sto2] using h
      rcases sto2_get h' with ⟨h1, h2⟩ | h1 | ⟨h1, h2, h3, h4⟩
      · exact Or.inl ⟨by omega, h2⟩
      · exact Or.inr (Or.inl h1)
      · exact Or.inr (Or.inr ⟨by omega, by omega, by simpa using h3, by omega⟩)
  | x :: r, n + 2, v, j, w, h => by
    cases j with
    | zero => simp [sto2] at h; exact Or.inr (Or.inr ⟨by omega, by omega, by simpa using h, by omega⟩)
    | succ j =>
      have h' : (sto2 r (n + 1) v)[j]? = some w := by simpa [sto2] using h
      rcases sto2_get h' with ⟨h1, h2⟩ | h1 | ⟨h1, h2, h3, h4⟩
      · exact Or.inl ⟨by omega, h2⟩
      · exact Or.inr (Or.inl h1)
      · exact Or.inr (Or.inr ⟨by omega, by omega, by simpa using h3, fun q => h4 ⟨by omega, q.2⟩⟩)
theorem conc_cat (a : Nat → Nat) (v : AV) : (conc a v).category = if isLong v then 2 else 1 := by
  rcases v with z | z | _ | i <;> rfl
/-- what the listed locals are behind a store -/
theorem lvl_sto1 {a : Nat → Nat} {ls : Array Slot} {nL : Nat} {L : List AV} {i : Nat} {v : AV} (h : lv_has ls nL ((i, conc a v) :: (lvl a 0 L).filter (fun q => !(q.1 == i) && !(q.1 + 1 == i && q.2.category == 2)))) : lv_has ls nL (lvl a 0 (sto1 L i v)) := by
  refine ⟨h.1, h.2.1, fun q hq => h.2.2 q ?_⟩
  obtain ⟨j, w, h1, h2, rfl⟩ := lvl_mem.mp hq
  rw [Nat.zero_add]
  rcases sto1_get h1 with ⟨rfl, rfl⟩ | h3 | ⟨h3, h4, h5⟩
  · exact List.mem_cons_self
  · exact absurd h3 h2
  · refine List.mem_cons_of_mem _ (List.mem_filter.mpr ⟨lvl_mem.mpr ⟨j, w, h4, h2, by rw [Nat.zero_add]⟩, ?_⟩)
    have e := conc_cat a w
    simp only [Bool.and_eq_true, Bool.not_eq_true', beq_eq_false_iff_ne, ne_eq, Bool.and_eq_false_iff]
    refine ⟨h3, ?_⟩
    by_cases hj : j + 1 = i
    · refine Or.inr ?_
      rw [e]
      by_cases hl : isLong w = true
      · exact absurd ⟨hj, hl⟩ h5
      · rw [if_neg hl]; decide
    · exact Or.inl hj
theorem lvl_sto2 {a : Nat → Nat} {ls : Array Slot} {nL : Nat} {L : List AV} {i : Nat} {v : AV} (h : lv_has ls nL ((i, conc a v) :: (lvl a 0 L).filter (fun q => !(q.1 == i) && (!(q.1 == i + 1) && !(q.1 + 1 == i && q.2.category == 2))))) : lv_has ls nL (lvl a 0 (sto2 L i v)) := by
  refine ⟨h.1, h.2.1, fun q hq => h.2.2 q ?_⟩
  obtain ⟨j, w, h1, h2, rfl⟩ := lvl_mem.mp hq
  rw [Nat.zero_add]
  rcases sto2_get h1 with ⟨rfl, rfl⟩ | h3 | ⟨h3, h3b, h4, h5⟩
  · exact List.mem_cons_self
  · exact absurd h3 h2
  · refine List.mem_cons_of_mem _ (List.mem_filter.mpr ⟨lvl_mem.mpr ⟨j, w, h4, h2, by rw [Nat.zero_add]⟩, ?_⟩)
    have e := conc_cat a w
    simp only [Bool.and_eq_true, Bool.not_eq_true', beq_eq_false_iff_ne, ne_eq, Bool.and_eq_false_iff]
    refine ⟨h3, h3b, ?_⟩
    by_cases hj : j + 1 = i
    · refine Or.inr ?_
      rw [e]
      by_cases hl : isLong w = true
      · exact absurd ⟨hj, hl⟩ h5
      · rw [if_neg hl]; decide
    · exact Or.inl hj
theorem lvl_at {a : Nat → Nat} {ls : Array Slot} {nL : Nat} {L : List AV} {i : Nat} {v : AV} (h : lv_has ls nL (lvl a 0 L)) (hv : L[i]? = some v) (hn : v ≠ .inr (.inr none)) : ls[i]? = some (.val (conc a v)) :=
  h.2.2 (i, conc a v) (lvl_mem.mpr ⟨i, v, hv, hn, by rw [Nat.zero_add]⟩)
/-- the locals at a method's entry -/
def ent : List AV → List AV
  | [] => []
  | v :: r => if isLong v then v :: .inr (.inr none) :: ent r else v :: ent r
theorem lvl_ent (a : Nat → Nat) (n : Nat) : ∀ (as : List AV) (i : Nat), ∀ q ∈ lvl a i (ent as ++ List.replicate n (.inr (.inr none))), q ∈ lv_args i (as.map (conc a))
  | [], i, q, h => by
    obtain ⟨j, v, h1, h2, -⟩ := lvl_mem.mp h
    rw [ent, List.nil_append] at h1
    exact absurd (List.eq_of_mem_replicate (List.mem_of_getElem? h1)) h2
  | v :: r, i, q, h => by
    rw [List.map_cons, lv_args, conc_cat]
    by_cases hv : isLong v = true
    · rw [if_pos hv, if_pos rfl]
      rw [ent, if_pos hv, List.cons_append, List.cons_append, lvl] at h
      have hn : v ≠ .inr (.inr none) := by intro e; subst e; cases hv
      rw [if_neg hn, lvl, if_pos rfl] at h
      rcases List.mem_cons.mp h with h | h
      · exact List.mem_cons.mpr (Or.inl h)
      · exact List.mem_cons_of_mem _ (lvl_ent a n r (i + 2) q h)
    · rw [if_neg hv, if_neg (by decide)]
      rw [ent, if_neg hv, List.cons_append, lvl] at h
      split at h
      · exact List.mem_cons_of_mem _ (lvl_ent a n r (i + 1) q h)
      · rcases List.mem_cons.mp h with h | h
        · exact List.mem_cons.mpr (Or.inl h)
        · exact List.mem_cons_of_mem _ (lvl_ent a n r (i + 1) q h)
end
section
/-! the small machine's step, by predicate transformers -/
def popI (st : List AV) (f : Int → List AV → Prop) : Prop := match st with
  | .inl z :: r => f z r
  | _ => False
def popL (st : List AV) (f : Int → List AV → Prop) : Prop := match st with
  | .inr (.inl z) :: r => f z r
  | _ => False
def popR (st : List AV) (f : Nat → List AV → Prop) : Prop := match st with
  | .inr (.inr (some i)) :: r => f i r
  | _ => False
def popV (st : List AV) (f : AV → List AV → Prop) : Prop := match st with
  | v :: r => f v r
  | [] => False
def popN : Nat → List AV → List AV → (List AV → List AV → Prop) → Prop
  | 0, as, st, f => f as st
  | n + 1, as, st, f => popV st fun v r => popN n (v :: as) r f
def ldI (L : List AV) (i : Nat) (f : Int → Prop) : Prop := match L[i]? with
  | some (.inl z) => f z
  | _ => False
def ldL (L : List AV) (i : Nat) (f : Int → Prop) : Prop := match L[i]? with
  | some (.inr (.inl z)) => f z
  | _ => False
def ldR (L : List AV) (i : Nat) (f : Nat → Prop) : Prop := match L[i]? with
  | some (.inr (.inr (some z))) => f z
  | _ => False
def oF (i ci k : Nat) (f : Option Nat → Prop) : Prop := match SH[i]? with
  | some (.inl (c, fs)) => c = ci ∧ (match fs[k]? with
    | some q => f q
    | none => False)
  | _ => False
def oC (i ci : Nat) : Prop := match SH[i]? with
  | some (.inl (c, _)) => c = ci
  | _ => False
def aF (i kd : Nat) (f : Nat → Prop) : Prop := match SH[i]? with
  | some (.inr (k, n)) => k = kd ∧ f n
  | _ => False
def aN (i : Nat) (f : Nat → Prop) : Prop := match SH[i]? with
  | some (.inr (k, n)) => (k = 0 ∨ k = 1 ∨ k = 2) ∧ f n
  | _ => False
def catS : List AV → Nat
  | [] => 0
  | v :: r => (if isLong v then 2 else 1) + catS r
def psh (v : Option AV) (r : List AV) : List AV := match v with
  | some v => v :: r
  | none => r
def fldV (t : Option Nat) (z : Int) : AV := match t with
  | none => .inl z
  | some t => .inr (.inr (some t))
def tgt (pc : Nat) (off : Int) (f : Nat → Prop) : Prop := 0 ≤ (pc : Int) + off ∧ f ((pc : Int) + off).toNat
def sw (pc : Nat) (z : Int) (f : Nat → Prop) : List Int → Int → Prop
  | [], _ => True
  | o :: os, lo => (z = lo → tgt pc o f) ∧ sw pc z f os (lo + 1)
def ilen : Instr → Nat
  | .iload _ | .lload _ | .aload _ | .istore _ | .lstore _ | .astore _ | .bipush _ | .ldc _ => 2
  | .sipush _ | .ldc_w _ | .ldc2_w _ | .iinc _ _ | .getfield _ | .putfield _ | .goto _ | .ifCond _ _ | .if_icmp _ _ | .invokevirtual _ | .invokestatic _ => 3
  | _ => 1
def isSw : Instr → Bool
  | .tableswitch .. => true
  | _ => false
def stp (sc : Prop) (Φ : List (Nat × Nat × Nat)) (κ : List (Nat × Int)) (Γ : List (Nat × Nat × Nat × Spec)) (rt : Nat) (Q : Option AV → St → Prop) (J : Nat → List AV → List AV → St → Prop)
    (pc : Nat) (o : Instr) (L st : List AV) (σ : St) (k : List AV → List AV → St → Prop) : Prop := match o with
  | .aload_n i => ldR L i.val fun z => k L (.inr (.inr (some z)) :: st) σ
  | .aload i => ldR L i fun z => k L (.inr (.inr (some z)) :: st) σ
  | .iload_n i => ldI L i.val fun z => k L (.inl z :: st) σ
  | .iload i => ldI L i fun z => k L (.inl z :: st) σ
  | .lload_n i => ldL L i.val fun z => k L (.inr (.inl z) :: st) σ
  | .lload i => ldL L i fun z => k L (.inr (.inl z) :: st) σ
  | .istore_n i => popI st fun z r => i.val < L.length ∧ k (sto1 L i.val (.inl z)) r σ
  | .istore i => popI st fun z r => i < L.length ∧ k (sto1 L i (.inl z)) r σ
  | .lstore_n i => popL st fun z r => i.val + 1 < L.length ∧ k (sto2 L i.val (.inr (.inl z))) r σ
  | .lstore i => popL st fun z r => i + 1 < L.length ∧ k (sto2 L i (.inr (.inl z))) r σ
  | .astore_n i => popR st fun z r => i.val < L.length ∧ k (sto1 L i.val (.inr (.inr (some z)))) r σ
  | .astore i => popR st fun z r => i < L.length ∧ k (sto1 L i (.inr (.inr (some z)))) r σ
  | .iconst z => k L (.inl z :: st) σ
  | .bipush z => -128 ≤ z ∧ z < 128 ∧ k L (.inl z :: st) σ
  | .sipush z => -32768 ≤ z ∧ z < 32768 ∧ k L (.inl z :: st) σ
  | .lconst i => k L (.inr (.inl (i.val : Int)) :: st) σ
  | .ldc i => i < 100000 ∧ lk1 κ i fun z => k L (.inl z :: st) σ
  | .ldc_w i => i < 100000 ∧ lk1 κ i fun z => k L (.inl z :: st) σ
  | .ldc2_w i => lk1 κ (i + 100000) fun z => k L (.inr (.inl z) :: st) σ
  | .iinc i z => ldI L i fun x => k (sto1 L i (.inl (x + z))) st σ
  | .iadd => popI st fun y r => popI r fun x r => k L (.inl (x + y) :: r) σ
  | .isub => popI st fun y r => popI r fun x r => k L (.inl (x - y) :: r) σ
  | .imul => popI st fun y r => popI r fun x r => k L (.inl (x * y) :: r) σ
  | .ineg => popI st fun x r => k L (.inl (-x) :: r) σ
  | .idiv => popI st fun y r => popI r fun x r => 0 ≤ x ∧ x < 2147483648 ∧ 0 < y ∧ y < 2147483648 ∧ k L (.inl (x / y) :: r) σ
  | .irem => popI st fun y r => popI r fun x r => 0 ≤ x ∧ x < 2147483648 ∧ 0 < y ∧ y < 2147483648 ∧ k L (.inl (x % y) :: r) σ
  | .ishl => popI st fun y r => popI r fun x r => 0 ≤ y ∧ y < 32 ∧ k L (.inl (x * 2 ^ y.toNat) :: r) σ
  | .ishr => popI st fun y r => popI r fun x r => rI x ∧ 0 ≤ y ∧ y < 32 ∧ k L (.inl (x / 2 ^ y.toNat) :: r) σ
  | .iushr => popI st fun y r => popI r fun x r => 0 ≤ y ∧ y < 32 ∧ k L (.inl (x % 4294967296 / 2 ^ y.toNat) :: r) σ
  | .iand => popI st fun y r => popI r fun x r => k L (.inl (iandZ x y) :: r) σ
  | .ior => popI st fun y r => popI r fun x r => k L (.inl (iorZ x y) :: r) σ
  | .ixor => popI st fun y r => popI r fun x r => k L (.inl (ixorZ x y) :: r) σ
  | .ladd => popL st fun y r => popL r fun x r => k L (.inr (.inl (x + y)) :: r) σ
  | .lsub => popL st fun y r => popL r fun x r => k L (.inr (.inl (x - y)) :: r) σ
  | .lmul => popL st fun y r => popL r fun x r => k L (.inr (.inl (x * y)) :: r) σ
  | .lshl => popI st fun y r => popL r fun x r => 0 ≤ y ∧ y < 64 ∧ k L (.inr (.inl (x * 2 ^ y.toNat)) :: r) σ
  | .lshr => popI st fun y r => popL r fun x r => rL x ∧ 0 ≤ y ∧ y < 64 ∧ k L (.inr (.inl (x / 2 ^ y.toNat)) :: r) σ
  | .lushr => popI st fun y r => popL r fun x r => 0 ≤ y ∧ y < 64 ∧ k L (.inr (.inl (x % 18446744073709551616 / 2 ^ y.toNat)) :: r) σ
  | .land => popL st fun y r => popL r fun x r => k L (.inr (.inl (landZ x y)) :: r) σ
  | .lor => popL st fun y r => popL r fun x r => k L (.inr (.inl (lorZ x y)) :: r) σ
  | .lcmp => popL st fun y r => popL r fun x r => rL x ∧ rL y ∧ k L (.inl (cmpZ x y) :: r) σ
  | .i2l => popI st fun x r => rI x ∧ k L (.inr (.inl x) :: r) σ
  | .l2i => popL st fun x r => k L (.inl x :: r) σ
  | .dup => popV st fun v r => isLong v = false ∧ k L (v :: v :: r) σ
  | .dup2 => popV st fun v r => popV r fun w r => isLong v = false ∧ isLong w = false ∧ k L (v :: w :: v :: w :: r) σ
  | .pop => popV st fun v r => isLong v = false ∧ k L r σ
  | .getfield x => popR st fun i r => lk1 Φ x fun q => oF i q.1 q.2 fun t => k L (fldV t (σ i q.2) :: r) σ
  | .putfield x => popI st fun z r => popR r fun i r => lk1 Φ x fun q => oF i q.1 q.2 fun t => t = none ∧ k L r (updR σ i (up1 (σ i) q.2 z))
  | .iaload => popI st fun j r => popR r fun i r => if i = 1000 then sc ∧ 0 ≤ j ∧ j < σ 1001 0 ∧ k L (.inl (σ 1000 j.toNat) :: r) σ else aF i 0 fun n => 0 ≤ j ∧ j < (n : Int) ∧ k L (.inl (σ i j.toNat) :: r) σ
  | .laload => popI st fun j r => popR r fun i r => aF i 1 fun n => 0 ≤ j ∧ j < (n : Int) ∧ k L (.inr (.inl (σ i j.toNat)) :: r) σ
  | .baload => popI st fun j r => popR r fun i r => aF i 2 fun n => 0 ≤ j ∧ j < (n : Int) ∧ k L (.inl (σ i j.toNat) :: r) σ
  | .iastore => popI st fun z r => popI r fun j r => popR r fun i r => aF i 0 fun n => 0 ≤ j ∧ j < (n : Int) ∧ k L r (updR σ i (up1 (σ i) j.toNat z))
  | .lastore => popL st fun z r => popI r fun j r => popR r fun i r => aF i 1 fun n => 0 ≤ j ∧ j < (n : Int) ∧ k L r (updR σ i (up1 (σ i) j.toNat z))
  | .bastore => popI st fun z r => popI r fun j r => popR r fun i r => aF i 2 fun n => 0 ≤ j ∧ j < (n : Int) ∧ (z = 0 ∨ z = 1) ∧ k L r (updR σ i (up1 (σ i) j.toNat z))
  | .arraylength => popR st fun i r => if i = 1000 then sc ∧ k L (.inl (σ 1001 0) :: r) σ else aN i fun n => k L (.inl (n : Int) :: r) σ
  | .goto off => tgt pc off fun t => J t L st σ
  | .ifCond c off => tgt pc off fun t => popI st fun z r => rI z ∧ (match c with
    | .eq => (z = 0 → J t L r σ) ∧ (¬ z = 0 → k L r σ)
    | .ne => (¬ z = 0 → J t L r σ) ∧ (z = 0 → k L r σ)
    | .lt => (z < 0 → J t L r σ) ∧ (0 ≤ z → k L r σ)
    | .ge => (0 ≤ z → J t L r σ) ∧ (z < 0 → k L r σ)
    | .gt => (0 < z → J t L r σ) ∧ (z ≤ 0 → k L r σ)
    | .le => (z ≤ 0 → J t L r σ) ∧ (0 < z → k L r σ))
  | .if_icmp c off => tgt pc off fun t => popI st fun y r => popI r fun x r => rI x ∧ rI y ∧ (match c with
    | .eq => (x = y → J t L r σ) ∧ (¬ x = y → k L r σ)
    | .ne => (¬ x = y → J t L r σ) ∧ (x = y → k L r σ)
    | .lt => (x < y → J t L r σ) ∧ (y ≤ x → k L r σ)
    | .ge => (y ≤ x → J t L r σ) ∧ (x < y → k L r σ)
    | .gt => (y < x → J t L r σ) ∧ (x ≤ y → k L r σ)
    | .le => (x ≤ y → J t L r σ) ∧ (y < x → k L r σ))
  | .tableswitch d lo hi offs => popI st fun z r => rI z ∧ hi + 1 = lo + offs.size ∧ ((z < lo ∨ hi < z) → tgt pc d fun t => J t L r σ) ∧ sw pc z (fun t => J t L r σ) offs.toList lo
  | .ireturn => popI st fun z r => r = [] ∧ (rt = 1 ∨ (rt = 3 ∧ (z = 0 ∨ z = 1))) ∧ Q (some (.inl z)) σ
  | .lreturn => popL st fun z r => r = [] ∧ rt = 2 ∧ Q (some (.inr (.inl z))) σ
  | .return_ => st = [] ∧ rt = 0 ∧ Q none σ
  | .invokevirtual x => lk1 Γ x fun g => popN g.2.1 [] st fun as r => popR r fun i r => 0 < g.1 ∧ oC i (g.1 - 1) ∧ catS r ≤ 8 ∧ g.2.2 (.inr (.inr (some i)) :: as) σ (fun v σ' => (sc → σ' 1000 = σ 1000 ∧ σ' 1001 = σ 1001) ∧ k L (psh v r) σ')
  | .invokestatic x => lk1 Γ x fun g => if g.1 = 1000 then popI st fun n r => popI r fun dp r => popR r fun d r => popI r fun sp r => popR r fun q r => aF q 0 fun nq => aF d 0 fun nd => catS r ≤ 8 ∧ 0 ≤ n ∧ 0 ≤ dp ∧ 0 ≤ sp ∧ sp + n ≤ (nq : Int) ∧ dp + n ≤ (nd : Int) ∧ k L r (updR σ d (va_cpy (σ q) (σ d) sp.toNat dp.toNat n.toNat))
    else popN g.2.1 [] st fun as r => g.1 = 0 ∧ catS r ≤ 8 ∧ g.2.2 as σ (fun v σ' => (sc → σ' 1000 = σ 1000 ∧ σ' 1001 = σ 1001) ∧ k L (psh v r) σ')
  | _ => False
def wpB (sc : Prop) (Φ : List (Nat × Nat × Nat)) (κ : List (Nat × Int)) (Γ : List (Nat × Nat × Nat × Spec)) (rt : Nat) (Q : Option AV → St → Prop) (J : Nat → List AV → List AV → St → Prop) : Nat → List Instr → List AV → List AV → St → Prop
  | pc, [], L, st, σ => J pc L st σ
  | pc, o :: r, L, st, σ => stp sc Φ κ Γ rt Q J pc o L st σ (fun L st σ => wpB sc Φ κ Γ rt Q J (pc + ilen o) r L st σ)
def okB (cc : ByteArray) : Nat → List Instr → Bool
  | _, [] => true
  | pc, o :: r => (match decode cc pc with
    | .ok (i, n) => decide (i = o) && (isSw o || n == ilen o)
    | .error _ => false) && okB cc (pc + ilen o) r
end
section
/-! the small machine is the machine -/
/-- the words that a callee may lean on -/
def TG : List Jvm.Cond := lw_tbl.filter goodWord
theorem tg_in {w : Jvm.Cond} (i : Nat) (h : lw_tbl[i]? = some w) (hg : goodWord w = true) : w ∈ TG := List.mem_filter.mpr ⟨List.mem_of_getElem? h, hg⟩
theorem tg_good : ∀ w ∈ TG, (w.onTables && w.keeps) = true ∨ ∃ ty, w = .arrayClass ty := fun _ h => good_of_word (List.mem_filter.mp h).2
theorem tg_tbl : ∀ w ∈ TG, w ∈ lw_tbl := fun _ h => (List.mem_filter.mp h).1
def rmOf (lv : Nat) : Room := { frames := lv, cells := 0, slots := 0, locals := 36 * lv }
def aQ (D : va_G) (cA : Nat → ClassId) (a : Nat → Nat) (Q : Option AV → St → Prop) (A : Nat → Prop) : Array Value → State → Outcome → State → Prop :=
  fun _ st oc t => (∃ (r : Option AV) (u : St), oc = .returned (r.map (conc a)) ∧ Q r u ∧ va_P D CL (wsOf cA a u) t.heap ∧ va_K D CL (tysOf cA) t ∧ va_D A (wsOf cA a u)) ∧ va_F A st t
/-- a method keeps a meaning -/
def Sat (l : Launch) (y : MethodName) (bytes : ByteArray) (maxL : Nat) (ret : Option FieldType) (lv : Nat) (S : Spec) : Prop :=
  ∀ (D : va_G) (cA : Nat → ClassId) (a : Nat → Nat) (sz : Nat) (σ : St) (as : List AV) (Q : Option AV → St → Prop), S as σ Q →
    Met l y (Jvm.Cond.code y bytes maxL ret :: TG) (rmOf lv) (va_Pc (as.map (conc a)) (fun U => U.heap.size = sz ∧ va_P D CL (wsOf cA a σ) U.heap ∧ va_K D CL (tysOf cA) U ∧ va_D (fun _ => True) (wsOf cA a σ))) (aQ D cA a Q (va_A (wsOf cA a σ) sz)) 0 0 (va_A (wsOf cA a σ) sz)
def CalleeOK (l : Launch) (own : String) (R : Room) (g : Nat × Nat × Nat × Spec) : Prop :=
  (g.2.1 = 1000 ∧ Jvm.Cond.methodLink own g.1 arraycopyName ∈ TG ∧ 1 ≤ R.frames ∧ 26 ≤ R.locals) ∨
  (g.2.1 ≠ 1000 ∧ ∃ (y : MethodName) (bytes : ByteArray) (maxL : Nat) (ret : Option FieldType) (lv : Nat),
    Sat l y bytes maxL ret lv g.2.2.2 ∧ (lv + 1 ≤ R.frames ∧ 8 + (maxL + 11) + 36 * lv ≤ R.locals) ∧ Jvm.Cond.methodLink own g.1 y ∈ TG ∧ Jvm.Cond.code y bytes maxL ret ∈ TG ∧ Jvm.Cond.initialized y.cls ∈ TG ∧
    (y.cls ≠ "java/lang/invoke/MethodHandle" ∧ y.cls ≠ "java/lang/invoke/VarHandle" ∧ (parseMethodDescriptor y.desc).map (fun d => d.parameters.length) = some g.2.2.1) ∧
    ((g.2.1 = 0 ∧ Jvm.Cond.static y ∈ TG) ∨ (0 < g.2.1 ∧ Jvm.Cond.instanceMethod y ∈ TG ∧ Jvm.Cond.selects y.cls y y ∈ TG ∧ ∃ T N, CL[g.2.1 - 1]? = some (y.cls, T, N))))
def FieldOK (own : String) (q : Nat × Nat × Nat) : Prop := ∃ (C : String) (T : u_T) (N : Nat) (ty : Nat → FieldType), CL[q.2.1]? = some (C, T, N) ∧ q.2.2 < N ∧ (T q.2.2).1 = C ∧ Jvm.Cond.fieldLink own q.1 C (T q.2.2).2.1 (T q.2.2).2.2.1 ∈ TG ∧
  (∀ w ∈ u_ws C T N, w ∈ TG) ∧ (∀ k, k < N → parseFieldDescriptor (T k).2.2.1 = some (ty k)) ∧ (∀ a, a < N → ∀ b, b < N → a ≠ b → (T a).2.1 ≠ (T b).2.1) ∧ (ty q.2.2 = .int → (T q.2.2).2.2.2 = false) ∧ (ty q.2.2 = .int ∨ ∀ (i : Nat) (fs : List (Option Nat)), SH[i]? = some (.inl (q.2.1, fs)) → fs[q.2.2]? ≠ some none)
def ConstOK (own : String) (q : Nat × Int) : Prop := (q.1 < 100000 → Jvm.Cond.constant own q.1 (Int32.ofInt q.2) ∈ TG) ∧ (100000 ≤ q.1 → Jvm.Cond.constantLong own (q.1 - 100000) (Int64.ofInt q.2) ∈ TG)
theorem tbl_native : Jvm.Cond.native arraycopyName ∈ TG ∧ Jvm.Cond.static arraycopyName ∈ TG ∧ Jvm.Cond.initialized "java/lang/System" ∈ TG := ⟨tg_in (401) (by decide +kernel) (by decide +kernel), tg_in (400) (by decide +kernel) (by decide +kernel), tg_in (60) (by decide +kernel) (by decide +kernel)⟩
section SOUND
variable {p : Program} {l : Launch} {e : Env} {R : Room} {s : State} {m : MethodId} {args : Array Value} {below : List Frame} {meth : Method} {c : Code} {cells slots : Nat} {Qf : State → Prop} {cc : ByteArray} {D : va_G} {cA : Nat → ClassId} {a : Nat → Nat} {A : Nat → Prop} {H0 : Heap} {own : String} {nL : Nat} {sc : Prop}
/-- the script, where there is one -/
def Scr (sc : Prop) (s : State) (a : Nat → Nat) (A : Nat → Prop) (H0 : Heap) (σ : St) : Prop := sc → va_X (a 1000) (σ 1001 0).toNat (fun j => Int32.ofInt (σ 1000 j)) s H0 ∧ a 1000 < H0.size ∧ ¬ A (a 1000) ∧ 0 ≤ σ 1001 0 ∧ σ 1001 0 < 2147483648
def Good (p : Program) (l : Launch) (e : Env) (R : Room) (s : State) (m : MethodId) (args : Array Value) (below : List Frame) (meth : Method) (c : Code) (cells slots : Nat) (Qf : State → Prop) (D : va_G) (cA : Nat → ClassId) (a : Nat → Nat) (A : Nat → Prop) (H0 : Heap) (nL : Nat) (sc : Prop) (pc : Nat) (L st : List AV) (σ : St) : Prop :=
  ∀ (H : Heap) (locs : List Loc) (ls : Array Slot), va_P D CL (wsOf cA a σ) H → va_D A (wsOf cA a σ) → va_S A H0 H locs → lv_has ls nL (lvl a 0 L) → L.length = nL → Scr sc s a A H0 σ → W p l e R s m args below meth c H locs cells slots Qf (F0 m pc ls (st.map (conc a)))
theorem catS_eq (a : Nat → Nat) : ∀ st : List AV, ((st.map (conc a)).map fun v => v.category).sum = catS st
  | [] => rfl
  | v :: r => by rw [List.map_cons, List.map_cons, List.sum_cons, catS_eq a r, conc_cat]; rfl
theorem popI_inv {st : List AV} {f : Int → List AV → Prop} (h : popI st f) : ∃ z r, st = .inl z :: r ∧ f z r := by
  unfold popI at h; split at h
  · exact ⟨_, _, rfl, h⟩
  · exact h.elim
theorem popL_inv {st : List AV} {f : Int → List AV → Prop} (h : popL st f) : ∃ z r, st = .inr (.inl z) :: r ∧ f z r := by
  unfold popL at h; split at h
  · exact ⟨_, _, rfl, h⟩
  · exact h.elim
theorem popR_inv {st : List AV} {f : Nat → List AV → Prop} (h : popR st f) : ∃ z r, st = .inr (.inr (some z)) :: r ∧ f z r := by
  unfold popR at h; split at h
  · exact ⟨_, _, rfl, h⟩
  · exact h.elim
theorem popV_inv {st : List AV} {f : AV → List AV → Prop} (h : popV st f) : ∃ z r, st = z :: r ∧ f z r := by
  unfold popV at h; split at h
  · exact ⟨_, _, rfl, h⟩
  · exact h.elim
theorem popN_inv : ∀ (n : Nat) (as st : List AV) (f : List AV → List AV → Prop), popN n as st f → ∃ bs r, st = bs.reverse ++ r ∧ bs.length = n ∧ f (bs ++ as) r
  | 0, as, st, f, h => ⟨[], st, rfl, rfl, h⟩
  | n + 1, as, st, f, h => by
    obtain ⟨v, r, rfl, h1⟩ := popV_inv h
    obtain ⟨bs, r', rfl, h2, h3⟩ := popN_inv n (v :: as) r f h1
    exact ⟨bs ++ [v], r', by simp, by simp [h2], by simpa using h3⟩
theorem ldI_inv {L : List AV} {i : Nat} {f : Int → Prop} (h : ldI L i f) : ∃ z, L[i]? = some (.inl z) ∧ f z := by
  unfold ldI at h; split at h
  · exact ⟨_, by assumption, h⟩
  · exact h.elim
theorem ldL_inv {L : List AV} {i : Nat} {f : Int → Prop} (h : ldL L i f) : ∃ z, L[i]? = some (.inr (.inl z)) ∧ f z := by
  unfold ldL at h; split at h
  · exact ⟨_, by assumption, h⟩
  · exact h.elim
theorem ldR_inv {L : List AV} {i : Nat} {f : Nat → Prop} (h : ldR L i f) : ∃ z, L[i]? = some (.inr (.inr (some z))) ∧ f z := by
  unfold ldR at h; split at h
  · exact ⟨_, by assumption, h⟩
  · exact h.elim
theorem oF_inv {i ci k : Nat} {f : Option Nat → Prop} (h : oF i ci k f) : ∃ fs q, SH[i]? = some (.inl (ci, fs)) ∧ fs[k]? = some q ∧ f q := by
  unfold oF at h
  split at h
  · next c fs hs =>
    obtain ⟨h1, h2⟩ := h
    subst h1
    split at h2
    · next q hq => exact ⟨fs, q, hs, hq, h2⟩
    · exact h2.elim
  · exact h.elim
theorem oC_inv {i ci : Nat} (h : oC i ci) : ∃ fs, SH[i]? = some (.inl (ci, fs)) := by
  unfold oC at h
  split at h
  · next c fs hs => subst h; exact ⟨fs, hs⟩
  · exact h.elim
theorem aF_inv {i kd : Nat} {f : Nat → Prop} (h : aF i kd f) : ∃ n, SH[i]? = some (.inr (kd, n)) ∧ f n := by
  unfold aF at h
  split at h
  · next k n hs =>
    obtain ⟨h1, h2⟩ := h
    subst h1
    exact ⟨n, hs, h2⟩
  · exact h.elim
theorem aN_inv {i : Nat} {f : Nat → Prop} (h : aN i f) : ∃ k n, SH[i]? = some (.inr (k, n)) ∧ (k = 0 ∨ k = 1 ∨ k = 2) ∧ f n := by
  unfold aN at h
  split at h
  · next k n hs => exact ⟨k, n, hs, h.1, h.2⟩
  · exact h.elim
theorem SH_len : ∀ x ∈ SH, ∀ k n, x = .inr (k, n) → n ≤ 2147483647 := by
  intro x hx k n e
  have h : SH.all (fun x => match x with
    | .inr (_, n) => decide (n ≤ 2147483647)
    | _ => true) = true := by decide +kernel
  have h1 := List.all_eq_true.mp h x hx
  subst e
  simpa using h1
theorem SH_le {i k n : Nat} (h : SH[i]? = some (.inr (k, n))) : n ≤ 2147483647 := SH_len _ (List.mem_of_getElem? h) k n rfl
theorem SH_1000 {x : Shp} {i : Nat} (h : SH[i]? = some x) : i ≠ 1000 ∧ i ≠ 1001 := by
  have h1 : i < SH.length := (List.getElem?_eq_some_iff.mp h).1
  have h2 : SH.length = 67 := by decide +kernel
  omega
theorem Scr_upd {σ : St} {i : Nat} {f : Nat → Int} (h : Scr sc s a A H0 σ) {x : Shp} (hi : SH[i]? = some x) : Scr sc s a A H0 (updR σ i f) := by
  intro hs
  have h1 := h hs
  rw [updR_ne _ _ _ _ (Ne.symm (SH_1000 hi).1), updR_ne _ _ _ _ (Ne.symm (SH_1000 hi).2)]
  exact h1
theorem cell_put {f : Nat → Int} {ci k : Nat} {fs : List (Option Nat)} {z : Int} (h : fs[k]? = some none) : cellE cA a (up1 f k z) (.inl (ci, fs)) = .inr (ci, (fs.mapIdx (fun k q => fV a f k q)).set k (.int (Int32.ofInt z))) := by
  show Sum.inr (ci, _) = _
  congr 2
  apply List.ext_getElem?
  intro j
  by_cases hj : j = k
  · subst hj
    rw [List.getElem?_set_self (by rw [List.length_mapIdx]; exact (List.getElem?_eq_some_iff.mp h).1), List.getElem?_mapIdx, h]
    show some (Value.int (Int32.ofInt (up1 f j z j))) = _
    rw [up1_eq]
  · rw [List.getElem?_set_ne (Ne.symm hj), List.getElem?_mapIdx, List.getElem?_mapIdx]
    cases fs[j]? with
    | none => rfl
    | some q =>
      cases q with
      | none => show some (Value.int (Int32.ofInt (up1 f k z j))) = some (Value.int (Int32.ofInt (f j))); rw [up1_ne _ _ _ _ hj]
      | some t => rfl
theorem up1_I {f : Nat → Int} {j : Nat} {z : Int} : (fun k => Int32.ofInt (up1 f j z k)) = upd (fun k => Int32.ofInt (f k)) j (Int32.ofInt z) := by
  funext k
  unfold up1 upd
  split <;> rfl
theorem up1_L {f : Nat → Int} {j : Nat} {z : Int} : (fun k => Int64.ofInt (up1 f j z k)) = vp_updL (fun k => Int64.ofInt (f k)) j (Int64.ofInt z) := by
  funext k
  unfold up1 vp_updL
  split <;> rfl
theorem cpy_I {f g : Nat → Int} {sp dp n : Nat} : (fun k => Int32.ofInt (va_cpy f g sp dp n k)) = va_cpy (fun k => Int32.ofInt (f k)) (fun k => Int32.ofInt (g k)) sp dp n := by
  funext k
  unfold va_cpy
  split <;> rfl
end SOUND
end
section
/-! the small machine's step is the machine's -/
section SOUND2
variable {p : Program} {l : Launch} {e : Env} {R : Room} {s : State} {m : MethodId} {args : Array Value} {below : List Frame} {meth : Method} {c : Code} {cells slots : Nat} {Qf : State → Prop} {cc : ByteArray} {D : va_G} {cA : Nat → ClassId} {a : Nat → Nat} {A : Nat → Prop} {H0 : Heap} {own : String} {nL : Nat} {sc : Prop}
theorem aq_call {H : Heap} {locs : List Loc} {pc : Nat} {ls : Array Slot} {st0 rest : List Value} {Q : Option AV → St → Prop} {A1 : Nat → Prop} {az : Array Value} {free : Addr → Prop}
    (hr : va_Run p l e R s m args below meth c H locs cells slots 0 0 (F0 m pc ls st0) rest (aQ D cA a Q A1 az) free) (hS : va_S A H0 H locs) (hA : ∀ q, q < H.size → A1 q → A q) (hf : ∀ q, free q → A q)
    (kk : ∀ (r : Option AV) (u : St) (H1 : Heap) (locs1 : List Loc), Q r u → va_P D CL (wsOf cA a u) H1 → va_D A1 (wsOf cA a u) → va_S A H0 H1 locs1 → W p l e R s m args below meth c H1 locs1 cells slots Qf (F0 m (pc + 3) ls ((r.map (conc a)).toList ++ rest))) : W p l e R s m args below meth c H locs cells slots Qf (F0 m pc ls st0) := by
  intro T hT X
  obtain ⟨v, st₀, t, T', L, h0, X', hL, e1, e2, ⟨⟨r, u, hv, hq, hP, hK, hD⟩, hz, hk⟩, st⟩ := hr T hT X
  cases hv
  rw [h0] at hz hk
  obtain ⟨t2, a1, b1⟩ := kk r u T'.heap (locs ++ L) hq (by rw [e1]; exact hP) hD
    ⟨Nat.le_trans hS.1 (by rw [e1]; exact hz), fun q h1 h2 => by rw [e1, hk q (Nat.lt_of_lt_of_le h1 hS.1) (fun z => h2 (hA q (Nat.lt_of_lt_of_le h1 hS.1) z))]; exact hS.2.1 q h1 h2, fun q hq => by
      rcases List.mem_append.mp hq with h | h
      · exact hS.2.2 q h
      · exact hf _ (hL q h)⟩ T' rfl X'
  exact ⟨t2, st t2 a1, b1⟩
theorem ws_A {σ : St} {H : Heap} {locs : List Loc} (hD : va_D A (wsOf cA a σ)) (hS : va_S A H0 H locs) (hA : ∀ q, H0.size ≤ q → A q) : ∀ q, va_A (wsOf cA a σ) H.size q → A q := by
  intro q h
  rcases h with ⟨k, e, h⟩ | h
  · exact hD.2 k (q, e) h
  · exact hA q (Nat.le_trans hS.1 h)
theorem sw_inv {pc : Nat} {z : Int} {f : Nat → Prop} : ∀ (os : List Int) (lo : Int), sw pc z f os lo → lo ≤ z → z < lo + os.length → ∃ o, os[(z - lo).toNat]? = some o ∧ tgt pc o f
  | [], lo, _, h1, h2 => by simp at h2; omega
  | o :: os, lo, h, h1, h2 => by
    by_cases hz : z = lo
    · subst hz
      exact ⟨o, by simp, h.1 rfl⟩
    · obtain ⟨o', g1, g2⟩ := sw_inv os (lo + 1) h.2 (by omega) (by simp at h2; omega)
      refine ⟨o', ?_, g2⟩
      rw [show (z - lo).toNat = (z - (lo + 1)).toNat + 1 by omega, List.getElem?_cons_succ]
      exact g1
set_option maxHeartbeats 4000000 in
theorem stp_ok (hx : p.tables.exec = Jvm.exec) (hb : c.code = cc) (hml : c.maxLocals = nL) (hown : s.vm.findClass own = some m.cls) (hts : ∀ w ∈ TG, w.before args s = true) (hK : va_K D CL (tysOf cA) s) (hA : ∀ q, H0.size ≤ q → A q) (hcs : cells ≤ R.cells ∧ slots ≤ R.slots)
    {Φ : List (Nat × Nat × Nat)} {κ : List (Nat × Int)} {Γ : List (Nat × Nat × Nat × Spec)} {rt : Nat} {Q : Option AV → St → Prop} (hΦ : ∀ q ∈ Φ, FieldOK own q) (hκ : ∀ q ∈ κ, ConstOK own q) (hΓ : ∀ g ∈ Γ, CalleeOK l own R g)
    (hrI : ∀ pc L z σ, decode cc pc = .ok (.ireturn, 1) → (rt = 1 ∨ (rt = 3 ∧ (z = 0 ∨ z = 1))) → Q (some (.inl z)) σ → Good p l e R s m args below meth c cells slots Qf D cA a A H0 nL sc pc L [.inl z] σ)
    (hrL : ∀ pc L z σ, decode cc pc = .ok (.lreturn, 1) → rt = 2 → Q (some (.inr (.inl z))) σ → Good p l e R s m args below meth c cells slots Qf D cA a A H0 nL sc pc L [.inr (.inl z)] σ)
    (hrV : ∀ pc L σ, decode cc pc = .ok (.return_, 1) → rt = 0 → Q none σ → Good p l e R s m args below meth c cells slots Qf D cA a A H0 nL sc pc L [] σ)
    {J : Nat → List AV → List AV → St → Prop} (hJ : ∀ pc L st σ, J pc L st σ → Good p l e R s m args below meth c cells slots Qf D cA a A H0 nL sc pc L st σ)
    {pc : Nat} {o : Instr} {L st : List AV} {σ : St} {k : List AV → List AV → St → Prop} (hk : ∀ L st σ, k L st σ → Good p l e R s m args below meth c cells slots Qf D cA a A H0 nL sc (pc + ilen o) L st σ)
    {n : Nat} (hd : decode cc pc = .ok (o, n)) (hn : isSw o = true ∨ n = ilen o) (h : stp sc Φ κ Γ rt Q J pc o L st σ k) : Good p l e R s m args below meth c cells slots Qf D cA a A H0 nL sc pc L st σ := by
  have goJ : ∀ {off : Int} {L st : List AV} {σ : St}, (tgt pc off fun t => J t L st σ) → ∃ t : Nat, (pc : Int) + off = (t : Int) ∧ Good p l e R s m args below meth c cells slots Qf D cA a A H0 nL sc t L st σ := by
    intro off L st σ h
    exact ⟨((pc : Int) + off).toNat, by have := h.1; omega, hJ _ _ _ _ h.2⟩
  cases o
  case iload i =>
    have hn : n = 2 := by simpa [isSw, ilen] using hn
    subst hn
    obtain ⟨z, h1, h2⟩ := ldI_inv h
    intro H locs ls hP hD hS hl hL hsc
    refine lv_iload hx hb hd (lvl_at hl h1 (fun q => by cases q)) ?_
    exact hk _ _ _ h2 H locs ls hP hD hS hl hL hsc
  case iload_n i =>
    have hn : n = 1 := by simpa [isSw, ilen] using hn
    subst hn
    obtain ⟨z, h1, h2⟩ := ldI_inv h
    intro H locs ls hP hD hS hl hL hsc
    refine lv_iload_n hx hb hd rfl (lvl_at hl h1 (fun q => by cases q)) ?_
    exact hk _ _ _ h2 H locs ls hP hD hS hl hL hsc
  case lload i =>
    have hn : n = 2 := by simpa [isSw, ilen] using hn
    subst hn
    obtain ⟨z, h1, h2⟩ := ldL_inv h
    intro H locs ls hP hD hS hl hL hsc
    refine lv_lload hx hb hd (lvl_at hl h1 (fun q => by cases q)) ?_
    exact hk _ _ _ h2 H locs ls hP hD hS hl hL hsc
  case lload_n i =>
    have hn : n = 1 := by simpa [isSw, ilen] using hn
    subst hn
    obtain ⟨z, h1, h2⟩ := ldL_inv h
    intro H locs ls hP hD hS hl hL hsc
    refine lv_lload_n hx hb hd rfl (lvl_at hl h1 (fun q => by cases q)) ?_
    exact hk _ _ _ h2 H locs ls hP hD hS hl hL hsc
  case aload i =>
    have hn : n = 2 := by simpa [isSw, ilen] using hn
    subst hn
    obtain ⟨z, h1, h2⟩ := ldR_inv h
    intro H locs ls hP hD hS hl hL hsc
    refine lv_aload hx hb hd (lvl_at hl h1 (fun q => by cases q)) ?_
    exact hk _ _ _ h2 H locs ls hP hD hS hl hL hsc
  case aload_n i =>
    have hn : n = 1 := by simpa [isSw, ilen] using hn
    subst hn
    obtain ⟨z, h1, h2⟩ := ldR_inv h
    intro H locs ls hP hD hS hl hL hsc
    refine lv_aload_n hx hb hd rfl (lvl_at hl h1 (fun q => by cases q)) ?_
    exact hk _ _ _ h2 H locs ls hP hD hS hl hL hsc
  case istore i =>
    have hn : n = 2 := by simpa [isSw, ilen] using hn
    subst hn
    obtain ⟨z, r, rfl, h1, h2⟩ := popI_inv h
    intro H locs ls hP hD hS hl hL hsc
    refine lv_istore hx hb hd hl (by rw [← hL]; exact h1) rfl (fun ls' hl' => ?_)
    exact hk _ _ _ h2 H locs ls' hP hD hS (lvl_sto1 hl') (by rw [sto1_len]; exact hL) hsc
  case istore_n i =>
    have hn : n = 1 := by simpa [isSw, ilen] using hn
    subst hn
    obtain ⟨z, r, rfl, h1, h2⟩ := popI_inv h
    intro H locs ls hP hD hS hl hL hsc
    refine lv_istore_n hx hb hd rfl hl (by rw [← hL]; exact h1) rfl (fun ls' hl' => ?_)
    exact hk _ _ _ h2 H locs ls' hP hD hS (lvl_sto1 hl') (by rw [sto1_len]; exact hL) hsc
  case lstore i =>
    have hn : n = 2 := by simpa [isSw, ilen] using hn
    subst hn
    obtain ⟨z, r, rfl, h1, h2⟩ := popL_inv h
    intro H locs ls hP hD hS hl hL hsc
    refine lv_lstore hx hb hd hl (by rw [← hL]; exact h1) rfl (fun ls' hl' => ?_)
    exact hk _ _ _ h2 H locs ls' hP hD hS (lvl_sto2 hl') (by rw [sto2_len]; exact hL) hsc
  case lstore_n i =>
    have hn : n = 1 := by simpa [isSw, ilen] using hn
    subst hn
    obtain ⟨z, r, rfl, h1, h2⟩ := popL_inv h
    intro H locs ls hP hD hS hl hL hsc
    refine lv_lstore_n hx hb hd rfl hl (by rw [← hL]; exact h1) rfl (fun ls' hl' => ?_)
    exact hk _ _ _ h2 H locs ls' hP hD hS (lvl_sto2 hl') (by rw [sto2_len]; exact hL) hsc
  case astore i =>
    have hn : n = 2 := by simpa [isSw, ilen] using hn
    subst hn
    obtain ⟨z, r, rfl, h1, h2⟩ := popR_inv h
    intro H locs ls hP hD hS hl hL hsc
    refine lv_astore hx hb hd hl (by rw [← hL]; exact h1) rfl (fun ls' hl' => ?_)
    exact hk _ _ _ h2 H locs ls' hP hD hS (lvl_sto1 hl') (by rw [sto1_len]; exact hL) hsc
  case astore_n i =>
    have hn : n = 1 := by simpa [isSw, ilen] using hn
    subst hn
    obtain ⟨z, r, rfl, h1, h2⟩ := popR_inv h
    intro H locs ls hP hD hS hl hL hsc
    refine lv_astore_n hx hb hd rfl hl (by rw [← hL]; exact h1) rfl (fun ls' hl' => ?_)
    exact hk _ _ _ h2 H locs ls' hP hD hS (lvl_sto1 hl') (by rw [sto1_len]; exact hL) hsc
  case iconst z =>
    have hn : n = 1 := by simpa [isSw, ilen] using hn
    subst hn
    intro H locs ls hP hD hS hl hL hsc
    exact lv_iconst hx hb hd rfl (hk _ _ _ h H locs ls hP hD hS hl hL hsc)
  case bipush z =>
    have hn : n = 2 := by simpa [isSw, ilen] using hn
    subst hn
    intro H locs ls hP hD hS hl hL hsc
    exact lv_bipush hx hb hd (zI_byte h.1 h.2.1) (hk _ _ _ h.2.2 H locs ls hP hD hS hl hL hsc)
  case sipush z =>
    have hn : n = 3 := by simpa [isSw, ilen] using hn
    subst hn
    intro H locs ls hP hD hS hl hL hsc
    exact lv_sipush hx hb hd (zI_short h.1 h.2.1) (hk _ _ _ h.2.2 H locs ls hP hD hS hl hL hsc)
  case lconst z =>
    have hn : n = 1 := by simpa [isSw, ilen] using hn
    subst hn
    intro H locs ls hP hD hS hl hL hsc
    exact lv_lconst hx hb hd (Int64.ofInt_eq_ofNat).symm (hk _ _ _ h H locs ls hP hD hS hl hL hsc)
  case ldc i =>
    have hn : n = 2 := by simpa [isSw, ilen] using hn
    subst hn
    obtain ⟨h0, h⟩ := h
    obtain ⟨z, h1, h2⟩ := lk1_inv h
    intro H locs ls hP hD hS hl hL hsc
    exact lv_ldc hx hb hown (hts _ ((hκ _ h1).1 h0)) hd (hk _ _ _ h2 H locs ls hP hD hS hl hL hsc)
  case ldc_w i =>
    have hn : n = 3 := by simpa [isSw, ilen] using hn
    subst hn
    obtain ⟨h0, h⟩ := h
    obtain ⟨z, h1, h2⟩ := lk1_inv h
    intro H locs ls hP hD hS hl hL hsc
    exact lv_ldcw hx hb hown (hts _ ((hκ _ h1).1 h0)) hd (hk _ _ _ h2 H locs ls hP hD hS hl hL hsc)
  case ldc2_w i =>
    have hn : n = 3 := by simpa [isSw, ilen] using hn
    subst hn
    obtain ⟨z, h1, h2⟩ := lk1_inv h
    intro H locs ls hP hD hS hl hL hsc
    have hw := (hκ _ h1).2 (by omega)
    rw [Nat.add_sub_cancel] at hw
    exact lv_ldc2 hx hb hown (hts _ hw) hd (hk _ _ _ h2 H locs ls hP hD hS hl hL hsc)
  case iinc i z =>
    have hn : n = 3 := by simpa [isSw, ilen] using hn
    subst hn
    obtain ⟨x, h1, h2⟩ := ldI_inv h
    intro H locs ls hP hD hS hl hL hsc
    obtain ⟨q, hq⟩ := List.getElem?_of_mem (lvl_mem (a := a) (i := 0).mpr ⟨i, _, h1, (fun q => by cases q), rfl⟩)
    rw [Nat.zero_add] at hq
    exact lv_iinc hx hb hd hl hq (Int32.ofInt_add x z).symm (by rw [← hL]; exact (List.getElem?_eq_some_iff.mp h1).1) rfl (fun ls' hl' => hk _ _ _ h2 H locs ls' hP hD hS (lvl_sto1 (v := .inl (x + z)) hl') (by rw [sto1_len]; exact hL) hsc)
  case iadd =>
    have hn : n = 1 := by simpa [isSw, ilen] using hn
    subst hn
    obtain ⟨y, r, rfl, h⟩ := popI_inv h
    obtain ⟨x, r, rfl, h⟩ := popI_inv h
    intro H locs ls hP hD hS hl hL hsc
    refine lv_iadd hx hb hd ?_
    have g := hk _ _ _ h H locs ls hP hD hS hl hL hsc
    rw [List.map_cons, conc] at g
    rw [← Int32.ofInt_add]
    exact g
  case isub =>
    have hn : n = 1 := by simpa [isSw, ilen] using hn
    subst hn
    obtain ⟨y, r, rfl, h⟩ := popI_inv h
    obtain ⟨x, r, rfl, h⟩ := popI_inv h
    intro H locs ls hP hD hS hl hL hsc
    refine lv_isub hx hb hd ?_
    have g := hk _ _ _ h H locs ls hP hD hS hl hL hsc
    rw [List.map_cons, conc] at g
    rw [← Int32.ofInt_sub]
    exact g
  case imul =>
    have hn : n = 1 := by simpa [isSw, ilen] using hn
    subst hn
    obtain ⟨y, r, rfl, h⟩ := popI_inv h
    obtain ⟨x, r, rfl, h⟩ := popI_inv h
    intro H locs ls hP hD hS hl hL hsc
    refine lv_imul hx hb hd ?_
    have g := hk _ _ _ h H locs ls hP hD hS hl hL hsc
    rw [List.map_cons, conc] at g
    rw [← Int32.ofInt_mul]
    exact g
  case iand =>
    have hn : n = 1 := by simpa [isSw, ilen] using hn
    subst hn
    obtain ⟨y, r, rfl, h⟩ := popI_inv h
    obtain ⟨x, r, rfl, h⟩ := popI_inv h
    intro H locs ls hP hD hS hl hL hsc
    refine lv_iand hx hb hd ?_
    have g := hk _ _ _ h H locs ls hP hD hS hl hL hsc
    rw [List.map_cons, conc] at g
    rw [zI_and]
    exact g
  case ior =>
    have hn : n = 1 := by simpa [isSw, ilen] using hn
    subst hn
    obtain ⟨y, r, rfl, h⟩ := popI_inv h
    obtain ⟨x, r, rfl, h⟩ := popI_inv h
    intro H locs ls hP hD hS hl hL hsc
    refine lv_ior hx hb hd ?_
    have g := hk _ _ _ h H locs ls hP hD hS hl hL hsc
    rw [List.map_cons, conc] at g
    rw [zI_or]
    exact g
  case ixor =>
    have hn : n = 1 := by simpa [isSw, ilen] using hn
    subst hn
    obtain ⟨y, r, rfl, h⟩ := popI_inv h
    obtain ⟨x, r, rfl, h⟩ := popI_inv h
    intro H locs ls hP hD hS hl hL hsc
    refine lv_ixor hx hb hd ?_
    have g := hk _ _ _ h H locs ls hP hD hS hl hL hsc
    rw [List.map_cons, conc] at g
    rw [zI_xor]
    exact g
  case ladd =>
    have hn : n = 1 := by simpa [isSw, ilen] using hn
    subst hn
    obtain ⟨y, r, rfl, h⟩ := popL_inv h
    obtain ⟨x, r, rfl, h⟩ := popL_inv h
    intro H locs ls hP hD hS hl hL hsc
    refine lv_ladd hx hb hd ?_
    have g := hk _ _ _ h H locs ls hP hD hS hl hL hsc
    rw [List.map_cons, conc] at g
    rw [← Int64.ofInt_add]
    exact g
  case lsub =>
    have hn : n = 1 := by simpa [isSw, ilen] using hn
    subst hn
    obtain ⟨y, r, rfl, h⟩ := popL_inv h
    obtain ⟨x, r, rfl, h⟩ := popL_inv h
    intro H locs ls hP hD hS hl hL hsc
    refine lv_lsub hx hb hd ?_
    have g := hk _ _ _ h H locs ls hP hD hS hl hL hsc
    rw [List.map_cons, conc] at g
    rw [← Int64.ofInt_sub]
    exact g
  case lmul =>
    have hn : n = 1 := by simpa [isSw, ilen] using hn
    subst hn
    obtain ⟨y, r, rfl, h⟩ := popL_inv h
    obtain ⟨x, r, rfl, h⟩ := popL_inv h
    intro H locs ls hP hD hS hl hL hsc
    refine lv_lmul hx hb hd ?_
    have g := hk _ _ _ h H locs ls hP hD hS hl hL hsc
    rw [List.map_cons, conc] at g
    rw [← Int64.ofInt_mul]
    exact g
  case land =>
    have hn : n = 1 := by simpa [isSw, ilen] using hn
    subst hn
    obtain ⟨y, r, rfl, h⟩ := popL_inv h
    obtain ⟨x, r, rfl, h⟩ := popL_inv h
    intro H locs ls hP hD hS hl hL hsc
    refine lv_land hx hb hd ?_
    have g := hk _ _ _ h H locs ls hP hD hS hl hL hsc
    rw [List.map_cons, conc] at g
    rw [zL_and]
    exact g
  case lor =>
    have hn : n = 1 := by simpa [isSw, ilen] using hn
    subst hn
    obtain ⟨y, r, rfl, h⟩ := popL_inv h
    obtain ⟨x, r, rfl, h⟩ := popL_inv h
    intro H locs ls hP hD hS hl hL hsc
    refine lv_lor hx hb hd ?_
    have g := hk _ _ _ h H locs ls hP hD hS hl hL hsc
    rw [List.map_cons, conc] at g
    rw [zL_or]
    exact g
  case idiv =>
    have hn : n = 1 := by simpa [isSw, ilen] using hn
    subst hn
    obtain ⟨y, r, rfl, h⟩ := popI_inv h
    obtain ⟨x, r, rfl, h⟩ := popI_inv h
    intro H locs ls hP hD hS hl hL hsc
    obtain ⟨h1, h2, h3, h4, h5⟩ := h
    refine lv_idiv hx hb hd (by rw [zI_eq0 (by unfold rI; omega)]; omega) ?_
    have g := hk _ _ _ h5 H locs ls hP hD hS hl hL hsc
    rw [List.map_cons, conc] at g
    rw [zI_div h1 h2 h3 h4]
    exact g
  case irem =>
    have hn : n = 1 := by simpa [isSw, ilen] using hn
    subst hn
    obtain ⟨y, r, rfl, h⟩ := popI_inv h
    obtain ⟨x, r, rfl, h⟩ := popI_inv h
    intro H locs ls hP hD hS hl hL hsc
    obtain ⟨h1, h2, h3, h4, h5⟩ := h
    refine lv_irem hx hb hd (by rw [zI_eq0 (by unfold rI; omega)]; omega) ?_
    have g := hk _ _ _ h5 H locs ls hP hD hS hl hL hsc
    rw [List.map_cons, conc] at g
    rw [zI_rem h1 h2 h3 h4]
    exact g
  case ishl =>
    have hn : n = 1 := by simpa [isSw, ilen] using hn
    subst hn
    obtain ⟨y, r, rfl, h⟩ := popI_inv h
    obtain ⟨x, r, rfl, h⟩ := popI_inv h
    intro H locs ls hP hD hS hl hL hsc
    obtain ⟨h1, h2, h5⟩ := h
    refine lv_ishl hx hb hd ?_
    have g := hk _ _ _ h5 H locs ls hP hD hS hl hL hsc
    rw [List.map_cons, conc] at g
    rw [zI_shl h1 h2]
    exact g
  case ishr =>
    have hn : n = 1 := by simpa [isSw, ilen] using hn
    subst hn
    obtain ⟨y, r, rfl, h⟩ := popI_inv h
    obtain ⟨x, r, rfl, h⟩ := popI_inv h
    intro H locs ls hP hD hS hl hL hsc
    obtain ⟨h0, h1, h2, h5⟩ := h
    refine lv_ishr hx hb hd ?_
    have g := hk _ _ _ h5 H locs ls hP hD hS hl hL hsc
    rw [List.map_cons, conc] at g
    rw [zI_shr h0 h1 h2]
    exact g
  case iushr =>
    have hn : n = 1 := by simpa [isSw, ilen] using hn
    subst hn
    obtain ⟨y, r, rfl, h⟩ := popI_inv h
    obtain ⟨x, r, rfl, h1, h2, h5⟩ := popI_inv h
    intro H locs ls hP hD hS hl hL hsc
    exact lv_iushr hx hb hd (zI_ushr h1 h2) (hk _ _ _ h5 H locs ls hP hD hS hl hL hsc)
  case lshl =>
    have hn : n = 1 := by simpa [isSw, ilen] using hn
    subst hn
    obtain ⟨y, r, rfl, h⟩ := popI_inv h
    obtain ⟨x, r, rfl, h1, h2, h5⟩ := popL_inv h
    intro H locs ls hP hD hS hl hL hsc
    exact lv_lshl hx hb hd (zL_shl h1 h2) (hk _ _ _ h5 H locs ls hP hD hS hl hL hsc)
  case lshr =>
    have hn : n = 1 := by simpa [isSw, ilen] using hn
    subst hn
    obtain ⟨y, r, rfl, h⟩ := popI_inv h
    obtain ⟨x, r, rfl, h0, h1, h2, h5⟩ := popL_inv h
    intro H locs ls hP hD hS hl hL hsc
    exact lv_lshr hx hb hd (zL_shr h0 h1 h2) (hk _ _ _ h5 H locs ls hP hD hS hl hL hsc)
  case lushr =>
    have hn : n = 1 := by simpa [isSw, ilen] using hn
    subst hn
    obtain ⟨y, r, rfl, h⟩ := popI_inv h
    obtain ⟨x, r, rfl, h1, h2, h5⟩ := popL_inv h
    intro H locs ls hP hD hS hl hL hsc
    exact lv_lushr hx hb hd (zL_ushr h1 h2) (hk _ _ _ h5 H locs ls hP hD hS hl hL hsc)
  case ineg =>
    have hn : n = 1 := by simpa [isSw, ilen] using hn
    subst hn
    obtain ⟨x, r, rfl, h⟩ := popI_inv h
    intro H locs ls hP hD hS hl hL hsc
    refine lv_ineg hx hb hd ?_
    rw [← Int32.ofInt_neg]
    exact hk _ _ _ h H locs ls hP hD hS hl hL hsc
  case lcmp =>
    have hn : n = 1 := by simpa [isSw, ilen] using hn
    subst hn
    obtain ⟨y, r, rfl, h⟩ := popL_inv h
    obtain ⟨x, r, rfl, h1, h2, h5⟩ := popL_inv h
    intro H locs ls hP hD hS hl hL hsc
    refine W.lcmp hx hb hd ?_
    rw [zL_cmp h1 h2]
    exact hk _ _ _ h5 H locs ls hP hD hS hl hL hsc
  case i2l =>
    have hn : n = 1 := by simpa [isSw, ilen] using hn
    subst hn
    obtain ⟨x, r, rfl, h1, h5⟩ := popI_inv h
    intro H locs ls hP hD hS hl hL hsc
    exact lv_i2l hx hb hd (zI_l h1) (hk _ _ _ h5 H locs ls hP hD hS hl hL hsc)
  case l2i =>
    have hn : n = 1 := by simpa [isSw, ilen] using hn
    subst hn
    obtain ⟨x, r, rfl, h5⟩ := popL_inv h
    intro H locs ls hP hD hS hl hL hsc
    exact lv_l2i hx hb hd (zL_i x) (hk _ _ _ h5 H locs ls hP hD hS hl hL hsc)
  case dup =>
    have hn : n = 1 := by simpa [isSw, ilen] using hn
    subst hn
    obtain ⟨v, r, rfl, h1, h5⟩ := popV_inv h
    intro H locs ls hP hD hS hl hL hsc
    exact lv_dup hx hb hd (by rw [conc_cat, h1]; rfl) (hk _ _ _ h5 H locs ls hP hD hS hl hL hsc)
  case pop =>
    have hn : n = 1 := by simpa [isSw, ilen] using hn
    subst hn
    obtain ⟨v, r, rfl, h1, h5⟩ := popV_inv h
    intro H locs ls hP hD hS hl hL hsc
    exact lv_pop hx hb hd (by rw [conc_cat, h1]; rfl) (hk _ _ _ h5 H locs ls hP hD hS hl hL hsc)
  case dup2 =>
    have hn : n = 1 := by simpa [isSw, ilen] using hn
    subst hn
    obtain ⟨v, r, rfl, h⟩ := popV_inv h
    obtain ⟨w, r, rfl, h1, h2, h5⟩ := popV_inv h
    intro H locs ls hP hD hS hl hL hsc
    exact lv_dup2_11 hx hb hd (by rw [conc_cat, h1]; rfl) (by rw [conc_cat, h2]; rfl) (hk _ _ _ h5 H locs ls hP hD hS hl hL hsc)
  case getfield x =>
    have hn : n = 3 := by simpa [isSw, ilen] using hn
    subst hn
    obtain ⟨i, r, rfl, h⟩ := popR_inv h
    obtain ⟨⟨ci, kf⟩, h1, h⟩ := lk1_inv h
    obtain ⟨fs, t, h2, h3, h5⟩ := oF_inv h
    obtain ⟨C, T, N, ty, f1, f2, f3, f4, f5, f6, f7, f8, f9⟩ := hΦ _ h1
    intro H locs ls hP hD hS hl hL hsc
    refine va_get (v := fV a (σ i) kf t) (ref := C) (Ts := TG) hx hb hts f5 hown hK hP i (wsOf_get h2) f1 kf f2 (hts _ f4) (by rw [f3]; exact fun _ q => q) (by rw [List.getElem?_mapIdx, h3]; rfl) hd ?_
    have g := hk _ _ _ h5 H locs ls hP hD hS hl hL hsc
    rw [List.map_cons] at g
    cases t with
    | none => exact g
    | some t => exact g
  case putfield x =>
    have hn : n = 3 := by simpa [isSw, ilen] using hn
    subst hn
    obtain ⟨z, r, rfl, h⟩ := popI_inv h
    obtain ⟨i, r, rfl, h⟩ := popR_inv h
    obtain ⟨⟨ci, kf⟩, h1, h⟩ := lk1_inv h
    obtain ⟨fs, t, h2, h3, h4, h5⟩ := oF_inv h
    subst h4
    obtain ⟨C, T, N, ty, f1, f2, f3, f4, f5, f6, f7, f8, f9⟩ := hΦ _ h1
    have f10 : ty kf = .int := f9.resolve_right (fun q => q i fs h2 h3)
    intro H locs ls hP hD hS hl hL hsc
    refine va_put (ref := C) (Ts := TG) (ty := .int) hx hb hts f5 ty f6 f7 hown hK hP hD hS i (wsOf_get h2) f1 kf f2 (hts _ f4) (by rw [f3]; exact fun _ q => q) (f8 f10) (by rw [f6 kf f2, f10]) rfl rfl (by rw [List.length_mapIdx]; exact (List.getElem?_eq_some_iff.mp h3).1) hd (fun H1 locs1 hP1 hD1 hS1 => ?_)
    have ew := wsOf_set (cA := cA) (a := a) (σ := σ) h2 (cell_put (cA := cA) (a := a) (f := σ i) (z := z) h3)
    have hP1 : va_P D CL (wsOf cA a (updR σ i (up1 (σ i) kf z))) H1 := by rw [← ew]; exact hP1
    have hD1 : va_D A (wsOf cA a (updR σ i (up1 (σ i) kf z))) := by rw [← ew]; exact hD1
    exact hk _ _ _ h5 H1 locs1 ls hP1 hD1 hS1 hl hL (Scr_upd hsc h2)
  case iaload =>
    have hn : n = 1 := by simpa [isSw, ilen] using hn
    subst hn
    obtain ⟨j, r, rfl, h⟩ := popI_inv h
    obtain ⟨i, r, rfl, hq⟩ := popR_inv h
    split at hq
    · next hi =>
      subst hi
      obtain ⟨h1, h3, h4, h5⟩ := hq
      intro H locs ls hP hD hS hl hL hsc
      obtain ⟨x1, x2, x3, x4, x5⟩ := hsc h1
      refine va_sld hx hb x1 x2 x3 hS (zI_in h3 (by omega) (by omega)) hd ?_
      rw [zI_clamp h3 (by omega)]
      exact hk _ _ _ h5 H locs ls hP hD hS hl hL hsc
    · obtain ⟨n, h2, h3, h4, h5⟩ := aF_inv hq
      intro H locs ls hP hD hS hl hL hsc
      have hle := SH_le h2
      refine va_iald hx hb hK hP i 0 (wsOf_get h2) rfl (zI_in h3 h4 hle) hd ?_
      rw [zI_clamp h3 (by omega)]
      exact hk _ _ _ h5 H locs ls hP hD hS hl hL hsc
  case laload =>
    have hn : n = 1 := by simpa [isSw, ilen] using hn
    subst hn
    obtain ⟨j, r, rfl, h⟩ := popI_inv h
    obtain ⟨i, r, rfl, h⟩ := popR_inv h
    obtain ⟨n, h2, h3, h4, h5⟩ := aF_inv h
    intro H locs ls hP hD hS hl hL hsc
    have hle := SH_le h2
    refine va_lald hx hb hK hP i 1 (wsOf_get h2) rfl (zI_in h3 h4 hle) hd ?_
    rw [zI_clamp h3 (by omega)]
    exact hk _ _ _ h5 H locs ls hP hD hS hl hL hsc
  case baload =>
    have hn : n = 1 := by simpa [isSw, ilen] using hn
    subst hn
    obtain ⟨j, r, rfl, h⟩ := popI_inv h
    obtain ⟨i, r, rfl, h⟩ := popR_inv h
    obtain ⟨n, h2, h3, h4, h5⟩ := aF_inv h
    intro H locs ls hP hD hS hl hL hsc
    have hle := SH_le h2
    refine va_zald hx hb hK hP i 2 (wsOf_get h2) rfl (zI_in h3 h4 hle) hd ?_
    rw [zI_clamp h3 (by omega)]
    exact hk _ _ _ h5 H locs ls hP hD hS hl hL hsc
  case iastore =>
    have hn : n = 1 := by simpa [isSw, ilen] using hn
    subst hn
    obtain ⟨z, r, rfl, h⟩ := popI_inv h
    obtain ⟨j, r, rfl, h⟩ := popI_inv h
    obtain ⟨i, r, rfl, h⟩ := popR_inv h
    obtain ⟨n, h2, h3, h4, h5⟩ := aF_inv h
    intro H locs ls hP hD hS hl hL hsc
    have hle := SH_le h2
    refine va_iast hx hb hK hP hD hS i 0 (wsOf_get h2) rfl (zI_in h3 h4 hle) hd (fun H1 locs1 hP1 hD1 hS1 => ?_)
    rw [zI_clamp h3 (by omega), ← up1_I] at hP1 hD1
    have ew := wsOf_set (cA := cA) (a := a) (σ := σ) (f := up1 (σ i) j.toNat z) h2 rfl
    have hP1 : va_P D CL (wsOf cA a (updR σ i (up1 (σ i) j.toNat z))) H1 := by rw [← ew]; exact hP1
    have hD1 : va_D A (wsOf cA a (updR σ i (up1 (σ i) j.toNat z))) := by rw [← ew]; exact hD1
    exact hk _ _ _ h5 H1 locs1 ls hP1 hD1 hS1 hl hL (Scr_upd hsc h2)
  case lastore =>
    have hn : n = 1 := by simpa [isSw, ilen] using hn
    subst hn
    obtain ⟨z, r, rfl, h⟩ := popL_inv h
    obtain ⟨j, r, rfl, h⟩ := popI_inv h
    obtain ⟨i, r, rfl, h⟩ := popR_inv h
    obtain ⟨n, h2, h3, h4, h5⟩ := aF_inv h
    intro H locs ls hP hD hS hl hL hsc
    have hle := SH_le h2
    refine va_last hx hb hK hP hD hS i 1 (wsOf_get h2) rfl (zI_in h3 h4 hle) hd (fun H1 locs1 hP1 hD1 hS1 => ?_)
    rw [zI_clamp h3 (by omega), ← up1_L] at hP1 hD1
    have ew := wsOf_set (cA := cA) (a := a) (σ := σ) (f := up1 (σ i) j.toNat z) h2 rfl
    have hP1 : va_P D CL (wsOf cA a (updR σ i (up1 (σ i) j.toNat z))) H1 := by rw [← ew]; exact hP1
    have hD1 : va_D A (wsOf cA a (updR σ i (up1 (σ i) j.toNat z))) := by rw [← ew]; exact hD1
    exact hk _ _ _ h5 H1 locs1 ls hP1 hD1 hS1 hl hL (Scr_upd hsc h2)
  case bastore =>
    have hn : n = 1 := by simpa [isSw, ilen] using hn
    subst hn
    obtain ⟨z, r, rfl, h⟩ := popI_inv h
    obtain ⟨j, r, rfl, h⟩ := popI_inv h
    obtain ⟨i, r, rfl, h⟩ := popR_inv h
    obtain ⟨n, h2, h3, h4, h6, h5⟩ := aF_inv h
    intro H locs ls hP hD hS hl hL hsc
    have hle := SH_le h2
    refine va_zast hx hb hK hP hD hS i 2 (wsOf_get h2) rfl (zI_in h3 h4 hle) hd (fun H1 locs1 hP1 hD1 hS1 => ?_)
    rw [zI_clamp h3 (by omega), zI_vbit h6, ← up1_I] at hP1 hD1
    have ew := wsOf_set (cA := cA) (a := a) (σ := σ) (f := up1 (σ i) j.toNat z) h2 rfl
    have hP1 : va_P D CL (wsOf cA a (updR σ i (up1 (σ i) j.toNat z))) H1 := by rw [← ew]; exact hP1
    have hD1 : va_D A (wsOf cA a (updR σ i (up1 (σ i) j.toNat z))) := by rw [← ew]; exact hD1
    exact hk _ _ _ h5 H1 locs1 ls hP1 hD1 hS1 hl hL (Scr_upd hsc h2)
  case arraylength =>
    have hn : n = 1 := by simpa [isSw, ilen] using hn
    subst hn
    obtain ⟨i, r, rfl, hq⟩ := popR_inv h
    split at hq
    · next hi =>
      subst hi
      obtain ⟨h1, h5⟩ := hq
      intro H locs ls hP hD hS hl hL hsc
      obtain ⟨x1, x2, x3, x4, x5⟩ := hsc h1
      refine va_slen hx hb x1 x2 x3 hS hd ?_
      rw [← Int32.ofInt_eq_ofNat, Int.toNat_of_nonneg x4]
      exact hk _ _ _ h5 H locs ls hP hD hS hl hL hsc
    · obtain ⟨kd, n, h2, h3, h5⟩ := aN_inv hq
      intro H locs ls hP hD hS hl hL hsc
      have g := hk _ _ _ h5 H locs ls hP hD hS hl hL hsc
      rcases h3 with rfl | rfl | rfl
      · exact va_alen hx hb hK hP i 0 (wsOf_get h2) (ty := .int) rfl (Int32.ofInt_eq_ofNat).symm hd g
      · exact va_alen hx hb hK hP i 1 (wsOf_get h2) (ty := .long) rfl (Int32.ofInt_eq_ofNat).symm hd g
      · exact va_alen hx hb hK hP i 2 (wsOf_get h2) (ty := .boolean) rfl (Int32.ofInt_eq_ofNat).symm hd g
  case goto off =>
    have hn : n = 3 := by simpa [isSw, ilen] using hn
    subst hn
    obtain ⟨t, h1, h2⟩ := goJ h
    intro H locs ls hP hD hS hl hL hsc
    exact lv_goto hx hb hd h1 (h2 H locs ls hP hD hS hl hL hsc)
  case ifCond cond off =>
    have hn : n = 3 := by simpa [isSw, ilen] using hn
    subst hn
    have e1 : (pc : Int) + off = (((pc : Int) + off).toNat : Int) := by have := h.1; omega
    obtain ⟨z, r, rfl, h1, h2⟩ := popI_inv h.2
    intro H locs ls hP hD hS hl hL hsc
    cases cond with
    | eq =>
      refine lv_if_eq hx hb hd e1 (fun q => hJ _ _ _ _ (h2.1 ?_) H locs ls hP hD hS hl hL hsc) (fun q => hk _ _ _ (h2.2 ?_) H locs ls hP hD hS hl hL hsc)
      · simp only [zI_eq0 h1, zI_lt0 h1, zI_0le h1, zI_0lt h1, zI_le0 h1, ge_iff_le, gt_iff_lt] at q; omega
      · simp only [zI_eq0 h1, zI_lt0 h1, zI_0le h1, zI_0lt h1, zI_le0 h1, ge_iff_le, gt_iff_lt] at q; omega
    | ne =>
      refine lv_if_ne hx hb hd e1 (fun q => hJ _ _ _ _ (h2.1 ?_) H locs ls hP hD hS hl hL hsc) (fun q => hk _ _ _ (h2.2 ?_) H locs ls hP hD hS hl hL hsc)
      · simp only [zI_eq0 h1, zI_lt0 h1, zI_0le h1, zI_0lt h1, zI_le0 h1, ge_iff_le, gt_iff_lt] at q; omega
      · simp only [zI_eq0 h1, zI_lt0 h1, zI_0le h1, zI_0lt h1, zI_le0 h1, ge_iff_le, gt_iff_lt] at q; omega
    | lt =>
      refine lv_if_lt hx hb hd e1 (fun q => hJ _ _ _ _ (h2.1 ?_) H locs ls hP hD hS hl hL hsc) (fun q => hk _ _ _ (h2.2 ?_) H locs ls hP hD hS hl hL hsc)
      · simp only [zI_eq0 h1, zI_lt0 h1, zI_0le h1, zI_0lt h1, zI_le0 h1, ge_iff_le, gt_iff_lt] at q; omega
      · simp only [zI_eq0 h1, zI_lt0 h1, zI_0le h1, zI_0lt h1, zI_le0 h1, ge_iff_le, gt_iff_lt] at q; omega
    | ge =>
      refine lv_if_ge hx hb hd e1 (fun q => hJ _ _ _ _ (h2.1 ?_) H locs ls hP hD hS hl hL hsc) (fun q => hk _ _ _ (h2.2 ?_) H locs ls hP hD hS hl hL hsc)
      · simp only [zI_eq0 h1, zI_lt0 h1, zI_0le h1, zI_0lt h1, zI_le0 h1, ge_iff_le, gt_iff_lt] at q; omega
      · simp only [zI_eq0 h1, zI_lt0 h1, zI_0le h1, zI_0lt h1, zI_le0 h1, ge_iff_le, gt_iff_lt] at q; omega
    | gt =>
      refine lv_if_gt hx hb hd e1 (fun q => hJ _ _ _ _ (h2.1 ?_) H locs ls hP hD hS hl hL hsc) (fun q => hk _ _ _ (h2.2 ?_) H locs ls hP hD hS hl hL hsc)
      · simp only [zI_eq0 h1, zI_lt0 h1, zI_0le h1, zI_0lt h1, zI_le0 h1, ge_iff_le, gt_iff_lt] at q; omega
      · simp only [zI_eq0 h1, zI_lt0 h1, zI_0le h1, zI_0lt h1, zI_le0 h1, ge_iff_le, gt_iff_lt] at q; omega
    | le =>
      refine lv_if_le hx hb hd e1 (fun q => hJ _ _ _ _ (h2.1 ?_) H locs ls hP hD hS hl hL hsc) (fun q => hk _ _ _ (h2.2 ?_) H locs ls hP hD hS hl hL hsc)
      · simp only [zI_eq0 h1, zI_lt0 h1, zI_0le h1, zI_0lt h1, zI_le0 h1, ge_iff_le, gt_iff_lt] at q; omega
      · simp only [zI_eq0 h1, zI_lt0 h1, zI_0le h1, zI_0lt h1, zI_le0 h1, ge_iff_le, gt_iff_lt] at q; omega
  case if_icmp cond off =>
    have hn : n = 3 := by simpa [isSw, ilen] using hn
    subst hn
    have e1 : (pc : Int) + off = (((pc : Int) + off).toNat : Int) := by have := h.1; omega
    obtain ⟨y, r, rfl, hq⟩ := popI_inv h.2
    obtain ⟨x, r, rfl, h1, h0, h2⟩ := popI_inv hq
    intro H locs ls hP hD hS hl hL hsc
    cases cond with
    | eq =>
      refine lv_icmp_eq hx hb hd e1 (fun q => hJ _ _ _ _ (h2.1 ?_) H locs ls hP hD hS hl hL hsc) (fun q => hk _ _ _ (h2.2 ?_) H locs ls hP hD hS hl hL hsc)
      · simp only [zI_eq h1 h0, zI_lt h1 h0, zI_lt h0 h1, zI_le h1 h0, zI_le h0 h1, ge_iff_le, gt_iff_lt] at q; omega
      · simp only [zI_eq h1 h0, zI_lt h1 h0, zI_lt h0 h1, zI_le h1 h0, zI_le h0 h1, ge_iff_le, gt_iff_lt] at q; omega
    | ne =>
      refine lv_icmp_ne hx hb hd e1 (fun q => hJ _ _ _ _ (h2.1 ?_) H locs ls hP hD hS hl hL hsc) (fun q => hk _ _ _ (h2.2 ?_) H locs ls hP hD hS hl hL hsc)
      · simp only [zI_eq h1 h0, zI_lt h1 h0, zI_lt h0 h1, zI_le h1 h0, zI_le h0 h1, ge_iff_le, gt_iff_lt] at q; omega
      · simp only [zI_eq h1 h0, zI_lt h1 h0, zI_lt h0 h1, zI_le h1 h0, zI_le h0 h1, ge_iff_le, gt_iff_lt] at q; omega
    | lt =>
      refine lv_icmp_lt hx hb hd e1 (fun q => hJ _ _ _ _ (h2.1 ?_) H locs ls hP hD hS hl hL hsc) (fun q => hk _ _ _ (h2.2 ?_) H locs ls hP hD hS hl hL hsc)
      · simp only [zI_eq h1 h0, zI_lt h1 h0, zI_lt h0 h1, zI_le h1 h0, zI_le h0 h1, ge_iff_le, gt_iff_lt] at q; omega
      · simp only [zI_eq h1 h0, zI_lt h1 h0, zI_lt h0 h1, zI_le h1 h0, zI_le h0 h1, ge_iff_le, gt_iff_lt] at q; omega
    | ge =>
      refine lv_icmp_ge hx hb hd e1 (fun q => hJ _ _ _ _ (h2.1 ?_) H locs ls hP hD hS hl hL hsc) (fun q => hk _ _ _ (h2.2 ?_) H locs ls hP hD hS hl hL hsc)
      · simp only [zI_eq h1 h0, zI_lt h1 h0, zI_lt h0 h1, zI_le h1 h0, zI_le h0 h1, ge_iff_le, gt_iff_lt] at q; omega
      · simp only [zI_eq h1 h0, zI_lt h1 h0, zI_lt h0 h1, zI_le h1 h0, zI_le h0 h1, ge_iff_le, gt_iff_lt] at q; omega
    | gt =>
      refine lv_icmp_gt hx hb hd e1 (fun q => hJ _ _ _ _ (h2.1 ?_) H locs ls hP hD hS hl hL hsc) (fun q => hk _ _ _ (h2.2 ?_) H locs ls hP hD hS hl hL hsc)
      · simp only [zI_eq h1 h0, zI_lt h1 h0, zI_lt h0 h1, zI_le h1 h0, zI_le h0 h1, ge_iff_le, gt_iff_lt] at q; omega
      · simp only [zI_eq h1 h0, zI_lt h1 h0, zI_lt h0 h1, zI_le h1 h0, zI_le h0 h1, ge_iff_le, gt_iff_lt] at q; omega
    | le =>
      refine lv_icmp_le hx hb hd e1 (fun q => hJ _ _ _ _ (h2.1 ?_) H locs ls hP hD hS hl hL hsc) (fun q => hk _ _ _ (h2.2 ?_) H locs ls hP hD hS hl hL hsc)
      · simp only [zI_eq h1 h0, zI_lt h1 h0, zI_lt h0 h1, zI_le h1 h0, zI_le h0 h1, ge_iff_le, gt_iff_lt] at q; omega
      · simp only [zI_eq h1 h0, zI_lt h1 h0, zI_lt h0 h1, zI_le h1 h0, zI_le h0 h1, ge_iff_le, gt_iff_lt] at q; omega
  case tableswitch d lo hi offs =>
    obtain ⟨z, r, rfl, h1, h2, h3, h4⟩ := popI_inv h
    intro H locs ls hP hD hS hl hL hsc
    by_cases hz : z < lo ∨ hi < z
    · obtain ⟨t, e1, e2⟩ := goJ (h3 hz)
      exact lv_tableOut hx hb hd (by rw [zI_toInt h1]; exact hz) e1 (e2 H locs ls hP hD hS hl hL hsc)
    · obtain ⟨o, g1, g2⟩ := sw_inv _ _ h4 (by omega) (by simp; omega)
      obtain ⟨t, e1, e2⟩ := goJ g2
      refine lv_tableIn hx hb hd (by rw [zI_toInt h1]; omega) (by rw [zI_toInt h1]; omega) (off := o) ?_ e1 (e2 H locs ls hP hD hS hl hL hsc)
      rw [zI_toInt h1, ← Array.getElem?_toList]
      exact g1
  case ireturn =>
    have hn : n = 1 := by simpa [isSw, ilen] using hn
    subst hn
    obtain ⟨z, r, rfl, h1, h2, h3⟩ := popI_inv h
    subst h1
    exact hrI _ _ _ _ hd h2 h3
  case lreturn =>
    have hn : n = 1 := by simpa [isSw, ilen] using hn
    subst hn
    obtain ⟨z, r, rfl, h1, h2, h3⟩ := popL_inv h
    subst h1
    exact hrL _ _ _ _ hd h2 h3
  case return_ =>
    have hn : n = 1 := by simpa [isSw, ilen] using hn
    subst hn
    obtain ⟨h1, h2, h3⟩ := h
    subst h1
    exact hrV _ _ _ hd h2 h3
  case invokestatic x =>
    have hn : n = 3 := by simpa [isSw, ilen] using hn
    subst hn
    obtain ⟨g, h1, hq⟩ := lk1_inv h
    split at hq
    · next hg =>
      obtain ⟨n, r, rfl, hq1⟩ := popI_inv hq
      obtain ⟨dp, r, rfl, hq2⟩ := popI_inv hq1
      obtain ⟨d, r, rfl, hq3⟩ := popR_inv hq2
      obtain ⟨sp, r, rfl, hq4⟩ := popI_inv hq3
      obtain ⟨q, r, rfl, hq5⟩ := popR_inv hq4
      obtain ⟨nq, k1, hq6⟩ := aF_inv hq5
      obtain ⟨nd, k2, k3, k4, k5, k6, k7, k8, k9⟩ := aF_inv hq6
      have g1 := (hΓ _ h1).resolve_right (fun q => q.1 hg)
      intro H locs ls hP hD hS hl hL hsc
      have l1 := SH_le k1
      have l2 := SH_le k2
      have i0 := zI_0le (x := n) (by unfold rI; omega)
      refine va_copyi hx hb (by rw [hml, hl.1]) hown (hts _ g1.2.1) (hts _ tbl_native.1) (hts _ tbl_native.2.1) (hts _ tbl_native.2.2) hK hP hD hS q d 0 0 (wsOf_get k1) (wsOf_get k2) (ty := .int) rfl rfl rfl (by rw [zI_lt0 (by unfold rI; omega)]; omega) (by rw [zI_lt0 (by unfold rI; omega)]; omega) (by rw [zI_lt0 (by unfold rI; omega)]; omega) (by rw [zI_clamp k6 (by omega), zI_clamp k4 (by omega)]; omega) (by rw [zI_clamp k5 (by omega), zI_clamp k4 (by omega)]; omega) (fun _ _ => rfl) g1.2.2.1 ?_ hd (fun H1 locs1 hP1 hD1 hS1 => ?_)
      · rw [catS_eq]
        have := g1.2.2.2
        have e : nativeFrameWords "java/lang/System" "arraycopy" 5 = 7 := by decide +kernel
        omega
      · rw [zI_clamp k6 (by omega), zI_clamp k5 (by omega), zI_clamp k4 (by omega), ← cpy_I] at hP1 hD1
        have ew := wsOf_set (cA := cA) (a := a) (σ := σ) (f := va_cpy (σ q) (σ d) sp.toNat dp.toNat n.toNat) k2 rfl
        have hP1 : va_P D CL (wsOf cA a (updR σ d (va_cpy (σ q) (σ d) sp.toNat dp.toNat n.toNat))) H1 := by rw [← ew]; exact hP1
        have hD1 : va_D A (wsOf cA a (updR σ d (va_cpy (σ q) (σ d) sp.toNat dp.toNat n.toNat))) := by rw [← ew]; exact hD1
        exact hk _ _ _ k9 H1 locs1 ls hP1 hD1 hS1 hl hL (Scr_upd hsc k2)
    · next hg =>
      obtain ⟨bs, r, rfl, hn, h0, h2, h3⟩ := popN_inv _ _ _ _ hq
      rw [List.append_nil] at h3
      obtain ⟨-, y, bytes, maxL, ret, lv, k1, k2, k3, k4, k5, k6, k7⟩ := (hΓ _ h1).resolve_left (fun q => hg q.1)
      have k7 := k7.resolve_right (fun q => by have := q.1; dsimp only at this; omega)
      intro H locs ls hP hD hS hl hL hsc
      have hrun := va_runS (l := l) (p := p) (e := e) (R := R) (below := below) (meth := meth) (H := H) (locs := locs) (cells := cells) (slots := slots) (g := F0 m pc ls ((bs.reverse ++ r).map (conc a))) (As := bs.map (conc a)) (rest := r.map (conc a)) (Ts := TG) ⟨hx, hb, hml, hown, hts⟩ (k1 D cA a H.size σ bs _ h3)
        ⟨callB_of (own := own) (index := x) g.2.1 hts (fun w hw => (List.mem_cons.mp hw).elim (fun q => q ▸ ⟨k4, tg_good _ k4⟩) (fun q => ⟨q, tg_good _ q⟩)) rfl rfl rfl (hts _ k5) (hts _ k3) k6 k2, hts _ k7.2⟩
        ⟨fun _ U g mk q => ⟨q.1, q.2.1, q.2.2.1, va_K.moved (u := U) (U := U.calling g mk _) (Vm.Alike.refl U.vm) q.2.2.2.1, q.2.2.2.2⟩,  fun U hU hW => ⟨by simp [conc], by rw [hU], by rw [hU]; exact hP, va_K.moved hW.alike hK, ⟨hD.1, fun _ _ _ => trivial⟩⟩⟩
        rfl (by rw [List.length_map]; exact hn) hl.1 (by simp) (by rw [catS_eq]; show 2 * 0 + _ ≤ 8; omega) hd hcs
      have hA1 := ws_A hD hS hA
      refine aq_call hrun hS (fun q _ h9 => hA1 q h9) hA1 (fun r' u H1 locs1 hq hP1 hD1 hS1 => ?_)
      have g := hk _ _ _ hq.2 H1 locs1 ls hP1 (hD1.weaken (fun _ q _ h9 => hA1 q.1 h9)) hS1 hl hL (fun z => by rw [(hq.1 z).1, (hq.1 z).2]; exact hsc z)
      cases r' with
      | none => exact g
      | some v => exact g
  case invokevirtual x =>
    have hn : n = 3 := by simpa [isSw, ilen] using hn
    subst hn
    obtain ⟨g, h1, hq⟩ := lk1_inv h
    obtain ⟨bs, r, rfl, hn, hq⟩ := popN_inv _ _ _ _ hq
    rw [List.append_nil] at hq
    obtain ⟨i, r, rfl, h0, h01, h2, h3⟩ := popR_inv hq
    obtain ⟨fs, hsh⟩ := oC_inv h01
    have hg : g.1 ≠ 1000 := by
      intro q
      rw [q] at hsh
      have := (by decide +kernel : SH.all (fun x => match x with | .inl (c, _) => decide (c < 10) | _ => true) = true)
      have := List.all_eq_true.mp this _ (List.mem_of_getElem? hsh)
      simp at this
    obtain ⟨-, y, bytes, maxL, ret, lv, k1, k2, k3, k4, k5, k6, k7⟩ := (hΓ _ h1).resolve_left (fun q => hg q.1)
    obtain ⟨-, k7, k8, T, N, k9⟩ := k7.resolve_left (fun q => by have := q.1; dsimp only at this; omega)
    intro H locs ls hP hD hS hl hL hsc
    have hrecv : ∃ cellB : Cell, H[a i]? = some cellB ∧ cellB.vm.isStatics = false ∧ s.vm.findClass y.cls = some cellB.cls := by
      obtain ⟨r9, e1, cell, q1, q2, q3, q4⟩ := hP i _ (wsOf_get hsh)
      have hr9 : r9 = (y.cls, T, N) := Option.some.inj (e1.symm.trans k9)
      subst hr9
      obtain ⟨hS9, hfc, kC, hkC, hkind⟩ := hK.1 _ _ k9
      exact ⟨cell, q1, by rw [q3]; rfl, by rw [q2]; exact hfc⟩
    have hrun := va_runV (l := l) (p := p) (e := e) (R := R) (below := below) (meth := meth) (H := H) (locs := locs) (cells := cells) (slots := slots) (g := F0 m pc ls ((bs.reverse ++ .inr (.inr (some i)) :: r).map (conc a))) (b := a i) (C := y.cls) (As := bs.map (conc a)) (rest := r.map (conc a)) (Ts := TG) ⟨hx, hb, hml, hown, hts⟩ (k1 D cA a H.size σ _ _ h3)
      ⟨callB_of (own := own) (index := x) g.2.1 hts (fun w hw => (List.mem_cons.mp hw).elim (fun q => q ▸ ⟨k4, tg_good _ k4⟩) (fun q => ⟨q, tg_good _ q⟩)) rfl rfl rfl (hts _ k5) (hts _ k3) k6 k2, hts _ k7, hts _ k8⟩
      ⟨fun _ U g mk q => ⟨q.1, q.2.1, q.2.2.1, va_K.moved (u := U) (U := U.calling g mk _) (Vm.Alike.refl U.vm) q.2.2.2.1, q.2.2.2.2⟩, hrecv, fun U hU hW => ⟨by simp [conc], by rw [hU], by rw [hU]; exact hP, va_K.moved hW.alike hK, ⟨hD.1, fun _ _ _ => trivial⟩⟩⟩
      rfl (by rw [List.length_map]; exact hn) hl.1 (by simp [conc]) (by rw [catS_eq]; show 2 * 0 + _ ≤ 8; omega) hd hcs
    have hA1 := ws_A hD hS hA
    refine aq_call hrun hS (fun q _ h9 => hA1 q h9) hA1 (fun r' u H1 locs1 hq hP1 hD1 hS1 => ?_)
    have g := hk _ _ _ hq.2 H1 locs1 ls hP1 (hD1.weaken (fun _ q _ h9 => hA1 q.1 h9)) hS1 hl hL (fun z => by rw [(hq.1 z).1, (hq.1 z).2]; exact hsc z)
    cases r' with
    | none => exact g
    | some v => exact g
  all_goals exact h.elim
end SOUND2
end
section
/-! blocks, cuts, a method's meaning out of its conditions -/
def ltM (x y : M3) : Prop := x.1 < y.1 ∨ (x.1 = y.1 ∧ (x.2.1 < y.2.1 ∨ (x.2.1 = y.2.1 ∧ x.2.2 < y.2.2)))
theorem ltM_ind {P : M3 → Prop} (h : ∀ μ, (∀ ν, ltM ν μ → P ν) → P μ) : ∀ μ, P μ := by
  have key : ∀ (a b c : Nat), P (a, b, c) := by
    intro a
    induction a using Nat.strongRecOn with
    | _ a iha =>
      intro b
      induction b using Nat.strongRecOn with
      | _ b ihb =>
        intro c
        induction c using Nat.strongRecOn with
        | _ c ihc =>
          refine h _ fun ν hν => ?_
          obtain ⟨x, y, z⟩ := ν
          rcases hν with h1 | ⟨h1, h2 | ⟨h2, h3⟩⟩
          · exact iha x h1 y z
          · have h1 : x = a := h1
            subst h1
            exact ihb y h2 z
          · have h1 : x = a := h1
            have h2 : y = b := h2
            subst h1
            subst h2
            exact ihc z h3
  exact fun μ => key μ.1 μ.2.1 μ.2.2
def ltO (x : M3) (y : Option M3) : Prop := match y with
  | some y => ltM x y
  | none => True
abbrev Cuts : Type := List (Nat × (List AV → List AV → St → M3 → Prop))
def atC (cuts : Cuts) (μ : Option M3) (pc : Nat) (L st : List AV) (σ : St) (k : Prop) : Prop := match lk cuts pc with
  | some I => ∃ μ', ltO μ' μ ∧ I L st σ μ'
  | none => k
def wpN (sc : Prop) (Φ : List (Nat × Nat × Nat)) (κ : List (Nat × Int)) (Γ : List (Nat × Nat × Nat × Spec)) (rt : Nat) (Q : Option AV → St → Prop) (prog : List (Nat × List Instr)) (cuts : Cuts) (μ : Option M3) : Nat → Nat → List AV → List AV → St → Prop
  | 0, _, _, _, _ => False
  | n + 1, pc, L, st, σ => lk1 prog pc fun blk => wpB sc Φ κ Γ rt Q (fun pc L st σ => atC cuts μ pc L st σ (wpN sc Φ κ Γ rt Q prog cuts μ n pc L st σ)) pc blk L st σ
def jmp (sc : Prop) (Φ : List (Nat × Nat × Nat)) (κ : List (Nat × Int)) (Γ : List (Nat × Nat × Nat × Spec)) (rt : Nat) (Q : Option AV → St → Prop) (prog : List (Nat × List Instr)) (cuts : Cuts) (μ : Option M3) (n pc : Nat) (L st : List AV) (σ : St) : Prop := atC cuts μ pc L st σ (wpN sc Φ κ Γ rt Q prog cuts μ n pc L st σ)
theorem wpN_go (sc : Prop) (Φ : List (Nat × Nat × Nat)) (κ : List (Nat × Int)) (Γ : List (Nat × Nat × Nat × Spec)) (rt : Nat) (Q : Option AV → St → Prop) (prog : List (Nat × List Instr)) (cuts : Cuts) (μ : Option M3) (n pc : Nat) (L st : List AV) (σ : St) : wpN sc Φ κ Γ rt Q prog cuts μ (n + 1) pc L st σ = lk1 prog pc fun blk => wpB sc Φ κ Γ rt Q (jmp sc Φ κ Γ rt Q prog cuts μ n) pc blk L st σ := (rfl)
section LOOP
variable {p : Program} {l : Launch} {e : Env} {R : Room} {s : State} {m : MethodId} {args : Array Value} {below : List Frame} {meth : Method} {c : Code} {cells slots : Nat} {Qf : State → Prop} {cc : ByteArray} {D : va_G} {cA : Nat → ClassId} {a : Nat → Nat} {A : Nat → Prop} {H0 : Heap} {own : String} {nL : Nat} {sc : Prop}
theorem wp_ok (hx : p.tables.exec = Jvm.exec) (hb : c.code = cc) (hml : c.maxLocals = nL) (hown : s.vm.findClass own = some m.cls) (hts : ∀ w ∈ TG, w.before args s = true) (hK : va_K D CL (tysOf cA) s) (hA : ∀ q, H0.size ≤ q → A q) (hcs : cells ≤ R.cells ∧ slots ≤ R.slots)
    {Φ : List (Nat × Nat × Nat)} {κ : List (Nat × Int)} {Γ : List (Nat × Nat × Nat × Spec)} {rt : Nat} {Q : Option AV → St → Prop} (hΦ : ∀ q ∈ Φ, FieldOK own q) (hκ : ∀ q ∈ κ, ConstOK own q) (hΓ : ∀ g ∈ Γ, CalleeOK l own R g)
    (hrI : ∀ pc L z σ, decode cc pc = .ok (.ireturn, 1) → (rt = 1 ∨ (rt = 3 ∧ (z = 0 ∨ z = 1))) → Q (some (.inl z)) σ → Good p l e R s m args below meth c cells slots Qf D cA a A H0 nL sc pc L [.inl z] σ)
    (hrL : ∀ pc L z σ, decode cc pc = .ok (.lreturn, 1) → rt = 2 → Q (some (.inr (.inl z))) σ → Good p l e R s m args below meth c cells slots Qf D cA a A H0 nL sc pc L [.inr (.inl z)] σ)
    (hrV : ∀ pc L σ, decode cc pc = .ok (.return_, 1) → rt = 0 → Q none σ → Good p l e R s m args below meth c cells slots Qf D cA a A H0 nL sc pc L [] σ)
    {J : Nat → List AV → List AV → St → Prop} (hJ : ∀ pc L st σ, J pc L st σ → Good p l e R s m args below meth c cells slots Qf D cA a A H0 nL sc pc L st σ) :
    ∀ (blk : List Instr) (pc : Nat) (L st : List AV) (σ : St), okB cc pc blk = true → wpB sc Φ κ Γ rt Q J pc blk L st σ → Good p l e R s m args below meth c cells slots Qf D cA a A H0 nL sc pc L st σ
  | [], pc, L, st, σ, _, h => hJ _ _ _ _ h
  | o :: r, pc, L, st, σ, ho, h => by
    unfold okB at ho
    rw [Bool.and_eq_true] at ho
    obtain ⟨h1, h2⟩ := ho
    split at h1
    · next i n hd =>
      rw [Bool.and_eq_true, decide_eq_true_eq] at h1
      obtain ⟨rfl, h3⟩ := h1
      have h3 : isSw i = true ∨ n = ilen i := by simpa using h3
      exact stp_ok hx hb hml hown hts hK hA hcs hΦ hκ hΓ hrI hrL hrV hJ (fun L st σ hk => wp_ok hx hb hml hown hts hK hA hcs hΦ hκ hΓ hrI hrL hrV hJ r _ L st σ h2 hk) hd h3 h
    · cases h1
theorem wpN_ok (hx : p.tables.exec = Jvm.exec) (hb : c.code = cc) (hml : c.maxLocals = nL) (hown : s.vm.findClass own = some m.cls) (hts : ∀ w ∈ TG, w.before args s = true) (hK : va_K D CL (tysOf cA) s) (hA : ∀ q, H0.size ≤ q → A q) (hcs : cells ≤ R.cells ∧ slots ≤ R.slots)
    {Φ : List (Nat × Nat × Nat)} {κ : List (Nat × Int)} {Γ : List (Nat × Nat × Nat × Spec)} {rt : Nat} {Q : Option AV → St → Prop} (hΦ : ∀ q ∈ Φ, FieldOK own q) (hκ : ∀ q ∈ κ, ConstOK own q) (hΓ : ∀ g ∈ Γ, CalleeOK l own R g)
    (hrI : ∀ pc L z σ, decode cc pc = .ok (.ireturn, 1) → (rt = 1 ∨ (rt = 3 ∧ (z = 0 ∨ z = 1))) → Q (some (.inl z)) σ → Good p l e R s m args below meth c cells slots Qf D cA a A H0 nL sc pc L [.inl z] σ)
    (hrL : ∀ pc L z σ, decode cc pc = .ok (.lreturn, 1) → rt = 2 → Q (some (.inr (.inl z))) σ → Good p l e R s m args below meth c cells slots Qf D cA a A H0 nL sc pc L [.inr (.inl z)] σ)
    (hrV : ∀ pc L σ, decode cc pc = .ok (.return_, 1) → rt = 0 → Q none σ → Good p l e R s m args below meth c cells slots Qf D cA a A H0 nL sc pc L [] σ)
    {prog : List (Nat × List Instr)} (hp : ∀ q ∈ prog, okB cc q.1 q.2 = true) {cuts : Cuts} {μ : Option M3}
    (hc : ∀ q ∈ cuts, ∀ L st σ ν, ltO ν μ → q.2 L st σ ν → Good p l e R s m args below meth c cells slots Qf D cA a A H0 nL sc q.1 L st σ) :
    ∀ (n pc : Nat) (L st : List AV) (σ : St), wpN sc Φ κ Γ rt Q prog cuts μ n pc L st σ → Good p l e R s m args below meth c cells slots Qf D cA a A H0 nL sc pc L st σ
  | 0, _, _, _, _, h => h.elim
  | n + 1, pc, L, st, σ, h => by
    obtain ⟨blk, h1, h2⟩ := lk1_inv h
    refine wp_ok hx hb hml hown hts hK hA hcs hΦ hκ hΓ hrI hrL hrV (fun pc L st σ hj => ?_) blk pc L st σ (hp _ h1) h2
    unfold atC at hj
    split at hj
    · next I hI =>
      obtain ⟨ν, h3, h4⟩ := hj
      exact hc _ (lk_mem hI) L st σ ν h3 h4
    · exact wpN_ok hx hb hml hown hts hK hA hcs hΦ hκ hΓ hrI hrL hrV hp hc n pc L st σ hj
theorem cut_ok (hx : p.tables.exec = Jvm.exec) (hb : c.code = cc) (hml : c.maxLocals = nL) (hown : s.vm.findClass own = some m.cls) (hts : ∀ w ∈ TG, w.before args s = true) (hK : va_K D CL (tysOf cA) s) (hA : ∀ q, H0.size ≤ q → A q) (hcs : cells ≤ R.cells ∧ slots ≤ R.slots)
    {Φ : List (Nat × Nat × Nat)} {κ : List (Nat × Int)} {Γ : List (Nat × Nat × Nat × Spec)} {rt : Nat} {Q : Option AV → St → Prop} (hΦ : ∀ q ∈ Φ, FieldOK own q) (hκ : ∀ q ∈ κ, ConstOK own q) (hΓ : ∀ g ∈ Γ, CalleeOK l own R g)
    (hrI : ∀ pc L z σ, decode cc pc = .ok (.ireturn, 1) → (rt = 1 ∨ (rt = 3 ∧ (z = 0 ∨ z = 1))) → Q (some (.inl z)) σ → Good p l e R s m args below meth c cells slots Qf D cA a A H0 nL sc pc L [.inl z] σ)
    (hrL : ∀ pc L z σ, decode cc pc = .ok (.lreturn, 1) → rt = 2 → Q (some (.inr (.inl z))) σ → Good p l e R s m args below meth c cells slots Qf D cA a A H0 nL sc pc L [.inr (.inl z)] σ)
    (hrV : ∀ pc L σ, decode cc pc = .ok (.return_, 1) → rt = 0 → Q none σ → Good p l e R s m args below meth c cells slots Qf D cA a A H0 nL sc pc L [] σ)
    {prog : List (Nat × List Instr)} (hp : ∀ q ∈ prog, okB cc q.1 q.2 = true) {cuts : Cuts} {n : Nat}
    (hc : ∀ q ∈ cuts, ∀ L st σ ν, q.2 L st σ ν → wpN sc Φ κ Γ rt Q prog cuts (some ν) n q.1 L st σ) :
    ∀ ν, ∀ q ∈ cuts, ∀ L st σ, q.2 L st σ ν → Good p l e R s m args below meth c cells slots Qf D cA a A H0 nL sc q.1 L st σ := by
  refine ltM_ind fun ν ih q hq L st σ h => ?_
  exact wpN_ok hx hb hml hown hts hK hA hcs hΦ hκ hΓ hrI hrL hrV hp (μ := some ν) (fun q' hq' L st σ ν' h1 h2 => ih ν' h1 q' hq' L st σ h2) n _ L st σ (hc q hq L st σ ν h)
end LOOP
def entL (maxL : Nat) (as : List AV) : List AV := ent as ++ List.replicate (maxL - (ent as).length) (.inr (.inr none))
theorem ent_len (a : Nat → Nat) : ∀ as : List AV, (lg_sl (as.map (conc a))).length = (ent as).length
  | [] => rfl
  | v :: r => by
    have ih := ent_len a r
    unfold lg_sl at ih ⊢
    rw [List.map_cons, List.flatMap_cons, List.length_append, ih, conc_cat, ent]
    by_cases hv : isLong v = true
    · rw [if_pos hv, if_pos rfl, if_pos hv]
      simp only [List.length_cons, List.length_nil]
      omega
    · rw [if_neg hv, if_neg (by decide), if_neg hv]
      simp only [List.length_cons, List.length_nil]
      omega
theorem met_ofWF {l : Launch} {y : MethodName} {ws ws' : List Jvm.Cond} {rm : Room} {Pc : Array Value → State → Prop} {Qc : Array Value → State → Outcome → State → Prop} {mc ms : Nat} {free : Addr → Prop} {cc : ByteArray} {maxL : Nat} {ret : Option FieldType}
    (hy : plainFor y = true) (hw : ws = Jvm.Cond.code y cc maxL ret :: ws')
    (body : ∀ p e s m args below meth c s₁, BodyLoose p l y (headSpec ws rm) cc maxL ret e s m args below meth c s₁ → c.maxLocals = maxL → Pc args s →
      W p l e (headSpec ws rm).room s m args below meth c s.heap [] 0 0 (MQ below Qc args s mc ms free) (entryFrame m args maxL)) : Met l y ws rm Pc Qc mc ms free := by
  refine MetFree.of_bodySF (code := cc) (maxLocals := maxL) (ret := ret) hy ?_ ?_
  · intro args s m h hn
    obtain ⟨meth, c, h1, h2, h3, h4, h5, h6, -, -⟩ := Cond.code_spec hn (atoms_spec (ws := ws) h _ (by rw [hw]; exact List.mem_cons_self))
    exact ⟨meth, c, h1, h2, h3, h4, h5, h6⟩
  · intro p e s m args below meth c s₁ B hml hP _
    have hh0 : s₁.heap = s.heap := by rw [B.state]; rfl
    obtain ⟨t, a1, o, b1, b2, b3⟩ := body p e s m args below meth c s₁ B hml hP s₁ hh0 (Stand.of_body B)
    exact ⟨t, o, a1, b1, b2, ⟨b3.1, b3.2⟩⟩
set_option maxHeartbeats 1000000 in
theorem sat_of {l : Launch} {y : MethodName} {bytes : ByteArray} {maxL : Nat} {ret : Option FieldType} {lv : Nat} {S : Spec} (hy : plainFor y = true)
    {Φ : List (Nat × Nat × Nat)} {κ : List (Nat × Int)} {Γ : List (Nat × Nat × Nat × Spec)} {rt : Nat} (hΦ : ∀ q ∈ Φ, FieldOK y.cls q) (hκ : ∀ q ∈ κ, ConstOK y.cls q) (hΓ : ∀ g ∈ Γ, CalleeOK l y.cls (rmOf lv) g)
    (hrt : (rt = 0 ∧ ret = none) ∨ (rt = 1 ∧ ret = some .int) ∨ (rt = 2 ∧ ret = some .long) ∨ (rt = 3 ∧ ret = some .boolean))
    {prog : List (Nat × List Instr)} (hp : ∀ q ∈ prog, okB bytes q.1 q.2 = true)
    (vc : ∀ as σ Q, S as σ Q → (ent as).length ≤ maxL ∧ ∃ (cuts : Cuts) (n : Nat), wpN False Φ κ Γ rt Q prog cuts none n 0 (entL maxL as) [] σ ∧ ∀ q ∈ cuts, ∀ L st σ ν, q.2 L st σ ν → wpN False Φ κ Γ rt Q prog cuts (some ν) n q.1 L st σ) :
    Sat l y bytes maxL ret lv S := by
  intro D cA a sz σ as Q hS0
  obtain ⟨hlen, cuts, n, h0, hc⟩ := vc as σ Q hS0
  refine met_ofWF (cc := bytes) (maxL := maxL) (ret := ret) hy rfl ?_
  intro p e s m args below meth c s₁ B hml hv
  obtain ⟨rfl, hsz, hP, hK, hD0⟩ := hv
  have hx := B.exec
  have hb := B.bytes
  have hr := B.returns
  have hts := atoms_spec (ws := Jvm.Cond.code y bytes maxL ret :: TG) B.pre
  have hown : s.vm.findClass y.cls = some m.cls := findClass_of_methodNamed B.named
  have hlocks := B.notSynchronized
  subst hsz
  have hD := hD0.self (sz := s.heap.size)
  generalize hAe : va_A (wsOf cA a σ) s.heap.size = A at hD ⊢
  have hA : ∀ q : Nat, s.heap.size ≤ q → A q := fun q h => by rw [← hAe]; exact Or.inr h
  have hS : va_S A s.heap s.heap [] := va_S.rf
  have hl0 := lv_entry (as.map (conc a)) (n := maxL) (by rw [ent_len]; exact hlen)
  rw [lg_entry_eq]
  generalize (lg_sl (as.map (conc a)) ++ List.replicate (maxL - (lg_sl (as.map (conc a))).length) Slot.unset).toArray = ls at hl0 ⊢
  have hl : lv_has ls maxL (lvl a 0 (entL maxL as)) := ⟨hl0.1, hl0.2.1, fun q hq => hl0.2.2 q (lvl_ent a _ as 0 q hq)⟩
  have hL : (entL maxL as).length = maxL := by
    unfold entL
    rw [List.length_append, List.length_replicate]
    omega
  have hts' : ∀ w ∈ TG, w.before (as.map (conc a)).toArray s = true := fun w hw => hts w (List.mem_cons_of_mem _ hw)
  have rI' : ∀ pc L z u, decode bytes pc = .ok (.ireturn, 1) → (rt = 1 ∨ (rt = 3 ∧ (z = 0 ∨ z = 1))) → Q (some (.inl z)) u → Good p l e (rmOf lv) s m (as.map (conc a)).toArray below meth c 0 0 (MQ below (aQ D cA a Q A) (as.map (conc a)).toArray s 0 0 A) D cA a A s.heap maxL False pc L [.inl z] u := by
    intro pc L z u hd hk hq H locs ls hP hD hS hl hL _
    have post : ∀ t : State, t.heap = H → s.WarmedH t.vm → aQ D cA a Q A (as.map (conc a)).toArray s (.returned (some (.int (Int32.ofInt z)))) t := fun t ht hW => ⟨⟨some (.inl z), u, rfl, hq, by rw [ht]; exact hP, va_K.moved hW.alike hK, hD⟩, hS.F ht⟩
    rcases hk with hk | ⟨hk, hz⟩
    · have hret : ret = some .int := by rcases hrt with ⟨h1, h2⟩ | ⟨h1, h2⟩ | ⟨h1, h2⟩ | ⟨h1, h2⟩ <;> first | exact h2 | omega
      exact W.iret hx hb (hr.trans hret) post hS.2.2 hd
    · have hret : ret = some .boolean := by rcases hrt with ⟨h1, h2⟩ | ⟨h1, h2⟩ | ⟨h1, h2⟩ | ⟨h1, h2⟩ <;> first | exact h2 | omega
      exact W.zret hx hb (hr.trans hret) (zI_zbit hz) post hS.2.2 hd
  have rL' : ∀ pc L z u, decode bytes pc = .ok (.lreturn, 1) → rt = 2 → Q (some (.inr (.inl z))) u → Good p l e (rmOf lv) s m (as.map (conc a)).toArray below meth c 0 0 (MQ below (aQ D cA a Q A) (as.map (conc a)).toArray s 0 0 A) D cA a A s.heap maxL False pc L [.inr (.inl z)] u := by
    intro pc L z u hd hk hq H locs ls hP hD hS hl hL _
    have hret : ret = some .long := by rcases hrt with ⟨h1, h2⟩ | ⟨h1, h2⟩ | ⟨h1, h2⟩ | ⟨h1, h2⟩ <;> first | exact h2 | omega
    exact W.lret hx hb (hr.trans hret) (fun t ht hW => ⟨⟨some (.inr (.inl z)), u, rfl, hq, by rw [ht]; exact hP, va_K.moved hW.alike hK, hD⟩, hS.F ht⟩) hS.2.2 hd
  have rV' : ∀ pc L u, decode bytes pc = .ok (.return_, 1) → rt = 0 → Q none u → Good p l e (rmOf lv) s m (as.map (conc a)).toArray below meth c 0 0 (MQ below (aQ D cA a Q A) (as.map (conc a)).toArray s 0 0 A) D cA a A s.heap maxL False pc L [] u := by
    intro pc L u hd hk hq H locs ls hP hD hS hl hL _
    have hret : ret = none := by rcases hrt with ⟨h1, h2⟩ | ⟨h1, h2⟩ | ⟨h1, h2⟩ | ⟨h1, h2⟩ <;> first | exact h2 | omega
    exact W.vret hx hb (hr.trans hret) (fun t ht hW => ⟨⟨none, u, rfl, hq, by rw [ht]; exact hP, va_K.moved hW.alike hK, hD⟩, hS.F ht⟩) hS.2.2 hd
  have hcut := cut_ok (l := l) (e := e) (R := rmOf lv) (below := below) (meth := meth) (cells := 0) (slots := 0) (nL := maxL) (sc := False) hx hb hml hown hts' hK hA ⟨Nat.zero_le _, Nat.zero_le _⟩ hΦ hκ hΓ rI' rL' rV' hp hc
  exact wpN_ok hx hb hml hown hts' hK hA ⟨Nat.zero_le _, Nat.zero_le _⟩ hΦ hκ hΓ rI' rL' rV' hp (μ := none) (fun q hq L st σ ν _ h => hcut ν q hq L st σ h) n 0 _ [] σ h0 s.heap [] ls hP hD hS hl hL (fun z => z.elim)
end
section
/-! names, blocks of code, their checks (by program) -/
abbrev R_JA : String := "java/util/Arrays"
abbrev R_JM : String := "java/lang/Math"
abbrev R_JI : String := "java/lang/Integer"
abbrev R_JL : String := "java/lang/Long"
abbrev b_B_tellRuns : ByteArray := prog_2_method_2_code
abbrev y_B_tellRuns : MethodName := ⟨RX0, "tellRuns", "(II)V"⟩
def k_B_tellRuns_0 : List Instr := [.aload_n 0, .iload_n 1, .putfield 22, .aload_n 0, .iload_n 2, .putfield 25, .return_]
def g_B_tellRuns : List (Nat × List Instr) := [(0, k_B_tellRuns_0)]
theorem o_B_tellRuns : ∀ q ∈ g_B_tellRuns, okB b_B_tellRuns q.1 q.2 = true := List.all_eq_true.mp (by decide +kernel : g_B_tellRuns.all (fun q => okB b_B_tellRuns q.1 q.2) = true)
theorem j_B_tellRuns_0 (f : List Instr → Prop) : lk1 g_B_tellRuns 0 f = f [.aload_n 0, .iload_n 1, .putfield 22, .aload_n 0, .iload_n 2, .putfield 25, .return_] := (rfl)
abbrev b_B_addWord : ByteArray := prog_2_method_3_code
abbrev y_B_addWord : MethodName := ⟨RX0, "addWord", "(II)I"⟩
def k_B_addWord_0 : List Instr := [.aload_n 0, .getfield 18, .iconst 4, .if_icmp .lt 6, .bipush (-4), .ireturn]
def k_B_addWord_11 : List Instr := [.aload_n 0, .getfield 11, .aload_n 0, .getfield 18, .iload_n 1, .iastore, .aload_n 0, .getfield 15, .aload_n 0, .getfield 18, .iload_n 2, .iastore, .aload_n 0, .dup, .getfield 18, .iconst 1, .iadd, .putfield 18, .aload_n 0, .getfield 18, .ireturn]
def g_B_addWord : List (Nat × List Instr) := [(0, k_B_addWord_0), (11, k_B_addWord_11)]
theorem o_B_addWord : ∀ q ∈ g_B_addWord, okB b_B_addWord q.1 q.2 = true := List.all_eq_true.mp (by decide +kernel : g_B_addWord.all (fun q => okB b_B_addWord q.1 q.2) = true)
theorem j_B_addWord_0 (f : List Instr → Prop) : lk1 g_B_addWord 0 f = f [.aload_n 0, .getfield 18, .iconst 4, .if_icmp .lt 6, .bipush (-4), .ireturn] := (rfl)
theorem j_B_addWord_11 (f : List Instr → Prop) : lk1 g_B_addWord 11 f = f [.aload_n 0, .getfield 11, .aload_n 0, .getfield 18, .iload_n 1, .iastore, .aload_n 0, .getfield 15, .aload_n 0, .getfield 18, .iload_n 2, .iastore, .aload_n 0, .dup, .getfield 18, .iconst 1, .iadd, .putfield 18, .aload_n 0, .getfield 18, .ireturn] := (rfl)
abbrev b_B_dropWords : ByteArray := prog_2_method_4_code
abbrev y_B_dropWords : MethodName := ⟨RX0, "dropWords", "()I"⟩
def k_B_dropWords_0 : List Instr := [.aload_n 0, .getfield 18, .istore_n 1, .aload_n 0, .iconst 0, .putfield 18, .iload_n 1, .ireturn]
def g_B_dropWords : List (Nat × List Instr) := [(0, k_B_dropWords_0)]
theorem o_B_dropWords : ∀ q ∈ g_B_dropWords, okB b_B_dropWords q.1 q.2 = true := List.all_eq_true.mp (by decide +kernel : g_B_dropWords.all (fun q => okB b_B_dropWords q.1 q.2) = true)
theorem j_B_dropWords_0 (f : List Instr → Prop) : lk1 g_B_dropWords 0 f = f [.aload_n 0, .getfield 18, .istore_n 1, .aload_n 0, .iconst 0, .putfield 18, .iload_n 1, .ireturn] := (rfl)
abbrev b_B_tellLean : ByteArray := prog_2_method_5_code
abbrev y_B_tellLean : MethodName := ⟨RX0, "tellLean", "(I)V"⟩
def k_B_tellLean_0 : List Instr := [.aload_n 0, .iload_n 1, .putfield 28, .return_]
def g_B_tellLean : List (Nat × List Instr) := [(0, k_B_tellLean_0)]
theorem o_B_tellLean : ∀ q ∈ g_B_tellLean, okB b_B_tellLean q.1 q.2 = true := List.all_eq_true.mp (by decide +kernel : g_B_tellLean.all (fun q => okB b_B_tellLean q.1 q.2) = true)
theorem j_B_tellLean_0 (f : List Instr → Prop) : lk1 g_B_tellLean 0 f = f [.aload_n 0, .iload_n 1, .putfield 28, .return_] := (rfl)
abbrev b_B_told : ByteArray := prog_2_method_6_code
abbrev y_B_told : MethodName := ⟨RX0, "told", "(I)I"⟩
def k_B_told_0 : List Instr := [.iload_n 1, .tableswitch 51 0 3 #[31, 36, 41, 46]]
def k_B_told_32 : List Instr := [.aload_n 0, .getfield 22, .ireturn]
def k_B_told_37 : List Instr := [.aload_n 0, .getfield 25, .ireturn]
def k_B_told_42 : List Instr := [.aload_n 0, .getfield 18, .ireturn]
def k_B_told_47 : List Instr := [.aload_n 0, .getfield 28, .ireturn]
def k_B_told_52 : List Instr := [.aload_n 0, .iload_n 1, .invokevirtual 31, .ireturn]
def g_B_told : List (Nat × List Instr) := [(0, k_B_told_0), (32, k_B_told_32), (37, k_B_told_37), (42, k_B_told_42), (47, k_B_told_47), (52, k_B_told_52)]
theorem o_B_told : ∀ q ∈ g_B_told, okB b_B_told q.1 q.2 = true := List.all_eq_true.mp (by decide +kernel : g_B_told.all (fun q => okB b_B_told q.1 q.2) = true)
theorem j_B_told_0 (f : List Instr → Prop) : lk1 g_B_told 0 f = f [.iload_n 1, .tableswitch 51 0 3 #[31, 36, 41, 46]] := (rfl)
theorem j_B_told_32 (f : List Instr → Prop) : lk1 g_B_told 32 f = f [.aload_n 0, .getfield 22, .ireturn] := (rfl)
theorem j_B_told_37 (f : List Instr → Prop) : lk1 g_B_told 37 f = f [.aload_n 0, .getfield 25, .ireturn] := (rfl)
theorem j_B_told_42 (f : List Instr → Prop) : lk1 g_B_told 42 f = f [.aload_n 0, .getfield 18, .ireturn] := (rfl)
theorem j_B_told_47 (f : List Instr → Prop) : lk1 g_B_told 47 f = f [.aload_n 0, .getfield 28, .ireturn] := (rfl)
theorem j_B_told_52 (f : List Instr → Prop) : lk1 g_B_told 52 f = f [.aload_n 0, .iload_n 1, .invokevirtual 31, .ireturn] := (rfl)
abbrev b_B_toldOfWord : ByteArray := prog_2_method_7_code
abbrev y_B_toldOfWord : MethodName := ⟨RX0, "toldOfWord", "(I)I"⟩
def k_B_toldOfWord_0 : List Instr := [.iconst 0, .istore_n 2]
def k_B_toldOfWord_2 : List Instr := [.iload_n 2, .aload_n 0, .getfield 18, .if_icmp .ge 39, .iload_n 1, .bipush 10, .iload_n 2, .iadd, .if_icmp .ne 10, .aload_n 0, .getfield 11, .iload_n 2, .iaload, .ireturn]
def k_B_toldOfWord_25 : List Instr := [.iload_n 1, .bipush 20, .iload_n 2, .iadd, .if_icmp .ne 10, .aload_n 0, .getfield 15, .iload_n 2, .iaload, .ireturn]
def k_B_toldOfWord_40 : List Instr := [.iinc 2 1, .goto (-41)]
def k_B_toldOfWord_46 : List Instr := [.bipush (-2), .ireturn]
def g_B_toldOfWord : List (Nat × List Instr) := [(0, k_B_toldOfWord_0), (2, k_B_toldOfWord_2), (25, k_B_toldOfWord_25), (40, k_B_toldOfWord_40), (46, k_B_toldOfWord_46)]
theorem o_B_toldOfWord : ∀ q ∈ g_B_toldOfWord, okB b_B_toldOfWord q.1 q.2 = true := List.all_eq_true.mp (by decide +kernel : g_B_toldOfWord.all (fun q => okB b_B_toldOfWord q.1 q.2) = true)
theorem j_B_toldOfWord_0 (f : List Instr → Prop) : lk1 g_B_toldOfWord 0 f = f [.iconst 0, .istore_n 2] := (rfl)
theorem j_B_toldOfWord_2 (f : List Instr → Prop) : lk1 g_B_toldOfWord 2 f = f [.iload_n 2, .aload_n 0, .getfield 18, .if_icmp .ge 39, .iload_n 1, .bipush 10, .iload_n 2, .iadd, .if_icmp .ne 10, .aload_n 0, .getfield 11, .iload_n 2, .iaload, .ireturn] := (rfl)
theorem j_B_toldOfWord_25 (f : List Instr → Prop) : lk1 g_B_toldOfWord 25 f = f [.iload_n 1, .bipush 20, .iload_n 2, .iadd, .if_icmp .ne 10, .aload_n 0, .getfield 15, .iload_n 2, .iaload, .ireturn] := (rfl)
theorem j_B_toldOfWord_40 (f : List Instr → Prop) : lk1 g_B_toldOfWord 40 f = f [.iinc 2 1, .goto (-41)] := (rfl)
theorem j_B_toldOfWord_46 (f : List Instr → Prop) : lk1 g_B_toldOfWord 46 f = f [.bipush (-2), .ireturn] := (rfl)
abbrev b_B_memory : ByteArray := prog_2_method_8_code
abbrev y_B_memory : MethodName := ⟨RX0, "memory", "()I"⟩
def k_B_memory_0 : List Instr := [.aload_n 0, .getfield 25, .iconst 0, .invokestatic 35, .istore_n 1, .iconst 0, .istore_n 2]
def k_B_memory_11 : List Instr := [.iload_n 2, .aload_n 0, .getfield 18, .if_icmp .ge 22, .iload_n 1, .aload_n 0, .getfield 15, .iload_n 2, .iaload, .iconst 1, .isub, .invokestatic 35, .istore_n 1, .iinc 2 1, .goto (-24)]
def k_B_memory_38 : List Instr := [.iload_n 1, .ireturn]
def g_B_memory : List (Nat × List Instr) := [(0, k_B_memory_0), (11, k_B_memory_11), (38, k_B_memory_38)]
theorem o_B_memory : ∀ q ∈ g_B_memory, okB b_B_memory q.1 q.2 = true := List.all_eq_true.mp (by decide +kernel : g_B_memory.all (fun q => okB b_B_memory q.1 q.2) = true)
theorem j_B_memory_0 (f : List Instr → Prop) : lk1 g_B_memory 0 f = f [.aload_n 0, .getfield 25, .iconst 0, .invokestatic 35, .istore_n 1, .iconst 0, .istore_n 2] := (rfl)
theorem j_B_memory_11 (f : List Instr → Prop) : lk1 g_B_memory 11 f = f [.iload_n 2, .aload_n 0, .getfield 18, .if_icmp .ge 22, .iload_n 1, .aload_n 0, .getfield 15, .iload_n 2, .iaload, .iconst 1, .isub, .invokestatic 35, .istore_n 1, .iinc 2 1, .goto (-24)] := (rfl)
theorem j_B_memory_38 (f : List Instr → Prop) : lk1 g_B_memory 38 f = f [.iload_n 1, .ireturn] := (rfl)
abbrev b_B_emptyKey : ByteArray := prog_2_method_9_code
abbrev y_B_emptyKey : MethodName := ⟨RX0, "emptyKey", "()I"⟩
def k_B_emptyKey_0 : List Instr := [.sipush 1281, .ireturn]
def g_B_emptyKey : List (Nat × List Instr) := [(0, k_B_emptyKey_0)]
theorem o_B_emptyKey : ∀ q ∈ g_B_emptyKey, okB b_B_emptyKey q.1 q.2 = true := List.all_eq_true.mp (by decide +kernel : g_B_emptyKey.all (fun q => okB b_B_emptyKey q.1 q.2) = true)
theorem j_B_emptyKey_0 (f : List Instr → Prop) : lk1 g_B_emptyKey 0 f = f [.sipush 1281, .ireturn] := (rfl)
abbrev b_B_keyAfter : ByteArray := prog_2_method_10_code
abbrev y_B_keyAfter : MethodName := ⟨RX0, "keyAfter", "(III)I"⟩
def k_B_keyAfter_0 : List Instr := [.iload_n 1, .sipush 256, .idiv, .iconst 5, .isub, .istore 4, .iload_n 1, .sipush 256, .irem, .istore 5, .aload_n 0, .getfield 28, .iconst (-1), .if_icmp .eq 39, .iload 4, .iload_n 2, .iconst 1, .if_icmp .ne 7, .iconst 1, .goto 4]
def k_B_keyAfter_35 : List Instr := [.iconst (-1)]
def k_B_keyAfter_36 : List Instr := [.iadd, .istore 4, .iload 4, .aload_n 0, .getfield 28, .ineg, .if_icmp .lt 12, .iload 4, .aload_n 0, .getfield 28, .if_icmp .le 5]
def k_B_keyAfter_58 : List Instr := [.iconst (-1), .ireturn]
def k_B_keyAfter_60 : List Instr := [.iconst 2, .iload 5, .imul, .iload_n 2, .iadd, .istore 6, .aload_n 0, .iload 5, .iload_n 2, .invokevirtual 41, .ifCond .ne 12, .aload_n 0, .iload 6, .invokevirtual 45, .ifCond .eq 5]
def k_B_keyAfter_87 : List Instr := [.iconst (-1), .ireturn]
def k_B_keyAfter_89 : List Instr := [.iload 4, .iconst 5, .iadd, .sipush 256, .imul, .iload 6, .iload_n 3, .invokestatic 49, .iadd, .ireturn]
def g_B_keyAfter : List (Nat × List Instr) := [(0, k_B_keyAfter_0), (35, k_B_keyAfter_35), (36, k_B_keyAfter_36), (58, k_B_keyAfter_58), (60, k_B_keyAfter_60), (87, k_B_keyAfter_87), (89, k_B_keyAfter_89)]
theorem o_B_keyAfter : ∀ q ∈ g_B_keyAfter, okB b_B_keyAfter q.1 q.2 = true := List.all_eq_true.mp (by decide +kernel : g_B_keyAfter.all (fun q => okB b_B_keyAfter q.1 q.2) = true)
theorem j_B_keyAfter_0 (f : List Instr → Prop) : lk1 g_B_keyAfter 0 f = f [.iload_n 1, .sipush 256, .idiv, .iconst 5, .isub, .istore 4, .iload_n 1, .sipush 256, .irem, .istore 5, .aload_n 0, .getfield 28, .iconst (-1), .if_icmp .eq 39, .iload 4, .iload_n 2, .iconst 1, .if_icmp .ne 7, .iconst 1, .goto 4] := (rfl)
theorem j_B_keyAfter_35 (f : List Instr → Prop) : lk1 g_B_keyAfter 35 f = f [.iconst (-1)] := (rfl)
theorem j_B_keyAfter_36 (f : List Instr → Prop) : lk1 g_B_keyAfter 36 f = f [.iadd, .istore 4, .iload 4, .aload_n 0, .getfield 28, .ineg, .if_icmp .lt 12, .iload 4, .aload_n 0, .getfield 28, .if_icmp .le 5] := (rfl)
theorem j_B_keyAfter_58 (f : List Instr → Prop) : lk1 g_B_keyAfter 58 f = f [.iconst (-1), .ireturn] := (rfl)
theorem j_B_keyAfter_60 (f : List Instr → Prop) : lk1 g_B_keyAfter 60 f = f [.iconst 2, .iload 5, .imul, .iload_n 2, .iadd, .istore 6, .aload_n 0, .iload 5, .iload_n 2, .invokevirtual 41, .ifCond .ne 12, .aload_n 0, .iload 6, .invokevirtual 45, .ifCond .eq 5] := (rfl)
theorem j_B_keyAfter_87 (f : List Instr → Prop) : lk1 g_B_keyAfter 87 f = f [.iconst (-1), .ireturn] := (rfl)
theorem j_B_keyAfter_89 (f : List Instr → Prop) : lk1 g_B_keyAfter 89 f = f [.iload 4, .iconst 5, .iadd, .sipush 256, .imul, .iload 6, .iload_n 3, .invokestatic 49, .iadd, .ireturn] := (rfl)
abbrev b_B_breaksRuns : ByteArray := prog_2_method_11_code
abbrev y_B_breaksRuns : MethodName := ⟨RX0, "breaksRuns", "(II)Z"⟩
def k_B_breaksRuns_0 : List Instr := [.aload_n 0, .getfield 25, .iconst (-1), .if_icmp .ne 5, .iconst 0, .ireturn]
def k_B_breaksRuns_10 : List Instr := [.iload_n 1, .invokestatic 52, .istore_n 3, .iload_n 2, .ifCond .ne 19, .iload_n 3, .iconst 1, .iadd, .aload_n 0, .getfield 25, .if_icmp .le 7, .iconst 1, .goto 4]
def k_B_breaksRuns_33 : List Instr := [.iconst 0]
def k_B_breaksRuns_34 : List Instr := [.ireturn]
def k_B_breaksRuns_35 : List Instr := [.iload_n 1, .iload_n 3, .ishr, .iconst 1, .if_icmp .le 7, .iconst 1, .goto 4]
def k_B_breaksRuns_46 : List Instr := [.iconst 0]
def k_B_breaksRuns_47 : List Instr := [.istore 4, .iload 4, .ifCond .eq 15, .iload_n 3, .aload_n 0, .getfield 22, .if_icmp .ge 7, .iconst 1, .goto 4]
def k_B_breaksRuns_66 : List Instr := [.iconst 0]
def k_B_breaksRuns_67 : List Instr := [.ireturn]
def g_B_breaksRuns : List (Nat × List Instr) := [(0, k_B_breaksRuns_0), (10, k_B_breaksRuns_10), (33, k_B_breaksRuns_33), (34, k_B_breaksRuns_34), (35, k_B_breaksRuns_35), (46, k_B_breaksRuns_46), (47, k_B_breaksRuns_47), (66, k_B_breaksRuns_66), (67, k_B_breaksRuns_67)]
theorem o_B_breaksRuns : ∀ q ∈ g_B_breaksRuns, okB b_B_breaksRuns q.1 q.2 = true := List.all_eq_true.mp (by decide +kernel : g_B_breaksRuns.all (fun q => okB b_B_breaksRuns q.1 q.2) = true)
theorem j_B_breaksRuns_0 (f : List Instr → Prop) : lk1 g_B_breaksRuns 0 f = f [.aload_n 0, .getfield 25, .iconst (-1), .if_icmp .ne 5, .iconst 0, .ireturn] := (rfl)
theorem j_B_breaksRuns_10 (f : List Instr → Prop) : lk1 g_B_breaksRuns 10 f = f [.iload_n 1, .invokestatic 52, .istore_n 3, .iload_n 2, .ifCond .ne 19, .iload_n 3, .iconst 1, .iadd, .aload_n 0, .getfield 25, .if_icmp .le 7, .iconst 1, .goto 4] := (rfl)
theorem j_B_breaksRuns_33 (f : List Instr → Prop) : lk1 g_B_breaksRuns 33 f = f [.iconst 0] := (rfl)
theorem j_B_breaksRuns_34 (f : List Instr → Prop) : lk1 g_B_breaksRuns 34 f = f [.ireturn] := (rfl)
theorem j_B_breaksRuns_35 (f : List Instr → Prop) : lk1 g_B_breaksRuns 35 f = f [.iload_n 1, .iload_n 3, .ishr, .iconst 1, .if_icmp .le 7, .iconst 1, .goto 4] := (rfl)
theorem j_B_breaksRuns_46 (f : List Instr → Prop) : lk1 g_B_breaksRuns 46 f = f [.iconst 0] := (rfl)
theorem j_B_breaksRuns_47 (f : List Instr → Prop) : lk1 g_B_breaksRuns 47 f = f [.istore 4, .iload 4, .ifCond .eq 15, .iload_n 3, .aload_n 0, .getfield 22, .if_icmp .ge 7, .iconst 1, .goto 4] := (rfl)
theorem j_B_breaksRuns_66 (f : List Instr → Prop) : lk1 g_B_breaksRuns 66 f = f [.iconst 0] := (rfl)
theorem j_B_breaksRuns_67 (f : List Instr → Prop) : lk1 g_B_breaksRuns 67 f = f [.ireturn] := (rfl)
abbrev b_B_endsInWord : ByteArray := prog_2_method_12_code
abbrev y_B_endsInWord : MethodName := ⟨RX0, "endsInWord", "(I)Z"⟩
def k_B_endsInWord_0 : List Instr := [.iconst 0, .istore_n 2]
def k_B_endsInWord_2 : List Instr := [.iload_n 2, .aload_n 0, .getfield 18, .if_icmp .ge 37, .iconst 1, .aload_n 0, .getfield 15, .iload_n 2, .iaload, .ishl, .istore_n 3, .iload_n 1, .iload_n 3, .if_icmp .lt 17, .iload_n 1, .iload_n 3, .irem, .aload_n 0, .getfield 11, .iload_n 2, .iaload, .if_icmp .ne 5, .iconst 1, .ireturn]
def k_B_endsInWord_38 : List Instr := [.iinc 2 1, .goto (-39)]
def k_B_endsInWord_44 : List Instr := [.iconst 0, .ireturn]
def g_B_endsInWord : List (Nat × List Instr) := [(0, k_B_endsInWord_0), (2, k_B_endsInWord_2), (38, k_B_endsInWord_38), (44, k_B_endsInWord_44)]
theorem o_B_endsInWord : ∀ q ∈ g_B_endsInWord, okB b_B_endsInWord q.1 q.2 = true := List.all_eq_true.mp (by decide +kernel : g_B_endsInWord.all (fun q => okB b_B_endsInWord q.1 q.2) = true)
theorem j_B_endsInWord_0 (f : List Instr → Prop) : lk1 g_B_endsInWord 0 f = f [.iconst 0, .istore_n 2] := (rfl)
theorem j_B_endsInWord_2 (f : List Instr → Prop) : lk1 g_B_endsInWord 2 f = f [.iload_n 2, .aload_n 0, .getfield 18, .if_icmp .ge 37, .iconst 1, .aload_n 0, .getfield 15, .iload_n 2, .iaload, .ishl, .istore_n 3, .iload_n 1, .iload_n 3, .if_icmp .lt 17, .iload_n 1, .iload_n 3, .irem, .aload_n 0, .getfield 11, .iload_n 2, .iaload, .if_icmp .ne 5, .iconst 1, .ireturn] := (rfl)
theorem j_B_endsInWord_38 (f : List Instr → Prop) : lk1 g_B_endsInWord 38 f = f [.iinc 2 1, .goto (-39)] := (rfl)
theorem j_B_endsInWord_44 (f : List Instr → Prop) : lk1 g_B_endsInWord 44 f = f [.iconst 0, .ireturn] := (rfl)
abbrev b_B_shortened : ByteArray := prog_2_method_13_code
abbrev y_B_shortened : MethodName := ⟨RX0, "shortened", "(II)I"⟩
def k_B_shortened_0 : List Instr := [.iconst 1, .iload_n 1, .ishl, .istore_n 2, .iload_n 0, .iconst 2, .iload_n 2, .imul, .if_icmp .ge 7, .iload_n 0, .goto 8]
def k_B_shortened_15 : List Instr := [.iload_n 2, .iload_n 0, .iload_n 2, .irem, .iadd]
def k_B_shortened_20 : List Instr := [.ireturn]
def g_B_shortened : List (Nat × List Instr) := [(0, k_B_shortened_0), (15, k_B_shortened_15), (20, k_B_shortened_20)]
theorem o_B_shortened : ∀ q ∈ g_B_shortened, okB b_B_shortened q.1 q.2 = true := List.all_eq_true.mp (by decide +kernel : g_B_shortened.all (fun q => okB b_B_shortened q.1 q.2) = true)
theorem j_B_shortened_0 (f : List Instr → Prop) : lk1 g_B_shortened 0 f = f [.iconst 1, .iload_n 1, .ishl, .istore_n 2, .iload_n 0, .iconst 2, .iload_n 2, .imul, .if_icmp .ge 7, .iload_n 0, .goto 8] := (rfl)
theorem j_B_shortened_15 (f : List Instr → Prop) : lk1 g_B_shortened 15 f = f [.iload_n 2, .iload_n 0, .iload_n 2, .irem, .iadd] := (rfl)
theorem j_B_shortened_20 (f : List Instr → Prop) : lk1 g_B_shortened 20 f = f [.ireturn] := (rfl)
abbrev b_C_drop : ByteArray := prog_4_method_8_code
abbrev y_C_drop : MethodName := ⟨RX2, "drop", "()V"⟩
def k_C_drop_0 : List Instr := [.aload_n 0, .getfield 18, .iconst 0, .invokestatic 42, .aload_n 0, .getfield 25, .iconst 0, .invokevirtual 48, .pop, .aload_n 0, .iconst 0, .putfield 29, .aload_n 0, .iconst 0, .putfield 33, .aload_n 0, .iconst 0, .putfield 36, .aload_n 0, .iconst (-1), .putfield 39, .return_]
def g_C_drop : List (Nat × List Instr) := [(0, k_C_drop_0)]
theorem o_C_drop : ∀ q ∈ g_C_drop, okB b_C_drop q.1 q.2 = true := List.all_eq_true.mp (by decide +kernel : g_C_drop.all (fun q => okB b_C_drop q.1 q.2) = true)
theorem j_C_drop_0 (f : List Instr → Prop) : lk1 g_C_drop 0 f = f [.aload_n 0, .getfield 18, .iconst 0, .invokestatic 42, .aload_n 0, .getfield 25, .iconst 0, .invokevirtual 48, .pop, .aload_n 0, .iconst 0, .putfield 29, .aload_n 0, .iconst 0, .putfield 33, .aload_n 0, .iconst 0, .putfield 36, .aload_n 0, .iconst (-1), .putfield 39, .return_] := (rfl)
abbrev b_C_find : ByteArray := prog_4_method_9_code
abbrev y_C_find : MethodName := ⟨RX2, "find", "(LEvenWire$Wire;II)V"⟩
def k_C_find_0 : List Instr := [.aload_n 0, .invokevirtual 52, .iconst 0, .istore 4]
def k_C_find_7 : List Instr := [.iload 4, .aload_n 1, .invokevirtual 55, .if_icmp .ge 24, .iload 4, .bipush 100, .if_icmp .ge 17, .aload_n 0, .getfield 18, .iload 4, .iconst 1, .iastore, .iinc 4 1, .goto (-27)]
def k_C_find_37 : List Instr := [.iconst 0, .istore 4]
def k_C_find_40 : List Instr := [.iload 4, .bipush 100, .if_icmp .gt 24, .aload_n 0, .aload_n 1, .iconst 1, .iload_n 2, .ishl, .iload_n 3, .invokevirtual 60, .ifCond .ne 6, .goto 9]
def k_C_find_62 : List Instr := [.iinc 4 1, .goto (-25)]
def k_C_find_68 : List Instr := [.aload_n 0, .aload_n 1, .iload_n 2, .iload_n 3, .invokevirtual 64, .return_]
def g_C_find : List (Nat × List Instr) := [(0, k_C_find_0), (7, k_C_find_7), (37, k_C_find_37), (40, k_C_find_40), (62, k_C_find_62), (68, k_C_find_68)]
theorem o_C_find : ∀ q ∈ g_C_find, okB b_C_find q.1 q.2 = true := List.all_eq_true.mp (by decide +kernel : g_C_find.all (fun q => okB b_C_find q.1 q.2) = true)
theorem j_C_find_0 (f : List Instr → Prop) : lk1 g_C_find 0 f = f [.aload_n 0, .invokevirtual 52, .iconst 0, .istore 4] := (rfl)
theorem j_C_find_7 (f : List Instr → Prop) : lk1 g_C_find 7 f = f [.iload 4, .aload_n 1, .invokevirtual 55, .if_icmp .ge 24, .iload 4, .bipush 100, .if_icmp .ge 17, .aload_n 0, .getfield 18, .iload 4, .iconst 1, .iastore, .iinc 4 1, .goto (-27)] := (rfl)
theorem j_C_find_37 (f : List Instr → Prop) : lk1 g_C_find 37 f = f [.iconst 0, .istore 4] := (rfl)
theorem j_C_find_40 (f : List Instr → Prop) : lk1 g_C_find 40 f = f [.iload 4, .bipush 100, .if_icmp .gt 24, .aload_n 0, .aload_n 1, .iconst 1, .iload_n 2, .ishl, .iload_n 3, .invokevirtual 60, .ifCond .ne 6, .goto 9] := (rfl)
theorem j_C_find_62 (f : List Instr → Prop) : lk1 g_C_find 62 f = f [.iinc 4 1, .goto (-25)] := (rfl)
theorem j_C_find_68 (f : List Instr → Prop) : lk1 g_C_find 68 f = f [.aload_n 0, .aload_n 1, .iload_n 2, .iload_n 3, .invokevirtual 64, .return_] := (rfl)
abbrev b_C_dropPoor : ByteArray := prog_4_method_10_code
abbrev y_C_dropPoor : MethodName := ⟨RX2, "dropPoor", "(LEvenWire$Wire;II)Z"⟩
def k_C_dropPoor_0 : List Instr := [.iconst 0, .istore 4, .iconst 0, .istore 5]
def k_C_dropPoor_6 : List Instr := [.iload 5, .aload_n 1, .invokevirtual 55, .if_icmp .ge 33, .iload 5, .bipush 100, .if_icmp .ge 26, .aload_n 0, .getfield 12, .iload 5, .aload_n 0, .getfield 18, .iload 5, .iaload, .i2l, .invokevirtual 68, .iinc 5 1, .goto (-36)]
def k_C_dropPoor_45 : List Instr := [.aload_n 0, .getfield 12, .aload_n 1, .iload_n 3, .invokevirtual 72, .iconst 0, .istore 5]
def k_C_dropPoor_57 : List Instr := [.iload 5, .aload_n 1, .invokevirtual 55, .if_icmp .ge 54, .iload 5, .bipush 100, .if_icmp .ge 47, .aload_n 0, .getfield 18, .iload 5, .iaload, .iconst 1, .if_icmp .ne 30, .aload_n 0, .getfield 12, .iload_n 3, .iload 5, .invokevirtual 76, .iload_n 2, .i2l, .lcmp, .ifCond .ge 14, .aload_n 0, .getfield 18, .iload 5, .iconst 0, .iastore, .iconst 1, .istore 4]
def k_C_dropPoor_111 : List Instr := [.iinc 5 1, .goto (-57)]
def k_C_dropPoor_117 : List Instr := [.iload 4, .ireturn]
def g_C_dropPoor : List (Nat × List Instr) := [(0, k_C_dropPoor_0), (6, k_C_dropPoor_6), (45, k_C_dropPoor_45), (57, k_C_dropPoor_57), (111, k_C_dropPoor_111), (117, k_C_dropPoor_117)]
theorem o_C_dropPoor : ∀ q ∈ g_C_dropPoor, okB b_C_dropPoor q.1 q.2 = true := List.all_eq_true.mp (by decide +kernel : g_C_dropPoor.all (fun q => okB b_C_dropPoor q.1 q.2) = true)
theorem j_C_dropPoor_0 (f : List Instr → Prop) : lk1 g_C_dropPoor 0 f = f [.iconst 0, .istore 4, .iconst 0, .istore 5] := (rfl)
theorem j_C_dropPoor_6 (f : List Instr → Prop) : lk1 g_C_dropPoor 6 f = f [.iload 5, .aload_n 1, .invokevirtual 55, .if_icmp .ge 33, .iload 5, .bipush 100, .if_icmp .ge 26, .aload_n 0, .getfield 12, .iload 5, .aload_n 0, .getfield 18, .iload 5, .iaload, .i2l, .invokevirtual 68, .iinc 5 1, .goto (-36)] := (rfl)
theorem j_C_dropPoor_45 (f : List Instr → Prop) : lk1 g_C_dropPoor 45 f = f [.aload_n 0, .getfield 12, .aload_n 1, .iload_n 3, .invokevirtual 72, .iconst 0, .istore 5] := (rfl)
theorem j_C_dropPoor_57 (f : List Instr → Prop) : lk1 g_C_dropPoor 57 f = f [.iload 5, .aload_n 1, .invokevirtual 55, .if_icmp .ge 54, .iload 5, .bipush 100, .if_icmp .ge 47, .aload_n 0, .getfield 18, .iload 5, .iaload, .iconst 1, .if_icmp .ne 30, .aload_n 0, .getfield 12, .iload_n 3, .iload 5, .invokevirtual 76, .iload_n 2, .i2l, .lcmp, .ifCond .ge 14, .aload_n 0, .getfield 18, .iload 5, .iconst 0, .iastore, .iconst 1, .istore 4] := (rfl)
theorem j_C_dropPoor_111 (f : List Instr → Prop) : lk1 g_C_dropPoor 111 f = f [.iinc 5 1, .goto (-57)] := (rfl)
theorem j_C_dropPoor_117 (f : List Instr → Prop) : lk1 g_C_dropPoor 117 f = f [.iload 4, .ireturn] := (rfl)
abbrev b_C_enroll : ByteArray := prog_4_method_11_code
abbrev y_C_enroll : MethodName := ⟨RX2, "enroll", "(LEvenWire$Wire;II)V"⟩
def k_C_enroll_0 : List Instr := [.bipush 99, .istore 4]
def k_C_enroll_4 : List Instr := [.iload 4, .ifCond .lt 36, .aload_n 0, .getfield 18, .iload 4, .iaload, .iconst 1, .if_icmp .ne 19, .aload_n 0, .iload 4, .putfield 39, .aload_n 0, .dup, .getfield 29, .iconst 1, .iadd, .putfield 29]
def k_C_enroll_36 : List Instr := [.iinc 4 (-1), .goto (-35)]
def k_C_enroll_42 : List Instr := [.aload_n 0, .getfield 29, .ifCond .le 25, .aload_n 0, .iload_n 2, .putfield 33, .aload_n 0, .iload_n 3, .putfield 36, .aload_n 0, .getfield 25, .aload_n 1, .aload_n 0, .getfield 39, .invokevirtual 80]
def k_C_enroll_71 : List Instr := [.return_]
def g_C_enroll : List (Nat × List Instr) := [(0, k_C_enroll_0), (4, k_C_enroll_4), (36, k_C_enroll_36), (42, k_C_enroll_42), (71, k_C_enroll_71)]
theorem o_C_enroll : ∀ q ∈ g_C_enroll, okB b_C_enroll q.1 q.2 = true := List.all_eq_true.mp (by decide +kernel : g_C_enroll.all (fun q => okB b_C_enroll q.1 q.2) = true)
theorem j_C_enroll_0 (f : List Instr → Prop) : lk1 g_C_enroll 0 f = f [.bipush 99, .istore 4] := (rfl)
theorem j_C_enroll_4 (f : List Instr → Prop) : lk1 g_C_enroll 4 f = f [.iload 4, .ifCond .lt 36, .aload_n 0, .getfield 18, .iload 4, .iaload, .iconst 1, .if_icmp .ne 19, .aload_n 0, .iload 4, .putfield 39, .aload_n 0, .dup, .getfield 29, .iconst 1, .iadd, .putfield 29] := (rfl)
theorem j_C_enroll_36 (f : List Instr → Prop) : lk1 g_C_enroll 36 f = f [.iinc 4 (-1), .goto (-35)] := (rfl)
theorem j_C_enroll_42 (f : List Instr → Prop) : lk1 g_C_enroll 42 f = f [.aload_n 0, .getfield 29, .ifCond .le 25, .aload_n 0, .iload_n 2, .putfield 33, .aload_n 0, .iload_n 3, .putfield 36, .aload_n 0, .getfield 25, .aload_n 1, .aload_n 0, .getfield 39, .invokevirtual 80] := (rfl)
theorem j_C_enroll_71 (f : List Instr → Prop) : lk1 g_C_enroll 71 f = f [.return_] := (rfl)
abbrev b_C_size : ByteArray := prog_4_method_3_code
abbrev y_C_size : MethodName := ⟨RX2, "size", "()I"⟩
def k_C_size_0 : List Instr := [.aload_n 0, .getfield 29, .ireturn]
def g_C_size : List (Nat × List Instr) := [(0, k_C_size_0)]
theorem o_C_size : ∀ q ∈ g_C_size, okB b_C_size q.1 q.2 = true := List.all_eq_true.mp (by decide +kernel : g_C_size.all (fun q => okB b_C_size q.1 q.2) = true)
theorem j_C_size_0 (f : List Instr → Prop) : lk1 g_C_size 0 f = f [.aload_n 0, .getfield 29, .ireturn] := (rfl)
abbrev b_C_exists : ByteArray := prog_4_method_2_code
abbrev y_C_exists : MethodName := ⟨RX2, "exists", "()Z"⟩
def k_C_exists_0 : List Instr := [.aload_n 0, .getfield 29, .ifCond .le 7, .iconst 1, .goto 4]
def k_C_exists_11 : List Instr := [.iconst 0]
def k_C_exists_12 : List Instr := [.ireturn]
def g_C_exists : List (Nat × List Instr) := [(0, k_C_exists_0), (11, k_C_exists_11), (12, k_C_exists_12)]
theorem o_C_exists : ∀ q ∈ g_C_exists, okB b_C_exists q.1 q.2 = true := List.all_eq_true.mp (by decide +kernel : g_C_exists.all (fun q => okB b_C_exists q.1 q.2) = true)
theorem j_C_exists_0 (f : List Instr → Prop) : lk1 g_C_exists 0 f = f [.aload_n 0, .getfield 29, .ifCond .le 7, .iconst 1, .goto 4] := (rfl)
theorem j_C_exists_11 (f : List Instr → Prop) : lk1 g_C_exists 11 f = f [.iconst 0] := (rfl)
theorem j_C_exists_12 (f : List Instr → Prop) : lk1 g_C_exists 12 f = f [.ireturn] := (rfl)
abbrev b_C_holds : ByteArray := prog_4_method_7_code
abbrev y_C_holds : MethodName := ⟨RX2, "holds", "(I)Z"⟩
def k_C_holds_0 : List Instr := [.iload_n 1, .ifCond .lt 23, .iload_n 1, .bipush 100, .if_icmp .ge 17, .aload_n 0, .getfield 18, .iload_n 1, .iaload, .iconst 1, .if_icmp .ne 7, .iconst 1, .goto 4]
def k_C_holds_24 : List Instr := [.iconst 0]
def k_C_holds_25 : List Instr := [.ireturn]
def g_C_holds : List (Nat × List Instr) := [(0, k_C_holds_0), (24, k_C_holds_24), (25, k_C_holds_25)]
theorem o_C_holds : ∀ q ∈ g_C_holds, okB b_C_holds q.1 q.2 = true := List.all_eq_true.mp (by decide +kernel : g_C_holds.all (fun q => okB b_C_holds q.1 q.2) = true)
theorem j_C_holds_0 (f : List Instr → Prop) : lk1 g_C_holds 0 f = f [.iload_n 1, .ifCond .lt 23, .iload_n 1, .bipush 100, .if_icmp .ge 17, .aload_n 0, .getfield 18, .iload_n 1, .iaload, .iconst 1, .if_icmp .ne 7, .iconst 1, .goto 4] := (rfl)
theorem j_C_holds_24 (f : List Instr → Prop) : lk1 g_C_holds 24 f = f [.iconst 0] := (rfl)
theorem j_C_holds_25 (f : List Instr → Prop) : lk1 g_C_holds 25 f = f [.ireturn] := (rfl)
abbrev b_C_pieceLength : ByteArray := prog_4_method_4_code
abbrev y_C_pieceLength : MethodName := ⟨RX2, "pieceLength", "()I"⟩
def k_C_pieceLength_0 : List Instr := [.aload_n 0, .getfield 33, .ireturn]
def g_C_pieceLength : List (Nat × List Instr) := [(0, k_C_pieceLength_0)]
theorem o_C_pieceLength : ∀ q ∈ g_C_pieceLength, okB b_C_pieceLength q.1 q.2 = true := List.all_eq_true.mp (by decide +kernel : g_C_pieceLength.all (fun q => okB b_C_pieceLength q.1 q.2) = true)
theorem j_C_pieceLength_0 (f : List Instr → Prop) : lk1 g_C_pieceLength 0 f = f [.aload_n 0, .getfield 33, .ireturn] := (rfl)
abbrev b_C_wordFor : ByteArray := prog_4_method_12_code
abbrev y_C_wordFor : MethodName := ⟨RX2, "wordFor", "(LEvenWire$Wire;II)I"⟩
def k_C_wordFor_0 : List Instr := [.aload_n 0, .getfield 12, .aload_n 1, .iload_n 2, .iload_n 3, .i2l, .aload_n 0, .getfield 36, .invokevirtual 83, .l2i, .ireturn]
def g_C_wordFor : List (Nat × List Instr) := [(0, k_C_wordFor_0)]
theorem o_C_wordFor : ∀ q ∈ g_C_wordFor, okB b_C_wordFor q.1 q.2 = true := List.all_eq_true.mp (by decide +kernel : g_C_wordFor.all (fun q => okB b_C_wordFor q.1 q.2) = true)
theorem j_C_wordFor_0 (f : List Instr → Prop) : lk1 g_C_wordFor 0 f = f [.aload_n 0, .getfield 12, .aload_n 1, .iload_n 2, .iload_n 3, .i2l, .aload_n 0, .getfield 36, .invokevirtual 83, .l2i, .ireturn] := (rfl)
abbrev b_C_wordLength : ByteArray := prog_4_method_5_code
abbrev y_C_wordLength : MethodName := ⟨RX2, "wordLength", "()I"⟩
def k_C_wordLength_0 : List Instr := [.aload_n 0, .getfield 36, .ireturn]
def g_C_wordLength : List (Nat × List Instr) := [(0, k_C_wordLength_0)]
theorem o_C_wordLength : ∀ q ∈ g_C_wordLength, okB b_C_wordLength q.1 q.2 = true := List.all_eq_true.mp (by decide +kernel : g_C_wordLength.all (fun q => okB b_C_wordLength q.1 q.2) = true)
theorem j_C_wordLength_0 (f : List Instr → Prop) : lk1 g_C_wordLength 0 f = f [.aload_n 0, .getfield 36, .ireturn] := (rfl)
abbrev b_C_pieceFor : ByteArray := prog_4_method_13_code
abbrev y_C_pieceFor : MethodName := ⟨RX2, "pieceFor", "(LEvenWire$Wire;II)I"⟩
def k_C_pieceFor_0 : List Instr := [.aload_n 0, .getfield 12, .aload_n 1, .iload_n 2, .iload_n 3, .i2l, .aload_n 0, .getfield 36, .invokevirtual 87, .lstore 4, .lload 4, .lconst 1, .aload_n 0, .getfield 33, .lshl, .lcmp, .ifCond .ge 9, .lload 4, .l2i, .goto 4]
def k_C_pieceFor_35 : List Instr := [.iconst (-1)]
def k_C_pieceFor_36 : List Instr := [.ireturn]
def g_C_pieceFor : List (Nat × List Instr) := [(0, k_C_pieceFor_0), (35, k_C_pieceFor_35), (36, k_C_pieceFor_36)]
theorem o_C_pieceFor : ∀ q ∈ g_C_pieceFor, okB b_C_pieceFor q.1 q.2 = true := List.all_eq_true.mp (by decide +kernel : g_C_pieceFor.all (fun q => okB b_C_pieceFor q.1 q.2) = true)
theorem j_C_pieceFor_0 (f : List Instr → Prop) : lk1 g_C_pieceFor 0 f = f [.aload_n 0, .getfield 12, .aload_n 1, .iload_n 2, .iload_n 3, .i2l, .aload_n 0, .getfield 36, .invokevirtual 87, .lstore 4, .lload 4, .lconst 1, .aload_n 0, .getfield 33, .lshl, .lcmp, .ifCond .ge 9, .lload 4, .l2i, .goto 4] := (rfl)
theorem j_C_pieceFor_35 (f : List Instr → Prop) : lk1 g_C_pieceFor 35 f = f [.iconst (-1)] := (rfl)
theorem j_C_pieceFor_36 (f : List Instr → Prop) : lk1 g_C_pieceFor 36 f = f [.ireturn] := (rfl)
abbrev b_C_lengthWritten : ByteArray := prog_4_method_15_code
abbrev y_C_lengthWritten : MethodName := ⟨RX2, "lengthWritten", "(LEvenWire$Bits;)I"⟩
def k_C_lengthWritten_0 : List Instr := [.aload_n 0, .getfield 25, .invokevirtual 90, .aload_n 0, .aload_n 1, .invokevirtual 91, .aload_n 0, .getfield 36, .imul, .iadd, .ireturn]
def g_C_lengthWritten : List (Nat × List Instr) := [(0, k_C_lengthWritten_0)]
theorem o_C_lengthWritten : ∀ q ∈ g_C_lengthWritten, okB b_C_lengthWritten q.1 q.2 = true := List.all_eq_true.mp (by decide +kernel : g_C_lengthWritten.all (fun q => okB b_C_lengthWritten q.1 q.2) = true)
theorem j_C_lengthWritten_0 (f : List Instr → Prop) : lk1 g_C_lengthWritten 0 f = f [.aload_n 0, .getfield 25, .invokevirtual 90, .aload_n 0, .aload_n 1, .invokevirtual 91, .aload_n 0, .getfield 36, .imul, .iadd, .ireturn] := (rfl)
abbrev b_C_pieces : ByteArray := prog_4_method_14_code
abbrev y_C_pieces : MethodName := ⟨RX2, "pieces", "(LEvenWire$Bits;)I"⟩
def k_C_pieces_0 : List Instr := [.aload_n 0, .getfield 33, .iconst 1, .if_icmp .ge 7, .iconst 0, .goto 19]
def k_C_pieces_12 : List Instr := [.aload_n 1, .invokevirtual 90, .aload_n 0, .getfield 33, .iadd, .iconst 1, .isub, .aload_n 0, .getfield 33, .idiv]
def k_C_pieces_28 : List Instr := [.ireturn]
def g_C_pieces : List (Nat × List Instr) := [(0, k_C_pieces_0), (12, k_C_pieces_12), (28, k_C_pieces_28)]
theorem o_C_pieces : ∀ q ∈ g_C_pieces, okB b_C_pieces q.1 q.2 = true := List.all_eq_true.mp (by decide +kernel : g_C_pieces.all (fun q => okB b_C_pieces q.1 q.2) = true)
theorem j_C_pieces_0 (f : List Instr → Prop) : lk1 g_C_pieces 0 f = f [.aload_n 0, .getfield 33, .iconst 1, .if_icmp .ge 7, .iconst 0, .goto 19] := (rfl)
theorem j_C_pieces_12 (f : List Instr → Prop) : lk1 g_C_pieces 12 f = f [.aload_n 1, .invokevirtual 90, .aload_n 0, .getfield 33, .iadd, .iconst 1, .isub, .aload_n 0, .getfield 33, .idiv] := (rfl)
theorem j_C_pieces_28 (f : List Instr → Prop) : lk1 g_C_pieces 28 f = f [.ireturn] := (rfl)
abbrev b_C_encode : ByteArray := prog_4_method_16_code
abbrev y_C_encode : MethodName := ⟨RX2, "encode", "(LEvenWire$Wire;LEvenWire$Bits;LEvenWire$Bits;)V"⟩
def k_C_encode_0 : List Instr := [.aload_n 0, .getfield 39, .istore 4, .aload_n 3, .aload_n 0, .getfield 25, .invokevirtual 95, .iconst 0, .istore 5]
def k_C_encode_17 : List Instr := [.iload 5, .aload_n 0, .aload_n 2, .invokevirtual 91, .if_icmp .ge 63, .aload_n 2, .iload 5, .aload_n 0, .getfield 33, .imul, .aload_n 0, .getfield 33, .invokevirtual 99, .istore 6, .aload_n 0, .aload_n 1, .iload 4, .iload 6, .invokevirtual 103, .istore 7, .aload_n 3, .iload 7, .i2l, .aload_n 0, .getfield 36, .invokevirtual 107, .aload_n 1, .iload 4, .iload 7, .i2l, .aload_n 0, .getfield 36, .invokevirtual 111, .istore 4, .iinc 5 1, .goto (-67)]
def k_C_encode_87 : List Instr := [.return_]
def g_C_encode : List (Nat × List Instr) := [(0, k_C_encode_0), (17, k_C_encode_17), (87, k_C_encode_87)]
theorem o_C_encode : ∀ q ∈ g_C_encode, okB b_C_encode q.1 q.2 = true := List.all_eq_true.mp (by decide +kernel : g_C_encode.all (fun q => okB b_C_encode q.1 q.2) = true)
theorem j_C_encode_0 (f : List Instr → Prop) : lk1 g_C_encode 0 f = f [.aload_n 0, .getfield 39, .istore 4, .aload_n 3, .aload_n 0, .getfield 25, .invokevirtual 95, .iconst 0, .istore 5] := (rfl)
theorem j_C_encode_17 (f : List Instr → Prop) : lk1 g_C_encode 17 f = f [.iload 5, .aload_n 0, .aload_n 2, .invokevirtual 91, .if_icmp .ge 63, .aload_n 2, .iload 5, .aload_n 0, .getfield 33, .imul, .aload_n 0, .getfield 33, .invokevirtual 99, .istore 6, .aload_n 0, .aload_n 1, .iload 4, .iload 6, .invokevirtual 103, .istore 7, .aload_n 3, .iload 7, .i2l, .aload_n 0, .getfield 36, .invokevirtual 107, .aload_n 1, .iload 4, .iload 7, .i2l, .aload_n 0, .getfield 36, .invokevirtual 111, .istore 4, .iinc 5 1, .goto (-67)] := (rfl)
theorem j_C_encode_87 (f : List Instr → Prop) : lk1 g_C_encode 87 f = f [.return_] := (rfl)
abbrev b_C_decode : ByteArray := prog_4_method_17_code
abbrev y_C_decode : MethodName := ⟨RX2, "decode", "(LEvenWire$Wire;LEvenWire$Bits;LEvenWire$Bits;)I"⟩
def k_C_decode_0 : List Instr := [.aload_n 0, .getfield 39, .istore 4, .aload_n 3, .iconst 0, .invokevirtual 48, .pop, .aload_n 0, .getfield 25, .aload_n 2, .invokevirtual 115, .istore 5, .iload 5, .iconst (-1), .if_icmp .eq 6, .iload 5, .ireturn]
def k_C_decode_31 : List Instr := [.iconst 0, .istore 6]
def k_C_decode_34 : List Instr := [.iload 6, .sipush 600, .if_icmp .ge 112, .aload_n 0, .getfield 25, .invokevirtual 90, .iload 6, .aload_n 0, .getfield 36, .imul, .iadd, .istore 7, .iload 7, .aload_n 2, .invokevirtual 90, .if_icmp .lt 5, .iconst (-1), .ireturn]
def k_C_decode_70 : List Instr := [.iload 7, .aload_n 0, .getfield 36, .iadd, .aload_n 2, .invokevirtual 90, .if_icmp .le 6, .iload 7, .ireturn]
def k_C_decode_87 : List Instr := [.aload_n 2, .iload 7, .aload_n 0, .getfield 36, .invokevirtual 99, .istore 8, .aload_n 0, .aload_n 1, .iload 4, .iload 8, .invokevirtual 118, .istore 9, .iload 9, .iconst (-1), .if_icmp .ne 6, .iload 7, .ireturn]
def k_C_decode_119 : List Instr := [.aload_n 3, .iload 9, .i2l, .aload_n 0, .getfield 33, .invokevirtual 107, .aload_n 1, .iload 4, .iload 8, .i2l, .aload_n 0, .getfield 36, .invokevirtual 111, .istore 4, .iinc 6 1, .goto (-114)]
def k_C_decode_151 : List Instr := [.iconst (-1), .ireturn]
def g_C_decode : List (Nat × List Instr) := [(0, k_C_decode_0), (31, k_C_decode_31), (34, k_C_decode_34), (70, k_C_decode_70), (87, k_C_decode_87), (119, k_C_decode_119), (151, k_C_decode_151)]
theorem o_C_decode : ∀ q ∈ g_C_decode, okB b_C_decode q.1 q.2 = true := List.all_eq_true.mp (by decide +kernel : g_C_decode.all (fun q => okB b_C_decode q.1 q.2) = true)
theorem j_C_decode_0 (f : List Instr → Prop) : lk1 g_C_decode 0 f = f [.aload_n 0, .getfield 39, .istore 4, .aload_n 3, .iconst 0, .invokevirtual 48, .pop, .aload_n 0, .getfield 25, .aload_n 2, .invokevirtual 115, .istore 5, .iload 5, .iconst (-1), .if_icmp .eq 6, .iload 5, .ireturn] := (rfl)
theorem j_C_decode_31 (f : List Instr → Prop) : lk1 g_C_decode 31 f = f [.iconst 0, .istore 6] := (rfl)
theorem j_C_decode_34 (f : List Instr → Prop) : lk1 g_C_decode 34 f = f [.iload 6, .sipush 600, .if_icmp .ge 112, .aload_n 0, .getfield 25, .invokevirtual 90, .iload 6, .aload_n 0, .getfield 36, .imul, .iadd, .istore 7, .iload 7, .aload_n 2, .invokevirtual 90, .if_icmp .lt 5, .iconst (-1), .ireturn] := (rfl)
theorem j_C_decode_70 (f : List Instr → Prop) : lk1 g_C_decode 70 f = f [.iload 7, .aload_n 0, .getfield 36, .iadd, .aload_n 2, .invokevirtual 90, .if_icmp .le 6, .iload 7, .ireturn] := (rfl)
theorem j_C_decode_87 (f : List Instr → Prop) : lk1 g_C_decode 87 f = f [.aload_n 2, .iload 7, .aload_n 0, .getfield 36, .invokevirtual 99, .istore 8, .aload_n 0, .aload_n 1, .iload 4, .iload 8, .invokevirtual 118, .istore 9, .iload 9, .iconst (-1), .if_icmp .ne 6, .iload 7, .ireturn] := (rfl)
theorem j_C_decode_119 (f : List Instr → Prop) : lk1 g_C_decode 119 f = f [.aload_n 3, .iload 9, .i2l, .aload_n 0, .getfield 33, .invokevirtual 107, .aload_n 1, .iload 4, .iload 8, .i2l, .aload_n 0, .getfield 36, .invokevirtual 111, .istore 4, .iinc 6 1, .goto (-114)] := (rfl)
theorem j_C_decode_151 (f : List Instr → Prop) : lk1 g_C_decode 151 f = f [.iconst (-1), .ireturn] := (rfl)
abbrev b_C_home : ByteArray := prog_4_method_6_code
abbrev y_C_home : MethodName := ⟨RX2, "home", "()I"⟩
def k_C_home_0 : List Instr := [.aload_n 0, .getfield 39, .ireturn]
def g_C_home : List (Nat × List Instr) := [(0, k_C_home_0)]
theorem o_C_home : ∀ q ∈ g_C_home, okB b_C_home q.1 q.2 = true := List.all_eq_true.mp (by decide +kernel : g_C_home.all (fun q => okB b_C_home q.1 q.2) = true)
theorem j_C_home_0 (f : List Instr → Prop) : lk1 g_C_home 0 f = f [.aload_n 0, .getfield 39, .ireturn] := (rfl)
abbrev b_G_setAll : ByteArray := prog_8_method_2_code
abbrev y_G_setAll : MethodName := ⟨RX6, "setAll", "(I)V"⟩
def k_G_setAll_0 : List Instr := [.aload_n 0, .getfield 9, .iload_n 1, .invokestatic 15, .return_]
def g_G_setAll : List (Nat × List Instr) := [(0, k_G_setAll_0)]
theorem o_G_setAll : ∀ q ∈ g_G_setAll, okB b_G_setAll q.1 q.2 = true := List.all_eq_true.mp (by decide +kernel : g_G_setAll.all (fun q => okB b_G_setAll q.1 q.2) = true)
theorem j_G_setAll_0 (f : List Instr → Prop) : lk1 g_G_setAll 0 f = f [.aload_n 0, .getfield 9, .iload_n 1, .invokestatic 15, .return_] := (rfl)
abbrev b_G_of : ByteArray := prog_8_method_4_code
abbrev y_G_of : MethodName := ⟨RX6, "of", "(I)I"⟩
def k_G_of_0 : List Instr := [.iload_n 1, .ifCond .lt 18, .iload_n 1, .bipush 100, .if_icmp .ge 12, .aload_n 0, .getfield 9, .iload_n 1, .iaload, .goto 4]
def k_G_of_19 : List Instr := [.iconst 0]
def k_G_of_20 : List Instr := [.ireturn]
def g_G_of : List (Nat × List Instr) := [(0, k_G_of_0), (19, k_G_of_19), (20, k_G_of_20)]
theorem o_G_of : ∀ q ∈ g_G_of, okB b_G_of q.1 q.2 = true := List.all_eq_true.mp (by decide +kernel : g_G_of.all (fun q => okB b_G_of q.1 q.2) = true)
theorem j_G_of_0 (f : List Instr → Prop) : lk1 g_G_of 0 f = f [.iload_n 1, .ifCond .lt 18, .iload_n 1, .bipush 100, .if_icmp .ge 12, .aload_n 0, .getfield 9, .iload_n 1, .iaload, .goto 4] := (rfl)
theorem j_G_of_19 (f : List Instr → Prop) : lk1 g_G_of 19 f = f [.iconst 0] := (rfl)
theorem j_G_of_20 (f : List Instr → Prop) : lk1 g_G_of 20 f = f [.ireturn] := (rfl)
abbrev b_G_set : ByteArray := prog_8_method_3_code
abbrev y_G_set : MethodName := ⟨RX6, "set", "(II)V"⟩
def k_G_set_0 : List Instr := [.iload_n 1, .ifCond .lt 16, .iload_n 1, .bipush 100, .if_icmp .ge 10, .aload_n 0, .getfield 9, .iload_n 1, .iload_n 2, .iastore]
def k_G_set_17 : List Instr := [.return_]
def g_G_set : List (Nat × List Instr) := [(0, k_G_set_0), (17, k_G_set_17)]
theorem o_G_set : ∀ q ∈ g_G_set, okB b_G_set q.1 q.2 = true := List.all_eq_true.mp (by decide +kernel : g_G_set.all (fun q => okB b_G_set q.1 q.2) = true)
theorem j_G_set_0 (f : List Instr → Prop) : lk1 g_G_set 0 f = f [.iload_n 1, .ifCond .lt 16, .iload_n 1, .bipush 100, .if_icmp .ge 10, .aload_n 0, .getfield 9, .iload_n 1, .iload_n 2, .iastore] := (rfl)
theorem j_G_set_17 (f : List Instr → Prop) : lk1 g_G_set 17 f = f [.return_] := (rfl)
abbrev b_G_firstTooGreat : ByteArray := prog_8_method_7_code
abbrev y_G_firstTooGreat : MethodName := ⟨RX6, "firstTooGreat", "(LEvenWire$Wire;LEvenWire$Ladder;II)I"⟩
def k_G_firstTooGreat_0 : List Instr := [.aload_n 0, .invokevirtual 31, .ifCond .ne 5, .iconst 0, .ireturn]
def k_G_firstTooGreat_9 : List Instr := [.aload_n 0, .aload_n 1, .aload_n 2, .iload 4, .invokevirtual 34, .iconst 0, .istore 5]
def k_G_firstTooGreat_20 : List Instr := [.iload 5, .aload_n 1, .invokevirtual 21, .if_icmp .ge 33, .aload_n 2, .iload 4, .iload 5, .invokevirtual 38, .aload_n 0, .iload 5, .invokevirtual 44, .i2l, .iload_n 3, .lshl, .lcmp, .ifCond .ge 6, .iload 5, .ireturn]
def k_G_firstTooGreat_53 : List Instr := [.iinc 5 1, .goto (-36)]
def k_G_firstTooGreat_59 : List Instr := [.iconst (-1), .ireturn]
def g_G_firstTooGreat : List (Nat × List Instr) := [(0, k_G_firstTooGreat_0), (9, k_G_firstTooGreat_9), (20, k_G_firstTooGreat_20), (53, k_G_firstTooGreat_53), (59, k_G_firstTooGreat_59)]
theorem o_G_firstTooGreat : ∀ q ∈ g_G_firstTooGreat, okB b_G_firstTooGreat q.1 q.2 = true := List.all_eq_true.mp (by decide +kernel : g_G_firstTooGreat.all (fun q => okB b_G_firstTooGreat q.1 q.2) = true)
theorem j_G_firstTooGreat_0 (f : List Instr → Prop) : lk1 g_G_firstTooGreat 0 f = f [.aload_n 0, .invokevirtual 31, .ifCond .ne 5, .iconst 0, .ireturn] := (rfl)
theorem j_G_firstTooGreat_9 (f : List Instr → Prop) : lk1 g_G_firstTooGreat 9 f = f [.aload_n 0, .aload_n 1, .aload_n 2, .iload 4, .invokevirtual 34, .iconst 0, .istore 5] := (rfl)
theorem j_G_firstTooGreat_20 (f : List Instr → Prop) : lk1 g_G_firstTooGreat 20 f = f [.iload 5, .aload_n 1, .invokevirtual 21, .if_icmp .ge 33, .aload_n 2, .iload 4, .iload 5, .invokevirtual 38, .aload_n 0, .iload 5, .invokevirtual 44, .i2l, .iload_n 3, .lshl, .lcmp, .ifCond .ge 6, .iload 5, .ireturn] := (rfl)
theorem j_G_firstTooGreat_53 (f : List Instr → Prop) : lk1 g_G_firstTooGreat 53 f = f [.iinc 5 1, .goto (-36)] := (rfl)
theorem j_G_firstTooGreat_59 (f : List Instr → Prop) : lk1 g_G_firstTooGreat 59 f = f [.iconst (-1), .ireturn] := (rfl)
abbrev b_G_sum : ByteArray := prog_8_method_5_code
abbrev y_G_sum : MethodName := ⟨RX6, "sum", "()I"⟩
def k_G_sum_0 : List Instr := [.iconst 0, .istore_n 1, .iconst 0, .istore_n 2]
def k_G_sum_4 : List Instr := [.iload_n 2, .bipush 100, .if_icmp .ge 18, .iload_n 1, .aload_n 0, .getfield 9, .iload_n 2, .iaload, .iadd, .istore_n 1, .iinc 2 1, .goto (-18)]
def k_G_sum_25 : List Instr := [.iload_n 1, .ireturn]
def g_G_sum : List (Nat × List Instr) := [(0, k_G_sum_0), (4, k_G_sum_4), (25, k_G_sum_25)]
theorem o_G_sum : ∀ q ∈ g_G_sum, okB b_G_sum q.1 q.2 = true := List.all_eq_true.mp (by decide +kernel : g_G_sum.all (fun q => okB b_G_sum q.1 q.2) = true)
theorem j_G_sum_0 (f : List Instr → Prop) : lk1 g_G_sum 0 f = f [.iconst 0, .istore_n 1, .iconst 0, .istore_n 2] := (rfl)
theorem j_G_sum_4 (f : List Instr → Prop) : lk1 g_G_sum 4 f = f [.iload_n 2, .bipush 100, .if_icmp .ge 18, .iload_n 1, .aload_n 0, .getfield 9, .iload_n 2, .iaload, .iadd, .istore_n 1, .iinc 2 1, .goto (-18)] := (rfl)
theorem j_G_sum_25 (f : List Instr → Prop) : lk1 g_G_sum 25 f = f [.iload_n 1, .ireturn] := (rfl)
abbrev b_G_weighEnds : ByteArray := prog_8_method_10_code
abbrev y_G_weighEnds : MethodName := ⟨RX6, "weighEnds", "(LEvenWire$Wire;LEvenWire$Ladder;I)V"⟩
def k_G_weighEnds_0 : List Instr := [.iconst 0, .istore 4]
def k_G_weighEnds_3 : List Instr := [.iload 4, .aload_n 1, .invokevirtual 21, .if_icmp .ge 22, .aload_n 2, .iload 4, .aload_n 0, .iload 4, .invokevirtual 44, .i2l, .invokevirtual 52, .iinc 4 1, .goto (-25)]
def k_G_weighEnds_31 : List Instr := [.aload_n 2, .aload_n 1, .iload_n 3, .invokevirtual 55, .return_]
def g_G_weighEnds : List (Nat × List Instr) := [(0, k_G_weighEnds_0), (3, k_G_weighEnds_3), (31, k_G_weighEnds_31)]
theorem o_G_weighEnds : ∀ q ∈ g_G_weighEnds, okB b_G_weighEnds q.1 q.2 = true := List.all_eq_true.mp (by decide +kernel : g_G_weighEnds.all (fun q => okB b_G_weighEnds q.1 q.2) = true)
theorem j_G_weighEnds_0 (f : List Instr → Prop) : lk1 g_G_weighEnds 0 f = f [.iconst 0, .istore 4] := (rfl)
theorem j_G_weighEnds_3 (f : List Instr → Prop) : lk1 g_G_weighEnds 3 f = f [.iload 4, .aload_n 1, .invokevirtual 21, .if_icmp .ge 22, .aload_n 2, .iload 4, .aload_n 0, .iload 4, .invokevirtual 44, .i2l, .invokevirtual 52, .iinc 4 1, .goto (-25)] := (rfl)
theorem j_G_weighEnds_31 (f : List Instr → Prop) : lk1 g_G_weighEnds 31 f = f [.aload_n 2, .aload_n 1, .iload_n 3, .invokevirtual 55, .return_] := (rfl)
abbrev b_G_raise : ByteArray := prog_8_method_6_code
abbrev y_G_raise : MethodName := ⟨RX6, "raise", "(LEvenWire$Wire;I)V"⟩
def k_G_raise_0 : List Instr := [.iconst 0, .istore_n 3]
def k_G_raise_2 : List Instr := [.iload_n 3, .aload_n 1, .invokevirtual 21, .if_icmp .ge 15, .aload_n 0, .iload_n 3, .iload_n 2, .invokevirtual 27, .iinc 3 1, .goto (-17)]
def k_G_raise_22 : List Instr := [.return_]
def g_G_raise : List (Nat × List Instr) := [(0, k_G_raise_0), (2, k_G_raise_2), (22, k_G_raise_22)]
theorem o_G_raise : ∀ q ∈ g_G_raise, okB b_G_raise q.1 q.2 = true := List.all_eq_true.mp (by decide +kernel : g_G_raise.all (fun q => okB b_G_raise q.1 q.2) = true)
theorem j_G_raise_0 (f : List Instr → Prop) : lk1 g_G_raise 0 f = f [.iconst 0, .istore_n 3] := (rfl)
theorem j_G_raise_2 (f : List Instr → Prop) : lk1 g_G_raise 2 f = f [.iload_n 3, .aload_n 1, .invokevirtual 21, .if_icmp .ge 15, .aload_n 0, .iload_n 3, .iload_n 2, .invokevirtual 27, .iinc 3 1, .goto (-17)] := (rfl)
theorem j_G_raise_22 (f : List Instr → Prop) : lk1 g_G_raise 22 f = f [.return_] := (rfl)
abbrev b_G_settle : ByteArray := prog_8_method_8_code
abbrev y_G_settle : MethodName := ⟨RX6, "settle", "(LEvenWire$Wire;LEvenWire$Ladder;II)V"⟩
def k_G_settle_0 : List Instr := [.iconst 0, .istore 5]
def k_G_settle_3 : List Instr := [.iload 5, .sipush 20000, .if_icmp .gt 22, .aload_n 0, .aload_n 1, .aload_n 2, .iload_n 3, .iload 4, .invokevirtual 48, .ifCond .ne 4, .return_]
def k_G_settle_24 : List Instr := [.iinc 5 1, .goto (-24)]
def k_G_settle_30 : List Instr := [.return_]
def g_G_settle : List (Nat × List Instr) := [(0, k_G_settle_0), (3, k_G_settle_3), (24, k_G_settle_24), (30, k_G_settle_30)]
theorem o_G_settle : ∀ q ∈ g_G_settle, okB b_G_settle q.1 q.2 = true := List.all_eq_true.mp (by decide +kernel : g_G_settle.all (fun q => okB b_G_settle q.1 q.2) = true)
theorem j_G_settle_0 (f : List Instr → Prop) : lk1 g_G_settle 0 f = f [.iconst 0, .istore 5] := (rfl)
theorem j_G_settle_3 (f : List Instr → Prop) : lk1 g_G_settle 3 f = f [.iload 5, .sipush 20000, .if_icmp .gt 22, .aload_n 0, .aload_n 1, .aload_n 2, .iload_n 3, .iload 4, .invokevirtual 48, .ifCond .ne 4, .return_] := (rfl)
theorem j_G_settle_24 (f : List Instr → Prop) : lk1 g_G_settle 24 f = f [.iinc 5 1, .goto (-24)] := (rfl)
theorem j_G_settle_30 (f : List Instr → Prop) : lk1 g_G_settle 30 f = f [.return_] := (rfl)
abbrev b_G_lower : ByteArray := prog_8_method_9_code
abbrev y_G_lower : MethodName := ⟨RX6, "lower", "(LEvenWire$Wire;LEvenWire$Ladder;II)Z"⟩
def k_G_lower_0 : List Instr := [.iconst 0, .istore 5, .aload_n 0, .aload_n 1, .aload_n 2, .iload 4, .invokevirtual 34, .iconst 0, .istore 6]
def k_G_lower_14 : List Instr := [.iload 6, .aload_n 1, .invokevirtual 21, .if_icmp .ge 46, .aload_n 2, .iload 4, .iload 6, .invokevirtual 38, .iload_n 3, .lshr, .lstore 7, .lload 7, .aload_n 0, .iload 6, .invokevirtual 44, .i2l, .lcmp, .ifCond .ge 15, .aload_n 0, .iload 6, .lload 7, .l2i, .invokevirtual 27, .iconst 1, .istore 5]
def k_G_lower_60 : List Instr := [.iinc 6 1, .goto (-49)]
def k_G_lower_66 : List Instr := [.iload 5, .ireturn]
def g_G_lower : List (Nat × List Instr) := [(0, k_G_lower_0), (14, k_G_lower_14), (60, k_G_lower_60), (66, k_G_lower_66)]
theorem o_G_lower : ∀ q ∈ g_G_lower, okB b_G_lower q.1 q.2 = true := List.all_eq_true.mp (by decide +kernel : g_G_lower.all (fun q => okB b_G_lower q.1 q.2) = true)
theorem j_G_lower_0 (f : List Instr → Prop) : lk1 g_G_lower 0 f = f [.iconst 0, .istore 5, .aload_n 0, .aload_n 1, .aload_n 2, .iload 4, .invokevirtual 34, .iconst 0, .istore 6] := (rfl)
theorem j_G_lower_14 (f : List Instr → Prop) : lk1 g_G_lower 14 f = f [.iload 6, .aload_n 1, .invokevirtual 21, .if_icmp .ge 46, .aload_n 2, .iload 4, .iload 6, .invokevirtual 38, .iload_n 3, .lshr, .lstore 7, .lload 7, .aload_n 0, .iload 6, .invokevirtual 44, .i2l, .lcmp, .ifCond .ge 15, .aload_n 0, .iload 6, .lload 7, .l2i, .invokevirtual 27, .iconst 1, .istore 5] := (rfl)
theorem j_G_lower_60 (f : List Instr → Prop) : lk1 g_G_lower 60 f = f [.iinc 6 1, .goto (-49)] := (rfl)
theorem j_G_lower_66 (f : List Instr → Prop) : lk1 g_G_lower 66 f = f [.iload 5, .ireturn] := (rfl)
abbrev b_JA_fillI : ByteArray := prog_17_method_103_code
abbrev y_JA_fillI : MethodName := ⟨R_JA, "fill", "([II)V"⟩
def k_JA_fillI_0 : List Instr := [.iconst 0, .istore_n 2, .aload_n 0, .arraylength, .istore_n 3]
def k_JA_fillI_5 : List Instr := [.iload_n 2, .iload_n 3, .if_icmp .ge 13, .aload_n 0, .iload_n 2, .iload_n 1, .iastore, .iinc 2 1, .goto (-12)]
def k_JA_fillI_20 : List Instr := [.return_]
def g_JA_fillI : List (Nat × List Instr) := [(0, k_JA_fillI_0), (5, k_JA_fillI_5), (20, k_JA_fillI_20)]
theorem o_JA_fillI : ∀ q ∈ g_JA_fillI, okB b_JA_fillI q.1 q.2 = true := List.all_eq_true.mp (by decide +kernel : g_JA_fillI.all (fun q => okB b_JA_fillI q.1 q.2) = true)
theorem j_JA_fillI_0 (f : List Instr → Prop) : lk1 g_JA_fillI 0 f = f [.iconst 0, .istore_n 2, .aload_n 0, .arraylength, .istore_n 3] := (rfl)
theorem j_JA_fillI_5 (f : List Instr → Prop) : lk1 g_JA_fillI 5 f = f [.iload_n 2, .iload_n 3, .if_icmp .ge 13, .aload_n 0, .iload_n 2, .iload_n 1, .iastore, .iinc 2 1, .goto (-12)] := (rfl)
theorem j_JA_fillI_20 (f : List Instr → Prop) : lk1 g_JA_fillI 20 f = f [.return_] := (rfl)
abbrev b_JA_fillL : ByteArray := prog_17_method_102_code
abbrev y_JA_fillL : MethodName := ⟨R_JA, "fill", "([JIIJ)V"⟩
def k_JA_fillL_0 : List Instr := [.aload_n 0, .arraylength, .iload_n 1, .iload_n 2, .invokestatic 13, .iload_n 1, .istore 5]
def k_JA_fillL_10 : List Instr := [.iload 5, .iload_n 2, .if_icmp .ge 14, .aload_n 0, .iload 5, .lload_n 3, .lastore, .iinc 5 1, .goto (-14)]
def k_JA_fillL_27 : List Instr := [.return_]
def g_JA_fillL : List (Nat × List Instr) := [(0, k_JA_fillL_0), (10, k_JA_fillL_10), (27, k_JA_fillL_27)]
theorem o_JA_fillL : ∀ q ∈ g_JA_fillL, okB b_JA_fillL q.1 q.2 = true := List.all_eq_true.mp (by decide +kernel : g_JA_fillL.all (fun q => okB b_JA_fillL q.1 q.2) = true)
theorem j_JA_fillL_0 (f : List Instr → Prop) : lk1 g_JA_fillL 0 f = f [.aload_n 0, .arraylength, .iload_n 1, .iload_n 2, .invokestatic 13, .iload_n 1, .istore 5] := (rfl)
theorem j_JA_fillL_10 (f : List Instr → Prop) : lk1 g_JA_fillL 10 f = f [.iload 5, .iload_n 2, .if_icmp .ge 14, .aload_n 0, .iload 5, .lload_n 3, .lastore, .iinc 5 1, .goto (-14)] := (rfl)
theorem j_JA_fillL_27 (f : List Instr → Prop) : lk1 g_JA_fillL 27 f = f [.return_] := (rfl)
abbrev b_JA_rangeCheck : ByteArray := prog_17_method_30_code
abbrev y_JA_rangeCheck : MethodName := ⟨R_JA, "rangeCheck", "(III)V"⟩
def k_JA_rangeCheck_0 : List Instr := [.iload_n 1, .iload_n 2, .if_icmp .le 44]
def k_JA_rangeCheck_46 : List Instr := [.iload_n 1, .ifCond .ge 12]
def k_JA_rangeCheck_59 : List Instr := [.iload_n 2, .iload_n 0, .if_icmp .le 12]
def k_JA_rangeCheck_73 : List Instr := [.return_]
def g_JA_rangeCheck : List (Nat × List Instr) := [(0, k_JA_rangeCheck_0), (46, k_JA_rangeCheck_46), (59, k_JA_rangeCheck_59), (73, k_JA_rangeCheck_73)]
theorem o_JA_rangeCheck : ∀ q ∈ g_JA_rangeCheck, okB b_JA_rangeCheck q.1 q.2 = true := List.all_eq_true.mp (by decide +kernel : g_JA_rangeCheck.all (fun q => okB b_JA_rangeCheck q.1 q.2) = true)
theorem j_JA_rangeCheck_0 (f : List Instr → Prop) : lk1 g_JA_rangeCheck 0 f = f [.iload_n 1, .iload_n 2, .if_icmp .le 44] := (rfl)
theorem j_JA_rangeCheck_46 (f : List Instr → Prop) : lk1 g_JA_rangeCheck 46 f = f [.iload_n 1, .ifCond .ge 12] := (rfl)
theorem j_JA_rangeCheck_59 (f : List Instr → Prop) : lk1 g_JA_rangeCheck 59 f = f [.iload_n 2, .iload_n 0, .if_icmp .le 12] := (rfl)
theorem j_JA_rangeCheck_73 (f : List Instr → Prop) : lk1 g_JA_rangeCheck 73 f = f [.return_] := (rfl)
abbrev b_JI_numberOfTrailingZeros : ByteArray := prog_12_method_48_code
abbrev y_JI_numberOfTrailingZeros : MethodName := ⟨R_JI, "numberOfTrailingZeros", "(I)I"⟩
def k_JI_numberOfTrailingZeros_0 : List Instr := [.iload_n 0, .iconst (-1), .ixor, .iload_n 0, .iconst 1, .isub, .iand, .istore_n 0, .iload_n 0, .ifCond .gt 8, .iload_n 0, .bipush 32, .iand, .ireturn]
def k_JI_numberOfTrailingZeros_17 : List Instr := [.iconst 1, .istore_n 1, .iload_n 0, .ldc_w 264, .if_icmp .le 11, .iinc 1 16, .iload_n 0, .bipush 16, .iushr, .istore_n 0]
def k_JI_numberOfTrailingZeros_34 : List Instr := [.iload_n 0, .sipush 256, .if_icmp .le 11, .iinc 1 8, .iload_n 0, .bipush 8, .iushr, .istore_n 0]
def k_JI_numberOfTrailingZeros_49 : List Instr := [.iload_n 0, .bipush 16, .if_icmp .le 10, .iinc 1 4, .iload_n 0, .iconst 4, .iushr, .istore_n 0]
def k_JI_numberOfTrailingZeros_62 : List Instr := [.iload_n 0, .iconst 4, .if_icmp .le 10, .iinc 1 2, .iload_n 0, .iconst 2, .iushr, .istore_n 0]
def k_JI_numberOfTrailingZeros_74 : List Instr := [.iload_n 1, .iload_n 0, .iconst 1, .iushr, .iadd, .ireturn]
def g_JI_numberOfTrailingZeros : List (Nat × List Instr) := [(0, k_JI_numberOfTrailingZeros_0), (17, k_JI_numberOfTrailingZeros_17), (34, k_JI_numberOfTrailingZeros_34), (49, k_JI_numberOfTrailingZeros_49), (62, k_JI_numberOfTrailingZeros_62), (74, k_JI_numberOfTrailingZeros_74)]
theorem o_JI_numberOfTrailingZeros : ∀ q ∈ g_JI_numberOfTrailingZeros, okB b_JI_numberOfTrailingZeros q.1 q.2 = true := List.all_eq_true.mp (by decide +kernel : g_JI_numberOfTrailingZeros.all (fun q => okB b_JI_numberOfTrailingZeros q.1 q.2) = true)
theorem j_JI_numberOfTrailingZeros_0 (f : List Instr → Prop) : lk1 g_JI_numberOfTrailingZeros 0 f = f [.iload_n 0, .iconst (-1), .ixor, .iload_n 0, .iconst 1, .isub, .iand, .istore_n 0, .iload_n 0, .ifCond .gt 8, .iload_n 0, .bipush 32, .iand, .ireturn] := (rfl)
theorem j_JI_numberOfTrailingZeros_17 (f : List Instr → Prop) : lk1 g_JI_numberOfTrailingZeros 17 f = f [.iconst 1, .istore_n 1, .iload_n 0, .ldc_w 264, .if_icmp .le 11, .iinc 1 16, .iload_n 0, .bipush 16, .iushr, .istore_n 0] := (rfl)
theorem j_JI_numberOfTrailingZeros_34 (f : List Instr → Prop) : lk1 g_JI_numberOfTrailingZeros 34 f = f [.iload_n 0, .sipush 256, .if_icmp .le 11, .iinc 1 8, .iload_n 0, .bipush 8, .iushr, .istore_n 0] := (rfl)
theorem j_JI_numberOfTrailingZeros_49 (f : List Instr → Prop) : lk1 g_JI_numberOfTrailingZeros 49 f = f [.iload_n 0, .bipush 16, .if_icmp .le 10, .iinc 1 4, .iload_n 0, .iconst 4, .iushr, .istore_n 0] := (rfl)
theorem j_JI_numberOfTrailingZeros_62 (f : List Instr → Prop) : lk1 g_JI_numberOfTrailingZeros 62 f = f [.iload_n 0, .iconst 4, .if_icmp .le 10, .iinc 1 2, .iload_n 0, .iconst 2, .iushr, .istore_n 0] := (rfl)
theorem j_JI_numberOfTrailingZeros_74 (f : List Instr → Prop) : lk1 g_JI_numberOfTrailingZeros 74 f = f [.iload_n 1, .iload_n 0, .iconst 1, .iushr, .iadd, .ireturn] := (rfl)
abbrev b_JL_numberOfTrailingZeros : ByteArray := prog_13_method_49_code
abbrev y_JL_numberOfTrailingZeros : MethodName := ⟨R_JL, "numberOfTrailingZeros", "(J)I"⟩
def k_JL_numberOfTrailingZeros_0 : List Instr := [.lload_n 0, .l2i, .istore_n 2, .iload_n 2, .ifCond .ne 17, .bipush 32, .lload_n 0, .bipush 32, .lushr, .l2i, .invokestatic 311, .iadd, .goto 7]
def k_JL_numberOfTrailingZeros_21 : List Instr := [.iload_n 2, .invokestatic 311]
def k_JL_numberOfTrailingZeros_25 : List Instr := [.ireturn]
def g_JL_numberOfTrailingZeros : List (Nat × List Instr) := [(0, k_JL_numberOfTrailingZeros_0), (21, k_JL_numberOfTrailingZeros_21), (25, k_JL_numberOfTrailingZeros_25)]
theorem o_JL_numberOfTrailingZeros : ∀ q ∈ g_JL_numberOfTrailingZeros, okB b_JL_numberOfTrailingZeros q.1 q.2 = true := List.all_eq_true.mp (by decide +kernel : g_JL_numberOfTrailingZeros.all (fun q => okB b_JL_numberOfTrailingZeros q.1 q.2) = true)
theorem j_JL_numberOfTrailingZeros_0 (f : List Instr → Prop) : lk1 g_JL_numberOfTrailingZeros 0 f = f [.lload_n 0, .l2i, .istore_n 2, .iload_n 2, .ifCond .ne 17, .bipush 32, .lload_n 0, .bipush 32, .lushr, .l2i, .invokestatic 311, .iadd, .goto 7] := (rfl)
theorem j_JL_numberOfTrailingZeros_21 (f : List Instr → Prop) : lk1 g_JL_numberOfTrailingZeros 21 f = f [.iload_n 2, .invokestatic 311] := (rfl)
theorem j_JL_numberOfTrailingZeros_25 (f : List Instr → Prop) : lk1 g_JL_numberOfTrailingZeros 25 f = f [.ireturn] := (rfl)
abbrev b_JM_max : ByteArray := prog_14_method_65_code
abbrev y_JM_max : MethodName := ⟨R_JM, "max", "(II)I"⟩
def k_JM_max_0 : List Instr := [.iload_n 0, .iload_n 1, .if_icmp .lt 7, .iload_n 0, .goto 4]
def k_JM_max_9 : List Instr := [.iload_n 1]
def k_JM_max_10 : List Instr := [.ireturn]
def g_JM_max : List (Nat × List Instr) := [(0, k_JM_max_0), (9, k_JM_max_9), (10, k_JM_max_10)]
theorem o_JM_max : ∀ q ∈ g_JM_max, okB b_JM_max q.1 q.2 = true := List.all_eq_true.mp (by decide +kernel : g_JM_max.all (fun q => okB b_JM_max q.1 q.2) = true)
theorem j_JM_max_0 (f : List Instr → Prop) : lk1 g_JM_max 0 f = f [.iload_n 0, .iload_n 1, .if_icmp .lt 7, .iload_n 0, .goto 4] := (rfl)
theorem j_JM_max_9 (f : List Instr → Prop) : lk1 g_JM_max 9 f = f [.iload_n 1] := (rfl)
theorem j_JM_max_10 (f : List Instr → Prop) : lk1 g_JM_max 10 f = f [.ireturn] := (rfl)
abbrev b_JM_min : ByteArray := prog_14_method_69_code
abbrev y_JM_min : MethodName := ⟨R_JM, "min", "(II)I"⟩
def k_JM_min_0 : List Instr := [.iload_n 0, .iload_n 1, .if_icmp .gt 7, .iload_n 0, .goto 4]
def k_JM_min_9 : List Instr := [.iload_n 1]
def k_JM_min_10 : List Instr := [.ireturn]
def g_JM_min : List (Nat × List Instr) := [(0, k_JM_min_0), (9, k_JM_min_9), (10, k_JM_min_10)]
theorem o_JM_min : ∀ q ∈ g_JM_min, okB b_JM_min q.1 q.2 = true := List.all_eq_true.mp (by decide +kernel : g_JM_min.all (fun q => okB b_JM_min q.1 q.2) = true)
theorem j_JM_min_0 (f : List Instr → Prop) : lk1 g_JM_min 0 f = f [.iload_n 0, .iload_n 1, .if_icmp .gt 7, .iload_n 0, .goto 4] := (rfl)
theorem j_JM_min_9 (f : List Instr → Prop) : lk1 g_JM_min 9 f = f [.iload_n 1] := (rfl)
theorem j_JM_min_10 (f : List Instr → Prop) : lk1 g_JM_min 10 f = f [.ireturn] := (rfl)
abbrev b_K_make : ByteArray := prog_6_method_2_code
abbrev y_K_make : MethodName := ⟨RX4, "make", "(LEvenWire$Bans;)Z"⟩
def k_K_make_0 : List Instr := [.aload_n 0, .aload_n 1, .invokevirtual 42, .aload_n 0, .invokevirtual 46, .aload_n 0, .getfield 23, .iconst 0, .iaload, .iconst (-1), .if_icmp .ne 10, .aload_n 0, .iconst 0, .putfield 39, .iconst 1, .ireturn]
def k_K_make_26 : List Instr := [.aload_n 0, .iconst 1, .putfield 39, .aload_n 0, .invokevirtual 49, .ireturn]
def g_K_make : List (Nat × List Instr) := [(0, k_K_make_0), (26, k_K_make_26)]
theorem o_K_make : ∀ q ∈ g_K_make, okB b_K_make q.1 q.2 = true := List.all_eq_true.mp (by decide +kernel : g_K_make.all (fun q => okB b_K_make q.1 q.2) = true)
theorem j_K_make_0 (f : List Instr → Prop) : lk1 g_K_make 0 f = f [.aload_n 0, .aload_n 1, .invokevirtual 42, .aload_n 0, .invokevirtual 46, .aload_n 0, .getfield 23, .iconst 0, .iaload, .iconst (-1), .if_icmp .ne 10, .aload_n 0, .iconst 0, .putfield 39, .iconst 1, .ireturn] := (rfl)
theorem j_K_make_26 (f : List Instr → Prop) : lk1 g_K_make 26 f = f [.aload_n 0, .iconst 1, .putfield 39, .aload_n 0, .invokevirtual 49, .ireturn] := (rfl)
abbrev b_K_explore : ByteArray := prog_6_method_4_code
abbrev y_K_explore : MethodName := ⟨RX4, "explore", "(LEvenWire$Bans;)V"⟩
def k_K_explore_0 : List Instr := [.aload_n 1, .invokevirtual 53, .istore_n 2, .aload_n 0, .getfield 11, .iconst (-1), .invokestatic 57, .aload_n 0, .iconst 0, .putfield 36, .aload_n 0, .aload_n 1, .invokevirtual 63, .invokevirtual 66, .pop, .iconst 0, .istore_n 3]
def k_K_explore_29 : List Instr := [.iload_n 3, .sipush 2816, .if_icmp .ge 70, .iload_n 3, .aload_n 0, .getfield 36, .if_icmp .lt 6, .goto 59]
def k_K_explore_47 : List Instr := [.aload_n 0, .getfield 20, .iconst 2, .iload_n 3, .imul, .aload_n 0, .aload_n 1, .aload_n 0, .getfield 17, .iload_n 3, .iaload, .iconst 0, .iload_n 2, .invokevirtual 70, .invokevirtual 66, .iastore, .aload_n 0, .getfield 20, .iconst 2, .iload_n 3, .imul, .iconst 1, .iadd, .aload_n 0, .aload_n 1, .aload_n 0, .getfield 17, .iload_n 3, .iaload, .iconst 1, .iload_n 2, .invokevirtual 70, .invokevirtual 66, .iastore, .iinc 3 1, .goto (-71)]
def k_K_explore_103 : List Instr := [.return_]
def g_K_explore : List (Nat × List Instr) := [(0, k_K_explore_0), (29, k_K_explore_29), (47, k_K_explore_47), (103, k_K_explore_103)]
theorem o_K_explore : ∀ q ∈ g_K_explore, okB b_K_explore q.1 q.2 = true := List.all_eq_true.mp (by decide +kernel : g_K_explore.all (fun q => okB b_K_explore q.1 q.2) = true)
theorem j_K_explore_0 (f : List Instr → Prop) : lk1 g_K_explore 0 f = f [.aload_n 1, .invokevirtual 53, .istore_n 2, .aload_n 0, .getfield 11, .iconst (-1), .invokestatic 57, .aload_n 0, .iconst 0, .putfield 36, .aload_n 0, .aload_n 1, .invokevirtual 63, .invokevirtual 66, .pop, .iconst 0, .istore_n 3] := (rfl)
theorem j_K_explore_29 (f : List Instr → Prop) : lk1 g_K_explore 29 f = f [.iload_n 3, .sipush 2816, .if_icmp .ge 70, .iload_n 3, .aload_n 0, .getfield 36, .if_icmp .lt 6, .goto 59] := (rfl)
theorem j_K_explore_47 (f : List Instr → Prop) : lk1 g_K_explore 47 f = f [.aload_n 0, .getfield 20, .iconst 2, .iload_n 3, .imul, .aload_n 0, .aload_n 1, .aload_n 0, .getfield 17, .iload_n 3, .iaload, .iconst 0, .iload_n 2, .invokevirtual 70, .invokevirtual 66, .iastore, .aload_n 0, .getfield 20, .iconst 2, .iload_n 3, .imul, .iconst 1, .iadd, .aload_n 0, .aload_n 1, .aload_n 0, .getfield 17, .iload_n 3, .iaload, .iconst 1, .iload_n 2, .invokevirtual 70, .invokevirtual 66, .iastore, .iinc 3 1, .goto (-71)] := (rfl)
theorem j_K_explore_103 (f : List Instr → Prop) : lk1 g_K_explore 103 f = f [.return_] := (rfl)
abbrev b_K_placeFor : ByteArray := prog_6_method_5_code
abbrev y_K_placeFor : MethodName := ⟨RX4, "placeFor", "(I)I"⟩
def k_K_placeFor_0 : List Instr := [.iload_n 1, .ifCond .lt 10, .iload_n 1, .sipush 2816, .if_icmp .lt 5]
def k_K_placeFor_11 : List Instr := [.iconst (-1), .ireturn]
def k_K_placeFor_13 : List Instr := [.aload_n 0, .getfield 11, .iload_n 1, .iaload, .iconst (-1), .if_icmp .ne 53, .aload_n 0, .getfield 36, .sipush 2816, .if_icmp .ge 43, .aload_n 0, .getfield 11, .iload_n 1, .aload_n 0, .getfield 36, .iastore, .aload_n 0, .getfield 17, .aload_n 0, .getfield 36, .iload_n 1, .iastore, .aload_n 0, .getfield 23, .aload_n 0, .getfield 36, .iconst 0, .iastore, .aload_n 0, .dup, .getfield 36, .iconst 1, .iadd, .putfield 36]
def k_K_placeFor_73 : List Instr := [.aload_n 0, .getfield 11, .iload_n 1, .iaload, .ireturn]
def g_K_placeFor : List (Nat × List Instr) := [(0, k_K_placeFor_0), (11, k_K_placeFor_11), (13, k_K_placeFor_13), (73, k_K_placeFor_73)]
theorem o_K_placeFor : ∀ q ∈ g_K_placeFor, okB b_K_placeFor q.1 q.2 = true := List.all_eq_true.mp (by decide +kernel : g_K_placeFor.all (fun q => okB b_K_placeFor q.1 q.2) = true)
theorem j_K_placeFor_0 (f : List Instr → Prop) : lk1 g_K_placeFor 0 f = f [.iload_n 1, .ifCond .lt 10, .iload_n 1, .sipush 2816, .if_icmp .lt 5] := (rfl)
theorem j_K_placeFor_11 (f : List Instr → Prop) : lk1 g_K_placeFor 11 f = f [.iconst (-1), .ireturn] := (rfl)
theorem j_K_placeFor_13 (f : List Instr → Prop) : lk1 g_K_placeFor 13 f = f [.aload_n 0, .getfield 11, .iload_n 1, .iaload, .iconst (-1), .if_icmp .ne 53, .aload_n 0, .getfield 36, .sipush 2816, .if_icmp .ge 43, .aload_n 0, .getfield 11, .iload_n 1, .aload_n 0, .getfield 36, .iastore, .aload_n 0, .getfield 17, .aload_n 0, .getfield 36, .iload_n 1, .iastore, .aload_n 0, .getfield 23, .aload_n 0, .getfield 36, .iconst 0, .iastore, .aload_n 0, .dup, .getfield 36, .iconst 1, .iadd, .putfield 36] := (rfl)
theorem j_K_placeFor_73 (f : List Instr → Prop) : lk1 g_K_placeFor 73 f = f [.aload_n 0, .getfield 11, .iload_n 1, .iaload, .ireturn] := (rfl)
abbrev b_K_dropDead : ByteArray := prog_6_method_6_code
abbrev y_K_dropDead : MethodName := ⟨RX4, "dropDead", "()V"⟩
def k_K_dropDead_0 : List Instr := [.iconst 0, .istore_n 1]
def k_K_dropDead_2 : List Instr := [.iload_n 1, .sipush 2816, .if_icmp .gt 17, .aload_n 0, .invokevirtual 74, .ifCond .ne 4, .return_]
def k_K_dropDead_17 : List Instr := [.iinc 1 1, .goto (-18)]
def k_K_dropDead_23 : List Instr := [.return_]
def g_K_dropDead : List (Nat × List Instr) := [(0, k_K_dropDead_0), (2, k_K_dropDead_2), (17, k_K_dropDead_17), (23, k_K_dropDead_23)]
theorem o_K_dropDead : ∀ q ∈ g_K_dropDead, okB b_K_dropDead q.1 q.2 = true := List.all_eq_true.mp (by decide +kernel : g_K_dropDead.all (fun q => okB b_K_dropDead q.1 q.2) = true)
theorem j_K_dropDead_0 (f : List Instr → Prop) : lk1 g_K_dropDead 0 f = f [.iconst 0, .istore_n 1] := (rfl)
theorem j_K_dropDead_2 (f : List Instr → Prop) : lk1 g_K_dropDead 2 f = f [.iload_n 1, .sipush 2816, .if_icmp .gt 17, .aload_n 0, .invokevirtual 74, .ifCond .ne 4, .return_] := (rfl)
theorem j_K_dropDead_17 (f : List Instr → Prop) : lk1 g_K_dropDead 17 f = f [.iinc 1 1, .goto (-18)] := (rfl)
theorem j_K_dropDead_23 (f : List Instr → Prop) : lk1 g_K_dropDead 23 f = f [.return_] := (rfl)
abbrev b_K_dropDeadOnce : ByteArray := prog_6_method_7_code
abbrev y_K_dropDeadOnce : MethodName := ⟨RX4, "dropDeadOnce", "()Z"⟩
def k_K_dropDeadOnce_0 : List Instr := [.iconst 0, .istore_n 1, .aload_n 0, .getfield 36, .iconst 1, .isub, .istore_n 2]
def k_K_dropDeadOnce_9 : List Instr := [.iload_n 2, .ifCond .lt 48, .aload_n 0, .getfield 23, .iload_n 2, .iaload, .iconst (-1), .if_icmp .eq 32, .aload_n 0, .iload_n 2, .iconst 0, .invokevirtual 77, .iconst (-1), .if_icmp .ne 22, .aload_n 0, .iload_n 2, .iconst 1, .invokevirtual 77, .iconst (-1), .if_icmp .ne 12, .aload_n 0, .getfield 23, .iload_n 2, .iconst (-1), .iastore, .iconst 1, .istore_n 1]
def k_K_dropDeadOnce_52 : List Instr := [.iinc 2 (-1), .goto (-46)]
def k_K_dropDeadOnce_58 : List Instr := [.iload_n 1, .ireturn]
def g_K_dropDeadOnce : List (Nat × List Instr) := [(0, k_K_dropDeadOnce_0), (9, k_K_dropDeadOnce_9), (52, k_K_dropDeadOnce_52), (58, k_K_dropDeadOnce_58)]
theorem o_K_dropDeadOnce : ∀ q ∈ g_K_dropDeadOnce, okB b_K_dropDeadOnce q.1 q.2 = true := List.all_eq_true.mp (by decide +kernel : g_K_dropDeadOnce.all (fun q => okB b_K_dropDeadOnce q.1 q.2) = true)
theorem j_K_dropDeadOnce_0 (f : List Instr → Prop) : lk1 g_K_dropDeadOnce 0 f = f [.iconst 0, .istore_n 1, .aload_n 0, .getfield 36, .iconst 1, .isub, .istore_n 2] := (rfl)
theorem j_K_dropDeadOnce_9 (f : List Instr → Prop) : lk1 g_K_dropDeadOnce 9 f = f [.iload_n 2, .ifCond .lt 48, .aload_n 0, .getfield 23, .iload_n 2, .iaload, .iconst (-1), .if_icmp .eq 32, .aload_n 0, .iload_n 2, .iconst 0, .invokevirtual 77, .iconst (-1), .if_icmp .ne 22, .aload_n 0, .iload_n 2, .iconst 1, .invokevirtual 77, .iconst (-1), .if_icmp .ne 12, .aload_n 0, .getfield 23, .iload_n 2, .iconst (-1), .iastore, .iconst 1, .istore_n 1] := (rfl)
theorem j_K_dropDeadOnce_52 (f : List Instr → Prop) : lk1 g_K_dropDeadOnce 52 f = f [.iinc 2 (-1), .goto (-46)] := (rfl)
theorem j_K_dropDeadOnce_58 (f : List Instr → Prop) : lk1 g_K_dropDeadOnce 58 f = f [.iload_n 1, .ireturn] := (rfl)
abbrev b_K_groupAfter : ByteArray := prog_6_method_8_code
abbrev y_K_groupAfter : MethodName := ⟨RX4, "groupAfter", "(II)I"⟩
def k_K_groupAfter_0 : List Instr := [.aload_n 0, .getfield 20, .iconst 2, .iload_n 1, .imul, .iload_n 2, .iadd, .iaload, .istore_n 3, .iload_n 3, .ifCond .lt 11, .iload_n 3, .aload_n 0, .getfield 36, .if_icmp .lt 7]
def k_K_groupAfter_23 : List Instr := [.iconst (-1), .goto 9]
def k_K_groupAfter_27 : List Instr := [.aload_n 0, .getfield 23, .iload_n 3, .iaload]
def k_K_groupAfter_33 : List Instr := [.ireturn]
def g_K_groupAfter : List (Nat × List Instr) := [(0, k_K_groupAfter_0), (23, k_K_groupAfter_23), (27, k_K_groupAfter_27), (33, k_K_groupAfter_33)]
theorem o_K_groupAfter : ∀ q ∈ g_K_groupAfter, okB b_K_groupAfter q.1 q.2 = true := List.all_eq_true.mp (by decide +kernel : g_K_groupAfter.all (fun q => okB b_K_groupAfter q.1 q.2) = true)
theorem j_K_groupAfter_0 (f : List Instr → Prop) : lk1 g_K_groupAfter 0 f = f [.aload_n 0, .getfield 20, .iconst 2, .iload_n 1, .imul, .iload_n 2, .iadd, .iaload, .istore_n 3, .iload_n 3, .ifCond .lt 11, .iload_n 3, .aload_n 0, .getfield 36, .if_icmp .lt 7] := (rfl)
theorem j_K_groupAfter_23 (f : List Instr → Prop) : lk1 g_K_groupAfter 23 f = f [.iconst (-1), .goto 9] := (rfl)
theorem j_K_groupAfter_27 (f : List Instr → Prop) : lk1 g_K_groupAfter 27 f = f [.aload_n 0, .getfield 23, .iload_n 3, .iaload] := (rfl)
theorem j_K_groupAfter_33 (f : List Instr → Prop) : lk1 g_K_groupAfter 33 f = f [.ireturn] := (rfl)
abbrev b_K_refine : ByteArray := prog_6_method_9_code
abbrev y_K_refine : MethodName := ⟨RX4, "refine", "()Z"⟩
def k_K_refine_0 : List Instr := [.iconst 0, .istore_n 1]
def k_K_refine_2 : List Instr := [.iload_n 1, .bipush 100, .if_icmp .gt 42, .aload_n 0, .getfield 39, .istore_n 2, .aload_n 0, .iconst 0, .invokevirtual 81, .ifCond .eq 11, .aload_n 0, .iconst 1, .invokevirtual 81, .ifCond .ne 5]
def k_K_refine_29 : List Instr := [.iconst 0, .ireturn]
def k_K_refine_31 : List Instr := [.aload_n 0, .getfield 39, .iload_n 2, .if_icmp .ne 5, .iconst 1, .ireturn]
def k_K_refine_41 : List Instr := [.iinc 1 1, .goto (-42)]
def k_K_refine_47 : List Instr := [.iconst 0, .ireturn]
def g_K_refine : List (Nat × List Instr) := [(0, k_K_refine_0), (2, k_K_refine_2), (29, k_K_refine_29), (31, k_K_refine_31), (41, k_K_refine_41), (47, k_K_refine_47)]
theorem o_K_refine : ∀ q ∈ g_K_refine, okB b_K_refine q.1 q.2 = true := List.all_eq_true.mp (by decide +kernel : g_K_refine.all (fun q => okB b_K_refine q.1 q.2) = true)
theorem j_K_refine_0 (f : List Instr → Prop) : lk1 g_K_refine 0 f = f [.iconst 0, .istore_n 1] := (rfl)
theorem j_K_refine_2 (f : List Instr → Prop) : lk1 g_K_refine 2 f = f [.iload_n 1, .bipush 100, .if_icmp .gt 42, .aload_n 0, .getfield 39, .istore_n 2, .aload_n 0, .iconst 0, .invokevirtual 81, .ifCond .eq 11, .aload_n 0, .iconst 1, .invokevirtual 81, .ifCond .ne 5] := (rfl)
theorem j_K_refine_29 (f : List Instr → Prop) : lk1 g_K_refine 29 f = f [.iconst 0, .ireturn] := (rfl)
theorem j_K_refine_31 (f : List Instr → Prop) : lk1 g_K_refine 31 f = f [.aload_n 0, .getfield 39, .iload_n 2, .if_icmp .ne 5, .iconst 1, .ireturn] := (rfl)
theorem j_K_refine_41 (f : List Instr → Prop) : lk1 g_K_refine 41 f = f [.iinc 1 1, .goto (-42)] := (rfl)
theorem j_K_refine_47 (f : List Instr → Prop) : lk1 g_K_refine 47 f = f [.iconst 0, .ireturn] := (rfl)
abbrev b_K_split : ByteArray := prog_6_method_10_code
abbrev y_K_split : MethodName := ⟨RX4, "split", "(I)Z"⟩
def k_K_split_0 : List Instr := [.iconst 0, .istore_n 2, .aload_n 0, .dup, .getfield 32, .bipush 101, .iadd, .putfield 32, .iconst 0, .istore_n 3]
def k_K_split_15 : List Instr := [.iload_n 3, .aload_n 0, .getfield 36, .if_icmp .ge 105, .aload_n 0, .getfield 23, .iload_n 3, .iaload, .iconst (-1), .if_icmp .ne 13, .aload_n 0, .getfield 26, .iload_n 3, .iconst (-1), .iastore, .goto 79]
def k_K_split_43 : List Instr := [.aload_n 0, .getfield 23, .iload_n 3, .iaload, .bipush 101, .imul, .aload_n 0, .iload_n 3, .iload_n 1, .invokevirtual 77, .iadd, .iconst 1, .iadd, .istore 4, .aload_n 0, .getfield 29, .iload 4, .iaload, .aload_n 0, .getfield 32, .if_icmp .ge 27, .iload_n 2, .bipush 100, .if_icmp .lt 5, .iconst 0, .ireturn]
def k_K_split_85 : List Instr := [.aload_n 0, .getfield 29, .iload 4, .aload_n 0, .getfield 32, .iload_n 2, .iadd, .iastore, .iinc 2 1]
def k_K_split_101 : List Instr := [.aload_n 0, .getfield 26, .iload_n 3, .aload_n 0, .getfield 29, .iload 4, .iaload, .aload_n 0, .getfield 32, .isub, .iastore]
def k_K_split_119 : List Instr := [.iinc 3 1, .goto (-107)]
def k_K_split_125 : List Instr := [.aload_n 0, .getfield 26, .iconst 0, .aload_n 0, .getfield 23, .iconst 0, .aload_n 0, .getfield 36, .invokestatic 85, .aload_n 0, .iload_n 2, .putfield 39, .iconst 1, .ireturn]
def g_K_split : List (Nat × List Instr) := [(0, k_K_split_0), (15, k_K_split_15), (43, k_K_split_43), (85, k_K_split_85), (101, k_K_split_101), (119, k_K_split_119), (125, k_K_split_125)]
theorem o_K_split : ∀ q ∈ g_K_split, okB b_K_split q.1 q.2 = true := List.all_eq_true.mp (by decide +kernel : g_K_split.all (fun q => okB b_K_split q.1 q.2) = true)
theorem j_K_split_0 (f : List Instr → Prop) : lk1 g_K_split 0 f = f [.iconst 0, .istore_n 2, .aload_n 0, .dup, .getfield 32, .bipush 101, .iadd, .putfield 32, .iconst 0, .istore_n 3] := (rfl)
theorem j_K_split_15 (f : List Instr → Prop) : lk1 g_K_split 15 f = f [.iload_n 3, .aload_n 0, .getfield 36, .if_icmp .ge 105, .aload_n 0, .getfield 23, .iload_n 3, .iaload, .iconst (-1), .if_icmp .ne 13, .aload_n 0, .getfield 26, .iload_n 3, .iconst (-1), .iastore, .goto 79] := (rfl)
theorem j_K_split_43 (f : List Instr → Prop) : lk1 g_K_split 43 f = f [.aload_n 0, .getfield 23, .iload_n 3, .iaload, .bipush 101, .imul, .aload_n 0, .iload_n 3, .iload_n 1, .invokevirtual 77, .iadd, .iconst 1, .iadd, .istore 4, .aload_n 0, .getfield 29, .iload 4, .iaload, .aload_n 0, .getfield 32, .if_icmp .ge 27, .iload_n 2, .bipush 100, .if_icmp .lt 5, .iconst 0, .ireturn] := (rfl)
theorem j_K_split_85 (f : List Instr → Prop) : lk1 g_K_split 85 f = f [.aload_n 0, .getfield 29, .iload 4, .aload_n 0, .getfield 32, .iload_n 2, .iadd, .iastore, .iinc 2 1] := (rfl)
theorem j_K_split_101 (f : List Instr → Prop) : lk1 g_K_split 101 f = f [.aload_n 0, .getfield 26, .iload_n 3, .aload_n 0, .getfield 29, .iload 4, .iaload, .aload_n 0, .getfield 32, .isub, .iastore] := (rfl)
theorem j_K_split_119 (f : List Instr → Prop) : lk1 g_K_split 119 f = f [.iinc 3 1, .goto (-107)] := (rfl)
theorem j_K_split_125 (f : List Instr → Prop) : lk1 g_K_split 125 f = f [.aload_n 0, .getfield 26, .iconst 0, .aload_n 0, .getfield 23, .iconst 0, .aload_n 0, .getfield 36, .invokestatic 85, .aload_n 0, .iload_n 2, .putfield 39, .iconst 1, .ireturn] := (rfl)
abbrev b_K_made : ByteArray := prog_6_method_3_code
abbrev y_K_made : MethodName := ⟨RX4, "made", "()I"⟩
def k_K_made_0 : List Instr := [.aload_n 0, .getfield 39, .ireturn]
def g_K_made : List (Nat × List Instr) := [(0, k_K_made_0)]
theorem o_K_made : ∀ q ∈ g_K_made, okB b_K_made q.1 q.2 = true := List.all_eq_true.mp (by decide +kernel : g_K_made.all (fun q => okB b_K_made q.1 q.2) = true)
theorem j_K_made_0 (f : List Instr → Prop) : lk1 g_K_made 0 f = f [.aload_n 0, .getfield 39, .ireturn] := (rfl)
abbrev b_K_fill : ByteArray := prog_6_method_11_code
abbrev y_K_fill : MethodName := ⟨RX4, "fill", "([I)V"⟩
def k_K_fill_0 : List Instr := [.iconst 0, .istore_n 2, .iconst 0, .istore_n 3]
def k_K_fill_4 : List Instr := [.iload_n 3, .aload_n 0, .getfield 36, .if_icmp .ge 56, .aload_n 0, .getfield 23, .iload_n 3, .iaload, .iload_n 2, .if_icmp .ne 40, .iconst 2, .iload_n 2, .imul, .iconst 1, .iadd, .aload_n 1, .arraylength, .if_icmp .ge 30, .aload_n 1, .iconst 2, .iload_n 2, .imul, .aload_n 0, .iload_n 3, .iconst 0, .invokevirtual 77, .iastore, .aload_n 1, .iconst 2, .iload_n 2, .imul, .iconst 1, .iadd, .aload_n 0, .iload_n 3, .iconst 1, .invokevirtual 77, .iastore, .iinc 2 1]
def k_K_fill_59 : List Instr := [.iinc 3 1, .goto (-58)]
def k_K_fill_65 : List Instr := [.return_]
def g_K_fill : List (Nat × List Instr) := [(0, k_K_fill_0), (4, k_K_fill_4), (59, k_K_fill_59), (65, k_K_fill_65)]
theorem o_K_fill : ∀ q ∈ g_K_fill, okB b_K_fill q.1 q.2 = true := List.all_eq_true.mp (by decide +kernel : g_K_fill.all (fun q => okB b_K_fill q.1 q.2) = true)
theorem j_K_fill_0 (f : List Instr → Prop) : lk1 g_K_fill 0 f = f [.iconst 0, .istore_n 2, .iconst 0, .istore_n 3] := (rfl)
theorem j_K_fill_4 (f : List Instr → Prop) : lk1 g_K_fill 4 f = f [.iload_n 3, .aload_n 0, .getfield 36, .if_icmp .ge 56, .aload_n 0, .getfield 23, .iload_n 3, .iaload, .iload_n 2, .if_icmp .ne 40, .iconst 2, .iload_n 2, .imul, .iconst 1, .iadd, .aload_n 1, .arraylength, .if_icmp .ge 30, .aload_n 1, .iconst 2, .iload_n 2, .imul, .aload_n 0, .iload_n 3, .iconst 0, .invokevirtual 77, .iastore, .aload_n 1, .iconst 2, .iload_n 2, .imul, .iconst 1, .iadd, .aload_n 0, .iload_n 3, .iconst 1, .invokevirtual 77, .iastore, .iinc 2 1] := (rfl)
theorem j_K_fill_59 (f : List Instr → Prop) : lk1 g_K_fill 59 f = f [.iinc 3 1, .goto (-58)] := (rfl)
theorem j_K_fill_65 (f : List Instr → Prop) : lk1 g_K_fill 65 f = f [.return_] := (rfl)
abbrev b_L_setAll : ByteArray := prog_5_method_2_code
abbrev y_L_setAll : MethodName := ⟨RX3, "setAll", "(J)V"⟩
def k_L_setAll_0 : List Instr := [.aload_n 0, .getfield 11, .iconst 0, .bipush 100, .lload_n 1, .invokestatic 15, .return_]
def g_L_setAll : List (Nat × List Instr) := [(0, k_L_setAll_0)]
theorem o_L_setAll : ∀ q ∈ g_L_setAll, okB b_L_setAll q.1 q.2 = true := List.all_eq_true.mp (by decide +kernel : g_L_setAll.all (fun q => okB b_L_setAll q.1 q.2) = true)
theorem j_L_setAll_0 (f : List Instr → Prop) : lk1 g_L_setAll 0 f = f [.aload_n 0, .getfield 11, .iconst 0, .bipush 100, .lload_n 1, .invokestatic 15, .return_] := (rfl)
abbrev b_L_climb : ByteArray := prog_5_method_5_code
abbrev y_L_climb : MethodName := ⟨RX3, "climb", "(LEvenWire$Wire;I)V"⟩
def k_L_climb_0 : List Instr := [.iconst 1, .istore_n 3]
def k_L_climb_2 : List Instr := [.iload_n 3, .iload_n 2, .if_icmp .gt 81, .iload_n 3, .bipush 61, .if_icmp .ge 75, .iconst 0, .istore 4]
def k_L_climb_16 : List Instr := [.iload 4, .aload_n 1, .invokevirtual 21, .if_icmp .ge 57, .iload 4, .bipush 100, .if_icmp .ge 50, .aload_n 0, .getfield 11, .iload_n 3, .bipush 100, .imul, .iload 4, .iadd, .aload_n 0, .iload_n 3, .iconst 1, .isub, .aload_n 1, .iload 4, .iconst 0, .invokevirtual 27, .invokevirtual 31, .aload_n 0, .iload_n 3, .iconst 1, .isub, .aload_n 1, .iload 4, .iconst 1, .invokevirtual 27, .invokevirtual 31, .ladd, .lastore, .iinc 4 1, .goto (-60)]
def k_L_climb_79 : List Instr := [.iinc 3 1, .goto (-80)]
def k_L_climb_85 : List Instr := [.return_]
def g_L_climb : List (Nat × List Instr) := [(0, k_L_climb_0), (2, k_L_climb_2), (16, k_L_climb_16), (79, k_L_climb_79), (85, k_L_climb_85)]
theorem o_L_climb : ∀ q ∈ g_L_climb, okB b_L_climb q.1 q.2 = true := List.all_eq_true.mp (by decide +kernel : g_L_climb.all (fun q => okB b_L_climb q.1 q.2) = true)
theorem j_L_climb_0 (f : List Instr → Prop) : lk1 g_L_climb 0 f = f [.iconst 1, .istore_n 3] := (rfl)
theorem j_L_climb_2 (f : List Instr → Prop) : lk1 g_L_climb 2 f = f [.iload_n 3, .iload_n 2, .if_icmp .gt 81, .iload_n 3, .bipush 61, .if_icmp .ge 75, .iconst 0, .istore 4] := (rfl)
theorem j_L_climb_16 (f : List Instr → Prop) : lk1 g_L_climb 16 f = f [.iload 4, .aload_n 1, .invokevirtual 21, .if_icmp .ge 57, .iload 4, .bipush 100, .if_icmp .ge 50, .aload_n 0, .getfield 11, .iload_n 3, .bipush 100, .imul, .iload 4, .iadd, .aload_n 0, .iload_n 3, .iconst 1, .isub, .aload_n 1, .iload 4, .iconst 0, .invokevirtual 27, .invokevirtual 31, .aload_n 0, .iload_n 3, .iconst 1, .isub, .aload_n 1, .iload 4, .iconst 1, .invokevirtual 27, .invokevirtual 31, .ladd, .lastore, .iinc 4 1, .goto (-60)] := (rfl)
theorem j_L_climb_79 (f : List Instr → Prop) : lk1 g_L_climb 79 f = f [.iinc 3 1, .goto (-80)] := (rfl)
theorem j_L_climb_85 (f : List Instr → Prop) : lk1 g_L_climb 85 f = f [.return_] := (rfl)
abbrev b_L_at : ByteArray := prog_5_method_4_code
abbrev y_L_at : MethodName := ⟨RX3, "at", "(II)J"⟩
def k_L_at_0 : List Instr := [.iload_n 1, .ifCond .lt 19, .iload_n 1, .bipush 61, .if_icmp .ge 13, .iload_n 2, .ifCond .lt 9, .iload_n 2, .bipush 100, .if_icmp .lt 5]
def k_L_at_20 : List Instr := [.lconst 0, .lreturn]
def k_L_at_22 : List Instr := [.aload_n 0, .getfield 11, .iload_n 1, .bipush 100, .imul, .iload_n 2, .iadd, .laload, .lreturn]
def g_L_at : List (Nat × List Instr) := [(0, k_L_at_0), (20, k_L_at_20), (22, k_L_at_22)]
theorem o_L_at : ∀ q ∈ g_L_at, okB b_L_at q.1 q.2 = true := List.all_eq_true.mp (by decide +kernel : g_L_at.all (fun q => okB b_L_at q.1 q.2) = true)
theorem j_L_at_0 (f : List Instr → Prop) : lk1 g_L_at 0 f = f [.iload_n 1, .ifCond .lt 19, .iload_n 1, .bipush 61, .if_icmp .ge 13, .iload_n 2, .ifCond .lt 9, .iload_n 2, .bipush 100, .if_icmp .lt 5] := (rfl)
theorem j_L_at_20 (f : List Instr → Prop) : lk1 g_L_at 20 f = f [.lconst 0, .lreturn] := (rfl)
theorem j_L_at_22 (f : List Instr → Prop) : lk1 g_L_at 22 f = f [.aload_n 0, .getfield 11, .iload_n 1, .bipush 100, .imul, .iload_n 2, .iadd, .laload, .lreturn] := (rfl)
abbrev b_L_rank : ByteArray := prog_5_method_6_code
abbrev y_L_rank : MethodName := ⟨RX3, "rank", "(LEvenWire$Wire;IJI)J"⟩
def k_L_rank_0 : List Instr := [.lconst 0, .lstore 6, .iload_n 2, .istore 8, .iload 5, .iconst 1, .isub, .istore 9]
def k_L_rank_12 : List Instr := [.iload 9, .ifCond .lt 52, .lload_n 3, .iload 9, .lshr, .l2i, .iconst 1, .iand, .istore 10, .iload 10, .iconst 1, .if_icmp .ne 21, .lload 6, .aload_n 0, .iload 9, .aload_n 1, .iload 8, .iconst 0, .invokevirtual 27, .invokevirtual 31, .ladd, .lstore 6]
def k_L_rank_50 : List Instr := [.aload_n 1, .iload 8, .iload 10, .invokevirtual 27, .istore 8, .iinc 9 (-1), .goto (-51)]
def k_L_rank_66 : List Instr := [.aload_n 0, .iconst 0, .iload 8, .invokevirtual 31, .lconst 0, .lcmp, .ifCond .ne 9, .ldc2_w 35, .goto 5]
def k_L_rank_84 : List Instr := [.lload 6]
def k_L_rank_86 : List Instr := [.lreturn]
def g_L_rank : List (Nat × List Instr) := [(0, k_L_rank_0), (12, k_L_rank_12), (50, k_L_rank_50), (66, k_L_rank_66), (84, k_L_rank_84), (86, k_L_rank_86)]
theorem o_L_rank : ∀ q ∈ g_L_rank, okB b_L_rank q.1 q.2 = true := List.all_eq_true.mp (by decide +kernel : g_L_rank.all (fun q => okB b_L_rank q.1 q.2) = true)
theorem j_L_rank_0 (f : List Instr → Prop) : lk1 g_L_rank 0 f = f [.lconst 0, .lstore 6, .iload_n 2, .istore 8, .iload 5, .iconst 1, .isub, .istore 9] := (rfl)
theorem j_L_rank_12 (f : List Instr → Prop) : lk1 g_L_rank 12 f = f [.iload 9, .ifCond .lt 52, .lload_n 3, .iload 9, .lshr, .l2i, .iconst 1, .iand, .istore 10, .iload 10, .iconst 1, .if_icmp .ne 21, .lload 6, .aload_n 0, .iload 9, .aload_n 1, .iload 8, .iconst 0, .invokevirtual 27, .invokevirtual 31, .ladd, .lstore 6] := (rfl)
theorem j_L_rank_50 (f : List Instr → Prop) : lk1 g_L_rank 50 f = f [.aload_n 1, .iload 8, .iload 10, .invokevirtual 27, .istore 8, .iinc 9 (-1), .goto (-51)] := (rfl)
theorem j_L_rank_66 (f : List Instr → Prop) : lk1 g_L_rank 66 f = f [.aload_n 0, .iconst 0, .iload 8, .invokevirtual 31, .lconst 0, .lcmp, .ifCond .ne 9, .ldc2_w 35, .goto 5] := (rfl)
theorem j_L_rank_84 (f : List Instr → Prop) : lk1 g_L_rank 84 f = f [.lload 6] := (rfl)
theorem j_L_rank_86 (f : List Instr → Prop) : lk1 g_L_rank 86 f = f [.lreturn] := (rfl)
abbrev b_L_pick : ByteArray := prog_5_method_7_code
abbrev y_L_pick : MethodName := ⟨RX3, "pick", "(LEvenWire$Wire;IJI)J"⟩
def k_L_pick_0 : List Instr := [.lload_n 3, .aload_n 0, .iload 5, .iload_n 2, .invokevirtual 31, .lcmp, .ifCond .lt 7, .ldc2_w 35, .lreturn]
def k_L_pick_16 : List Instr := [.lconst 0, .lstore 6, .lload_n 3, .lstore 8, .iload_n 2, .istore 10, .iload 5, .iconst 1, .isub, .istore 11]
def k_L_pick_31 : List Instr := [.iload 11, .ifCond .lt 74, .aload_n 0, .iload 11, .aload_n 1, .iload 10, .iconst 0, .invokevirtual 27, .invokevirtual 31, .lstore 12, .lload 8, .lload 12, .lcmp, .ifCond .ge 7, .iconst 0, .goto 4]
def k_L_pick_63 : List Instr := [.iconst 1]
def k_L_pick_64 : List Instr := [.istore 14, .iload 14, .iconst 1, .if_icmp .ne 10, .lload 8, .lload 12, .lsub, .lstore 8]
def k_L_pick_79 : List Instr := [.ldc2_w 37, .lload 6, .lmul, .iload 14, .i2l, .ladd, .lstore 6, .aload_n 1, .iload 10, .iload 14, .invokevirtual 27, .istore 10, .iinc 11 (-1), .goto (-73)]
def k_L_pick_107 : List Instr := [.lload 6, .lreturn]
def g_L_pick : List (Nat × List Instr) := [(0, k_L_pick_0), (16, k_L_pick_16), (31, k_L_pick_31), (63, k_L_pick_63), (64, k_L_pick_64), (79, k_L_pick_79), (107, k_L_pick_107)]
theorem o_L_pick : ∀ q ∈ g_L_pick, okB b_L_pick q.1 q.2 = true := List.all_eq_true.mp (by decide +kernel : g_L_pick.all (fun q => okB b_L_pick q.1 q.2) = true)
theorem j_L_pick_0 (f : List Instr → Prop) : lk1 g_L_pick 0 f = f [.lload_n 3, .aload_n 0, .iload 5, .iload_n 2, .invokevirtual 31, .lcmp, .ifCond .lt 7, .ldc2_w 35, .lreturn] := (rfl)
theorem j_L_pick_16 (f : List Instr → Prop) : lk1 g_L_pick 16 f = f [.lconst 0, .lstore 6, .lload_n 3, .lstore 8, .iload_n 2, .istore 10, .iload 5, .iconst 1, .isub, .istore 11] := (rfl)
theorem j_L_pick_31 (f : List Instr → Prop) : lk1 g_L_pick 31 f = f [.iload 11, .ifCond .lt 74, .aload_n 0, .iload 11, .aload_n 1, .iload 10, .iconst 0, .invokevirtual 27, .invokevirtual 31, .lstore 12, .lload 8, .lload 12, .lcmp, .ifCond .ge 7, .iconst 0, .goto 4] := (rfl)
theorem j_L_pick_63 (f : List Instr → Prop) : lk1 g_L_pick 63 f = f [.iconst 1] := (rfl)
theorem j_L_pick_64 (f : List Instr → Prop) : lk1 g_L_pick 64 f = f [.istore 14, .iload 14, .iconst 1, .if_icmp .ne 10, .lload 8, .lload 12, .lsub, .lstore 8] := (rfl)
theorem j_L_pick_79 (f : List Instr → Prop) : lk1 g_L_pick 79 f = f [.ldc2_w 37, .lload 6, .lmul, .iload 14, .i2l, .ladd, .lstore 6, .aload_n 1, .iload 10, .iload 14, .invokevirtual 27, .istore 10, .iinc 11 (-1), .goto (-73)] := (rfl)
theorem j_L_pick_107 (f : List Instr → Prop) : lk1 g_L_pick 107 f = f [.lload 6, .lreturn] := (rfl)
abbrev b_L_set : ByteArray := prog_5_method_3_code
abbrev y_L_set : MethodName := ⟨RX3, "set", "(IJ)V"⟩
def k_L_set_0 : List Instr := [.iload_n 1, .ifCond .lt 16, .iload_n 1, .bipush 100, .if_icmp .ge 10, .aload_n 0, .getfield 11, .iload_n 1, .lload_n 2, .lastore]
def k_L_set_17 : List Instr := [.return_]
def g_L_set : List (Nat × List Instr) := [(0, k_L_set_0), (17, k_L_set_17)]
theorem o_L_set : ∀ q ∈ g_L_set, okB b_L_set q.1 q.2 = true := List.all_eq_true.mp (by decide +kernel : g_L_set.all (fun q => okB b_L_set q.1 q.2) = true)
theorem j_L_set_0 (f : List Instr → Prop) : lk1 g_L_set 0 f = f [.iload_n 1, .ifCond .lt 16, .iload_n 1, .bipush 100, .if_icmp .ge 10, .aload_n 0, .getfield 11, .iload_n 1, .lload_n 2, .lastore] := (rfl)
theorem j_L_set_17 (f : List Instr → Prop) : lk1 g_L_set 17 f = f [.return_] := (rfl)
abbrev b_M_runs : ByteArray := prog_11_method_4_code
abbrev y_M_runs : MethodName := ⟨RX9, "runs", "(II)I"⟩
def k_M_runs_0 : List Instr := [.iload_n 1, .ifCond .ne 12, .iload_n 2, .iconst (-1), .if_icmp .ne 7, .iconst 1, .goto 4]
def k_M_runs_13 : List Instr := [.iconst 0]
def k_M_runs_14 : List Instr := [.istore_n 3, .iload_n 3, .ifCond .ne 29, .iload_n 2, .i2l, .lconst 0, .ldc2_w 106, .invokestatic 108, .ifCond .eq 14, .iload_n 1, .i2l, .lconst 0, .iload_n 2, .i2l, .invokestatic 108, .ifCond .ne 6]
def k_M_runs_42 : List Instr := [.bipush (-2), .ireturn]
def k_M_runs_45 : List Instr := [.aload_n 0, .iload_n 1, .putfield 112, .aload_n 0, .iload_n 2, .putfield 7, .iconst 1, .ireturn]
def g_M_runs : List (Nat × List Instr) := [(0, k_M_runs_0), (13, k_M_runs_13), (14, k_M_runs_14), (42, k_M_runs_42), (45, k_M_runs_45)]
theorem o_M_runs : ∀ q ∈ g_M_runs, okB b_M_runs q.1 q.2 = true := List.all_eq_true.mp (by decide +kernel : g_M_runs.all (fun q => okB b_M_runs q.1 q.2) = true)
theorem j_M_runs_0 (f : List Instr → Prop) : lk1 g_M_runs 0 f = f [.iload_n 1, .ifCond .ne 12, .iload_n 2, .iconst (-1), .if_icmp .ne 7, .iconst 1, .goto 4] := (rfl)
theorem j_M_runs_13 (f : List Instr → Prop) : lk1 g_M_runs 13 f = f [.iconst 0] := (rfl)
theorem j_M_runs_14 (f : List Instr → Prop) : lk1 g_M_runs 14 f = f [.istore_n 3, .iload_n 3, .ifCond .ne 29, .iload_n 2, .i2l, .lconst 0, .ldc2_w 106, .invokestatic 108, .ifCond .eq 14, .iload_n 1, .i2l, .lconst 0, .iload_n 2, .i2l, .invokestatic 108, .ifCond .ne 6] := (rfl)
theorem j_M_runs_42 (f : List Instr → Prop) : lk1 g_M_runs 42 f = f [.bipush (-2), .ireturn] := (rfl)
theorem j_M_runs_45 (f : List Instr → Prop) : lk1 g_M_runs 45 f = f [.aload_n 0, .iload_n 1, .putfield 112, .aload_n 0, .iload_n 2, .putfield 7, .iconst 1, .ireturn] := (rfl)
abbrev b_M_in : ByteArray := prog_11_method_3_code
abbrev y_M_in : MethodName := ⟨RX9, "in", "(JJJ)Z"⟩
def k_M_in_0 : List Instr := [.lload_n 0, .lload_n 2, .lcmp, .ifCond .lt 14, .lload_n 0, .lload 4, .lcmp, .ifCond .gt 7, .iconst 1, .goto 4]
def k_M_in_17 : List Instr := [.iconst 0]
def k_M_in_18 : List Instr := [.ireturn]
def g_M_in : List (Nat × List Instr) := [(0, k_M_in_0), (17, k_M_in_17), (18, k_M_in_18)]
theorem o_M_in : ∀ q ∈ g_M_in, okB b_M_in q.1 q.2 = true := List.all_eq_true.mp (by decide +kernel : g_M_in.all (fun q => okB b_M_in q.1 q.2) = true)
theorem j_M_in_0 (f : List Instr → Prop) : lk1 g_M_in 0 f = f [.lload_n 0, .lload_n 2, .lcmp, .ifCond .lt 14, .lload_n 0, .lload 4, .lcmp, .ifCond .gt 7, .iconst 1, .goto 4] := (rfl)
theorem j_M_in_17 (f : List Instr → Prop) : lk1 g_M_in 17 f = f [.iconst 0] := (rfl)
theorem j_M_in_18 (f : List Instr → Prop) : lk1 g_M_in 18 f = f [.ireturn] := (rfl)
abbrev b_M_word : ByteArray := prog_11_method_5_code
abbrev y_M_word : MethodName := ⟨RX9, "word", "(II)I"⟩
def k_M_word_0 : List Instr := [.iload_n 2, .i2l, .lconst 1, .ldc2_w 115, .invokestatic 108, .ifCond .eq 18, .iload_n 1, .i2l, .lconst 0, .iconst 1, .iload_n 2, .ishl, .iconst 1, .isub, .i2l, .invokestatic 108, .ifCond .ne 6]
def k_M_word_27 : List Instr := [.bipush (-2), .ireturn]
def k_M_word_30 : List Instr := [.aload_n 0, .getfield 117, .iconst 4, .if_icmp .ne 6, .bipush (-4), .ireturn]
def k_M_word_41 : List Instr := [.aload_n 0, .getfield 13, .aload_n 0, .getfield 117, .iload_n 1, .iastore, .aload_n 0, .getfield 17, .aload_n 0, .getfield 117, .iload_n 2, .iastore, .aload_n 0, .dup, .getfield 117, .iconst 1, .iadd, .putfield 117, .aload_n 0, .getfield 117, .ireturn]
def g_M_word : List (Nat × List Instr) := [(0, k_M_word_0), (27, k_M_word_27), (30, k_M_word_30), (41, k_M_word_41)]
theorem o_M_word : ∀ q ∈ g_M_word, okB b_M_word q.1 q.2 = true := List.all_eq_true.mp (by decide +kernel : g_M_word.all (fun q => okB b_M_word q.1 q.2) = true)
theorem j_M_word_0 (f : List Instr → Prop) : lk1 g_M_word 0 f = f [.iload_n 2, .i2l, .lconst 1, .ldc2_w 115, .invokestatic 108, .ifCond .eq 18, .iload_n 1, .i2l, .lconst 0, .iconst 1, .iload_n 2, .ishl, .iconst 1, .isub, .i2l, .invokestatic 108, .ifCond .ne 6] := (rfl)
theorem j_M_word_27 (f : List Instr → Prop) : lk1 g_M_word 27 f = f [.bipush (-2), .ireturn] := (rfl)
theorem j_M_word_30 (f : List Instr → Prop) : lk1 g_M_word 30 f = f [.aload_n 0, .getfield 117, .iconst 4, .if_icmp .ne 6, .bipush (-4), .ireturn] := (rfl)
theorem j_M_word_41 (f : List Instr → Prop) : lk1 g_M_word 41 f = f [.aload_n 0, .getfield 13, .aload_n 0, .getfield 117, .iload_n 1, .iastore, .aload_n 0, .getfield 17, .aload_n 0, .getfield 117, .iload_n 2, .iastore, .aload_n 0, .dup, .getfield 117, .iconst 1, .iadd, .putfield 117, .aload_n 0, .getfield 117, .ireturn] := (rfl)
abbrev b_M_clearWords : ByteArray := prog_11_method_6_code
abbrev y_M_clearWords : MethodName := ⟨RX9, "clearWords", "()I"⟩
def k_M_clearWords_0 : List Instr := [.aload_n 0, .getfield 117, .istore_n 1, .aload_n 0, .iconst 0, .putfield 117, .iload_n 1, .ireturn]
def g_M_clearWords : List (Nat × List Instr) := [(0, k_M_clearWords_0)]
theorem o_M_clearWords : ∀ q ∈ g_M_clearWords, okB b_M_clearWords q.1 q.2 = true := List.all_eq_true.mp (by decide +kernel : g_M_clearWords.all (fun q => okB b_M_clearWords q.1 q.2) = true)
theorem j_M_clearWords_0 (f : List Instr → Prop) : lk1 g_M_clearWords 0 f = f [.aload_n 0, .getfield 117, .istore_n 1, .aload_n 0, .iconst 0, .putfield 117, .iload_n 1, .ireturn] := (rfl)
abbrev b_M_lean : ByteArray := prog_11_method_7_code
abbrev y_M_lean : MethodName := ⟨RX9, "lean", "(I)I"⟩
def k_M_lean_0 : List Instr := [.iload_n 1, .i2l, .ldc2_w 120, .ldc2_w 122, .invokestatic 108, .ifCond .ne 6, .bipush (-2), .ireturn]
def k_M_lean_17 : List Instr := [.aload_n 0, .iload_n 1, .putfield 20, .iconst 1, .ireturn]
def g_M_lean : List (Nat × List Instr) := [(0, k_M_lean_0), (17, k_M_lean_17)]
theorem o_M_lean : ∀ q ∈ g_M_lean, okB b_M_lean q.1 q.2 = true := List.all_eq_true.mp (by decide +kernel : g_M_lean.all (fun q => okB b_M_lean q.1 q.2) = true)
theorem j_M_lean_0 (f : List Instr → Prop) : lk1 g_M_lean 0 f = f [.iload_n 1, .i2l, .ldc2_w 120, .ldc2_w 122, .invokestatic 108, .ifCond .ne 6, .bipush (-2), .ireturn] := (rfl)
theorem j_M_lean_17 (f : List Instr → Prop) : lk1 g_M_lean 17 f = f [.aload_n 0, .iload_n 1, .putfield 20, .iconst 1, .ireturn] := (rfl)
abbrev b_M_ban : ByteArray := prog_11_method_8_code
abbrev y_M_ban : MethodName := ⟨RX9, "ban", "(I)I"⟩
def k_M_ban_0 : List Instr := [.iload_n 1, .i2l, .ldc2_w 124, .bipush 9, .aload_n 0, .getfield 117, .iadd, .i2l, .invokestatic 108, .ifCond .eq 13, .aload_n 0, .getfield 13, .iload_n 1, .bipush 10, .isub, .iaload, .ireturn]
def k_M_ban_29 : List Instr := [.iload_n 1, .i2l, .ldc2_w 126, .bipush 19, .aload_n 0, .getfield 117, .iadd, .i2l, .invokestatic 108, .ifCond .eq 13, .aload_n 0, .getfield 17, .iload_n 1, .bipush 20, .isub, .iaload, .ireturn]
def k_M_ban_58 : List Instr := [.iload_n 1, .tableswitch 49 0 3 #[29, 34, 39, 44]]
def k_M_ban_88 : List Instr := [.aload_n 0, .getfield 112, .ireturn]
def k_M_ban_93 : List Instr := [.aload_n 0, .getfield 7, .ireturn]
def k_M_ban_98 : List Instr := [.aload_n 0, .getfield 117, .ireturn]
def k_M_ban_103 : List Instr := [.aload_n 0, .getfield 20, .ireturn]
def k_M_ban_108 : List Instr := [.bipush (-2), .ireturn]
def g_M_ban : List (Nat × List Instr) := [(0, k_M_ban_0), (29, k_M_ban_29), (58, k_M_ban_58), (88, k_M_ban_88), (93, k_M_ban_93), (98, k_M_ban_98), (103, k_M_ban_103), (108, k_M_ban_108)]
theorem o_M_ban : ∀ q ∈ g_M_ban, okB b_M_ban q.1 q.2 = true := List.all_eq_true.mp (by decide +kernel : g_M_ban.all (fun q => okB b_M_ban q.1 q.2) = true)
theorem j_M_ban_0 (f : List Instr → Prop) : lk1 g_M_ban 0 f = f [.iload_n 1, .i2l, .ldc2_w 124, .bipush 9, .aload_n 0, .getfield 117, .iadd, .i2l, .invokestatic 108, .ifCond .eq 13, .aload_n 0, .getfield 13, .iload_n 1, .bipush 10, .isub, .iaload, .ireturn] := (rfl)
theorem j_M_ban_29 (f : List Instr → Prop) : lk1 g_M_ban 29 f = f [.iload_n 1, .i2l, .ldc2_w 126, .bipush 19, .aload_n 0, .getfield 117, .iadd, .i2l, .invokestatic 108, .ifCond .eq 13, .aload_n 0, .getfield 17, .iload_n 1, .bipush 20, .isub, .iaload, .ireturn] := (rfl)
theorem j_M_ban_58 (f : List Instr → Prop) : lk1 g_M_ban 58 f = f [.iload_n 1, .tableswitch 49 0 3 #[29, 34, 39, 44]] := (rfl)
theorem j_M_ban_88 (f : List Instr → Prop) : lk1 g_M_ban 88 f = f [.aload_n 0, .getfield 112, .ireturn] := (rfl)
theorem j_M_ban_93 (f : List Instr → Prop) : lk1 g_M_ban 93 f = f [.aload_n 0, .getfield 7, .ireturn] := (rfl)
theorem j_M_ban_98 (f : List Instr → Prop) : lk1 g_M_ban 98 f = f [.aload_n 0, .getfield 117, .ireturn] := (rfl)
theorem j_M_ban_103 (f : List Instr → Prop) : lk1 g_M_ban 103 f = f [.aload_n 0, .getfield 20, .ireturn] := (rfl)
theorem j_M_ban_108 (f : List Instr → Prop) : lk1 g_M_ban 108 f = f [.bipush (-2), .ireturn] := (rfl)
abbrev b_M_build : ByteArray := prog_11_method_21_code
abbrev y_M_build : MethodName := ⟨RX9, "build", "()I"⟩
def k_M_build_0 : List Instr := [.aload_n 0, .getfield 163, .bipush 40, .if_icmp .ne 6, .bipush (-4), .ireturn]
def k_M_build_12 : List Instr := [.aload_n 0, .dup, .getfield 163, .iconst 1, .iadd, .putfield 163, .aload_n 0, .invokevirtual 166, .aload_n 0, .invokevirtual 169, .aload_n 0, .getfield 35, .iconst 0, .baload, .ifCond .eq 15, .aload_n 0, .invokevirtual 172, .bipush 100, .if_icmp .le 6, .bipush (-4), .ireturn]
def k_M_build_51 : List Instr := [.aload_n 0, .iconst 0, .putfield 160, .iconst 0, .istore_n 1]
def k_M_build_58 : List Instr := [.iload_n 1, .bipush 101, .if_icmp .ge 16, .aload_n 0, .getfield 69, .iload_n 1, .iconst (-1), .iastore, .iinc 1 1, .goto (-16)]
def k_M_build_77 : List Instr := [.aload_n 0, .iconst 0, .iconst (-1), .iconst 0, .invokevirtual 175, .istore_n 1, .iconst 0, .istore_n 2]
def k_M_build_87 : List Instr := [.iload_n 2, .aload_n 0, .getfield 160, .if_icmp .ge 55, .aload_n 0, .getfield 54, .iload_n 2, .aload_n 0, .aload_n 0, .getfield 29, .aload_n 0, .getfield 72, .iload_n 2, .iaload, .iaload, .iload_n 2, .iconst 0, .invokevirtual 175, .iastore, .aload_n 0, .getfield 57, .iload_n 2, .aload_n 0, .aload_n 0, .getfield 32, .aload_n 0, .getfield 72, .iload_n 2, .iaload, .iaload, .iload_n 2, .iconst 1, .invokevirtual 175, .iastore, .iinc 2 1, .goto (-57)]
def k_M_build_147 : List Instr := [.iconst 0, .istore_n 2]
def k_M_build_149 : List Instr := [.iload_n 2, .bipush 100, .if_icmp .ge 16, .aload_n 0, .getfield 75, .iload_n 2, .iconst 0, .iastore, .iinc 2 1, .goto (-16)]
def k_M_build_168 : List Instr := [.aload_n 0, .iconst 0, .putfield 179, .aload_n 0, .iconst 0, .putfield 182, .aload_n 0, .getfield 160, .ireturn]
def g_M_build : List (Nat × List Instr) := [(0, k_M_build_0), (12, k_M_build_12), (51, k_M_build_51), (58, k_M_build_58), (77, k_M_build_77), (87, k_M_build_87), (147, k_M_build_147), (149, k_M_build_149), (168, k_M_build_168)]
theorem o_M_build : ∀ q ∈ g_M_build, okB b_M_build q.1 q.2 = true := List.all_eq_true.mp (by decide +kernel : g_M_build.all (fun q => okB b_M_build q.1 q.2) = true)
theorem j_M_build_0 (f : List Instr → Prop) : lk1 g_M_build 0 f = f [.aload_n 0, .getfield 163, .bipush 40, .if_icmp .ne 6, .bipush (-4), .ireturn] := (rfl)
theorem j_M_build_12 (f : List Instr → Prop) : lk1 g_M_build 12 f = f [.aload_n 0, .dup, .getfield 163, .iconst 1, .iadd, .putfield 163, .aload_n 0, .invokevirtual 166, .aload_n 0, .invokevirtual 169, .aload_n 0, .getfield 35, .iconst 0, .baload, .ifCond .eq 15, .aload_n 0, .invokevirtual 172, .bipush 100, .if_icmp .le 6, .bipush (-4), .ireturn] := (rfl)
theorem j_M_build_51 (f : List Instr → Prop) : lk1 g_M_build 51 f = f [.aload_n 0, .iconst 0, .putfield 160, .iconst 0, .istore_n 1] := (rfl)
theorem j_M_build_58 (f : List Instr → Prop) : lk1 g_M_build 58 f = f [.iload_n 1, .bipush 101, .if_icmp .ge 16, .aload_n 0, .getfield 69, .iload_n 1, .iconst (-1), .iastore, .iinc 1 1, .goto (-16)] := (rfl)
theorem j_M_build_77 (f : List Instr → Prop) : lk1 g_M_build 77 f = f [.aload_n 0, .iconst 0, .iconst (-1), .iconst 0, .invokevirtual 175, .istore_n 1, .iconst 0, .istore_n 2] := (rfl)
theorem j_M_build_87 (f : List Instr → Prop) : lk1 g_M_build 87 f = f [.iload_n 2, .aload_n 0, .getfield 160, .if_icmp .ge 55, .aload_n 0, .getfield 54, .iload_n 2, .aload_n 0, .aload_n 0, .getfield 29, .aload_n 0, .getfield 72, .iload_n 2, .iaload, .iaload, .iload_n 2, .iconst 0, .invokevirtual 175, .iastore, .aload_n 0, .getfield 57, .iload_n 2, .aload_n 0, .aload_n 0, .getfield 32, .aload_n 0, .getfield 72, .iload_n 2, .iaload, .iaload, .iload_n 2, .iconst 1, .invokevirtual 175, .iastore, .iinc 2 1, .goto (-57)] := (rfl)
theorem j_M_build_147 (f : List Instr → Prop) : lk1 g_M_build 147 f = f [.iconst 0, .istore_n 2] := (rfl)
theorem j_M_build_149 (f : List Instr → Prop) : lk1 g_M_build 149 f = f [.iload_n 2, .bipush 100, .if_icmp .ge 16, .aload_n 0, .getfield 75, .iload_n 2, .iconst 0, .iastore, .iinc 2 1, .goto (-16)] := (rfl)
theorem j_M_build_168 (f : List Instr → Prop) : lk1 g_M_build 168 f = f [.aload_n 0, .iconst 0, .putfield 179, .aload_n 0, .iconst 0, .putfield 182, .aload_n 0, .getfield 160, .ireturn] := (rfl)
abbrev b_M_findRaws : ByteArray := prog_11_method_14_code
abbrev y_M_findRaws : MethodName := ⟨RX9, "findRaws", "()V"⟩
def k_M_findRaws_0 : List Instr := [.iconst 0, .istore_n 1]
def k_M_findRaws_2 : List Instr := [.iload_n 1, .sipush 11264, .if_icmp .ge 16, .aload_n 0, .getfield 23, .iload_n 1, .iconst (-1), .iastore, .iinc 1 1, .goto (-17)]
def k_M_findRaws_22 : List Instr := [.aload_n 0, .iconst 0, .putfield 140, .aload_n 0, .iconst 0, .iconst 0, .iconst 1, .iconst 0, .invokestatic 136, .invokevirtual 143, .istore_n 1, .iconst 0, .istore_n 2]
def k_M_findRaws_41 : List Instr := [.iload_n 2, .aload_n 0, .getfield 140, .if_icmp .ge 58, .aload_n 0, .getfield 29, .iload_n 2, .aload_n 0, .aload_n 0, .aload_n 0, .getfield 26, .iload_n 2, .iaload, .iconst 0, .invokevirtual 147, .invokevirtual 143, .iastore, .aload_n 0, .getfield 32, .iload_n 2, .aload_n 0, .aload_n 0, .aload_n 0, .getfield 26, .iload_n 2, .iaload, .iconst 1, .invokevirtual 147, .invokevirtual 143, .iastore, .aload_n 0, .getfield 35, .iload_n 2, .iconst 1, .bastore, .iinc 2 1, .goto (-60)]
def k_M_findRaws_104 : List Instr := [.return_]
def g_M_findRaws : List (Nat × List Instr) := [(0, k_M_findRaws_0), (2, k_M_findRaws_2), (22, k_M_findRaws_22), (41, k_M_findRaws_41), (104, k_M_findRaws_104)]
theorem o_M_findRaws : ∀ q ∈ g_M_findRaws, okB b_M_findRaws q.1 q.2 = true := List.all_eq_true.mp (by decide +kernel : g_M_findRaws.all (fun q => okB b_M_findRaws q.1 q.2) = true)
theorem j_M_findRaws_0 (f : List Instr → Prop) : lk1 g_M_findRaws 0 f = f [.iconst 0, .istore_n 1] := (rfl)
theorem j_M_findRaws_2 (f : List Instr → Prop) : lk1 g_M_findRaws 2 f = f [.iload_n 1, .sipush 11264, .if_icmp .ge 16, .aload_n 0, .getfield 23, .iload_n 1, .iconst (-1), .iastore, .iinc 1 1, .goto (-17)] := (rfl)
theorem j_M_findRaws_22 (f : List Instr → Prop) : lk1 g_M_findRaws 22 f = f [.aload_n 0, .iconst 0, .putfield 140, .aload_n 0, .iconst 0, .iconst 0, .iconst 1, .iconst 0, .invokestatic 136, .invokevirtual 143, .istore_n 1, .iconst 0, .istore_n 2] := (rfl)
theorem j_M_findRaws_41 (f : List Instr → Prop) : lk1 g_M_findRaws 41 f = f [.iload_n 2, .aload_n 0, .getfield 140, .if_icmp .ge 58, .aload_n 0, .getfield 29, .iload_n 2, .aload_n 0, .aload_n 0, .aload_n 0, .getfield 26, .iload_n 2, .iaload, .iconst 0, .invokevirtual 147, .invokevirtual 143, .iastore, .aload_n 0, .getfield 32, .iload_n 2, .aload_n 0, .aload_n 0, .aload_n 0, .getfield 26, .iload_n 2, .iaload, .iconst 1, .invokevirtual 147, .invokevirtual 143, .iastore, .aload_n 0, .getfield 35, .iload_n 2, .iconst 1, .bastore, .iinc 2 1, .goto (-60)] := (rfl)
theorem j_M_findRaws_104 (f : List Instr → Prop) : lk1 g_M_findRaws 104 f = f [.return_] := (rfl)
abbrev b_M_codeOf : ByteArray := prog_11_method_9_code
abbrev y_M_codeOf : MethodName := ⟨RX9, "codeOf", "(IIII)I"⟩
def k_M_codeOf_0 : List Instr := [.iconst 2, .iload_n 0, .imul, .iload_n 1, .iadd, .bipush 64, .imul, .iload_n 2, .iadd, .bipush 11, .imul, .iload_n 3, .iadd, .iconst 5, .iadd, .ireturn]
def g_M_codeOf : List (Nat × List Instr) := [(0, k_M_codeOf_0)]
theorem o_M_codeOf : ∀ q ∈ g_M_codeOf, okB b_M_codeOf q.1 q.2 = true := List.all_eq_true.mp (by decide +kernel : g_M_codeOf.all (fun q => okB b_M_codeOf q.1 q.2) = true)
theorem j_M_codeOf_0 (f : List Instr → Prop) : lk1 g_M_codeOf 0 f = f [.iconst 2, .iload_n 0, .imul, .iload_n 1, .iadd, .bipush 64, .imul, .iload_n 2, .iadd, .bipush 11, .imul, .iload_n 3, .iadd, .iconst 5, .iadd, .ireturn] := (rfl)
abbrev b_M_rawOf : ByteArray := prog_11_method_13_code
abbrev y_M_rawOf : MethodName := ⟨RX9, "rawOf", "(I)I"⟩
def k_M_rawOf_0 : List Instr := [.iload_n 1, .iconst (-1), .if_icmp .ne 5, .iconst (-1), .ireturn]
def k_M_rawOf_7 : List Instr := [.aload_n 0, .getfield 23, .iload_n 1, .iaload, .iconst (-1), .if_icmp .ne 33, .aload_n 0, .getfield 23, .iload_n 1, .aload_n 0, .getfield 140, .iastore, .aload_n 0, .getfield 26, .aload_n 0, .getfield 140, .iload_n 1, .iastore, .aload_n 0, .dup, .getfield 140, .iconst 1, .iadd, .putfield 140]
def k_M_rawOf_47 : List Instr := [.aload_n 0, .getfield 23, .iload_n 1, .iaload, .ireturn]
def g_M_rawOf : List (Nat × List Instr) := [(0, k_M_rawOf_0), (7, k_M_rawOf_7), (47, k_M_rawOf_47)]
theorem o_M_rawOf : ∀ q ∈ g_M_rawOf, okB b_M_rawOf q.1 q.2 = true := List.all_eq_true.mp (by decide +kernel : g_M_rawOf.all (fun q => okB b_M_rawOf q.1 q.2) = true)
theorem j_M_rawOf_0 (f : List Instr → Prop) : lk1 g_M_rawOf 0 f = f [.iload_n 1, .iconst (-1), .if_icmp .ne 5, .iconst (-1), .ireturn] := (rfl)
theorem j_M_rawOf_7 (f : List Instr → Prop) : lk1 g_M_rawOf 7 f = f [.aload_n 0, .getfield 23, .iload_n 1, .iaload, .iconst (-1), .if_icmp .ne 33, .aload_n 0, .getfield 23, .iload_n 1, .aload_n 0, .getfield 140, .iastore, .aload_n 0, .getfield 26, .aload_n 0, .getfield 140, .iload_n 1, .iastore, .aload_n 0, .dup, .getfield 140, .iconst 1, .iadd, .putfield 140] := (rfl)
theorem j_M_rawOf_47 (f : List Instr → Prop) : lk1 g_M_rawOf 47 f = f [.aload_n 0, .getfield 23, .iload_n 1, .iaload, .ireturn] := (rfl)
abbrev b_M_behind : ByteArray := prog_11_method_12_code
abbrev y_M_behind : MethodName := ⟨RX9, "behind", "(II)I"⟩
def k_M_behind_0 : List Instr := [.iload_n 1, .bipush 11, .irem, .iconst 5, .isub, .istore_n 3, .iload_n 1, .bipush 11, .idiv, .bipush 64, .irem, .istore 4, .iload_n 1, .sipush 704, .idiv, .iconst 2, .irem, .istore 5, .iload_n 1, .sipush 1408, .idiv, .istore 6, .aload_n 0, .getfield 7, .ifCond .lt 65, .iload_n 2, .ifCond .ne 12, .iload 6, .aload_n 0, .getfield 7, .if_icmp .eq 23]
def k_M_behind_52 : List Instr := [.iload_n 2, .iconst 1, .if_icmp .ne 20, .iload 5, .iconst 1, .if_icmp .ne 14, .iload 6, .aload_n 0, .getfield 112, .if_icmp .ge 5]
def k_M_behind_72 : List Instr := [.iconst (-1), .ireturn]
def k_M_behind_74 : List Instr := [.iload_n 2, .ifCond .ne 10, .iload 6, .iconst 1, .iadd, .goto 4]
def k_M_behind_85 : List Instr := [.iconst 0]
def k_M_behind_86 : List Instr := [.istore 6, .iload_n 2, .iconst 1, .if_icmp .ne 7, .iconst 1, .goto 5]
def k_M_behind_97 : List Instr := [.iload 5]
def k_M_behind_99 : List Instr := [.istore 5]
def k_M_behind_101 : List Instr := [.aload_n 0, .getfield 20, .ifCond .lt 37, .iload_n 3, .iload_n 2, .iconst 1, .if_icmp .ne 7, .iconst 1, .goto 4]
def k_M_behind_118 : List Instr := [.iconst (-1)]
def k_M_behind_119 : List Instr := [.iadd, .istore_n 3, .iload_n 3, .i2l, .aload_n 0, .getfield 20, .ineg, .i2l, .aload_n 0, .getfield 20, .i2l, .invokestatic 108, .ifCond .ne 5, .iconst (-1), .ireturn]
def k_M_behind_142 : List Instr := [.iconst 2, .iload 4, .imul, .iload_n 2, .iadd, .istore 7, .aload_n 0, .iload 7, .invokevirtual 128, .ifCond .eq 5, .iconst (-1), .ireturn]
def k_M_behind_161 : List Instr := [.aload_n 0, .invokevirtual 132, .iconst 1, .isub, .istore 8, .iload 8, .ifCond .ge 7, .iconst 0, .goto 5]
def k_M_behind_178 : List Instr := [.iload 8]
def k_M_behind_180 : List Instr := [.istore 8]
def k_M_behind_182 : List Instr := [.iload 7, .iload 8, .ishr, .iconst 1, .if_icmp .le 44, .iconst 0, .istore 9]
def k_M_behind_194 : List Instr := [.iload 7, .iload 9, .ishr, .iconst 1, .if_icmp .le 9, .iinc 9 1, .goto (-12)]
def k_M_behind_209 : List Instr := [.iload 7, .iconst 1, .iload 9, .iconst 1, .isub, .ishl, .iconst 1, .isub, .iand, .iconst 1, .iload 9, .iconst 1, .isub, .ishl, .ior, .istore 7, .goto (-47)]
def k_M_behind_232 : List Instr := [.iload 6, .iload 5, .iload 7, .iload_n 3, .invokestatic 136, .ireturn]
def g_M_behind : List (Nat × List Instr) := [(0, k_M_behind_0), (52, k_M_behind_52), (72, k_M_behind_72), (74, k_M_behind_74), (85, k_M_behind_85), (86, k_M_behind_86), (97, k_M_behind_97), (99, k_M_behind_99), (101, k_M_behind_101), (118, k_M_behind_118), (119, k_M_behind_119), (142, k_M_behind_142), (161, k_M_behind_161), (178, k_M_behind_178), (180, k_M_behind_180), (182, k_M_behind_182), (194, k_M_behind_194), (209, k_M_behind_209), (232, k_M_behind_232)]
theorem o_M_behind : ∀ q ∈ g_M_behind, okB b_M_behind q.1 q.2 = true := List.all_eq_true.mp (by decide +kernel : g_M_behind.all (fun q => okB b_M_behind q.1 q.2) = true)
theorem j_M_behind_0 (f : List Instr → Prop) : lk1 g_M_behind 0 f = f [.iload_n 1, .bipush 11, .irem, .iconst 5, .isub, .istore_n 3, .iload_n 1, .bipush 11, .idiv, .bipush 64, .irem, .istore 4, .iload_n 1, .sipush 704, .idiv, .iconst 2, .irem, .istore 5, .iload_n 1, .sipush 1408, .idiv, .istore 6, .aload_n 0, .getfield 7, .ifCond .lt 65, .iload_n 2, .ifCond .ne 12, .iload 6, .aload_n 0, .getfield 7, .if_icmp .eq 23] := (rfl)
theorem j_M_behind_52 (f : List Instr → Prop) : lk1 g_M_behind 52 f = f [.iload_n 2, .iconst 1, .if_icmp .ne 20, .iload 5, .iconst 1, .if_icmp .ne 14, .iload 6, .aload_n 0, .getfield 112, .if_icmp .ge 5] := (rfl)
theorem j_M_behind_72 (f : List Instr → Prop) : lk1 g_M_behind 72 f = f [.iconst (-1), .ireturn] := (rfl)
theorem j_M_behind_74 (f : List Instr → Prop) : lk1 g_M_behind 74 f = f [.iload_n 2, .ifCond .ne 10, .iload 6, .iconst 1, .iadd, .goto 4] := (rfl)
theorem j_M_behind_85 (f : List Instr → Prop) : lk1 g_M_behind 85 f = f [.iconst 0] := (rfl)
theorem j_M_behind_86 (f : List Instr → Prop) : lk1 g_M_behind 86 f = f [.istore 6, .iload_n 2, .iconst 1, .if_icmp .ne 7, .iconst 1, .goto 5] := (rfl)
theorem j_M_behind_97 (f : List Instr → Prop) : lk1 g_M_behind 97 f = f [.iload 5] := (rfl)
theorem j_M_behind_99 (f : List Instr → Prop) : lk1 g_M_behind 99 f = f [.istore 5] := (rfl)
theorem j_M_behind_101 (f : List Instr → Prop) : lk1 g_M_behind 101 f = f [.aload_n 0, .getfield 20, .ifCond .lt 37, .iload_n 3, .iload_n 2, .iconst 1, .if_icmp .ne 7, .iconst 1, .goto 4] := (rfl)
theorem j_M_behind_118 (f : List Instr → Prop) : lk1 g_M_behind 118 f = f [.iconst (-1)] := (rfl)
theorem j_M_behind_119 (f : List Instr → Prop) : lk1 g_M_behind 119 f = f [.iadd, .istore_n 3, .iload_n 3, .i2l, .aload_n 0, .getfield 20, .ineg, .i2l, .aload_n 0, .getfield 20, .i2l, .invokestatic 108, .ifCond .ne 5, .iconst (-1), .ireturn] := (rfl)
theorem j_M_behind_142 (f : List Instr → Prop) : lk1 g_M_behind 142 f = f [.iconst 2, .iload 4, .imul, .iload_n 2, .iadd, .istore 7, .aload_n 0, .iload 7, .invokevirtual 128, .ifCond .eq 5, .iconst (-1), .ireturn] := (rfl)
theorem j_M_behind_161 (f : List Instr → Prop) : lk1 g_M_behind 161 f = f [.aload_n 0, .invokevirtual 132, .iconst 1, .isub, .istore 8, .iload 8, .ifCond .ge 7, .iconst 0, .goto 5] := (rfl)
theorem j_M_behind_178 (f : List Instr → Prop) : lk1 g_M_behind 178 f = f [.iload 8] := (rfl)
theorem j_M_behind_180 (f : List Instr → Prop) : lk1 g_M_behind 180 f = f [.istore 8] := (rfl)
theorem j_M_behind_182 (f : List Instr → Prop) : lk1 g_M_behind 182 f = f [.iload 7, .iload 8, .ishr, .iconst 1, .if_icmp .le 44, .iconst 0, .istore 9] := (rfl)
theorem j_M_behind_194 (f : List Instr → Prop) : lk1 g_M_behind 194 f = f [.iload 7, .iload 9, .ishr, .iconst 1, .if_icmp .le 9, .iinc 9 1, .goto (-12)] := (rfl)
theorem j_M_behind_209 (f : List Instr → Prop) : lk1 g_M_behind 209 f = f [.iload 7, .iconst 1, .iload 9, .iconst 1, .isub, .ishl, .iconst 1, .isub, .iand, .iconst 1, .iload 9, .iconst 1, .isub, .ishl, .ior, .istore 7, .goto (-47)] := (rfl)
theorem j_M_behind_232 (f : List Instr → Prop) : lk1 g_M_behind 232 f = f [.iload 6, .iload 5, .iload 7, .iload_n 3, .invokestatic 136, .ireturn] := (rfl)
abbrev b_M_endsBanned : ByteArray := prog_11_method_11_code
abbrev y_M_endsBanned : MethodName := ⟨RX9, "endsBanned", "(I)Z"⟩
def k_M_endsBanned_0 : List Instr := [.iconst 0, .istore_n 2]
def k_M_endsBanned_2 : List Instr := [.iload_n 1, .iload_n 2, .ishr, .iconst 1, .if_icmp .le 9, .iinc 2 1, .goto (-10)]
def k_M_endsBanned_15 : List Instr := [.iconst 0, .istore_n 3]
def k_M_endsBanned_17 : List Instr := [.iload_n 3, .aload_n 0, .getfield 117, .if_icmp .ge 42, .aload_n 0, .getfield 17, .iload_n 3, .iaload, .iload_n 2, .if_icmp .gt 26, .iload_n 1, .iconst 1, .aload_n 0, .getfield 17, .iload_n 3, .iaload, .ishl, .iconst 1, .isub, .iand, .aload_n 0, .getfield 13, .iload_n 3, .iaload, .if_icmp .ne 5, .iconst 1, .ireturn]
def k_M_endsBanned_58 : List Instr := [.iinc 3 1, .goto (-44)]
def k_M_endsBanned_64 : List Instr := [.iconst 0, .ireturn]
def g_M_endsBanned : List (Nat × List Instr) := [(0, k_M_endsBanned_0), (2, k_M_endsBanned_2), (15, k_M_endsBanned_15), (17, k_M_endsBanned_17), (58, k_M_endsBanned_58), (64, k_M_endsBanned_64)]
theorem o_M_endsBanned : ∀ q ∈ g_M_endsBanned, okB b_M_endsBanned q.1 q.2 = true := List.all_eq_true.mp (by decide +kernel : g_M_endsBanned.all (fun q => okB b_M_endsBanned q.1 q.2) = true)
theorem j_M_endsBanned_0 (f : List Instr → Prop) : lk1 g_M_endsBanned 0 f = f [.iconst 0, .istore_n 2] := (rfl)
theorem j_M_endsBanned_2 (f : List Instr → Prop) : lk1 g_M_endsBanned 2 f = f [.iload_n 1, .iload_n 2, .ishr, .iconst 1, .if_icmp .le 9, .iinc 2 1, .goto (-10)] := (rfl)
theorem j_M_endsBanned_15 (f : List Instr → Prop) : lk1 g_M_endsBanned 15 f = f [.iconst 0, .istore_n 3] := (rfl)
theorem j_M_endsBanned_17 (f : List Instr → Prop) : lk1 g_M_endsBanned 17 f = f [.iload_n 3, .aload_n 0, .getfield 117, .if_icmp .ge 42, .aload_n 0, .getfield 17, .iload_n 3, .iaload, .iload_n 2, .if_icmp .gt 26, .iload_n 1, .iconst 1, .aload_n 0, .getfield 17, .iload_n 3, .iaload, .ishl, .iconst 1, .isub, .iand, .aload_n 0, .getfield 13, .iload_n 3, .iaload, .if_icmp .ne 5, .iconst 1, .ireturn] := (rfl)
theorem j_M_endsBanned_58 (f : List Instr → Prop) : lk1 g_M_endsBanned 58 f = f [.iinc 3 1, .goto (-44)] := (rfl)
theorem j_M_endsBanned_64 (f : List Instr → Prop) : lk1 g_M_endsBanned 64 f = f [.iconst 0, .ireturn] := (rfl)
abbrev b_M_longest : ByteArray := prog_11_method_10_code
abbrev y_M_longest : MethodName := ⟨RX9, "longest", "()I"⟩
def k_M_longest_0 : List Instr := [.iconst 0, .istore_n 1, .iconst 0, .istore_n 2]
def k_M_longest_4 : List Instr := [.iload_n 2, .aload_n 0, .getfield 117, .if_icmp .ge 30, .aload_n 0, .getfield 17, .iload_n 2, .iaload, .iload_n 1, .if_icmp .le 12, .aload_n 0, .getfield 17, .iload_n 2, .iaload, .goto 4]
def k_M_longest_31 : List Instr := [.iload_n 1]
def k_M_longest_32 : List Instr := [.istore_n 1, .iinc 2 1, .goto (-32)]
def k_M_longest_39 : List Instr := [.iload_n 1, .ireturn]
def g_M_longest : List (Nat × List Instr) := [(0, k_M_longest_0), (4, k_M_longest_4), (31, k_M_longest_31), (32, k_M_longest_32), (39, k_M_longest_39)]
theorem o_M_longest : ∀ q ∈ g_M_longest, okB b_M_longest q.1 q.2 = true := List.all_eq_true.mp (by decide +kernel : g_M_longest.all (fun q => okB b_M_longest q.1 q.2) = true)
theorem j_M_longest_0 (f : List Instr → Prop) : lk1 g_M_longest 0 f = f [.iconst 0, .istore_n 1, .iconst 0, .istore_n 2] := (rfl)
theorem j_M_longest_4 (f : List Instr → Prop) : lk1 g_M_longest 4 f = f [.iload_n 2, .aload_n 0, .getfield 117, .if_icmp .ge 30, .aload_n 0, .getfield 17, .iload_n 2, .iaload, .iload_n 1, .if_icmp .le 12, .aload_n 0, .getfield 17, .iload_n 2, .iaload, .goto 4] := (rfl)
theorem j_M_longest_31 (f : List Instr → Prop) : lk1 g_M_longest 31 f = f [.iload_n 1] := (rfl)
theorem j_M_longest_32 (f : List Instr → Prop) : lk1 g_M_longest 32 f = f [.istore_n 1, .iinc 2 1, .goto (-32)] := (rfl)
theorem j_M_longest_39 (f : List Instr → Prop) : lk1 g_M_longest 39 f = f [.iload_n 1, .ireturn] := (rfl)
abbrev b_M_prune : ByteArray := prog_11_method_16_code
abbrev y_M_prune : MethodName := ⟨RX9, "prune", "()V"⟩
def k_M_prune_0 : List Instr := [.iconst 1, .istore_n 1]
def k_M_prune_2 : List Instr := [.iload_n 1, .ifCond .eq 69, .iconst 0, .istore_n 1, .aload_n 0, .getfield 140, .iconst 1, .isub, .istore_n 2]
def k_M_prune_15 : List Instr := [.iload_n 2, .ifCond .lt 53, .aload_n 0, .getfield 35, .iload_n 2, .baload, .ifCond .eq 38, .aload_n 0, .aload_n 0, .getfield 29, .iload_n 2, .iaload, .invokevirtual 151, .ifCond .ne 25, .aload_n 0, .aload_n 0, .getfield 32, .iload_n 2, .iaload, .invokevirtual 151, .ifCond .ne 12, .aload_n 0, .getfield 35, .iload_n 2, .iconst 0, .bastore, .iconst 1, .istore_n 1]
def k_M_prune_63 : List Instr := [.iinc 2 (-1), .goto (-51)]
def k_M_prune_69 : List Instr := [.goto (-67)]
def k_M_prune_72 : List Instr := [.return_]
def g_M_prune : List (Nat × List Instr) := [(0, k_M_prune_0), (2, k_M_prune_2), (15, k_M_prune_15), (63, k_M_prune_63), (69, k_M_prune_69), (72, k_M_prune_72)]
theorem o_M_prune : ∀ q ∈ g_M_prune, okB b_M_prune q.1 q.2 = true := List.all_eq_true.mp (by decide +kernel : g_M_prune.all (fun q => okB b_M_prune q.1 q.2) = true)
theorem j_M_prune_0 (f : List Instr → Prop) : lk1 g_M_prune 0 f = f [.iconst 1, .istore_n 1] := (rfl)
theorem j_M_prune_2 (f : List Instr → Prop) : lk1 g_M_prune 2 f = f [.iload_n 1, .ifCond .eq 69, .iconst 0, .istore_n 1, .aload_n 0, .getfield 140, .iconst 1, .isub, .istore_n 2] := (rfl)
theorem j_M_prune_15 (f : List Instr → Prop) : lk1 g_M_prune 15 f = f [.iload_n 2, .ifCond .lt 53, .aload_n 0, .getfield 35, .iload_n 2, .baload, .ifCond .eq 38, .aload_n 0, .aload_n 0, .getfield 29, .iload_n 2, .iaload, .invokevirtual 151, .ifCond .ne 25, .aload_n 0, .aload_n 0, .getfield 32, .iload_n 2, .iaload, .invokevirtual 151, .ifCond .ne 12, .aload_n 0, .getfield 35, .iload_n 2, .iconst 0, .bastore, .iconst 1, .istore_n 1] := (rfl)
theorem j_M_prune_63 (f : List Instr → Prop) : lk1 g_M_prune 63 f = f [.iinc 2 (-1), .goto (-51)] := (rfl)
theorem j_M_prune_69 (f : List Instr → Prop) : lk1 g_M_prune 69 f = f [.goto (-67)] := (rfl)
theorem j_M_prune_72 (f : List Instr → Prop) : lk1 g_M_prune 72 f = f [.return_] := (rfl)
abbrev b_M_isAliveAt : ByteArray := prog_11_method_15_code
abbrev y_M_isAliveAt : MethodName := ⟨RX9, "isAliveAt", "(I)Z"⟩
def k_M_isAliveAt_0 : List Instr := [.iload_n 1, .iconst (-1), .if_icmp .eq 16, .aload_n 0, .getfield 35, .iload_n 1, .baload, .ifCond .eq 7, .iconst 1, .goto 4]
def k_M_isAliveAt_18 : List Instr := [.iconst 0]
def k_M_isAliveAt_19 : List Instr := [.ireturn]
def g_M_isAliveAt : List (Nat × List Instr) := [(0, k_M_isAliveAt_0), (18, k_M_isAliveAt_18), (19, k_M_isAliveAt_19)]
theorem o_M_isAliveAt : ∀ q ∈ g_M_isAliveAt, okB b_M_isAliveAt q.1 q.2 = true := List.all_eq_true.mp (by decide +kernel : g_M_isAliveAt.all (fun q => okB b_M_isAliveAt q.1 q.2) = true)
theorem j_M_isAliveAt_0 (f : List Instr → Prop) : lk1 g_M_isAliveAt 0 f = f [.iload_n 1, .iconst (-1), .if_icmp .eq 16, .aload_n 0, .getfield 35, .iload_n 1, .baload, .ifCond .eq 7, .iconst 1, .goto 4] := (rfl)
theorem j_M_isAliveAt_18 (f : List Instr → Prop) : lk1 g_M_isAliveAt 18 f = f [.iconst 0] := (rfl)
theorem j_M_isAliveAt_19 (f : List Instr → Prop) : lk1 g_M_isAliveAt 19 f = f [.ireturn] := (rfl)
abbrev b_M_refine : ByteArray := prog_11_method_19_code
abbrev y_M_refine : MethodName := ⟨RX9, "refine", "()I"⟩
def k_M_refine_0 : List Instr := [.iconst 1, .istore_n 1, .iconst 0, .istore_n 2]
def k_M_refine_4 : List Instr := [.iload_n 2, .aload_n 0, .getfield 140, .if_icmp .ge 16, .aload_n 0, .getfield 39, .iload_n 2, .iconst 0, .iastore, .iinc 2 1, .goto (-18)]
def k_M_refine_25 : List Instr := [.iconst 0, .istore_n 2, .iconst 0, .istore_n 3]
def k_M_refine_29 : List Instr := [.iload_n 3, .aload_n 0, .getfield 140, .if_icmp .ge 54, .iload_n 2, .bipush 100, .if_icmp .gt 48, .aload_n 0, .getfield 35, .iload_n 3, .baload, .ifCond .eq 33, .aload_n 0, .getfield 42, .iload_n 3, .aload_n 0, .iload_n 3, .iload_n 2, .invokevirtual 157, .iastore, .aload_n 0, .getfield 42, .iload_n 3, .iaload, .iload_n 2, .if_icmp .ne 9, .iload_n 2, .iconst 1, .iadd, .goto 4]
def k_M_refine_80 : List Instr := [.iload_n 2]
def k_M_refine_81 : List Instr := [.istore_n 2]
def k_M_refine_82 : List Instr := [.iinc 3 1, .goto (-56)]
def k_M_refine_88 : List Instr := [.iload_n 2, .bipush 100, .if_icmp .le 5, .iload_n 2, .ireturn]
def k_M_refine_96 : List Instr := [.iconst 0, .istore_n 3]
def k_M_refine_98 : List Instr := [.iload_n 3, .aload_n 0, .getfield 140, .if_icmp .ge 21, .aload_n 0, .getfield 39, .iload_n 3, .aload_n 0, .getfield 42, .iload_n 3, .iaload, .iastore, .iinc 3 1, .goto (-23)]
def k_M_refine_124 : List Instr := [.iload_n 2, .iload_n 1, .if_icmp .ne 5, .iload_n 1, .ireturn]
def k_M_refine_131 : List Instr := [.iload_n 2, .istore_n 1, .goto (-108)]
def g_M_refine : List (Nat × List Instr) := [(0, k_M_refine_0), (4, k_M_refine_4), (25, k_M_refine_25), (29, k_M_refine_29), (80, k_M_refine_80), (81, k_M_refine_81), (82, k_M_refine_82), (88, k_M_refine_88), (96, k_M_refine_96), (98, k_M_refine_98), (124, k_M_refine_124), (131, k_M_refine_131)]
theorem o_M_refine : ∀ q ∈ g_M_refine, okB b_M_refine q.1 q.2 = true := List.all_eq_true.mp (by decide +kernel : g_M_refine.all (fun q => okB b_M_refine q.1 q.2) = true)
theorem j_M_refine_0 (f : List Instr → Prop) : lk1 g_M_refine 0 f = f [.iconst 1, .istore_n 1, .iconst 0, .istore_n 2] := (rfl)
theorem j_M_refine_4 (f : List Instr → Prop) : lk1 g_M_refine 4 f = f [.iload_n 2, .aload_n 0, .getfield 140, .if_icmp .ge 16, .aload_n 0, .getfield 39, .iload_n 2, .iconst 0, .iastore, .iinc 2 1, .goto (-18)] := (rfl)
theorem j_M_refine_25 (f : List Instr → Prop) : lk1 g_M_refine 25 f = f [.iconst 0, .istore_n 2, .iconst 0, .istore_n 3] := (rfl)
theorem j_M_refine_29 (f : List Instr → Prop) : lk1 g_M_refine 29 f = f [.iload_n 3, .aload_n 0, .getfield 140, .if_icmp .ge 54, .iload_n 2, .bipush 100, .if_icmp .gt 48, .aload_n 0, .getfield 35, .iload_n 3, .baload, .ifCond .eq 33, .aload_n 0, .getfield 42, .iload_n 3, .aload_n 0, .iload_n 3, .iload_n 2, .invokevirtual 157, .iastore, .aload_n 0, .getfield 42, .iload_n 3, .iaload, .iload_n 2, .if_icmp .ne 9, .iload_n 2, .iconst 1, .iadd, .goto 4] := (rfl)
theorem j_M_refine_80 (f : List Instr → Prop) : lk1 g_M_refine 80 f = f [.iload_n 2] := (rfl)
theorem j_M_refine_81 (f : List Instr → Prop) : lk1 g_M_refine 81 f = f [.istore_n 2] := (rfl)
theorem j_M_refine_82 (f : List Instr → Prop) : lk1 g_M_refine 82 f = f [.iinc 3 1, .goto (-56)] := (rfl)
theorem j_M_refine_88 (f : List Instr → Prop) : lk1 g_M_refine 88 f = f [.iload_n 2, .bipush 100, .if_icmp .le 5, .iload_n 2, .ireturn] := (rfl)
theorem j_M_refine_96 (f : List Instr → Prop) : lk1 g_M_refine 96 f = f [.iconst 0, .istore_n 3] := (rfl)
theorem j_M_refine_98 (f : List Instr → Prop) : lk1 g_M_refine 98 f = f [.iload_n 3, .aload_n 0, .getfield 140, .if_icmp .ge 21, .aload_n 0, .getfield 39, .iload_n 3, .aload_n 0, .getfield 42, .iload_n 3, .iaload, .iastore, .iinc 3 1, .goto (-23)] := (rfl)
theorem j_M_refine_124 (f : List Instr → Prop) : lk1 g_M_refine 124 f = f [.iload_n 2, .iload_n 1, .if_icmp .ne 5, .iload_n 1, .ireturn] := (rfl)
theorem j_M_refine_131 (f : List Instr → Prop) : lk1 g_M_refine 131 f = f [.iload_n 2, .istore_n 1, .goto (-108)] := (rfl)
abbrev b_M_signOf : ByteArray := prog_11_method_18_code
abbrev y_M_signOf : MethodName := ⟨RX9, "signOf", "(II)I"⟩
def k_M_signOf_0 : List Instr := [.aload_n 0, .getfield 39, .iload_n 1, .iaload, .istore_n 3, .aload_n 0, .aload_n 0, .getfield 29, .iload_n 1, .iaload, .invokevirtual 154, .istore 4, .aload_n 0, .aload_n 0, .getfield 32, .iload_n 1, .iaload, .invokevirtual 154, .istore 5, .iconst 0, .istore 6]
def k_M_signOf_34 : List Instr := [.iload 6, .iload_n 2, .if_icmp .ge 44, .aload_n 0, .getfield 45, .iload 6, .iaload, .iload_n 3, .if_icmp .ne 27, .aload_n 0, .getfield 48, .iload 6, .iaload, .iload 4, .if_icmp .ne 15, .aload_n 0, .getfield 51, .iload 6, .iaload, .iload 5, .if_icmp .eq 9]
def k_M_signOf_75 : List Instr := [.iinc 6 1, .goto (-44)]
def k_M_signOf_81 : List Instr := [.iload 6, .bipush 101, .if_icmp .ge 29, .aload_n 0, .getfield 45, .iload 6, .iload_n 3, .iastore, .aload_n 0, .getfield 48, .iload 6, .iload 4, .iastore, .aload_n 0, .getfield 51, .iload 6, .iload 5, .iastore]
def k_M_signOf_114 : List Instr := [.iload 6, .ireturn]
def g_M_signOf : List (Nat × List Instr) := [(0, k_M_signOf_0), (34, k_M_signOf_34), (75, k_M_signOf_75), (81, k_M_signOf_81), (114, k_M_signOf_114)]
theorem o_M_signOf : ∀ q ∈ g_M_signOf, okB b_M_signOf q.1 q.2 = true := List.all_eq_true.mp (by decide +kernel : g_M_signOf.all (fun q => okB b_M_signOf q.1 q.2) = true)
theorem j_M_signOf_0 (f : List Instr → Prop) : lk1 g_M_signOf 0 f = f [.aload_n 0, .getfield 39, .iload_n 1, .iaload, .istore_n 3, .aload_n 0, .aload_n 0, .getfield 29, .iload_n 1, .iaload, .invokevirtual 154, .istore 4, .aload_n 0, .aload_n 0, .getfield 32, .iload_n 1, .iaload, .invokevirtual 154, .istore 5, .iconst 0, .istore 6] := (rfl)
theorem j_M_signOf_34 (f : List Instr → Prop) : lk1 g_M_signOf 34 f = f [.iload 6, .iload_n 2, .if_icmp .ge 44, .aload_n 0, .getfield 45, .iload 6, .iaload, .iload_n 3, .if_icmp .ne 27, .aload_n 0, .getfield 48, .iload 6, .iaload, .iload 4, .if_icmp .ne 15, .aload_n 0, .getfield 51, .iload 6, .iaload, .iload 5, .if_icmp .eq 9] := (rfl)
theorem j_M_signOf_75 (f : List Instr → Prop) : lk1 g_M_signOf 75 f = f [.iinc 6 1, .goto (-44)] := (rfl)
theorem j_M_signOf_81 (f : List Instr → Prop) : lk1 g_M_signOf 81 f = f [.iload 6, .bipush 101, .if_icmp .ge 29, .aload_n 0, .getfield 45, .iload 6, .iload_n 3, .iastore, .aload_n 0, .getfield 48, .iload 6, .iload 4, .iastore, .aload_n 0, .getfield 51, .iload 6, .iload 5, .iastore] := (rfl)
theorem j_M_signOf_114 (f : List Instr → Prop) : lk1 g_M_signOf 114 f = f [.iload 6, .ireturn] := (rfl)
abbrev b_M_classAt : ByteArray := prog_11_method_17_code
abbrev y_M_classAt : MethodName := ⟨RX9, "classAt", "(I)I"⟩
def k_M_classAt_0 : List Instr := [.aload_n 0, .iload_n 1, .invokevirtual 151, .ifCond .eq 12, .aload_n 0, .getfield 39, .iload_n 1, .iaload, .goto 4]
def k_M_classAt_17 : List Instr := [.iconst (-1)]
def k_M_classAt_18 : List Instr := [.ireturn]
def g_M_classAt : List (Nat × List Instr) := [(0, k_M_classAt_0), (17, k_M_classAt_17), (18, k_M_classAt_18)]
theorem o_M_classAt : ∀ q ∈ g_M_classAt, okB b_M_classAt q.1 q.2 = true := List.all_eq_true.mp (by decide +kernel : g_M_classAt.all (fun q => okB b_M_classAt q.1 q.2) = true)
theorem j_M_classAt_0 (f : List Instr → Prop) : lk1 g_M_classAt 0 f = f [.aload_n 0, .iload_n 1, .invokevirtual 151, .ifCond .eq 12, .aload_n 0, .getfield 39, .iload_n 1, .iaload, .goto 4] := (rfl)
theorem j_M_classAt_17 (f : List Instr → Prop) : lk1 g_M_classAt 17 f = f [.iconst (-1)] := (rfl)
theorem j_M_classAt_18 (f : List Instr → Prop) : lk1 g_M_classAt 18 f = f [.ireturn] := (rfl)
abbrev b_M_stateOf : ByteArray := prog_11_method_20_code
abbrev y_M_stateOf : MethodName := ⟨RX9, "stateOf", "(III)I"⟩
def k_M_stateOf_0 : List Instr := [.aload_n 0, .iload_n 1, .invokevirtual 151, .ifCond .ne 5, .iconst (-1), .ireturn]
def k_M_stateOf_10 : List Instr := [.aload_n 0, .getfield 39, .iload_n 1, .iaload, .istore 4, .aload_n 0, .getfield 69, .iload 4, .iaload, .iconst (-1), .if_icmp .ne 80, .aload_n 0, .getfield 69, .iload 4, .aload_n 0, .getfield 160, .iastore, .aload_n 0, .getfield 72, .aload_n 0, .getfield 160, .iload_n 1, .iastore, .aload_n 0, .getfield 60, .aload_n 0, .getfield 160, .iload_n 2, .iastore, .aload_n 0, .getfield 63, .aload_n 0, .getfield 160, .iload_n 3, .iastore, .aload_n 0, .getfield 66, .aload_n 0, .getfield 160, .iload_n 2, .iconst (-1), .if_icmp .ne 7, .iconst 0, .goto 11]
def k_M_stateOf_87 : List Instr := [.aload_n 0, .getfield 66, .iload_n 2, .iaload, .iconst 1, .iadd]
def k_M_stateOf_95 : List Instr := [.iastore, .aload_n 0, .dup, .getfield 160, .iconst 1, .iadd, .putfield 160]
def k_M_stateOf_106 : List Instr := [.aload_n 0, .getfield 69, .iload 4, .iaload, .ireturn]
def g_M_stateOf : List (Nat × List Instr) := [(0, k_M_stateOf_0), (10, k_M_stateOf_10), (87, k_M_stateOf_87), (95, k_M_stateOf_95), (106, k_M_stateOf_106)]
theorem o_M_stateOf : ∀ q ∈ g_M_stateOf, okB b_M_stateOf q.1 q.2 = true := List.all_eq_true.mp (by decide +kernel : g_M_stateOf.all (fun q => okB b_M_stateOf q.1 q.2) = true)
theorem j_M_stateOf_0 (f : List Instr → Prop) : lk1 g_M_stateOf 0 f = f [.aload_n 0, .iload_n 1, .invokevirtual 151, .ifCond .ne 5, .iconst (-1), .ireturn] := (rfl)
theorem j_M_stateOf_10 (f : List Instr → Prop) : lk1 g_M_stateOf 10 f = f [.aload_n 0, .getfield 39, .iload_n 1, .iaload, .istore 4, .aload_n 0, .getfield 69, .iload 4, .iaload, .iconst (-1), .if_icmp .ne 80, .aload_n 0, .getfield 69, .iload 4, .aload_n 0, .getfield 160, .iastore, .aload_n 0, .getfield 72, .aload_n 0, .getfield 160, .iload_n 1, .iastore, .aload_n 0, .getfield 60, .aload_n 0, .getfield 160, .iload_n 2, .iastore, .aload_n 0, .getfield 63, .aload_n 0, .getfield 160, .iload_n 3, .iastore, .aload_n 0, .getfield 66, .aload_n 0, .getfield 160, .iload_n 2, .iconst (-1), .if_icmp .ne 7, .iconst 0, .goto 11] := (rfl)
theorem j_M_stateOf_87 (f : List Instr → Prop) : lk1 g_M_stateOf 87 f = f [.aload_n 0, .getfield 66, .iload_n 2, .iaload, .iconst 1, .iadd] := (rfl)
theorem j_M_stateOf_95 (f : List Instr → Prop) : lk1 g_M_stateOf 95 f = f [.iastore, .aload_n 0, .dup, .getfield 160, .iconst 1, .iadd, .putfield 160] := (rfl)
theorem j_M_stateOf_106 (f : List Instr → Prop) : lk1 g_M_stateOf 106 f = f [.aload_n 0, .getfield 69, .iload 4, .iaload, .ireturn] := (rfl)
abbrev b_M_states : ByteArray := prog_11_method_22_code
abbrev y_M_states : MethodName := ⟨RX9, "states", "()I"⟩
def k_M_states_0 : List Instr := [.aload_n 0, .getfield 160, .ireturn]
def g_M_states : List (Nat × List Instr) := [(0, k_M_states_0)]
theorem o_M_states : ∀ q ∈ g_M_states, okB b_M_states q.1 q.2 = true := List.all_eq_true.mp (by decide +kernel : g_M_states.all (fun q => okB b_M_states q.1 q.2) = true)
theorem j_M_states_0 (f : List Instr → Prop) : lk1 g_M_states 0 f = f [.aload_n 0, .getfield 160, .ireturn] := (rfl)
abbrev b_M_go : ByteArray := prog_11_method_25_code
abbrev y_M_go : MethodName := ⟨RX9, "go", "(II)I"⟩
def k_M_go_0 : List Instr := [.aload_n 0, .iload_n 1, .invokevirtual 185, .ifCond .eq 22, .iload_n 2, .i2l, .lconst 0, .lconst 1, .invokestatic 108, .ifCond .eq 12, .aload_n 0, .iload_n 1, .iload_n 2, .invokevirtual 188, .goto 5]
def k_M_go_27 : List Instr := [.bipush (-2)]
def k_M_go_29 : List Instr := [.ireturn]
def g_M_go : List (Nat × List Instr) := [(0, k_M_go_0), (27, k_M_go_27), (29, k_M_go_29)]
theorem o_M_go : ∀ q ∈ g_M_go, okB b_M_go q.1 q.2 = true := List.all_eq_true.mp (by decide +kernel : g_M_go.all (fun q => okB b_M_go q.1 q.2) = true)
theorem j_M_go_0 (f : List Instr → Prop) : lk1 g_M_go 0 f = f [.aload_n 0, .iload_n 1, .invokevirtual 185, .ifCond .eq 22, .iload_n 2, .i2l, .lconst 0, .lconst 1, .invokestatic 108, .ifCond .eq 12, .aload_n 0, .iload_n 1, .iload_n 2, .invokevirtual 188, .goto 5] := (rfl)
theorem j_M_go_27 (f : List Instr → Prop) : lk1 g_M_go 27 f = f [.bipush (-2)] := (rfl)
theorem j_M_go_29 (f : List Instr → Prop) : lk1 g_M_go 29 f = f [.ireturn] := (rfl)
abbrev b_M_isState : ByteArray := prog_11_method_23_code
abbrev y_M_isState : MethodName := ⟨RX9, "isState", "(I)Z"⟩
def k_M_isState_0 : List Instr := [.iload_n 1, .i2l, .lconst 0, .aload_n 0, .getfield 160, .iconst 1, .isub, .i2l, .invokestatic 108, .ireturn]
def g_M_isState : List (Nat × List Instr) := [(0, k_M_isState_0)]
theorem o_M_isState : ∀ q ∈ g_M_isState, okB b_M_isState q.1 q.2 = true := List.all_eq_true.mp (by decide +kernel : g_M_isState.all (fun q => okB b_M_isState q.1 q.2) = true)
theorem j_M_isState_0 (f : List Instr → Prop) : lk1 g_M_isState 0 f = f [.iload_n 1, .i2l, .lconst 0, .aload_n 0, .getfield 160, .iconst 1, .isub, .i2l, .invokestatic 108, .ireturn] := (rfl)
abbrev b_M_goes : ByteArray := prog_11_method_24_code
abbrev y_M_goes : MethodName := ⟨RX9, "goes", "(II)I"⟩
def k_M_goes_0 : List Instr := [.iload_n 1, .iconst (-1), .if_icmp .ne 7, .iconst (-1), .goto 22]
def k_M_goes_9 : List Instr := [.iload_n 2, .ifCond .ne 12, .aload_n 0, .getfield 54, .iload_n 1, .iaload, .goto 9]
def k_M_goes_22 : List Instr := [.aload_n 0, .getfield 57, .iload_n 1, .iaload]
def k_M_goes_28 : List Instr := [.ireturn]
def g_M_goes : List (Nat × List Instr) := [(0, k_M_goes_0), (9, k_M_goes_9), (22, k_M_goes_22), (28, k_M_goes_28)]
theorem o_M_goes : ∀ q ∈ g_M_goes, okB b_M_goes q.1 q.2 = true := List.all_eq_true.mp (by decide +kernel : g_M_goes.all (fun q => okB b_M_goes q.1 q.2) = true)
theorem j_M_goes_0 (f : List Instr → Prop) : lk1 g_M_goes 0 f = f [.iload_n 1, .iconst (-1), .if_icmp .ne 7, .iconst (-1), .goto 22] := (rfl)
theorem j_M_goes_9 (f : List Instr → Prop) : lk1 g_M_goes 9 f = f [.iload_n 2, .ifCond .ne 12, .aload_n 0, .getfield 54, .iload_n 1, .iaload, .goto 9] := (rfl)
theorem j_M_goes_22 (f : List Instr → Prop) : lk1 g_M_goes 22 f = f [.aload_n 0, .getfield 57, .iload_n 1, .iaload] := (rfl)
theorem j_M_goes_28 (f : List Instr → Prop) : lk1 g_M_goes 28 f = f [.ireturn] := (rfl)
abbrev b_M_walk : ByteArray := prog_11_method_28_code
abbrev y_M_walk : MethodName := ⟨RX9, "walk", "(IJI)I"⟩
def k_M_walk_0 : List Instr := [.aload_n 0, .iload_n 1, .invokevirtual 185, .ifCond .eq 23, .lload_n 2, .iload 4, .invokestatic 193, .ifCond .eq 14, .aload_n 0, .iload_n 1, .lload_n 2, .iload 4, .invokevirtual 197, .goto 5]
def k_M_walk_28 : List Instr := [.bipush (-2)]
def k_M_walk_30 : List Instr := [.ireturn]
def g_M_walk : List (Nat × List Instr) := [(0, k_M_walk_0), (28, k_M_walk_28), (30, k_M_walk_30)]
theorem o_M_walk : ∀ q ∈ g_M_walk, okB b_M_walk q.1 q.2 = true := List.all_eq_true.mp (by decide +kernel : g_M_walk.all (fun q => okB b_M_walk q.1 q.2) = true)
theorem j_M_walk_0 (f : List Instr → Prop) : lk1 g_M_walk 0 f = f [.aload_n 0, .iload_n 1, .invokevirtual 185, .ifCond .eq 23, .lload_n 2, .iload 4, .invokestatic 193, .ifCond .eq 14, .aload_n 0, .iload_n 1, .lload_n 2, .iload 4, .invokevirtual 197, .goto 5] := (rfl)
theorem j_M_walk_28 (f : List Instr → Prop) : lk1 g_M_walk 28 f = f [.bipush (-2)] := (rfl)
theorem j_M_walk_30 (f : List Instr → Prop) : lk1 g_M_walk 30 f = f [.ireturn] := (rfl)
abbrev b_M_isRow : ByteArray := prog_11_method_26_code
abbrev y_M_isRow : MethodName := ⟨RX9, "isRow", "(JI)Z"⟩
def k_M_isRow_0 : List Instr := [.iload_n 2, .i2l, .lconst 0, .ldc2_w 191, .invokestatic 108, .ifCond .eq 20, .lload_n 0, .lconst 0, .lconst 1, .iload_n 2, .lshl, .lconst 1, .lsub, .invokestatic 108, .ifCond .eq 7, .iconst 1, .goto 4]
def k_M_isRow_29 : List Instr := [.iconst 0]
def k_M_isRow_30 : List Instr := [.ireturn]
def g_M_isRow : List (Nat × List Instr) := [(0, k_M_isRow_0), (29, k_M_isRow_29), (30, k_M_isRow_30)]
theorem o_M_isRow : ∀ q ∈ g_M_isRow, okB b_M_isRow q.1 q.2 = true := List.all_eq_true.mp (by decide +kernel : g_M_isRow.all (fun q => okB b_M_isRow q.1 q.2) = true)
theorem j_M_isRow_0 (f : List Instr → Prop) : lk1 g_M_isRow 0 f = f [.iload_n 2, .i2l, .lconst 0, .ldc2_w 191, .invokestatic 108, .ifCond .eq 20, .lload_n 0, .lconst 0, .lconst 1, .iload_n 2, .lshl, .lconst 1, .lsub, .invokestatic 108, .ifCond .eq 7, .iconst 1, .goto 4] := (rfl)
theorem j_M_isRow_29 (f : List Instr → Prop) : lk1 g_M_isRow 29 f = f [.iconst 0] := (rfl)
theorem j_M_isRow_30 (f : List Instr → Prop) : lk1 g_M_isRow 30 f = f [.ireturn] := (rfl)
abbrev b_M_walks : ByteArray := prog_11_method_27_code
abbrev y_M_walks : MethodName := ⟨RX9, "walks", "(IJI)I"⟩
def k_M_walks_0 : List Instr := [.iload_n 1, .istore 5, .iload 4, .iconst 1, .isub, .istore 6]
def k_M_walks_9 : List Instr := [.iload 6, .ifCond .lt 24, .aload_n 0, .iload 5, .lload_n 2, .iload 6, .lshr, .lconst 1, .land, .l2i, .invokevirtual 188, .istore 5, .iinc 6 (-1), .goto (-23)]
def k_M_walks_35 : List Instr := [.iload 5, .ireturn]
def g_M_walks : List (Nat × List Instr) := [(0, k_M_walks_0), (9, k_M_walks_9), (35, k_M_walks_35)]
theorem o_M_walks : ∀ q ∈ g_M_walks, okB b_M_walks q.1 q.2 = true := List.all_eq_true.mp (by decide +kernel : g_M_walks.all (fun q => okB b_M_walks q.1 q.2) = true)
theorem j_M_walks_0 (f : List Instr → Prop) : lk1 g_M_walks 0 f = f [.iload_n 1, .istore 5, .iload 4, .iconst 1, .isub, .istore 6] := (rfl)
theorem j_M_walks_9 (f : List Instr → Prop) : lk1 g_M_walks 9 f = f [.iload 6, .ifCond .lt 24, .aload_n 0, .iload 5, .lload_n 2, .iload 6, .lshr, .lconst 1, .land, .l2i, .invokevirtual 188, .istore 5, .iinc 6 (-1), .goto (-23)] := (rfl)
theorem j_M_walks_35 (f : List Instr → Prop) : lk1 g_M_walks 35 f = f [.iload 5, .ireturn] := (rfl)
abbrev b_M_first : ByteArray := prog_11_method_29_code
abbrev y_M_first : MethodName := ⟨RX9, "first", "(II)J"⟩
def k_M_first_0 : List Instr := [.aload_n 0, .iload_n 1, .invokevirtual 185, .ifCond .eq 13, .iload_n 2, .i2l, .lconst 0, .lconst 1, .invokestatic 108, .ifCond .ne 7]
def k_M_first_18 : List Instr := [.ldc2_w 201, .lreturn]
def k_M_first_22 : List Instr := [.iload_n 2, .ifCond .ne 11, .aload_n 0, .getfield 66, .iload_n 1, .iaload, .i2l, .lreturn]
def k_M_first_34 : List Instr := [.aload_n 0, .getfield 66, .iload_n 1, .iaload, .bipush 60, .if_icmp .le 7, .ldc2_w 120, .lreturn]
def k_M_first_49 : List Instr := [.lconst 0, .lstore_n 3, .iload_n 1, .istore 5, .iconst 0, .istore 6]
def k_M_first_57 : List Instr := [.iload 6, .aload_n 0, .getfield 66, .iload_n 1, .iaload, .if_icmp .ge 32, .lload_n 3, .aload_n 0, .getfield 63, .iload 5, .iaload, .i2l, .iload 6, .lshl, .ladd, .lstore_n 3, .aload_n 0, .getfield 60, .iload 5, .iaload, .istore 5, .iinc 6 1, .goto (-37)]
def k_M_first_97 : List Instr := [.lload_n 3, .lreturn]
def g_M_first : List (Nat × List Instr) := [(0, k_M_first_0), (18, k_M_first_18), (22, k_M_first_22), (34, k_M_first_34), (49, k_M_first_49), (57, k_M_first_57), (97, k_M_first_97)]
theorem o_M_first : ∀ q ∈ g_M_first, okB b_M_first q.1 q.2 = true := List.all_eq_true.mp (by decide +kernel : g_M_first.all (fun q => okB b_M_first q.1 q.2) = true)
theorem j_M_first_0 (f : List Instr → Prop) : lk1 g_M_first 0 f = f [.aload_n 0, .iload_n 1, .invokevirtual 185, .ifCond .eq 13, .iload_n 2, .i2l, .lconst 0, .lconst 1, .invokestatic 108, .ifCond .ne 7] := (rfl)
theorem j_M_first_18 (f : List Instr → Prop) : lk1 g_M_first 18 f = f [.ldc2_w 201, .lreturn] := (rfl)
theorem j_M_first_22 (f : List Instr → Prop) : lk1 g_M_first 22 f = f [.iload_n 2, .ifCond .ne 11, .aload_n 0, .getfield 66, .iload_n 1, .iaload, .i2l, .lreturn] := (rfl)
theorem j_M_first_34 (f : List Instr → Prop) : lk1 g_M_first 34 f = f [.aload_n 0, .getfield 66, .iload_n 1, .iaload, .bipush 60, .if_icmp .le 7, .ldc2_w 120, .lreturn] := (rfl)
theorem j_M_first_49 (f : List Instr → Prop) : lk1 g_M_first 49 f = f [.lconst 0, .lstore_n 3, .iload_n 1, .istore 5, .iconst 0, .istore 6] := (rfl)
theorem j_M_first_57 (f : List Instr → Prop) : lk1 g_M_first 57 f = f [.iload 6, .aload_n 0, .getfield 66, .iload_n 1, .iaload, .if_icmp .ge 32, .lload_n 3, .aload_n 0, .getfield 63, .iload 5, .iaload, .i2l, .iload 6, .lshl, .ladd, .lstore_n 3, .aload_n 0, .getfield 60, .iload 5, .iaload, .istore 5, .iinc 6 1, .goto (-37)] := (rfl)
theorem j_M_first_97 (f : List Instr → Prop) : lk1 g_M_first 97 f = f [.lload_n 3, .lreturn] := (rfl)
abbrev b_M_count : ByteArray := prog_11_method_31_code
abbrev y_M_count : MethodName := ⟨RX9, "count", "(II)J"⟩
def k_M_count_0 : List Instr := [.aload_n 0, .iload_n 1, .invokevirtual 185, .ifCond .eq 15, .iload_n 2, .i2l, .lconst 0, .ldc2_w 191, .invokestatic 108, .ifCond .ne 7]
def k_M_count_20 : List Instr := [.ldc2_w 201, .lreturn]
def k_M_count_24 : List Instr := [.aload_n 0, .iload_n 2, .invokevirtual 203, .aload_n 0, .getfield 78, .bipush 61, .iload_n 1, .imul, .iload_n 2, .iadd, .laload, .lreturn]
def g_M_count : List (Nat × List Instr) := [(0, k_M_count_0), (20, k_M_count_20), (24, k_M_count_24)]
theorem o_M_count : ∀ q ∈ g_M_count, okB b_M_count q.1 q.2 = true := List.all_eq_true.mp (by decide +kernel : g_M_count.all (fun q => okB b_M_count q.1 q.2) = true)
theorem j_M_count_0 (f : List Instr → Prop) : lk1 g_M_count 0 f = f [.aload_n 0, .iload_n 1, .invokevirtual 185, .ifCond .eq 15, .iload_n 2, .i2l, .lconst 0, .ldc2_w 191, .invokestatic 108, .ifCond .ne 7] := (rfl)
theorem j_M_count_20 (f : List Instr → Prop) : lk1 g_M_count 20 f = f [.ldc2_w 201, .lreturn] := (rfl)
theorem j_M_count_24 (f : List Instr → Prop) : lk1 g_M_count 24 f = f [.aload_n 0, .iload_n 2, .invokevirtual 203, .aload_n 0, .getfield 78, .bipush 61, .iload_n 1, .imul, .iload_n 2, .iadd, .laload, .lreturn] := (rfl)
abbrev b_M_tellMany : ByteArray := prog_11_method_30_code
abbrev y_M_tellMany : MethodName := ⟨RX9, "tellMany", "(I)V"⟩
def k_M_tellMany_0 : List Instr := [.iconst 0, .istore_n 2]
def k_M_tellMany_2 : List Instr := [.iload_n 2, .aload_n 0, .getfield 160, .if_icmp .ge 19, .aload_n 0, .getfield 78, .bipush 61, .iload_n 2, .imul, .lconst 1, .lastore, .iinc 2 1, .goto (-21)]
def k_M_tellMany_26 : List Instr := [.iconst 1, .istore_n 2]
def k_M_tellMany_28 : List Instr := [.iload_n 2, .iload_n 1, .if_icmp .gt 101, .iconst 0, .istore_n 3]
def k_M_tellMany_35 : List Instr := [.iload_n 3, .aload_n 0, .getfield 160, .if_icmp .ge 85, .aload_n 0, .getfield 78, .bipush 61, .iload_n 3, .imul, .iload_n 2, .iadd, .aload_n 0, .getfield 54, .iload_n 3, .iaload, .iconst (-1), .if_icmp .ne 7, .lconst 0, .goto 21]
def k_M_tellMany_67 : List Instr := [.aload_n 0, .getfield 78, .bipush 61, .aload_n 0, .getfield 54, .iload_n 3, .iaload, .imul, .iload_n 2, .iadd, .iconst 1, .isub, .laload]
def k_M_tellMany_85 : List Instr := [.aload_n 0, .getfield 57, .iload_n 3, .iaload, .iconst (-1), .if_icmp .ne 7, .lconst 0, .goto 21]
def k_M_tellMany_99 : List Instr := [.aload_n 0, .getfield 78, .bipush 61, .aload_n 0, .getfield 57, .iload_n 3, .iaload, .imul, .iload_n 2, .iadd, .iconst 1, .isub, .laload]
def k_M_tellMany_117 : List Instr := [.ladd, .lastore, .iinc 3 1, .goto (-87)]
def k_M_tellMany_125 : List Instr := [.iinc 2 1, .goto (-100)]
def k_M_tellMany_131 : List Instr := [.return_]
def g_M_tellMany : List (Nat × List Instr) := [(0, k_M_tellMany_0), (2, k_M_tellMany_2), (26, k_M_tellMany_26), (28, k_M_tellMany_28), (35, k_M_tellMany_35), (67, k_M_tellMany_67), (85, k_M_tellMany_85), (99, k_M_tellMany_99), (117, k_M_tellMany_117), (125, k_M_tellMany_125), (131, k_M_tellMany_131)]
theorem o_M_tellMany : ∀ q ∈ g_M_tellMany, okB b_M_tellMany q.1 q.2 = true := List.all_eq_true.mp (by decide +kernel : g_M_tellMany.all (fun q => okB b_M_tellMany q.1 q.2) = true)
theorem j_M_tellMany_0 (f : List Instr → Prop) : lk1 g_M_tellMany 0 f = f [.iconst 0, .istore_n 2] := (rfl)
theorem j_M_tellMany_2 (f : List Instr → Prop) : lk1 g_M_tellMany 2 f = f [.iload_n 2, .aload_n 0, .getfield 160, .if_icmp .ge 19, .aload_n 0, .getfield 78, .bipush 61, .iload_n 2, .imul, .lconst 1, .lastore, .iinc 2 1, .goto (-21)] := (rfl)
theorem j_M_tellMany_26 (f : List Instr → Prop) : lk1 g_M_tellMany 26 f = f [.iconst 1, .istore_n 2] := (rfl)
theorem j_M_tellMany_28 (f : List Instr → Prop) : lk1 g_M_tellMany 28 f = f [.iload_n 2, .iload_n 1, .if_icmp .gt 101, .iconst 0, .istore_n 3] := (rfl)
theorem j_M_tellMany_35 (f : List Instr → Prop) : lk1 g_M_tellMany 35 f = f [.iload_n 3, .aload_n 0, .getfield 160, .if_icmp .ge 85, .aload_n 0, .getfield 78, .bipush 61, .iload_n 3, .imul, .iload_n 2, .iadd, .aload_n 0, .getfield 54, .iload_n 3, .iaload, .iconst (-1), .if_icmp .ne 7, .lconst 0, .goto 21] := (rfl)
theorem j_M_tellMany_67 (f : List Instr → Prop) : lk1 g_M_tellMany 67 f = f [.aload_n 0, .getfield 78, .bipush 61, .aload_n 0, .getfield 54, .iload_n 3, .iaload, .imul, .iload_n 2, .iadd, .iconst 1, .isub, .laload] := (rfl)
theorem j_M_tellMany_85 (f : List Instr → Prop) : lk1 g_M_tellMany 85 f = f [.aload_n 0, .getfield 57, .iload_n 3, .iaload, .iconst (-1), .if_icmp .ne 7, .lconst 0, .goto 21] := (rfl)
theorem j_M_tellMany_99 (f : List Instr → Prop) : lk1 g_M_tellMany 99 f = f [.aload_n 0, .getfield 78, .bipush 61, .aload_n 0, .getfield 57, .iload_n 3, .iaload, .imul, .iload_n 2, .iadd, .iconst 1, .isub, .laload] := (rfl)
theorem j_M_tellMany_117 (f : List Instr → Prop) : lk1 g_M_tellMany 117 f = f [.ladd, .lastore, .iinc 3 1, .goto (-87)] := (rfl)
theorem j_M_tellMany_125 (f : List Instr → Prop) : lk1 g_M_tellMany 125 f = f [.iinc 2 1, .goto (-100)] := (rfl)
theorem j_M_tellMany_131 (f : List Instr → Prop) : lk1 g_M_tellMany 131 f = f [.return_] := (rfl)
abbrev b_M_number : ByteArray := prog_11_method_32_code
abbrev y_M_number : MethodName := ⟨RX9, "number", "(IJI)J"⟩
def k_M_number_0 : List Instr := [.aload_n 0, .iload_n 1, .invokevirtual 185, .ifCond .eq 12, .lload_n 2, .iload 4, .invokestatic 193, .ifCond .ne 7]
def k_M_number_17 : List Instr := [.ldc2_w 201, .lreturn]
def k_M_number_21 : List Instr := [.aload_n 0, .iload_n 1, .lload_n 2, .iload 4, .invokevirtual 197, .iconst (-1), .if_icmp .ne 7, .ldc2_w 120, .lreturn]
def k_M_number_37 : List Instr := [.aload_n 0, .iload 4, .invokevirtual 203, .lconst 0, .lstore 5, .iload_n 1, .istore 7, .iload 4, .iconst 1, .isub, .istore 8]
def k_M_number_55 : List Instr := [.iload 8, .ifCond .lt 72, .lload_n 2, .iload 8, .lshr, .lconst 1, .land, .l2i, .istore 9, .lload 5, .iload 9, .iconst 1, .if_icmp .ne 35, .aload_n 0, .getfield 54, .iload 7, .iaload, .iconst (-1), .if_icmp .eq 24, .aload_n 0, .getfield 78, .bipush 61, .aload_n 0, .getfield 54, .iload 7, .iaload, .imul, .iload 8, .iadd, .laload, .goto 4]
def k_M_number_109 : List Instr := [.lconst 0]
def k_M_number_110 : List Instr := [.ladd, .lstore 5, .aload_n 0, .iload 7, .iload 9, .invokevirtual 188, .istore 7, .iinc 8 (-1), .goto (-71)]
def k_M_number_129 : List Instr := [.lload 5, .lreturn]
def g_M_number : List (Nat × List Instr) := [(0, k_M_number_0), (17, k_M_number_17), (21, k_M_number_21), (37, k_M_number_37), (55, k_M_number_55), (109, k_M_number_109), (110, k_M_number_110), (129, k_M_number_129)]
theorem o_M_number : ∀ q ∈ g_M_number, okB b_M_number q.1 q.2 = true := List.all_eq_true.mp (by decide +kernel : g_M_number.all (fun q => okB b_M_number q.1 q.2) = true)
theorem j_M_number_0 (f : List Instr → Prop) : lk1 g_M_number 0 f = f [.aload_n 0, .iload_n 1, .invokevirtual 185, .ifCond .eq 12, .lload_n 2, .iload 4, .invokestatic 193, .ifCond .ne 7] := (rfl)
theorem j_M_number_17 (f : List Instr → Prop) : lk1 g_M_number 17 f = f [.ldc2_w 201, .lreturn] := (rfl)
theorem j_M_number_21 (f : List Instr → Prop) : lk1 g_M_number 21 f = f [.aload_n 0, .iload_n 1, .lload_n 2, .iload 4, .invokevirtual 197, .iconst (-1), .if_icmp .ne 7, .ldc2_w 120, .lreturn] := (rfl)
theorem j_M_number_37 (f : List Instr → Prop) : lk1 g_M_number 37 f = f [.aload_n 0, .iload 4, .invokevirtual 203, .lconst 0, .lstore 5, .iload_n 1, .istore 7, .iload 4, .iconst 1, .isub, .istore 8] := (rfl)
theorem j_M_number_55 (f : List Instr → Prop) : lk1 g_M_number 55 f = f [.iload 8, .ifCond .lt 72, .lload_n 2, .iload 8, .lshr, .lconst 1, .land, .l2i, .istore 9, .lload 5, .iload 9, .iconst 1, .if_icmp .ne 35, .aload_n 0, .getfield 54, .iload 7, .iaload, .iconst (-1), .if_icmp .eq 24, .aload_n 0, .getfield 78, .bipush 61, .aload_n 0, .getfield 54, .iload 7, .iaload, .imul, .iload 8, .iadd, .laload, .goto 4] := (rfl)
theorem j_M_number_109 (f : List Instr → Prop) : lk1 g_M_number 109 f = f [.lconst 0] := (rfl)
theorem j_M_number_110 (f : List Instr → Prop) : lk1 g_M_number 110 f = f [.ladd, .lstore 5, .aload_n 0, .iload 7, .iload 9, .invokevirtual 188, .istore 7, .iinc 8 (-1), .goto (-71)] := (rfl)
theorem j_M_number_129 (f : List Instr → Prop) : lk1 g_M_number 129 f = f [.lload 5, .lreturn] := (rfl)
abbrev b_M_row : ByteArray := prog_11_method_33_code
abbrev y_M_row : MethodName := ⟨RX9, "row", "(IJI)J"⟩
def k_M_row_0 : List Instr := [.aload_n 0, .iload_n 1, .invokevirtual 185, .ifCond .eq 22, .lload_n 2, .lconst 0, .lcmp, .ifCond .lt 16, .iload 4, .i2l, .lconst 0, .ldc2_w 191, .invokestatic 108, .ifCond .ne 7]
def k_M_row_27 : List Instr := [.ldc2_w 201, .lreturn]
def k_M_row_31 : List Instr := [.aload_n 0, .iload 4, .invokevirtual 203, .lload_n 2, .aload_n 0, .getfield 78, .bipush 61, .iload_n 1, .imul, .iload 4, .iadd, .laload, .lcmp, .ifCond .lt 7, .ldc2_w 120, .lreturn]
def k_M_row_58 : List Instr := [.lconst 0, .lstore 5, .lload_n 2, .lstore 7, .iload_n 1, .istore 9, .iload 4, .iconst 1, .isub, .istore 10]
def k_M_row_73 : List Instr := [.iload 10, .ifCond .lt 98, .aload_n 0, .getfield 54, .iload 9, .iaload, .iconst (-1), .if_icmp .ne 7, .lconst 0, .goto 21]
def k_M_row_93 : List Instr := [.aload_n 0, .getfield 78, .bipush 61, .aload_n 0, .getfield 54, .iload 9, .iaload, .imul, .iload 10, .iadd, .laload]
def k_M_row_111 : List Instr := [.lstore 11, .lload 7, .lload 11, .lcmp, .ifCond .ge 7, .iconst 0, .goto 4]
def k_M_row_125 : List Instr := [.iconst 1]
def k_M_row_126 : List Instr := [.istore 13, .lload 7, .iload 13, .iconst 1, .if_icmp .ne 8, .lload 11, .goto 4]
def k_M_row_141 : List Instr := [.lconst 0]
def k_M_row_142 : List Instr := [.lsub, .lstore 7, .ldc2_w 207, .lload 5, .lmul, .iload 13, .i2l, .ladd, .lstore 5, .aload_n 0, .iload 9, .iload 13, .invokevirtual 188, .istore 9, .iinc 10 (-1), .goto (-97)]
def k_M_row_173 : List Instr := [.lload 5, .lreturn]
def g_M_row : List (Nat × List Instr) := [(0, k_M_row_0), (27, k_M_row_27), (31, k_M_row_31), (58, k_M_row_58), (73, k_M_row_73), (93, k_M_row_93), (111, k_M_row_111), (125, k_M_row_125), (126, k_M_row_126), (141, k_M_row_141), (142, k_M_row_142), (173, k_M_row_173)]
theorem o_M_row : ∀ q ∈ g_M_row, okB b_M_row q.1 q.2 = true := List.all_eq_true.mp (by decide +kernel : g_M_row.all (fun q => okB b_M_row q.1 q.2) = true)
theorem j_M_row_0 (f : List Instr → Prop) : lk1 g_M_row 0 f = f [.aload_n 0, .iload_n 1, .invokevirtual 185, .ifCond .eq 22, .lload_n 2, .lconst 0, .lcmp, .ifCond .lt 16, .iload 4, .i2l, .lconst 0, .ldc2_w 191, .invokestatic 108, .ifCond .ne 7] := (rfl)
theorem j_M_row_27 (f : List Instr → Prop) : lk1 g_M_row 27 f = f [.ldc2_w 201, .lreturn] := (rfl)
theorem j_M_row_31 (f : List Instr → Prop) : lk1 g_M_row 31 f = f [.aload_n 0, .iload 4, .invokevirtual 203, .lload_n 2, .aload_n 0, .getfield 78, .bipush 61, .iload_n 1, .imul, .iload 4, .iadd, .laload, .lcmp, .ifCond .lt 7, .ldc2_w 120, .lreturn] := (rfl)
theorem j_M_row_58 (f : List Instr → Prop) : lk1 g_M_row 58 f = f [.lconst 0, .lstore 5, .lload_n 2, .lstore 7, .iload_n 1, .istore 9, .iload 4, .iconst 1, .isub, .istore 10] := (rfl)
theorem j_M_row_73 (f : List Instr → Prop) : lk1 g_M_row 73 f = f [.iload 10, .ifCond .lt 98, .aload_n 0, .getfield 54, .iload 9, .iaload, .iconst (-1), .if_icmp .ne 7, .lconst 0, .goto 21] := (rfl)
theorem j_M_row_93 (f : List Instr → Prop) : lk1 g_M_row 93 f = f [.aload_n 0, .getfield 78, .bipush 61, .aload_n 0, .getfield 54, .iload 9, .iaload, .imul, .iload 10, .iadd, .laload] := (rfl)
theorem j_M_row_111 (f : List Instr → Prop) : lk1 g_M_row 111 f = f [.lstore 11, .lload 7, .lload 11, .lcmp, .ifCond .ge 7, .iconst 0, .goto 4] := (rfl)
theorem j_M_row_125 (f : List Instr → Prop) : lk1 g_M_row 125 f = f [.iconst 1] := (rfl)
theorem j_M_row_126 (f : List Instr → Prop) : lk1 g_M_row 126 f = f [.istore 13, .lload 7, .iload 13, .iconst 1, .if_icmp .ne 8, .lload 11, .goto 4] := (rfl)
theorem j_M_row_141 (f : List Instr → Prop) : lk1 g_M_row 141 f = f [.lconst 0] := (rfl)
theorem j_M_row_142 (f : List Instr → Prop) : lk1 g_M_row 142 f = f [.lsub, .lstore 7, .ldc2_w 207, .lload 5, .lmul, .iload 13, .i2l, .ladd, .lstore 5, .aload_n 0, .iload 9, .iload 13, .invokevirtual 188, .istore 9, .iinc 10 (-1), .goto (-97)] := (rfl)
theorem j_M_row_173 (f : List Instr → Prop) : lk1 g_M_row 173 f = f [.lload 5, .lreturn] := (rfl)
abbrev b_M_ways : ByteArray := prog_11_method_35_code
abbrev y_M_ways : MethodName := ⟨RX9, "ways", "(III)I"⟩
def k_M_ways_0 : List Instr := [.aload_n 0, .iload_n 1, .invokevirtual 185, .ifCond .eq 23, .aload_n 0, .iload_n 2, .invokevirtual 185, .ifCond .eq 15, .iload_n 3, .i2l, .lconst 0, .ldc2_w 209, .invokestatic 108, .ifCond .ne 6]
def k_M_ways_28 : List Instr := [.bipush (-2), .ireturn]
def k_M_ways_31 : List Instr := [.aload_n 0, .iload_n 1, .iload_n 3, .invokevirtual 211, .aload_n 0, .getfield 82, .iload_n 2, .iaload, .ireturn]
def g_M_ways : List (Nat × List Instr) := [(0, k_M_ways_0), (28, k_M_ways_28), (31, k_M_ways_31)]
theorem o_M_ways : ∀ q ∈ g_M_ways, okB b_M_ways q.1 q.2 = true := List.all_eq_true.mp (by decide +kernel : g_M_ways.all (fun q => okB b_M_ways q.1 q.2) = true)
theorem j_M_ways_0 (f : List Instr → Prop) : lk1 g_M_ways 0 f = f [.aload_n 0, .iload_n 1, .invokevirtual 185, .ifCond .eq 23, .aload_n 0, .iload_n 2, .invokevirtual 185, .ifCond .eq 15, .iload_n 3, .i2l, .lconst 0, .ldc2_w 209, .invokestatic 108, .ifCond .ne 6] := (rfl)
theorem j_M_ways_28 (f : List Instr → Prop) : lk1 g_M_ways 28 f = f [.bipush (-2), .ireturn] := (rfl)
theorem j_M_ways_31 (f : List Instr → Prop) : lk1 g_M_ways 31 f = f [.aload_n 0, .iload_n 1, .iload_n 3, .invokevirtual 211, .aload_n 0, .getfield 82, .iload_n 2, .iaload, .ireturn] := (rfl)
abbrev b_M_reachFrom : ByteArray := prog_11_method_34_code
abbrev y_M_reachFrom : MethodName := ⟨RX9, "reachFrom", "(II)V"⟩
def k_M_reachFrom_0 : List Instr := [.iconst 0, .istore_n 3]
def k_M_reachFrom_2 : List Instr := [.iload_n 3, .aload_n 0, .getfield 160, .if_icmp .ge 25, .aload_n 0, .getfield 82, .iload_n 3, .iload_n 3, .iload_n 1, .if_icmp .ne 7, .iconst 1, .goto 4]
def k_M_reachFrom_24 : List Instr := [.iconst 0]
def k_M_reachFrom_25 : List Instr := [.iastore, .iinc 3 1, .goto (-27)]
def k_M_reachFrom_32 : List Instr := [.iconst 0, .istore_n 3]
def k_M_reachFrom_34 : List Instr := [.iload_n 3, .iload_n 2, .if_icmp .ge 133, .iconst 0, .istore 4]
def k_M_reachFrom_42 : List Instr := [.iload 4, .aload_n 0, .getfield 160, .if_icmp .ge 31, .aload_n 0, .getfield 85, .iload 4, .aload_n 0, .getfield 82, .iload 4, .iaload, .iastore, .aload_n 0, .getfield 82, .iload 4, .iconst 0, .iastore, .iinc 4 1, .goto (-34)]
def k_M_reachFrom_79 : List Instr := [.iconst 0, .istore 4]
def k_M_reachFrom_82 : List Instr := [.iload 4, .aload_n 0, .getfield 160, .if_icmp .ge 75, .aload_n 0, .getfield 54, .iload 4, .iaload, .iconst (-1), .if_icmp .eq 25, .aload_n 0, .getfield 82, .aload_n 0, .getfield 54, .iload 4, .iaload, .dup2, .iaload, .aload_n 0, .getfield 85, .iload 4, .iaload, .iadd, .iastore]
def k_M_reachFrom_124 : List Instr := [.aload_n 0, .getfield 57, .iload 4, .iaload, .iconst (-1), .if_icmp .eq 25, .aload_n 0, .getfield 82, .aload_n 0, .getfield 57, .iload 4, .iaload, .dup2, .iaload, .aload_n 0, .getfield 85, .iload 4, .iaload, .iadd, .iastore]
def k_M_reachFrom_157 : List Instr := [.iinc 4 1, .goto (-78)]
def k_M_reachFrom_163 : List Instr := [.iinc 3 1, .goto (-132)]
def k_M_reachFrom_169 : List Instr := [.return_]
def g_M_reachFrom : List (Nat × List Instr) := [(0, k_M_reachFrom_0), (2, k_M_reachFrom_2), (24, k_M_reachFrom_24), (25, k_M_reachFrom_25), (32, k_M_reachFrom_32), (34, k_M_reachFrom_34), (42, k_M_reachFrom_42), (79, k_M_reachFrom_79), (82, k_M_reachFrom_82), (124, k_M_reachFrom_124), (157, k_M_reachFrom_157), (163, k_M_reachFrom_163), (169, k_M_reachFrom_169)]
theorem o_M_reachFrom : ∀ q ∈ g_M_reachFrom, okB b_M_reachFrom q.1 q.2 = true := List.all_eq_true.mp (by decide +kernel : g_M_reachFrom.all (fun q => okB b_M_reachFrom q.1 q.2) = true)
theorem j_M_reachFrom_0 (f : List Instr → Prop) : lk1 g_M_reachFrom 0 f = f [.iconst 0, .istore_n 3] := (rfl)
theorem j_M_reachFrom_2 (f : List Instr → Prop) : lk1 g_M_reachFrom 2 f = f [.iload_n 3, .aload_n 0, .getfield 160, .if_icmp .ge 25, .aload_n 0, .getfield 82, .iload_n 3, .iload_n 3, .iload_n 1, .if_icmp .ne 7, .iconst 1, .goto 4] := (rfl)
theorem j_M_reachFrom_24 (f : List Instr → Prop) : lk1 g_M_reachFrom 24 f = f [.iconst 0] := (rfl)
theorem j_M_reachFrom_25 (f : List Instr → Prop) : lk1 g_M_reachFrom 25 f = f [.iastore, .iinc 3 1, .goto (-27)] := (rfl)
theorem j_M_reachFrom_32 (f : List Instr → Prop) : lk1 g_M_reachFrom 32 f = f [.iconst 0, .istore_n 3] := (rfl)
theorem j_M_reachFrom_34 (f : List Instr → Prop) : lk1 g_M_reachFrom 34 f = f [.iload_n 3, .iload_n 2, .if_icmp .ge 133, .iconst 0, .istore 4] := (rfl)
theorem j_M_reachFrom_42 (f : List Instr → Prop) : lk1 g_M_reachFrom 42 f = f [.iload 4, .aload_n 0, .getfield 160, .if_icmp .ge 31, .aload_n 0, .getfield 85, .iload 4, .aload_n 0, .getfield 82, .iload 4, .iaload, .iastore, .aload_n 0, .getfield 82, .iload 4, .iconst 0, .iastore, .iinc 4 1, .goto (-34)] := (rfl)
theorem j_M_reachFrom_79 (f : List Instr → Prop) : lk1 g_M_reachFrom 79 f = f [.iconst 0, .istore 4] := (rfl)
theorem j_M_reachFrom_82 (f : List Instr → Prop) : lk1 g_M_reachFrom 82 f = f [.iload 4, .aload_n 0, .getfield 160, .if_icmp .ge 75, .aload_n 0, .getfield 54, .iload 4, .iaload, .iconst (-1), .if_icmp .eq 25, .aload_n 0, .getfield 82, .aload_n 0, .getfield 54, .iload 4, .iaload, .dup2, .iaload, .aload_n 0, .getfield 85, .iload 4, .iaload, .iadd, .iastore] := (rfl)
theorem j_M_reachFrom_124 (f : List Instr → Prop) : lk1 g_M_reachFrom 124 f = f [.aload_n 0, .getfield 57, .iload 4, .iaload, .iconst (-1), .if_icmp .eq 25, .aload_n 0, .getfield 82, .aload_n 0, .getfield 57, .iload 4, .iaload, .dup2, .iaload, .aload_n 0, .getfield 85, .iload 4, .iaload, .iadd, .iastore] := (rfl)
theorem j_M_reachFrom_157 (f : List Instr → Prop) : lk1 g_M_reachFrom 157 f = f [.iinc 4 1, .goto (-78)] := (rfl)
theorem j_M_reachFrom_163 (f : List Instr → Prop) : lk1 g_M_reachFrom 163 f = f [.iinc 3 1, .goto (-132)] := (rfl)
theorem j_M_reachFrom_169 (f : List Instr → Prop) : lk1 g_M_reachFrom 169 f = f [.return_] := (rfl)
abbrev b_M_mark : ByteArray := prog_11_method_37_code
abbrev y_M_mark : MethodName := ⟨RX9, "mark", "(I)I"⟩
def k_M_mark_0 : List Instr := [.iload_n 1, .i2l, .lconst 1, .ldc2_w 209, .invokestatic 108, .ifCond .ne 6, .bipush (-2), .ireturn]
def k_M_mark_15 : List Instr := [.aload_n 0, .getfield 160, .ifCond .ne 6, .bipush (-3), .ireturn]
def k_M_mark_25 : List Instr := [.iconst 1, .istore_n 2]
def k_M_mark_27 : List Instr := [.iload_n 2, .iload_n 1, .if_icmp .gt 40, .iconst 0, .istore_n 3]
def k_M_mark_34 : List Instr := [.iload_n 3, .iconst 1, .iload_n 2, .ishl, .if_icmp .ge 25, .aload_n 0, .iload_n 3, .iload_n 2, .invokevirtual 215, .ifCond .ne 10, .aload_n 0, .iload_n 3, .putfield 182, .iload_n 2, .ireturn]
def k_M_mark_57 : List Instr := [.iinc 3 1, .goto (-26)]
def k_M_mark_63 : List Instr := [.iinc 2 1, .goto (-39)]
def k_M_mark_69 : List Instr := [.iconst (-1), .ireturn]
def g_M_mark : List (Nat × List Instr) := [(0, k_M_mark_0), (15, k_M_mark_15), (25, k_M_mark_25), (27, k_M_mark_27), (34, k_M_mark_34), (57, k_M_mark_57), (63, k_M_mark_63), (69, k_M_mark_69)]
theorem o_M_mark : ∀ q ∈ g_M_mark, okB b_M_mark q.1 q.2 = true := List.all_eq_true.mp (by decide +kernel : g_M_mark.all (fun q => okB b_M_mark q.1 q.2) = true)
theorem j_M_mark_0 (f : List Instr → Prop) : lk1 g_M_mark 0 f = f [.iload_n 1, .i2l, .lconst 1, .ldc2_w 209, .invokestatic 108, .ifCond .ne 6, .bipush (-2), .ireturn] := (rfl)
theorem j_M_mark_15 (f : List Instr → Prop) : lk1 g_M_mark 15 f = f [.aload_n 0, .getfield 160, .ifCond .ne 6, .bipush (-3), .ireturn] := (rfl)
theorem j_M_mark_25 (f : List Instr → Prop) : lk1 g_M_mark 25 f = f [.iconst 1, .istore_n 2] := (rfl)
theorem j_M_mark_27 (f : List Instr → Prop) : lk1 g_M_mark 27 f = f [.iload_n 2, .iload_n 1, .if_icmp .gt 40, .iconst 0, .istore_n 3] := (rfl)
theorem j_M_mark_34 (f : List Instr → Prop) : lk1 g_M_mark 34 f = f [.iload_n 3, .iconst 1, .iload_n 2, .ishl, .if_icmp .ge 25, .aload_n 0, .iload_n 3, .iload_n 2, .invokevirtual 215, .ifCond .ne 10, .aload_n 0, .iload_n 3, .putfield 182, .iload_n 2, .ireturn] := (rfl)
theorem j_M_mark_57 (f : List Instr → Prop) : lk1 g_M_mark 57 f = f [.iinc 3 1, .goto (-26)] := (rfl)
theorem j_M_mark_63 (f : List Instr → Prop) : lk1 g_M_mark 63 f = f [.iinc 2 1, .goto (-39)] := (rfl)
theorem j_M_mark_69 (f : List Instr → Prop) : lk1 g_M_mark 69 f = f [.iconst (-1), .ireturn] := (rfl)
abbrev b_M_comes : ByteArray := prog_11_method_36_code
abbrev y_M_comes : MethodName := ⟨RX9, "comes", "(II)Z"⟩
def k_M_comes_0 : List Instr := [.iconst 0, .istore_n 3]
def k_M_comes_2 : List Instr := [.iload_n 3, .aload_n 0, .getfield 160, .if_icmp .ge 23, .aload_n 0, .iload_n 3, .iload_n 1, .i2l, .iload_n 2, .invokevirtual 197, .iconst (-1), .if_icmp .eq 5, .iconst 1, .ireturn]
def k_M_comes_24 : List Instr := [.iinc 3 1, .goto (-25)]
def k_M_comes_30 : List Instr := [.iconst 0, .ireturn]
def g_M_comes : List (Nat × List Instr) := [(0, k_M_comes_0), (2, k_M_comes_2), (24, k_M_comes_24), (30, k_M_comes_30)]
theorem o_M_comes : ∀ q ∈ g_M_comes, okB b_M_comes q.1 q.2 = true := List.all_eq_true.mp (by decide +kernel : g_M_comes.all (fun q => okB b_M_comes q.1 q.2) = true)
theorem j_M_comes_0 (f : List Instr → Prop) : lk1 g_M_comes 0 f = f [.iconst 0, .istore_n 3] := (rfl)
theorem j_M_comes_2 (f : List Instr → Prop) : lk1 g_M_comes 2 f = f [.iload_n 3, .aload_n 0, .getfield 160, .if_icmp .ge 23, .aload_n 0, .iload_n 3, .iload_n 1, .i2l, .iload_n 2, .invokevirtual 197, .iconst (-1), .if_icmp .eq 5, .iconst 1, .ireturn] := (rfl)
theorem j_M_comes_24 (f : List Instr → Prop) : lk1 g_M_comes 24 f = f [.iinc 3 1, .goto (-25)] := (rfl)
theorem j_M_comes_30 (f : List Instr → Prop) : lk1 g_M_comes 30 f = f [.iconst 0, .ireturn] := (rfl)
abbrev b_M_marked : ByteArray := prog_11_method_38_code
abbrev y_M_marked : MethodName := ⟨RX9, "marked", "()I"⟩
def k_M_marked_0 : List Instr := [.aload_n 0, .getfield 182, .ireturn]
def g_M_marked : List (Nat × List Instr) := [(0, k_M_marked_0)]
theorem o_M_marked : ∀ q ∈ g_M_marked, okB b_M_marked q.1 q.2 = true := List.all_eq_true.mp (by decide +kernel : g_M_marked.all (fun q => okB b_M_marked q.1 q.2) = true)
theorem j_M_marked_0 (f : List Instr → Prop) : lk1 g_M_marked 0 f = f [.aload_n 0, .getfield 182, .ireturn] := (rfl)
abbrev b_M_weigh : ByteArray := prog_11_method_39_code
abbrev y_M_weigh : MethodName := ⟨RX9, "weigh", "(II)I"⟩
def k_M_weigh_0 : List Instr := [.aload_n 0, .iload_n 1, .invokevirtual 185, .ifCond .eq 15, .iload_n 2, .i2l, .lconst 0, .ldc2_w 219, .invokestatic 108, .ifCond .ne 6]
def k_M_weigh_20 : List Instr := [.bipush (-2), .ireturn]
def k_M_weigh_23 : List Instr := [.aload_n 0, .getfield 75, .iload_n 1, .iaload, .istore_n 3, .aload_n 0, .getfield 75, .iload_n 1, .iload_n 2, .iastore, .iload_n 3, .ireturn]
def g_M_weigh : List (Nat × List Instr) := [(0, k_M_weigh_0), (20, k_M_weigh_20), (23, k_M_weigh_23)]
theorem o_M_weigh : ∀ q ∈ g_M_weigh, okB b_M_weigh q.1 q.2 = true := List.all_eq_true.mp (by decide +kernel : g_M_weigh.all (fun q => okB b_M_weigh q.1 q.2) = true)
theorem j_M_weigh_0 (f : List Instr → Prop) : lk1 g_M_weigh 0 f = f [.aload_n 0, .iload_n 1, .invokevirtual 185, .ifCond .eq 15, .iload_n 2, .i2l, .lconst 0, .ldc2_w 219, .invokestatic 108, .ifCond .ne 6] := (rfl)
theorem j_M_weigh_20 (f : List Instr → Prop) : lk1 g_M_weigh 20 f = f [.bipush (-2), .ireturn] := (rfl)
theorem j_M_weigh_23 (f : List Instr → Prop) : lk1 g_M_weigh 23 f = f [.aload_n 0, .getfield 75, .iload_n 1, .iaload, .istore_n 3, .aload_n 0, .getfield 75, .iload_n 1, .iload_n 2, .iastore, .iload_n 3, .ireturn] := (rfl)
abbrev b_M_weight : ByteArray := prog_11_method_40_code
abbrev y_M_weight : MethodName := ⟨RX9, "weight", "(I)I"⟩
def k_M_weight_0 : List Instr := [.aload_n 0, .iload_n 1, .invokevirtual 185, .ifCond .eq 12, .aload_n 0, .getfield 75, .iload_n 1, .iaload, .goto 5]
def k_M_weight_17 : List Instr := [.bipush (-2)]
def k_M_weight_19 : List Instr := [.ireturn]
def g_M_weight : List (Nat × List Instr) := [(0, k_M_weight_0), (17, k_M_weight_17), (19, k_M_weight_19)]
theorem o_M_weight : ∀ q ∈ g_M_weight, okB b_M_weight q.1 q.2 = true := List.all_eq_true.mp (by decide +kernel : g_M_weight.all (fun q => okB b_M_weight q.1 q.2) = true)
theorem j_M_weight_0 (f : List Instr → Prop) : lk1 g_M_weight 0 f = f [.aload_n 0, .iload_n 1, .invokevirtual 185, .ifCond .eq 12, .aload_n 0, .getfield 75, .iload_n 1, .iaload, .goto 5] := (rfl)
theorem j_M_weight_17 (f : List Instr → Prop) : lk1 g_M_weight 17 f = f [.bipush (-2)] := (rfl)
theorem j_M_weight_19 (f : List Instr → Prop) : lk1 g_M_weight 19 f = f [.ireturn] := (rfl)
abbrev b_M_judge : ByteArray := prog_11_method_43_code
abbrev y_M_judge : MethodName := ⟨RX9, "judge", "(II)I"⟩
def k_M_judge_0 : List Instr := [.iload_n 1, .i2l, .lconst 0, .ldc2_w 209, .invokestatic 108, .ifCond .eq 15, .iload_n 2, .i2l, .lconst 1, .ldc2_w 209, .invokestatic 108, .ifCond .ne 6]
def k_M_judge_24 : List Instr := [.bipush (-2), .ireturn]
def k_M_judge_27 : List Instr := [.aload_n 0, .getfield 160, .ifCond .ne 6, .bipush (-3), .ireturn]
def k_M_judge_37 : List Instr := [.aload_n 0, .invokevirtual 221, .ifCond .ne 5, .iconst 0, .ireturn]
def k_M_judge_46 : List Instr := [.iconst 0, .istore_n 3]
def k_M_judge_48 : List Instr := [.iload_n 3, .aload_n 0, .getfield 160, .if_icmp .ge 30, .aload_n 0, .iload_n 3, .iload_n 2, .invokevirtual 224, .aload_n 0, .getfield 75, .iload_n 3, .iaload, .i2l, .iload_n 1, .lshl, .lcmp, .ifCond .ge 5, .iload_n 3, .ireturn]
def k_M_judge_77 : List Instr := [.iinc 3 1, .goto (-32)]
def k_M_judge_83 : List Instr := [.iconst (-1), .ireturn]
def g_M_judge : List (Nat × List Instr) := [(0, k_M_judge_0), (24, k_M_judge_24), (27, k_M_judge_27), (37, k_M_judge_37), (46, k_M_judge_46), (48, k_M_judge_48), (77, k_M_judge_77), (83, k_M_judge_83)]
theorem o_M_judge : ∀ q ∈ g_M_judge, okB b_M_judge q.1 q.2 = true := List.all_eq_true.mp (by decide +kernel : g_M_judge.all (fun q => okB b_M_judge q.1 q.2) = true)
theorem j_M_judge_0 (f : List Instr → Prop) : lk1 g_M_judge 0 f = f [.iload_n 1, .i2l, .lconst 0, .ldc2_w 209, .invokestatic 108, .ifCond .eq 15, .iload_n 2, .i2l, .lconst 1, .ldc2_w 209, .invokestatic 108, .ifCond .ne 6] := (rfl)
theorem j_M_judge_24 (f : List Instr → Prop) : lk1 g_M_judge 24 f = f [.bipush (-2), .ireturn] := (rfl)
theorem j_M_judge_27 (f : List Instr → Prop) : lk1 g_M_judge 27 f = f [.aload_n 0, .getfield 160, .ifCond .ne 6, .bipush (-3), .ireturn] := (rfl)
theorem j_M_judge_37 (f : List Instr → Prop) : lk1 g_M_judge 37 f = f [.aload_n 0, .invokevirtual 221, .ifCond .ne 5, .iconst 0, .ireturn] := (rfl)
theorem j_M_judge_46 (f : List Instr → Prop) : lk1 g_M_judge 46 f = f [.iconst 0, .istore_n 3] := (rfl)
theorem j_M_judge_48 (f : List Instr → Prop) : lk1 g_M_judge 48 f = f [.iload_n 3, .aload_n 0, .getfield 160, .if_icmp .ge 30, .aload_n 0, .iload_n 3, .iload_n 2, .invokevirtual 224, .aload_n 0, .getfield 75, .iload_n 3, .iaload, .i2l, .iload_n 1, .lshl, .lcmp, .ifCond .ge 5, .iload_n 3, .ireturn] := (rfl)
theorem j_M_judge_77 (f : List Instr → Prop) : lk1 g_M_judge 77 f = f [.iinc 3 1, .goto (-32)] := (rfl)
theorem j_M_judge_83 (f : List Instr → Prop) : lk1 g_M_judge 83 f = f [.iconst (-1), .ireturn] := (rfl)
abbrev b_M_allWeights : ByteArray := prog_11_method_42_code
abbrev y_M_allWeights : MethodName := ⟨RX9, "allWeights", "()I"⟩
def k_M_allWeights_0 : List Instr := [.iconst 0, .istore_n 1, .iconst 0, .istore_n 2]
def k_M_allWeights_4 : List Instr := [.iload_n 2, .aload_n 0, .getfield 160, .if_icmp .ge 18, .iload_n 1, .aload_n 0, .getfield 75, .iload_n 2, .iaload, .iadd, .istore_n 1, .iinc 2 1, .goto (-20)]
def k_M_allWeights_27 : List Instr := [.iload_n 1, .ireturn]
def g_M_allWeights : List (Nat × List Instr) := [(0, k_M_allWeights_0), (4, k_M_allWeights_4), (27, k_M_allWeights_27)]
theorem o_M_allWeights : ∀ q ∈ g_M_allWeights, okB b_M_allWeights q.1 q.2 = true := List.all_eq_true.mp (by decide +kernel : g_M_allWeights.all (fun q => okB b_M_allWeights q.1 q.2) = true)
theorem j_M_allWeights_0 (f : List Instr → Prop) : lk1 g_M_allWeights 0 f = f [.iconst 0, .istore_n 1, .iconst 0, .istore_n 2] := (rfl)
theorem j_M_allWeights_4 (f : List Instr → Prop) : lk1 g_M_allWeights 4 f = f [.iload_n 2, .aload_n 0, .getfield 160, .if_icmp .ge 18, .iload_n 1, .aload_n 0, .getfield 75, .iload_n 2, .iaload, .iadd, .istore_n 1, .iinc 2 1, .goto (-20)] := (rfl)
theorem j_M_allWeights_27 (f : List Instr → Prop) : lk1 g_M_allWeights 27 f = f [.iload_n 1, .ireturn] := (rfl)
abbrev b_M_weighed : ByteArray := prog_11_method_41_code
abbrev y_M_weighed : MethodName := ⟨RX9, "weighed", "(II)J"⟩
def k_M_weighed_0 : List Instr := [.aload_n 0, .iload_n 1, .iload_n 2, .invokevirtual 211, .lconst 0, .lstore_n 3, .iconst 0, .istore 5]
def k_M_weighed_11 : List Instr := [.iload 5, .aload_n 0, .getfield 160, .if_icmp .ge 29, .lload_n 3, .aload_n 0, .getfield 82, .iload 5, .iaload, .i2l, .aload_n 0, .getfield 75, .iload 5, .iaload, .i2l, .lmul, .ladd, .lstore_n 3, .iinc 5 1, .goto (-32)]
def k_M_weighed_46 : List Instr := [.lload_n 3, .lreturn]
def g_M_weighed : List (Nat × List Instr) := [(0, k_M_weighed_0), (11, k_M_weighed_11), (46, k_M_weighed_46)]
theorem o_M_weighed : ∀ q ∈ g_M_weighed, okB b_M_weighed q.1 q.2 = true := List.all_eq_true.mp (by decide +kernel : g_M_weighed.all (fun q => okB b_M_weighed q.1 q.2) = true)
theorem j_M_weighed_0 (f : List Instr → Prop) : lk1 g_M_weighed 0 f = f [.aload_n 0, .iload_n 1, .iload_n 2, .invokevirtual 211, .lconst 0, .lstore_n 3, .iconst 0, .istore 5] := (rfl)
theorem j_M_weighed_11 (f : List Instr → Prop) : lk1 g_M_weighed 11 f = f [.iload 5, .aload_n 0, .getfield 160, .if_icmp .ge 29, .lload_n 3, .aload_n 0, .getfield 82, .iload 5, .iaload, .i2l, .aload_n 0, .getfield 75, .iload 5, .iaload, .i2l, .lmul, .ladd, .lstore_n 3, .iinc 5 1, .goto (-32)] := (rfl)
theorem j_M_weighed_46 (f : List Instr → Prop) : lk1 g_M_weighed 46 f = f [.lload_n 3, .lreturn] := (rfl)
abbrev b_M_best : ByteArray := prog_11_method_44_code
abbrev y_M_best : MethodName := ⟨RX9, "best", "(III)I"⟩
def k_M_best_0 : List Instr := [.iload_n 1, .i2l, .lconst 0, .ldc2_w 209, .invokestatic 108, .ifCond .eq 27, .iload_n 2, .i2l, .lconst 1, .ldc2_w 209, .invokestatic 108, .ifCond .eq 15, .iload_n 3, .i2l, .lconst 1, .ldc2_w 228, .invokestatic 108, .ifCond .ne 6]
def k_M_best_36 : List Instr := [.bipush (-2), .ireturn]
def k_M_best_39 : List Instr := [.aload_n 0, .getfield 160, .ifCond .ne 6, .bipush (-3), .ireturn]
def k_M_best_49 : List Instr := [.iconst 0, .istore 4]
def k_M_best_52 : List Instr := [.iload 4, .aload_n 0, .getfield 160, .if_icmp .ge 17, .aload_n 0, .getfield 75, .iload 4, .iload_n 3, .iastore, .iinc 4 1, .goto (-20)]
def k_M_best_75 : List Instr := [.iconst 0, .istore 4]
def k_M_best_78 : List Instr := [.iload 4, .aload_n 0, .getfield 160, .if_icmp .ge 54, .aload_n 0, .iload 4, .iload_n 2, .invokevirtual 211, .iconst 0, .istore 5]
def k_M_best_97 : List Instr := [.iload 5, .aload_n 0, .getfield 160, .if_icmp .ge 29, .aload_n 0, .getfield 88, .bipush 100, .iload 4, .imul, .iload 5, .iadd, .aload_n 0, .getfield 82, .iload 5, .iaload, .iastore, .iinc 5 1, .goto (-32)]
def k_M_best_132 : List Instr := [.iinc 4 1, .goto (-57)]
def k_M_best_138 : List Instr := [.iconst 1, .istore 4]
def k_M_best_141 : List Instr := [.iload 4, .ifCond .eq 109, .iconst 0, .istore 4, .iconst 0, .istore 5]
def k_M_best_152 : List Instr := [.iload 5, .aload_n 0, .getfield 160, .if_icmp .ge 91, .lconst 0, .lstore 6, .iconst 0, .istore 8]
def k_M_best_167 : List Instr := [.iload 8, .aload_n 0, .getfield 160, .if_icmp .ge 37, .lload 6, .aload_n 0, .getfield 88, .bipush 100, .iload 5, .imul, .iload 8, .iadd, .iaload, .i2l, .aload_n 0, .getfield 75, .iload 8, .iaload, .i2l, .lmul, .ladd, .lstore 6, .iinc 8 1, .goto (-40)]
def k_M_best_210 : List Instr := [.lload 6, .iload_n 1, .lshr, .lstore 6, .lload 6, .aload_n 0, .getfield 75, .iload 5, .iaload, .i2l, .lcmp, .ifCond .ge 16, .aload_n 0, .getfield 75, .iload 5, .lload 6, .l2i, .iastore, .iconst 1, .istore 4]
def k_M_best_243 : List Instr := [.iinc 5 1, .goto (-94)]
def k_M_best_249 : List Instr := [.goto (-108)]
def k_M_best_252 : List Instr := [.aload_n 0, .invokevirtual 221, .ireturn]
def g_M_best : List (Nat × List Instr) := [(0, k_M_best_0), (36, k_M_best_36), (39, k_M_best_39), (49, k_M_best_49), (52, k_M_best_52), (75, k_M_best_75), (78, k_M_best_78), (97, k_M_best_97), (132, k_M_best_132), (138, k_M_best_138), (141, k_M_best_141), (152, k_M_best_152), (167, k_M_best_167), (210, k_M_best_210), (243, k_M_best_243), (249, k_M_best_249), (252, k_M_best_252)]
theorem o_M_best : ∀ q ∈ g_M_best, okB b_M_best q.1 q.2 = true := List.all_eq_true.mp (by decide +kernel : g_M_best.all (fun q => okB b_M_best q.1 q.2) = true)
theorem j_M_best_0 (f : List Instr → Prop) : lk1 g_M_best 0 f = f [.iload_n 1, .i2l, .lconst 0, .ldc2_w 209, .invokestatic 108, .ifCond .eq 27, .iload_n 2, .i2l, .lconst 1, .ldc2_w 209, .invokestatic 108, .ifCond .eq 15, .iload_n 3, .i2l, .lconst 1, .ldc2_w 228, .invokestatic 108, .ifCond .ne 6] := (rfl)
theorem j_M_best_36 (f : List Instr → Prop) : lk1 g_M_best 36 f = f [.bipush (-2), .ireturn] := (rfl)
theorem j_M_best_39 (f : List Instr → Prop) : lk1 g_M_best 39 f = f [.aload_n 0, .getfield 160, .ifCond .ne 6, .bipush (-3), .ireturn] := (rfl)
theorem j_M_best_49 (f : List Instr → Prop) : lk1 g_M_best 49 f = f [.iconst 0, .istore 4] := (rfl)
theorem j_M_best_52 (f : List Instr → Prop) : lk1 g_M_best 52 f = f [.iload 4, .aload_n 0, .getfield 160, .if_icmp .ge 17, .aload_n 0, .getfield 75, .iload 4, .iload_n 3, .iastore, .iinc 4 1, .goto (-20)] := (rfl)
theorem j_M_best_75 (f : List Instr → Prop) : lk1 g_M_best 75 f = f [.iconst 0, .istore 4] := (rfl)
theorem j_M_best_78 (f : List Instr → Prop) : lk1 g_M_best 78 f = f [.iload 4, .aload_n 0, .getfield 160, .if_icmp .ge 54, .aload_n 0, .iload 4, .iload_n 2, .invokevirtual 211, .iconst 0, .istore 5] := (rfl)
theorem j_M_best_97 (f : List Instr → Prop) : lk1 g_M_best 97 f = f [.iload 5, .aload_n 0, .getfield 160, .if_icmp .ge 29, .aload_n 0, .getfield 88, .bipush 100, .iload 4, .imul, .iload 5, .iadd, .aload_n 0, .getfield 82, .iload 5, .iaload, .iastore, .iinc 5 1, .goto (-32)] := (rfl)
theorem j_M_best_132 (f : List Instr → Prop) : lk1 g_M_best 132 f = f [.iinc 4 1, .goto (-57)] := (rfl)
theorem j_M_best_138 (f : List Instr → Prop) : lk1 g_M_best 138 f = f [.iconst 1, .istore 4] := (rfl)
theorem j_M_best_141 (f : List Instr → Prop) : lk1 g_M_best 141 f = f [.iload 4, .ifCond .eq 109, .iconst 0, .istore 4, .iconst 0, .istore 5] := (rfl)
theorem j_M_best_152 (f : List Instr → Prop) : lk1 g_M_best 152 f = f [.iload 5, .aload_n 0, .getfield 160, .if_icmp .ge 91, .lconst 0, .lstore 6, .iconst 0, .istore 8] := (rfl)
theorem j_M_best_167 (f : List Instr → Prop) : lk1 g_M_best 167 f = f [.iload 8, .aload_n 0, .getfield 160, .if_icmp .ge 37, .lload 6, .aload_n 0, .getfield 88, .bipush 100, .iload 5, .imul, .iload 8, .iadd, .iaload, .i2l, .aload_n 0, .getfield 75, .iload 8, .iaload, .i2l, .lmul, .ladd, .lstore 6, .iinc 8 1, .goto (-40)] := (rfl)
theorem j_M_best_210 (f : List Instr → Prop) : lk1 g_M_best 210 f = f [.lload 6, .iload_n 1, .lshr, .lstore 6, .lload 6, .aload_n 0, .getfield 75, .iload 5, .iaload, .i2l, .lcmp, .ifCond .ge 16, .aload_n 0, .getfield 75, .iload 5, .lload 6, .l2i, .iastore, .iconst 1, .istore 4] := (rfl)
theorem j_M_best_243 (f : List Instr → Prop) : lk1 g_M_best 243 f = f [.iinc 5 1, .goto (-94)] := (rfl)
theorem j_M_best_249 (f : List Instr → Prop) : lk1 g_M_best 249 f = f [.goto (-108)] := (rfl)
theorem j_M_best_252 (f : List Instr → Prop) : lk1 g_M_best 252 f = f [.aload_n 0, .invokevirtual 221, .ireturn] := (rfl)
abbrev b_M_code : ByteArray := prog_11_method_46_code
abbrev y_M_code : MethodName := ⟨RX9, "code", "(II)I"⟩
def k_M_code_0 : List Instr := [.iload_n 1, .i2l, .lconst 1, .ldc2_w 233, .invokestatic 108, .ifCond .eq 15, .iload_n 2, .i2l, .lconst 1, .ldc2_w 209, .invokestatic 108, .ifCond .ne 6]
def k_M_code_24 : List Instr := [.bipush (-2), .ireturn]
def k_M_code_27 : List Instr := [.aload_n 0, .getfield 160, .ifCond .ne 6, .bipush (-3), .ireturn]
def k_M_code_37 : List Instr := [.aload_n 0, .iload_n 1, .putfield 235, .aload_n 0, .iload_n 2, .putfield 230, .aload_n 0, .aload_n 0, .getfield 160, .putfield 179, .iconst 0, .istore_n 3]
def k_M_code_57 : List Instr := [.iload_n 3, .aload_n 0, .getfield 160, .if_icmp .ge 16, .aload_n 0, .getfield 91, .iload_n 3, .iconst 1, .bastore, .iinc 3 1, .goto (-18)]
def k_M_code_78 : List Instr := [.iconst 1, .istore_n 3]
def k_M_code_80 : List Instr := [.iload_n 3, .ifCond .eq 68, .iconst 0, .istore_n 3, .iconst 0, .istore 4]
def k_M_code_89 : List Instr := [.iload 4, .aload_n 0, .getfield 160, .if_icmp .ge 51, .aload_n 0, .getfield 91, .iload 4, .baload, .ifCond .eq 35, .aload_n 0, .iload 4, .invokevirtual 238, .iconst 1, .iload_n 1, .ishl, .if_icmp .ge 23, .aload_n 0, .getfield 91, .iload 4, .iconst 0, .bastore, .aload_n 0, .dup, .getfield 179, .iconst 1, .isub, .putfield 179, .iconst 1, .istore_n 3]
def k_M_code_140 : List Instr := [.iinc 4 1, .goto (-54)]
def k_M_code_146 : List Instr := [.goto (-66)]
def k_M_code_149 : List Instr := [.aload_n 0, .getfield 179, .ireturn]
def g_M_code : List (Nat × List Instr) := [(0, k_M_code_0), (24, k_M_code_24), (27, k_M_code_27), (37, k_M_code_37), (57, k_M_code_57), (78, k_M_code_78), (80, k_M_code_80), (89, k_M_code_89), (140, k_M_code_140), (146, k_M_code_146), (149, k_M_code_149)]
theorem o_M_code : ∀ q ∈ g_M_code, okB b_M_code q.1 q.2 = true := List.all_eq_true.mp (by decide +kernel : g_M_code.all (fun q => okB b_M_code q.1 q.2) = true)
theorem j_M_code_0 (f : List Instr → Prop) : lk1 g_M_code 0 f = f [.iload_n 1, .i2l, .lconst 1, .ldc2_w 233, .invokestatic 108, .ifCond .eq 15, .iload_n 2, .i2l, .lconst 1, .ldc2_w 209, .invokestatic 108, .ifCond .ne 6] := (rfl)
theorem j_M_code_24 (f : List Instr → Prop) : lk1 g_M_code 24 f = f [.bipush (-2), .ireturn] := (rfl)
theorem j_M_code_27 (f : List Instr → Prop) : lk1 g_M_code 27 f = f [.aload_n 0, .getfield 160, .ifCond .ne 6, .bipush (-3), .ireturn] := (rfl)
theorem j_M_code_37 (f : List Instr → Prop) : lk1 g_M_code 37 f = f [.aload_n 0, .iload_n 1, .putfield 235, .aload_n 0, .iload_n 2, .putfield 230, .aload_n 0, .aload_n 0, .getfield 160, .putfield 179, .iconst 0, .istore_n 3] := (rfl)
theorem j_M_code_57 (f : List Instr → Prop) : lk1 g_M_code 57 f = f [.iload_n 3, .aload_n 0, .getfield 160, .if_icmp .ge 16, .aload_n 0, .getfield 91, .iload_n 3, .iconst 1, .bastore, .iinc 3 1, .goto (-18)] := (rfl)
theorem j_M_code_78 (f : List Instr → Prop) : lk1 g_M_code 78 f = f [.iconst 1, .istore_n 3] := (rfl)
theorem j_M_code_80 (f : List Instr → Prop) : lk1 g_M_code 80 f = f [.iload_n 3, .ifCond .eq 68, .iconst 0, .istore_n 3, .iconst 0, .istore 4] := (rfl)
theorem j_M_code_89 (f : List Instr → Prop) : lk1 g_M_code 89 f = f [.iload 4, .aload_n 0, .getfield 160, .if_icmp .ge 51, .aload_n 0, .getfield 91, .iload 4, .baload, .ifCond .eq 35, .aload_n 0, .iload 4, .invokevirtual 238, .iconst 1, .iload_n 1, .ishl, .if_icmp .ge 23, .aload_n 0, .getfield 91, .iload 4, .iconst 0, .bastore, .aload_n 0, .dup, .getfield 179, .iconst 1, .isub, .putfield 179, .iconst 1, .istore_n 3] := (rfl)
theorem j_M_code_140 (f : List Instr → Prop) : lk1 g_M_code 140 f = f [.iinc 4 1, .goto (-54)] := (rfl)
theorem j_M_code_146 (f : List Instr → Prop) : lk1 g_M_code 146 f = f [.goto (-66)] := (rfl)
theorem j_M_code_149 (f : List Instr → Prop) : lk1 g_M_code 149 f = f [.aload_n 0, .getfield 179, .ireturn] := (rfl)
abbrev b_M_leading : ByteArray := prog_11_method_45_code
abbrev y_M_leading : MethodName := ⟨RX9, "leading", "(I)I"⟩
def k_M_leading_0 : List Instr := [.aload_n 0, .iload_n 1, .aload_n 0, .getfield 230, .invokevirtual 211, .iconst 0, .istore_n 2, .iconst 0, .istore_n 3]
def k_M_leading_13 : List Instr := [.iload_n 3, .aload_n 0, .getfield 160, .if_icmp .ge 31, .iload_n 2, .aload_n 0, .getfield 91, .iload_n 3, .baload, .ifCond .eq 12, .aload_n 0, .getfield 82, .iload_n 3, .iaload, .goto 4]
def k_M_leading_40 : List Instr := [.iconst 0]
def k_M_leading_41 : List Instr := [.iadd, .istore_n 2, .iinc 3 1, .goto (-33)]
def k_M_leading_49 : List Instr := [.iload_n 2, .ireturn]
def g_M_leading : List (Nat × List Instr) := [(0, k_M_leading_0), (13, k_M_leading_13), (40, k_M_leading_40), (41, k_M_leading_41), (49, k_M_leading_49)]
theorem o_M_leading : ∀ q ∈ g_M_leading, okB b_M_leading q.1 q.2 = true := List.all_eq_true.mp (by decide +kernel : g_M_leading.all (fun q => okB b_M_leading q.1 q.2) = true)
theorem j_M_leading_0 (f : List Instr → Prop) : lk1 g_M_leading 0 f = f [.aload_n 0, .iload_n 1, .aload_n 0, .getfield 230, .invokevirtual 211, .iconst 0, .istore_n 2, .iconst 0, .istore_n 3] := (rfl)
theorem j_M_leading_13 (f : List Instr → Prop) : lk1 g_M_leading 13 f = f [.iload_n 3, .aload_n 0, .getfield 160, .if_icmp .ge 31, .iload_n 2, .aload_n 0, .getfield 91, .iload_n 3, .baload, .ifCond .eq 12, .aload_n 0, .getfield 82, .iload_n 3, .iaload, .goto 4] := (rfl)
theorem j_M_leading_40 (f : List Instr → Prop) : lk1 g_M_leading 40 f = f [.iconst 0] := (rfl)
theorem j_M_leading_41 (f : List Instr → Prop) : lk1 g_M_leading 41 f = f [.iadd, .istore_n 2, .iinc 3 1, .goto (-33)] := (rfl)
theorem j_M_leading_49 (f : List Instr → Prop) : lk1 g_M_leading 49 f = f [.iload_n 2, .ireturn] := (rfl)
abbrev b_M_member : ByteArray := prog_11_method_48_code
abbrev y_M_member : MethodName := ⟨RX9, "member", "(I)I"⟩
def k_M_member_0 : List Instr := [.aload_n 0, .iload_n 1, .invokevirtual 185, .ifCond .ne 6, .bipush (-2), .ireturn]
def k_M_member_11 : List Instr := [.aload_n 0, .getfield 179, .ifCond .ne 8, .bipush (-3), .goto 17]
def k_M_member_23 : List Instr := [.aload_n 0, .getfield 91, .iload_n 1, .baload, .ifCond .eq 7, .iconst 1, .goto 4]
def k_M_member_36 : List Instr := [.iconst 0]
def k_M_member_37 : List Instr := [.ireturn]
def g_M_member : List (Nat × List Instr) := [(0, k_M_member_0), (11, k_M_member_11), (23, k_M_member_23), (36, k_M_member_36), (37, k_M_member_37)]
theorem o_M_member : ∀ q ∈ g_M_member, okB b_M_member q.1 q.2 = true := List.all_eq_true.mp (by decide +kernel : g_M_member.all (fun q => okB b_M_member q.1 q.2) = true)
theorem j_M_member_0 (f : List Instr → Prop) : lk1 g_M_member 0 f = f [.aload_n 0, .iload_n 1, .invokevirtual 185, .ifCond .ne 6, .bipush (-2), .ireturn] := (rfl)
theorem j_M_member_11 (f : List Instr → Prop) : lk1 g_M_member 11 f = f [.aload_n 0, .getfield 179, .ifCond .ne 8, .bipush (-3), .goto 17] := (rfl)
theorem j_M_member_23 (f : List Instr → Prop) : lk1 g_M_member 23 f = f [.aload_n 0, .getfield 91, .iload_n 1, .baload, .ifCond .eq 7, .iconst 1, .goto 4] := (rfl)
theorem j_M_member_36 (f : List Instr → Prop) : lk1 g_M_member 36 f = f [.iconst 0] := (rfl)
theorem j_M_member_37 (f : List Instr → Prop) : lk1 g_M_member 37 f = f [.ireturn] := (rfl)
abbrev b_M_wordOf : ByteArray := prog_11_method_51_code
abbrev y_M_wordOf : MethodName := ⟨RX9, "wordOf", "(II)I"⟩
def k_M_wordOf_0 : List Instr := [.aload_n 0, .getfield 179, .ifCond .ne 6, .bipush (-3), .ireturn]
def k_M_wordOf_10 : List Instr := [.aload_n 0, .iload_n 1, .invokevirtual 185, .ifCond .eq 39, .aload_n 0, .getfield 91, .iload_n 1, .baload, .ifCond .eq 30, .iload_n 2, .i2l, .lconst 0, .iconst 1, .aload_n 0, .getfield 235, .ishl, .iconst 1, .isub, .i2l, .invokestatic 108, .ifCond .eq 12, .aload_n 0, .iload_n 1, .iload_n 2, .invokevirtual 244, .goto 5]
def k_M_wordOf_54 : List Instr := [.bipush (-2)]
def k_M_wordOf_56 : List Instr := [.ireturn]
def g_M_wordOf : List (Nat × List Instr) := [(0, k_M_wordOf_0), (10, k_M_wordOf_10), (54, k_M_wordOf_54), (56, k_M_wordOf_56)]
theorem o_M_wordOf : ∀ q ∈ g_M_wordOf, okB b_M_wordOf q.1 q.2 = true := List.all_eq_true.mp (by decide +kernel : g_M_wordOf.all (fun q => okB b_M_wordOf q.1 q.2) = true)
theorem j_M_wordOf_0 (f : List Instr → Prop) : lk1 g_M_wordOf 0 f = f [.aload_n 0, .getfield 179, .ifCond .ne 6, .bipush (-3), .ireturn] := (rfl)
theorem j_M_wordOf_10 (f : List Instr → Prop) : lk1 g_M_wordOf 10 f = f [.aload_n 0, .iload_n 1, .invokevirtual 185, .ifCond .eq 39, .aload_n 0, .getfield 91, .iload_n 1, .baload, .ifCond .eq 30, .iload_n 2, .i2l, .lconst 0, .iconst 1, .aload_n 0, .getfield 235, .ishl, .iconst 1, .isub, .i2l, .invokestatic 108, .ifCond .eq 12, .aload_n 0, .iload_n 1, .iload_n 2, .invokevirtual 244, .goto 5] := (rfl)
theorem j_M_wordOf_54 (f : List Instr → Prop) : lk1 g_M_wordOf 54 f = f [.bipush (-2)] := (rfl)
theorem j_M_wordOf_56 (f : List Instr → Prop) : lk1 g_M_wordOf 56 f = f [.ireturn] := (rfl)
abbrev b_M_wordAt : ByteArray := prog_11_method_50_code
abbrev y_M_wordAt : MethodName := ⟨RX9, "wordAt", "(II)I"⟩
def k_M_wordAt_0 : List Instr := [.iload_n 2, .istore_n 3, .iconst 0, .istore 4]
def k_M_wordAt_5 : List Instr := [.aload_n 0, .aload_n 0, .iload_n 1, .iload 4, .i2l, .aload_n 0, .getfield 230, .invokevirtual 197, .invokevirtual 241, .ifCond .eq 13, .iload_n 3, .ifCond .ne 6, .iload 4, .ireturn]
def k_M_wordAt_31 : List Instr := [.iinc 3 (-1)]
def k_M_wordAt_34 : List Instr := [.iinc 4 1, .goto (-32)]
def g_M_wordAt : List (Nat × List Instr) := [(0, k_M_wordAt_0), (5, k_M_wordAt_5), (31, k_M_wordAt_31), (34, k_M_wordAt_34)]
theorem o_M_wordAt : ∀ q ∈ g_M_wordAt, okB b_M_wordAt q.1 q.2 = true := List.all_eq_true.mp (by decide +kernel : g_M_wordAt.all (fun q => okB b_M_wordAt q.1 q.2) = true)
theorem j_M_wordAt_0 (f : List Instr → Prop) : lk1 g_M_wordAt 0 f = f [.iload_n 2, .istore_n 3, .iconst 0, .istore 4] := (rfl)
theorem j_M_wordAt_5 (f : List Instr → Prop) : lk1 g_M_wordAt 5 f = f [.aload_n 0, .aload_n 0, .iload_n 1, .iload 4, .i2l, .aload_n 0, .getfield 230, .invokevirtual 197, .invokevirtual 241, .ifCond .eq 13, .iload_n 3, .ifCond .ne 6, .iload 4, .ireturn] := (rfl)
theorem j_M_wordAt_31 (f : List Instr → Prop) : lk1 g_M_wordAt 31 f = f [.iinc 3 (-1)] := (rfl)
theorem j_M_wordAt_34 (f : List Instr → Prop) : lk1 g_M_wordAt 34 f = f [.iinc 4 1, .goto (-32)] := (rfl)
abbrev b_M_isMemberAt : ByteArray := prog_11_method_49_code
abbrev y_M_isMemberAt : MethodName := ⟨RX9, "isMemberAt", "(I)Z"⟩
def k_M_isMemberAt_0 : List Instr := [.iload_n 1, .iconst (-1), .if_icmp .eq 16, .aload_n 0, .getfield 91, .iload_n 1, .baload, .ifCond .eq 7, .iconst 1, .goto 4]
def k_M_isMemberAt_18 : List Instr := [.iconst 0]
def k_M_isMemberAt_19 : List Instr := [.ireturn]
def g_M_isMemberAt : List (Nat × List Instr) := [(0, k_M_isMemberAt_0), (18, k_M_isMemberAt_18), (19, k_M_isMemberAt_19)]
theorem o_M_isMemberAt : ∀ q ∈ g_M_isMemberAt, okB b_M_isMemberAt q.1 q.2 = true := List.all_eq_true.mp (by decide +kernel : g_M_isMemberAt.all (fun q => okB b_M_isMemberAt q.1 q.2) = true)
theorem j_M_isMemberAt_0 (f : List Instr → Prop) : lk1 g_M_isMemberAt 0 f = f [.iload_n 1, .iconst (-1), .if_icmp .eq 16, .aload_n 0, .getfield 91, .iload_n 1, .baload, .ifCond .eq 7, .iconst 1, .goto 4] := (rfl)
theorem j_M_isMemberAt_18 (f : List Instr → Prop) : lk1 g_M_isMemberAt 18 f = f [.iconst 0] := (rfl)
theorem j_M_isMemberAt_19 (f : List Instr → Prop) : lk1 g_M_isMemberAt 19 f = f [.ireturn] := (rfl)
abbrev b_M_read : ByteArray := prog_11_method_53_code
abbrev y_M_read : MethodName := ⟨RX9, "read", "(II)I"⟩
def k_M_read_0 : List Instr := [.aload_n 0, .getfield 179, .ifCond .ne 6, .bipush (-3), .ireturn]
def k_M_read_10 : List Instr := [.aload_n 0, .iload_n 1, .invokevirtual 185, .ifCond .eq 39, .aload_n 0, .getfield 91, .iload_n 1, .baload, .ifCond .eq 30, .iload_n 2, .i2l, .lconst 0, .iconst 1, .aload_n 0, .getfield 230, .ishl, .iconst 1, .isub, .i2l, .invokestatic 108, .ifCond .eq 12, .aload_n 0, .iload_n 1, .iload_n 2, .invokevirtual 247, .goto 5]
def k_M_read_54 : List Instr := [.bipush (-2)]
def k_M_read_56 : List Instr := [.ireturn]
def g_M_read : List (Nat × List Instr) := [(0, k_M_read_0), (10, k_M_read_10), (54, k_M_read_54), (56, k_M_read_56)]
theorem o_M_read : ∀ q ∈ g_M_read, okB b_M_read q.1 q.2 = true := List.all_eq_true.mp (by decide +kernel : g_M_read.all (fun q => okB b_M_read q.1 q.2) = true)
theorem j_M_read_0 (f : List Instr → Prop) : lk1 g_M_read 0 f = f [.aload_n 0, .getfield 179, .ifCond .ne 6, .bipush (-3), .ireturn] := (rfl)
theorem j_M_read_10 (f : List Instr → Prop) : lk1 g_M_read 10 f = f [.aload_n 0, .iload_n 1, .invokevirtual 185, .ifCond .eq 39, .aload_n 0, .getfield 91, .iload_n 1, .baload, .ifCond .eq 30, .iload_n 2, .i2l, .lconst 0, .iconst 1, .aload_n 0, .getfield 230, .ishl, .iconst 1, .isub, .i2l, .invokestatic 108, .ifCond .eq 12, .aload_n 0, .iload_n 1, .iload_n 2, .invokevirtual 247, .goto 5] := (rfl)
theorem j_M_read_54 (f : List Instr → Prop) : lk1 g_M_read 54 f = f [.bipush (-2)] := (rfl)
theorem j_M_read_56 (f : List Instr → Prop) : lk1 g_M_read 56 f = f [.ireturn] := (rfl)
abbrev b_M_readAt : ByteArray := prog_11_method_52_code
abbrev y_M_readAt : MethodName := ⟨RX9, "readAt", "(II)I"⟩
def k_M_readAt_0 : List Instr := [.aload_n 0, .aload_n 0, .iload_n 1, .iload_n 2, .i2l, .aload_n 0, .getfield 230, .invokevirtual 197, .invokevirtual 241, .ifCond .ne 5, .iconst (-1), .ireturn]
def k_M_readAt_20 : List Instr := [.iconst 0, .istore_n 3, .iconst 0, .istore 4]
def k_M_readAt_25 : List Instr := [.iload 4, .iload_n 2, .if_icmp .ge 36, .iload_n 3, .aload_n 0, .aload_n 0, .iload_n 1, .iload 4, .i2l, .aload_n 0, .getfield 230, .invokevirtual 197, .invokevirtual 241, .ifCond .eq 7, .iconst 1, .goto 4]
def k_M_readAt_55 : List Instr := [.iconst 0]
def k_M_readAt_56 : List Instr := [.iadd, .istore_n 3, .iinc 4 1, .goto (-36)]
def k_M_readAt_64 : List Instr := [.iload_n 3, .iconst 1, .aload_n 0, .getfield 235, .ishl, .if_icmp .ge 7, .iload_n 3, .goto 4]
def k_M_readAt_78 : List Instr := [.iconst (-1)]
def k_M_readAt_79 : List Instr := [.ireturn]
def g_M_readAt : List (Nat × List Instr) := [(0, k_M_readAt_0), (20, k_M_readAt_20), (25, k_M_readAt_25), (55, k_M_readAt_55), (56, k_M_readAt_56), (64, k_M_readAt_64), (78, k_M_readAt_78), (79, k_M_readAt_79)]
theorem o_M_readAt : ∀ q ∈ g_M_readAt, okB b_M_readAt q.1 q.2 = true := List.all_eq_true.mp (by decide +kernel : g_M_readAt.all (fun q => okB b_M_readAt q.1 q.2) = true)
theorem j_M_readAt_0 (f : List Instr → Prop) : lk1 g_M_readAt 0 f = f [.aload_n 0, .aload_n 0, .iload_n 1, .iload_n 2, .i2l, .aload_n 0, .getfield 230, .invokevirtual 197, .invokevirtual 241, .ifCond .ne 5, .iconst (-1), .ireturn] := (rfl)
theorem j_M_readAt_20 (f : List Instr → Prop) : lk1 g_M_readAt 20 f = f [.iconst 0, .istore_n 3, .iconst 0, .istore 4] := (rfl)
theorem j_M_readAt_25 (f : List Instr → Prop) : lk1 g_M_readAt 25 f = f [.iload 4, .iload_n 2, .if_icmp .ge 36, .iload_n 3, .aload_n 0, .aload_n 0, .iload_n 1, .iload 4, .i2l, .aload_n 0, .getfield 230, .invokevirtual 197, .invokevirtual 241, .ifCond .eq 7, .iconst 1, .goto 4] := (rfl)
theorem j_M_readAt_55 (f : List Instr → Prop) : lk1 g_M_readAt 55 f = f [.iconst 0] := (rfl)
theorem j_M_readAt_56 (f : List Instr → Prop) : lk1 g_M_readAt 56 f = f [.iadd, .istore_n 3, .iinc 4 1, .goto (-36)] := (rfl)
theorem j_M_readAt_64 (f : List Instr → Prop) : lk1 g_M_readAt 64 f = f [.iload_n 3, .iconst 1, .aload_n 0, .getfield 235, .ishl, .if_icmp .ge 7, .iload_n 3, .goto 4] := (rfl)
theorem j_M_readAt_78 (f : List Instr → Prop) : lk1 g_M_readAt 78 f = f [.iconst (-1)] := (rfl)
theorem j_M_readAt_79 (f : List Instr → Prop) : lk1 g_M_readAt 79 f = f [.ireturn] := (rfl)
abbrev b_M_say : ByteArray := prog_11_method_54_code
abbrev y_M_say : MethodName := ⟨RX9, "say", "(JI)I"⟩
def k_M_say_0 : List Instr := [.lload_n 1, .iload_n 3, .invokestatic 193, .ifCond .ne 6, .bipush (-2), .ireturn]
def k_M_say_11 : List Instr := [.aload_n 0, .getfield 250, .iload_n 3, .iadd, .sipush 240, .if_icmp .le 6, .bipush (-4), .ireturn]
def k_M_say_26 : List Instr := [.iload_n 3, .iconst 1, .isub, .istore 4]
def k_M_say_31 : List Instr := [.iload 4, .ifCond .lt 35, .aload_n 0, .getfield 94, .aload_n 0, .getfield 250, .lload_n 1, .iload 4, .lshr, .lconst 1, .land, .l2i, .iastore, .aload_n 0, .dup, .getfield 250, .iconst 1, .iadd, .putfield 250, .iinc 4 (-1), .goto (-34)]
def k_M_say_68 : List Instr := [.aload_n 0, .getfield 250, .ireturn]
def g_M_say : List (Nat × List Instr) := [(0, k_M_say_0), (11, k_M_say_11), (26, k_M_say_26), (31, k_M_say_31), (68, k_M_say_68)]
theorem o_M_say : ∀ q ∈ g_M_say, okB b_M_say q.1 q.2 = true := List.all_eq_true.mp (by decide +kernel : g_M_say.all (fun q => okB b_M_say q.1 q.2) = true)
theorem j_M_say_0 (f : List Instr → Prop) : lk1 g_M_say 0 f = f [.lload_n 1, .iload_n 3, .invokestatic 193, .ifCond .ne 6, .bipush (-2), .ireturn] := (rfl)
theorem j_M_say_11 (f : List Instr → Prop) : lk1 g_M_say 11 f = f [.aload_n 0, .getfield 250, .iload_n 3, .iadd, .sipush 240, .if_icmp .le 6, .bipush (-4), .ireturn] := (rfl)
theorem j_M_say_26 (f : List Instr → Prop) : lk1 g_M_say 26 f = f [.iload_n 3, .iconst 1, .isub, .istore 4] := (rfl)
theorem j_M_say_31 (f : List Instr → Prop) : lk1 g_M_say 31 f = f [.iload 4, .ifCond .lt 35, .aload_n 0, .getfield 94, .aload_n 0, .getfield 250, .lload_n 1, .iload 4, .lshr, .lconst 1, .land, .l2i, .iastore, .aload_n 0, .dup, .getfield 250, .iconst 1, .iadd, .putfield 250, .iinc 4 (-1), .goto (-34)] := (rfl)
theorem j_M_say_68 (f : List Instr → Prop) : lk1 g_M_say 68 f = f [.aload_n 0, .getfield 250, .ireturn] := (rfl)
abbrev b_M_hush : ByteArray := prog_11_method_55_code
abbrev y_M_hush : MethodName := ⟨RX9, "hush", "()I"⟩
def k_M_hush_0 : List Instr := [.aload_n 0, .getfield 250, .istore_n 1, .aload_n 0, .iconst 0, .putfield 250, .iload_n 1, .ireturn]
def g_M_hush : List (Nat × List Instr) := [(0, k_M_hush_0)]
theorem o_M_hush : ∀ q ∈ g_M_hush, okB b_M_hush q.1 q.2 = true := List.all_eq_true.mp (by decide +kernel : g_M_hush.all (fun q => okB b_M_hush q.1 q.2) = true)
theorem j_M_hush_0 (f : List Instr → Prop) : lk1 g_M_hush 0 f = f [.aload_n 0, .getfield 250, .istore_n 1, .aload_n 0, .iconst 0, .putfield 250, .iload_n 1, .ireturn] := (rfl)
abbrev b_M_message : ByteArray := prog_11_method_56_code
abbrev y_M_message : MethodName := ⟨RX9, "message", "(I)I"⟩
def k_M_message_0 : List Instr := [.iload_n 1, .i2l, .lconst 0, .aload_n 0, .getfield 250, .iconst 1, .isub, .i2l, .invokestatic 108, .ifCond .eq 12, .aload_n 0, .getfield 94, .iload_n 1, .iaload, .goto 5]
def k_M_message_25 : List Instr := [.bipush (-2)]
def k_M_message_27 : List Instr := [.ireturn]
def g_M_message : List (Nat × List Instr) := [(0, k_M_message_0), (25, k_M_message_25), (27, k_M_message_27)]
theorem o_M_message : ∀ q ∈ g_M_message, okB b_M_message q.1 q.2 = true := List.all_eq_true.mp (by decide +kernel : g_M_message.all (fun q => okB b_M_message q.1 q.2) = true)
theorem j_M_message_0 (f : List Instr → Prop) : lk1 g_M_message 0 f = f [.iload_n 1, .i2l, .lconst 0, .aload_n 0, .getfield 250, .iconst 1, .isub, .i2l, .invokestatic 108, .ifCond .eq 12, .aload_n 0, .getfield 94, .iload_n 1, .iaload, .goto 5] := (rfl)
theorem j_M_message_25 (f : List Instr → Prop) : lk1 g_M_message 25 f = f [.bipush (-2)] := (rfl)
theorem j_M_message_27 (f : List Instr → Prop) : lk1 g_M_message 27 f = f [.ireturn] := (rfl)
abbrev b_M_write : ByteArray := prog_11_method_58_code
abbrev y_M_write : MethodName := ⟨RX9, "write", "()I"⟩
def k_M_write_0 : List Instr := [.aload_n 0, .getfield 179, .ifCond .ne 6, .bipush (-3), .ireturn]
def k_M_write_10 : List Instr := [.aload_n 0, .invokevirtual 256, .istore_n 1, .aload_n 0, .getfield 250, .aload_n 0, .getfield 235, .iadd, .iconst 1, .isub, .aload_n 0, .getfield 235, .idiv, .istore_n 2, .iload_n 1, .iload_n 2, .aload_n 0, .getfield 230, .imul, .iadd, .sipush 600, .if_icmp .le 6, .bipush (-4), .ireturn]
def k_M_write_49 : List Instr := [.iconst 0, .istore_n 3]
def k_M_write_51 : List Instr := [.iload_n 3, .iload_n 1, .if_icmp .ge 21, .aload_n 0, .getfield 97, .iload_n 3, .aload_n 0, .getfield 103, .iload_n 3, .iaload, .iastore, .iinc 3 1, .goto (-20)]
def k_M_write_74 : List Instr := [.aload_n 0, .iload_n 1, .putfield 259, .aload_n 0, .invokevirtual 253, .istore_n 3, .iconst 0, .istore 4]
def k_M_write_87 : List Instr := [.iload 4, .iload_n 2, .if_icmp .ge 136, .iconst 0, .istore 5, .iconst 0, .istore 6]
def k_M_write_99 : List Instr := [.iload 6, .aload_n 0, .getfield 235, .if_icmp .ge 48, .iload 4, .aload_n 0, .getfield 235, .imul, .iload 6, .iadd, .istore 7, .iconst 2, .iload 5, .imul, .iload 7, .aload_n 0, .getfield 250, .if_icmp .ge 13, .aload_n 0, .getfield 94, .iload 7, .iaload, .goto 4]
def k_M_write_143 : List Instr := [.iconst 0]
def k_M_write_144 : List Instr := [.iadd, .istore 5, .iinc 6 1, .goto (-51)]
def k_M_write_153 : List Instr := [.aload_n 0, .iload_n 3, .iload 5, .invokevirtual 244, .istore 6, .aload_n 0, .getfield 230, .iconst 1, .isub, .istore 7]
def k_M_write_170 : List Instr := [.iload 7, .ifCond .lt 35, .aload_n 0, .getfield 97, .aload_n 0, .getfield 259, .iload 6, .iload 7, .ishr, .iconst 1, .iand, .iastore, .aload_n 0, .dup, .getfield 259, .iconst 1, .iadd, .putfield 259, .iinc 7 (-1), .goto (-34)]
def k_M_write_207 : List Instr := [.aload_n 0, .iload_n 3, .iload 6, .i2l, .aload_n 0, .getfield 230, .invokevirtual 197, .istore_n 3, .iinc 4 1, .goto (-136)]
def k_M_write_226 : List Instr := [.aload_n 0, .getfield 259, .ireturn]
def g_M_write : List (Nat × List Instr) := [(0, k_M_write_0), (10, k_M_write_10), (49, k_M_write_49), (51, k_M_write_51), (74, k_M_write_74), (87, k_M_write_87), (99, k_M_write_99), (143, k_M_write_143), (144, k_M_write_144), (153, k_M_write_153), (170, k_M_write_170), (207, k_M_write_207), (226, k_M_write_226)]
theorem o_M_write : ∀ q ∈ g_M_write, okB b_M_write q.1 q.2 = true := List.all_eq_true.mp (by decide +kernel : g_M_write.all (fun q => okB b_M_write q.1 q.2) = true)
theorem j_M_write_0 (f : List Instr → Prop) : lk1 g_M_write 0 f = f [.aload_n 0, .getfield 179, .ifCond .ne 6, .bipush (-3), .ireturn] := (rfl)
theorem j_M_write_10 (f : List Instr → Prop) : lk1 g_M_write 10 f = f [.aload_n 0, .invokevirtual 256, .istore_n 1, .aload_n 0, .getfield 250, .aload_n 0, .getfield 235, .iadd, .iconst 1, .isub, .aload_n 0, .getfield 235, .idiv, .istore_n 2, .iload_n 1, .iload_n 2, .aload_n 0, .getfield 230, .imul, .iadd, .sipush 600, .if_icmp .le 6, .bipush (-4), .ireturn] := (rfl)
theorem j_M_write_49 (f : List Instr → Prop) : lk1 g_M_write 49 f = f [.iconst 0, .istore_n 3] := (rfl)
theorem j_M_write_51 (f : List Instr → Prop) : lk1 g_M_write 51 f = f [.iload_n 3, .iload_n 1, .if_icmp .ge 21, .aload_n 0, .getfield 97, .iload_n 3, .aload_n 0, .getfield 103, .iload_n 3, .iaload, .iastore, .iinc 3 1, .goto (-20)] := (rfl)
theorem j_M_write_74 (f : List Instr → Prop) : lk1 g_M_write 74 f = f [.aload_n 0, .iload_n 1, .putfield 259, .aload_n 0, .invokevirtual 253, .istore_n 3, .iconst 0, .istore 4] := (rfl)
theorem j_M_write_87 (f : List Instr → Prop) : lk1 g_M_write 87 f = f [.iload 4, .iload_n 2, .if_icmp .ge 136, .iconst 0, .istore 5, .iconst 0, .istore 6] := (rfl)
theorem j_M_write_99 (f : List Instr → Prop) : lk1 g_M_write 99 f = f [.iload 6, .aload_n 0, .getfield 235, .if_icmp .ge 48, .iload 4, .aload_n 0, .getfield 235, .imul, .iload 6, .iadd, .istore 7, .iconst 2, .iload 5, .imul, .iload 7, .aload_n 0, .getfield 250, .if_icmp .ge 13, .aload_n 0, .getfield 94, .iload 7, .iaload, .goto 4] := (rfl)
theorem j_M_write_143 (f : List Instr → Prop) : lk1 g_M_write 143 f = f [.iconst 0] := (rfl)
theorem j_M_write_144 (f : List Instr → Prop) : lk1 g_M_write 144 f = f [.iadd, .istore 5, .iinc 6 1, .goto (-51)] := (rfl)
theorem j_M_write_153 (f : List Instr → Prop) : lk1 g_M_write 153 f = f [.aload_n 0, .iload_n 3, .iload 5, .invokevirtual 244, .istore 6, .aload_n 0, .getfield 230, .iconst 1, .isub, .istore 7] := (rfl)
theorem j_M_write_170 (f : List Instr → Prop) : lk1 g_M_write 170 f = f [.iload 7, .ifCond .lt 35, .aload_n 0, .getfield 97, .aload_n 0, .getfield 259, .iload 6, .iload 7, .ishr, .iconst 1, .iand, .iastore, .aload_n 0, .dup, .getfield 259, .iconst 1, .iadd, .putfield 259, .iinc 7 (-1), .goto (-34)] := (rfl)
theorem j_M_write_207 (f : List Instr → Prop) : lk1 g_M_write 207 f = f [.aload_n 0, .iload_n 3, .iload 6, .i2l, .aload_n 0, .getfield 230, .invokevirtual 197, .istore_n 3, .iinc 4 1, .goto (-136)] := (rfl)
theorem j_M_write_226 (f : List Instr → Prop) : lk1 g_M_write 226 f = f [.aload_n 0, .getfield 259, .ireturn] := (rfl)
abbrev b_M_tellLead : ByteArray := prog_11_method_57_code
abbrev y_M_tellLead : MethodName := ⟨RX9, "tellLead", "()I"⟩
def k_M_tellLead_0 : List Instr := [.aload_n 0, .invokevirtual 253, .istore_n 1, .aload_n 0, .getfield 66, .iload_n 1, .iaload, .istore_n 2, .iload_n 2, .iconst 1, .isub, .istore_n 3]
def k_M_tellLead_16 : List Instr := [.iload_n 3, .ifCond .lt 28, .aload_n 0, .getfield 103, .iload_n 3, .aload_n 0, .getfield 63, .iload_n 1, .iaload, .iastore, .aload_n 0, .getfield 60, .iload_n 1, .iaload, .istore_n 1, .iinc 3 (-1), .goto (-26)]
def k_M_tellLead_45 : List Instr := [.iload_n 2, .ireturn]
def g_M_tellLead : List (Nat × List Instr) := [(0, k_M_tellLead_0), (16, k_M_tellLead_16), (45, k_M_tellLead_45)]
theorem o_M_tellLead : ∀ q ∈ g_M_tellLead, okB b_M_tellLead q.1 q.2 = true := List.all_eq_true.mp (by decide +kernel : g_M_tellLead.all (fun q => okB b_M_tellLead q.1 q.2) = true)
theorem j_M_tellLead_0 (f : List Instr → Prop) : lk1 g_M_tellLead 0 f = f [.aload_n 0, .invokevirtual 253, .istore_n 1, .aload_n 0, .getfield 66, .iload_n 1, .iaload, .istore_n 2, .iload_n 2, .iconst 1, .isub, .istore_n 3] := (rfl)
theorem j_M_tellLead_16 (f : List Instr → Prop) : lk1 g_M_tellLead 16 f = f [.iload_n 3, .ifCond .lt 28, .aload_n 0, .getfield 103, .iload_n 3, .aload_n 0, .getfield 63, .iload_n 1, .iaload, .iastore, .aload_n 0, .getfield 60, .iload_n 1, .iaload, .istore_n 1, .iinc 3 (-1), .goto (-26)] := (rfl)
theorem j_M_tellLead_45 (f : List Instr → Prop) : lk1 g_M_tellLead 45 f = f [.iload_n 2, .ireturn] := (rfl)
abbrev b_M_home : ByteArray := prog_11_method_47_code
abbrev y_M_home : MethodName := ⟨RX9, "home", "()I"⟩
def k_M_home_0 : List Instr := [.iconst 0, .istore_n 1]
def k_M_home_2 : List Instr := [.aload_n 0, .getfield 91, .iload_n 1, .baload, .ifCond .ne 9, .iinc 1 1, .goto (-12)]
def k_M_home_17 : List Instr := [.iload_n 1, .ireturn]
def g_M_home : List (Nat × List Instr) := [(0, k_M_home_0), (2, k_M_home_2), (17, k_M_home_17)]
theorem o_M_home : ∀ q ∈ g_M_home, okB b_M_home q.1 q.2 = true := List.all_eq_true.mp (by decide +kernel : g_M_home.all (fun q => okB b_M_home q.1 q.2) = true)
theorem j_M_home_0 (f : List Instr → Prop) : lk1 g_M_home 0 f = f [.iconst 0, .istore_n 1] := (rfl)
theorem j_M_home_2 (f : List Instr → Prop) : lk1 g_M_home 2 f = f [.aload_n 0, .getfield 91, .iload_n 1, .baload, .ifCond .ne 9, .iinc 1 1, .goto (-12)] := (rfl)
theorem j_M_home_17 (f : List Instr → Prop) : lk1 g_M_home 17 f = f [.iload_n 1, .ireturn] := (rfl)
abbrev b_M_tell : ByteArray := prog_11_method_59_code
abbrev y_M_tell : MethodName := ⟨RX9, "tell", "()I"⟩
def k_M_tell_0 : List Instr := [.aload_n 0, .getfield 179, .ifCond .ne 6, .bipush (-3), .ireturn]
def k_M_tell_10 : List Instr := [.aload_n 0, .invokevirtual 256, .istore_n 1, .iconst 0, .istore_n 2]
def k_M_tell_17 : List Instr := [.iload_n 2, .iload_n 1, .if_icmp .ge 37, .iload_n 2, .aload_n 0, .getfield 259, .if_icmp .ge 18, .aload_n 0, .getfield 97, .iload_n 2, .iaload, .aload_n 0, .getfield 103, .iload_n 2, .iaload, .if_icmp .eq 8]
def k_M_tell_45 : List Instr := [.bipush (-100), .iload_n 2, .isub, .ireturn]
def k_M_tell_50 : List Instr := [.iinc 2 1, .goto (-36)]
def k_M_tell_56 : List Instr := [.aload_n 0, .invokevirtual 253, .istore_n 2, .iconst 0, .istore_n 3, .iload_n 1, .istore 4]
def k_M_tell_66 : List Instr := [.iload 4, .aload_n 0, .getfield 259, .if_icmp .ge 163, .iconst 0, .istore 5, .iconst 0, .istore 6]
def k_M_tell_81 : List Instr := [.iload 6, .aload_n 0, .getfield 230, .if_icmp .ge 42, .iconst 2, .iload 5, .imul, .iload 4, .iload 6, .iadd, .aload_n 0, .getfield 259, .if_icmp .ge 16, .aload_n 0, .getfield 97, .iload 4, .iload 6, .iadd, .iaload, .goto 4]
def k_M_tell_119 : List Instr := [.iconst 0]
def k_M_tell_120 : List Instr := [.iadd, .istore 5, .iinc 6 1, .goto (-45)]
def k_M_tell_129 : List Instr := [.iload 4, .aload_n 0, .getfield 230, .iadd, .aload_n 0, .getfield 259, .if_icmp .le 7, .iconst (-1), .goto 10]
def k_M_tell_147 : List Instr := [.aload_n 0, .iload_n 2, .iload 5, .invokevirtual 247]
def k_M_tell_154 : List Instr := [.istore 6, .iload 6, .iconst (-1), .if_icmp .ne 9, .bipush (-100), .iload 4, .isub, .ireturn]
def k_M_tell_168 : List Instr := [.aload_n 0, .getfield 235, .iconst 1, .isub, .istore 7]
def k_M_tell_176 : List Instr := [.iload 7, .ifCond .lt 32, .iload_n 3, .sipush 600, .if_icmp .ge 16, .aload_n 0, .getfield 100, .iload_n 3, .iload 6, .iload 7, .ishr, .iconst 1, .iand, .iastore]
def k_M_tell_201 : List Instr := [.iinc 3 1, .iinc 7 (-1), .goto (-31)]
def k_M_tell_210 : List Instr := [.aload_n 0, .iload_n 2, .iload 5, .i2l, .aload_n 0, .getfield 230, .invokevirtual 197, .istore_n 2, .iload 4, .aload_n 0, .getfield 230, .iadd, .istore 4, .goto (-166)]
def k_M_tell_235 : List Instr := [.iload_n 3, .sipush 240, .if_icmp .le 6, .bipush (-4), .ireturn]
def k_M_tell_245 : List Instr := [.iconst 0, .istore 5]
def k_M_tell_248 : List Instr := [.iload 5, .iload_n 3, .if_icmp .ge 23, .aload_n 0, .getfield 94, .iload 5, .aload_n 0, .getfield 100, .iload 5, .iaload, .iastore, .iinc 5 1, .goto (-23)]
def k_M_tell_274 : List Instr := [.aload_n 0, .iload_n 3, .putfield 250, .aload_n 0, .getfield 250, .ireturn]
def g_M_tell : List (Nat × List Instr) := [(0, k_M_tell_0), (10, k_M_tell_10), (17, k_M_tell_17), (45, k_M_tell_45), (50, k_M_tell_50), (56, k_M_tell_56), (66, k_M_tell_66), (81, k_M_tell_81), (119, k_M_tell_119), (120, k_M_tell_120), (129, k_M_tell_129), (147, k_M_tell_147), (154, k_M_tell_154), (168, k_M_tell_168), (176, k_M_tell_176), (201, k_M_tell_201), (210, k_M_tell_210), (235, k_M_tell_235), (245, k_M_tell_245), (248, k_M_tell_248), (274, k_M_tell_274)]
theorem o_M_tell : ∀ q ∈ g_M_tell, okB b_M_tell q.1 q.2 = true := List.all_eq_true.mp (by decide +kernel : g_M_tell.all (fun q => okB b_M_tell q.1 q.2) = true)
theorem j_M_tell_0 (f : List Instr → Prop) : lk1 g_M_tell 0 f = f [.aload_n 0, .getfield 179, .ifCond .ne 6, .bipush (-3), .ireturn] := (rfl)
theorem j_M_tell_10 (f : List Instr → Prop) : lk1 g_M_tell 10 f = f [.aload_n 0, .invokevirtual 256, .istore_n 1, .iconst 0, .istore_n 2] := (rfl)
theorem j_M_tell_17 (f : List Instr → Prop) : lk1 g_M_tell 17 f = f [.iload_n 2, .iload_n 1, .if_icmp .ge 37, .iload_n 2, .aload_n 0, .getfield 259, .if_icmp .ge 18, .aload_n 0, .getfield 97, .iload_n 2, .iaload, .aload_n 0, .getfield 103, .iload_n 2, .iaload, .if_icmp .eq 8] := (rfl)
theorem j_M_tell_45 (f : List Instr → Prop) : lk1 g_M_tell 45 f = f [.bipush (-100), .iload_n 2, .isub, .ireturn] := (rfl)
theorem j_M_tell_50 (f : List Instr → Prop) : lk1 g_M_tell 50 f = f [.iinc 2 1, .goto (-36)] := (rfl)
theorem j_M_tell_56 (f : List Instr → Prop) : lk1 g_M_tell 56 f = f [.aload_n 0, .invokevirtual 253, .istore_n 2, .iconst 0, .istore_n 3, .iload_n 1, .istore 4] := (rfl)
theorem j_M_tell_66 (f : List Instr → Prop) : lk1 g_M_tell 66 f = f [.iload 4, .aload_n 0, .getfield 259, .if_icmp .ge 163, .iconst 0, .istore 5, .iconst 0, .istore 6] := (rfl)
theorem j_M_tell_81 (f : List Instr → Prop) : lk1 g_M_tell 81 f = f [.iload 6, .aload_n 0, .getfield 230, .if_icmp .ge 42, .iconst 2, .iload 5, .imul, .iload 4, .iload 6, .iadd, .aload_n 0, .getfield 259, .if_icmp .ge 16, .aload_n 0, .getfield 97, .iload 4, .iload 6, .iadd, .iaload, .goto 4] := (rfl)
theorem j_M_tell_119 (f : List Instr → Prop) : lk1 g_M_tell 119 f = f [.iconst 0] := (rfl)
theorem j_M_tell_120 (f : List Instr → Prop) : lk1 g_M_tell 120 f = f [.iadd, .istore 5, .iinc 6 1, .goto (-45)] := (rfl)
theorem j_M_tell_129 (f : List Instr → Prop) : lk1 g_M_tell 129 f = f [.iload 4, .aload_n 0, .getfield 230, .iadd, .aload_n 0, .getfield 259, .if_icmp .le 7, .iconst (-1), .goto 10] := (rfl)
theorem j_M_tell_147 (f : List Instr → Prop) : lk1 g_M_tell 147 f = f [.aload_n 0, .iload_n 2, .iload 5, .invokevirtual 247] := (rfl)
theorem j_M_tell_154 (f : List Instr → Prop) : lk1 g_M_tell 154 f = f [.istore 6, .iload 6, .iconst (-1), .if_icmp .ne 9, .bipush (-100), .iload 4, .isub, .ireturn] := (rfl)
theorem j_M_tell_168 (f : List Instr → Prop) : lk1 g_M_tell 168 f = f [.aload_n 0, .getfield 235, .iconst 1, .isub, .istore 7] := (rfl)
theorem j_M_tell_176 (f : List Instr → Prop) : lk1 g_M_tell 176 f = f [.iload 7, .ifCond .lt 32, .iload_n 3, .sipush 600, .if_icmp .ge 16, .aload_n 0, .getfield 100, .iload_n 3, .iload 6, .iload 7, .ishr, .iconst 1, .iand, .iastore] := (rfl)
theorem j_M_tell_201 (f : List Instr → Prop) : lk1 g_M_tell 201 f = f [.iinc 3 1, .iinc 7 (-1), .goto (-31)] := (rfl)
theorem j_M_tell_210 (f : List Instr → Prop) : lk1 g_M_tell 210 f = f [.aload_n 0, .iload_n 2, .iload 5, .i2l, .aload_n 0, .getfield 230, .invokevirtual 197, .istore_n 2, .iload 4, .aload_n 0, .getfield 230, .iadd, .istore 4, .goto (-166)] := (rfl)
theorem j_M_tell_235 (f : List Instr → Prop) : lk1 g_M_tell 235 f = f [.iload_n 3, .sipush 240, .if_icmp .le 6, .bipush (-4), .ireturn] := (rfl)
theorem j_M_tell_245 (f : List Instr → Prop) : lk1 g_M_tell 245 f = f [.iconst 0, .istore 5] := (rfl)
theorem j_M_tell_248 (f : List Instr → Prop) : lk1 g_M_tell 248 f = f [.iload 5, .iload_n 3, .if_icmp .ge 23, .aload_n 0, .getfield 94, .iload 5, .aload_n 0, .getfield 100, .iload 5, .iaload, .iastore, .iinc 5 1, .goto (-23)] := (rfl)
theorem j_M_tell_274 (f : List Instr → Prop) : lk1 g_M_tell 274 f = f [.aload_n 0, .iload_n 3, .putfield 250, .aload_n 0, .getfield 250, .ireturn] := (rfl)
abbrev b_M_put : ByteArray := prog_11_method_60_code
abbrev y_M_put : MethodName := ⟨RX9, "put", "(JI)I"⟩
def k_M_put_0 : List Instr := [.lload_n 1, .iload_n 3, .invokestatic 193, .ifCond .ne 6, .bipush (-2), .ireturn]
def k_M_put_11 : List Instr := [.aload_n 0, .getfield 259, .iload_n 3, .iadd, .sipush 600, .if_icmp .le 6, .bipush (-4), .ireturn]
def k_M_put_26 : List Instr := [.iload_n 3, .iconst 1, .isub, .istore 4]
def k_M_put_31 : List Instr := [.iload 4, .ifCond .lt 35, .aload_n 0, .getfield 97, .aload_n 0, .getfield 259, .lload_n 1, .iload 4, .lshr, .lconst 1, .land, .l2i, .iastore, .aload_n 0, .dup, .getfield 259, .iconst 1, .iadd, .putfield 259, .iinc 4 (-1), .goto (-34)]
def k_M_put_68 : List Instr := [.aload_n 0, .getfield 259, .ireturn]
def g_M_put : List (Nat × List Instr) := [(0, k_M_put_0), (11, k_M_put_11), (26, k_M_put_26), (31, k_M_put_31), (68, k_M_put_68)]
theorem o_M_put : ∀ q ∈ g_M_put, okB b_M_put q.1 q.2 = true := List.all_eq_true.mp (by decide +kernel : g_M_put.all (fun q => okB b_M_put q.1 q.2) = true)
theorem j_M_put_0 (f : List Instr → Prop) : lk1 g_M_put 0 f = f [.lload_n 1, .iload_n 3, .invokestatic 193, .ifCond .ne 6, .bipush (-2), .ireturn] := (rfl)
theorem j_M_put_11 (f : List Instr → Prop) : lk1 g_M_put 11 f = f [.aload_n 0, .getfield 259, .iload_n 3, .iadd, .sipush 600, .if_icmp .le 6, .bipush (-4), .ireturn] := (rfl)
theorem j_M_put_26 (f : List Instr → Prop) : lk1 g_M_put 26 f = f [.iload_n 3, .iconst 1, .isub, .istore 4] := (rfl)
theorem j_M_put_31 (f : List Instr → Prop) : lk1 g_M_put 31 f = f [.iload 4, .ifCond .lt 35, .aload_n 0, .getfield 97, .aload_n 0, .getfield 259, .lload_n 1, .iload 4, .lshr, .lconst 1, .land, .l2i, .iastore, .aload_n 0, .dup, .getfield 259, .iconst 1, .iadd, .putfield 259, .iinc 4 (-1), .goto (-34)] := (rfl)
theorem j_M_put_68 (f : List Instr → Prop) : lk1 g_M_put 68 f = f [.aload_n 0, .getfield 259, .ireturn] := (rfl)
abbrev b_M_cut : ByteArray := prog_11_method_61_code
abbrev y_M_cut : MethodName := ⟨RX9, "cut", "(I)I"⟩
def k_M_cut_0 : List Instr := [.iload_n 1, .i2l, .lconst 0, .aload_n 0, .getfield 259, .i2l, .invokestatic 108, .ifCond .ne 6, .bipush (-2), .ireturn]
def k_M_cut_17 : List Instr := [.aload_n 0, .getfield 259, .iload_n 1, .isub, .istore_n 2, .aload_n 0, .iload_n 1, .putfield 259, .iload_n 2, .ireturn]
def g_M_cut : List (Nat × List Instr) := [(0, k_M_cut_0), (17, k_M_cut_17)]
theorem o_M_cut : ∀ q ∈ g_M_cut, okB b_M_cut q.1 q.2 = true := List.all_eq_true.mp (by decide +kernel : g_M_cut.all (fun q => okB b_M_cut q.1 q.2) = true)
theorem j_M_cut_0 (f : List Instr → Prop) : lk1 g_M_cut 0 f = f [.iload_n 1, .i2l, .lconst 0, .aload_n 0, .getfield 259, .i2l, .invokestatic 108, .ifCond .ne 6, .bipush (-2), .ireturn] := (rfl)
theorem j_M_cut_17 (f : List Instr → Prop) : lk1 g_M_cut 17 f = f [.aload_n 0, .getfield 259, .iload_n 1, .isub, .istore_n 2, .aload_n 0, .iload_n 1, .putfield 259, .iload_n 2, .ireturn] := (rfl)
abbrev b_M_spoil : ByteArray := prog_11_method_62_code
abbrev y_M_spoil : MethodName := ⟨RX9, "spoil", "(I)I"⟩
def k_M_spoil_0 : List Instr := [.iload_n 1, .i2l, .lconst 0, .aload_n 0, .getfield 259, .iconst 1, .isub, .i2l, .invokestatic 108, .ifCond .ne 6, .bipush (-2), .ireturn]
def k_M_spoil_19 : List Instr := [.aload_n 0, .getfield 97, .iload_n 1, .iconst 1, .aload_n 0, .getfield 97, .iload_n 1, .iaload, .isub, .iastore, .iconst 1, .aload_n 0, .getfield 97, .iload_n 1, .iaload, .isub, .ireturn]
def g_M_spoil : List (Nat × List Instr) := [(0, k_M_spoil_0), (19, k_M_spoil_19)]
theorem o_M_spoil : ∀ q ∈ g_M_spoil, okB b_M_spoil q.1 q.2 = true := List.all_eq_true.mp (by decide +kernel : g_M_spoil.all (fun q => okB b_M_spoil q.1 q.2) = true)
theorem j_M_spoil_0 (f : List Instr → Prop) : lk1 g_M_spoil 0 f = f [.iload_n 1, .i2l, .lconst 0, .aload_n 0, .getfield 259, .iconst 1, .isub, .i2l, .invokestatic 108, .ifCond .ne 6, .bipush (-2), .ireturn] := (rfl)
theorem j_M_spoil_19 (f : List Instr → Prop) : lk1 g_M_spoil 19 f = f [.aload_n 0, .getfield 97, .iload_n 1, .iconst 1, .aload_n 0, .getfield 97, .iload_n 1, .iaload, .isub, .iastore, .iconst 1, .aload_n 0, .getfield 97, .iload_n 1, .iaload, .isub, .ireturn] := (rfl)
abbrev b_M_plate : ByteArray := prog_11_method_63_code
abbrev y_M_plate : MethodName := ⟨RX9, "plate", "(I)I"⟩
def k_M_plate_0 : List Instr := [.iload_n 1, .i2l, .lconst 0, .aload_n 0, .getfield 259, .iconst 1, .isub, .i2l, .invokestatic 108, .ifCond .eq 12, .aload_n 0, .getfield 97, .iload_n 1, .iaload, .goto 5]
def k_M_plate_25 : List Instr := [.bipush (-2)]
def k_M_plate_27 : List Instr := [.ireturn]
def g_M_plate : List (Nat × List Instr) := [(0, k_M_plate_0), (25, k_M_plate_25), (27, k_M_plate_27)]
theorem o_M_plate : ∀ q ∈ g_M_plate, okB b_M_plate q.1 q.2 = true := List.all_eq_true.mp (by decide +kernel : g_M_plate.all (fun q => okB b_M_plate q.1 q.2) = true)
theorem j_M_plate_0 (f : List Instr → Prop) : lk1 g_M_plate 0 f = f [.iload_n 1, .i2l, .lconst 0, .aload_n 0, .getfield 259, .iconst 1, .isub, .i2l, .invokestatic 108, .ifCond .eq 12, .aload_n 0, .getfield 97, .iload_n 1, .iaload, .goto 5] := (rfl)
theorem j_M_plate_25 (f : List Instr → Prop) : lk1 g_M_plate 25 f = f [.bipush (-2)] := (rfl)
theorem j_M_plate_27 (f : List Instr → Prop) : lk1 g_M_plate 27 f = f [.ireturn] := (rfl)
abbrev b_M_check : ByteArray := prog_11_method_64_code
abbrev y_M_check : MethodName := ⟨RX9, "check", "()I"⟩
def k_M_check_0 : List Instr := [.aload_n 0, .getfield 160, .ifCond .ne 6, .bipush (-3), .ireturn]
def k_M_check_10 : List Instr := [.iconst 0, .istore_n 1, .iconst 0, .istore_n 2]
def k_M_check_14 : List Instr := [.iload_n 2, .aload_n 0, .getfield 259, .if_icmp .ge 28, .aload_n 0, .iload_n 1, .aload_n 0, .getfield 97, .iload_n 2, .iaload, .invokevirtual 188, .istore_n 1, .iload_n 1, .iconst (-1), .if_icmp .ne 5, .iload_n 2, .ireturn]
def k_M_check_41 : List Instr := [.iinc 2 1, .goto (-30)]
def k_M_check_47 : List Instr := [.iconst (-1), .ireturn]
def g_M_check : List (Nat × List Instr) := [(0, k_M_check_0), (10, k_M_check_10), (14, k_M_check_14), (41, k_M_check_41), (47, k_M_check_47)]
theorem o_M_check : ∀ q ∈ g_M_check, okB b_M_check q.1 q.2 = true := List.all_eq_true.mp (by decide +kernel : g_M_check.all (fun q => okB b_M_check q.1 q.2) = true)
theorem j_M_check_0 (f : List Instr → Prop) : lk1 g_M_check 0 f = f [.aload_n 0, .getfield 160, .ifCond .ne 6, .bipush (-3), .ireturn] := (rfl)
theorem j_M_check_10 (f : List Instr → Prop) : lk1 g_M_check 10 f = f [.iconst 0, .istore_n 1, .iconst 0, .istore_n 2] := (rfl)
theorem j_M_check_14 (f : List Instr → Prop) : lk1 g_M_check 14 f = f [.iload_n 2, .aload_n 0, .getfield 259, .if_icmp .ge 28, .aload_n 0, .iload_n 1, .aload_n 0, .getfield 97, .iload_n 2, .iaload, .invokevirtual 188, .istore_n 1, .iload_n 1, .iconst (-1), .if_icmp .ne 5, .iload_n 2, .ireturn] := (rfl)
theorem j_M_check_41 (f : List Instr → Prop) : lk1 g_M_check 41 f = f [.iinc 2 1, .goto (-30)] := (rfl)
theorem j_M_check_47 (f : List Instr → Prop) : lk1 g_M_check 47 f = f [.iconst (-1), .ireturn] := (rfl)
abbrev b_M_shape : ByteArray := prog_11_method_65_code
abbrev y_M_shape : MethodName := ⟨RX9, "shape", "(I)I"⟩
def k_M_shape_0 : List Instr := [.iload_n 1, .i2l, .lconst 0, .ldc2_w 262, .invokestatic 108, .ifCond .ne 6, .bipush (-2), .ireturn]
def k_M_shape_15 : List Instr := [.iconst 0, .istore_n 2, .iconst 0, .istore_n 3, .iconst 0, .istore 4, .iconst 0, .istore 5, .iconst 0, .istore 6, .iconst 0, .istore 7, .iconst 0, .istore 8, .iconst 0, .istore 9]
def k_M_shape_37 : List Instr := [.iload 9, .aload_n 0, .getfield 259, .if_icmp .ge 148, .iload 7, .aload_n 0, .getfield 97, .iload 9, .iaload, .iconst 1, .if_icmp .ne 7, .iconst 1, .goto 4]
def k_M_shape_63 : List Instr := [.iconst (-1)]
def k_M_shape_64 : List Instr := [.iadd, .istore 7, .iload 7, .iload_n 2, .if_icmp .ge 8, .iload 7, .goto 4]
def k_M_shape_78 : List Instr := [.iload_n 2]
def k_M_shape_79 : List Instr := [.istore_n 2, .iload 7, .iload_n 3, .if_icmp .le 8, .iload 7, .goto 4]
def k_M_shape_91 : List Instr := [.iload_n 3]
def k_M_shape_92 : List Instr := [.istore_n 3, .iload 4, .iload 7, .iload 7, .imul, .iadd, .istore 4, .iload 9, .ifCond .le 26, .aload_n 0, .getfield 97, .iload 9, .iaload, .aload_n 0, .getfield 97, .iload 9, .iconst 1, .isub, .iaload, .if_icmp .ne 7, .iconst 1, .goto 4]
def k_M_shape_131 : List Instr := [.iconst 0]
def k_M_shape_132 : List Instr := [.istore 10, .iload 10, .ifCond .eq 10, .iload 8, .iconst 1, .iadd, .goto 4]
def k_M_shape_146 : List Instr := [.iconst 1]
def k_M_shape_147 : List Instr := [.istore 8, .iload 8, .iload 5, .if_icmp .le 8, .iload 8, .goto 5]
def k_M_shape_161 : List Instr := [.iload 5]
def k_M_shape_163 : List Instr := [.istore 5, .iload 6, .iload 9, .ifCond .le 12, .iload 10, .ifCond .ne 7, .iconst 1, .goto 4]
def k_M_shape_181 : List Instr := [.iconst 0]
def k_M_shape_182 : List Instr := [.iadd, .istore 6, .iinc 9 1, .goto (-151)]
def k_M_shape_191 : List Instr := [.iload_n 1, .ifCond .ne 7, .iload_n 2, .goto 34]
def k_M_shape_199 : List Instr := [.iload_n 1, .iconst 1, .if_icmp .ne 7, .iload_n 3, .goto 25]
def k_M_shape_208 : List Instr := [.iload_n 1, .iconst 2, .if_icmp .ne 8, .iload 4, .goto 15]
def k_M_shape_218 : List Instr := [.iload_n 1, .iconst 3, .if_icmp .ne 8, .iload 5, .goto 5]
def k_M_shape_228 : List Instr := [.iload 6]
def k_M_shape_230 : List Instr := [.ireturn]
def g_M_shape : List (Nat × List Instr) := [(0, k_M_shape_0), (15, k_M_shape_15), (37, k_M_shape_37), (63, k_M_shape_63), (64, k_M_shape_64), (78, k_M_shape_78), (79, k_M_shape_79), (91, k_M_shape_91), (92, k_M_shape_92), (131, k_M_shape_131), (132, k_M_shape_132), (146, k_M_shape_146), (147, k_M_shape_147), (161, k_M_shape_161), (163, k_M_shape_163), (181, k_M_shape_181), (182, k_M_shape_182), (191, k_M_shape_191), (199, k_M_shape_199), (208, k_M_shape_208), (218, k_M_shape_218), (228, k_M_shape_228), (230, k_M_shape_230)]
theorem o_M_shape : ∀ q ∈ g_M_shape, okB b_M_shape q.1 q.2 = true := List.all_eq_true.mp (by decide +kernel : g_M_shape.all (fun q => okB b_M_shape q.1 q.2) = true)
theorem j_M_shape_0 (f : List Instr → Prop) : lk1 g_M_shape 0 f = f [.iload_n 1, .i2l, .lconst 0, .ldc2_w 262, .invokestatic 108, .ifCond .ne 6, .bipush (-2), .ireturn] := (rfl)
theorem j_M_shape_15 (f : List Instr → Prop) : lk1 g_M_shape 15 f = f [.iconst 0, .istore_n 2, .iconst 0, .istore_n 3, .iconst 0, .istore 4, .iconst 0, .istore 5, .iconst 0, .istore 6, .iconst 0, .istore 7, .iconst 0, .istore 8, .iconst 0, .istore 9] := (rfl)
theorem j_M_shape_37 (f : List Instr → Prop) : lk1 g_M_shape 37 f = f [.iload 9, .aload_n 0, .getfield 259, .if_icmp .ge 148, .iload 7, .aload_n 0, .getfield 97, .iload 9, .iaload, .iconst 1, .if_icmp .ne 7, .iconst 1, .goto 4] := (rfl)
theorem j_M_shape_63 (f : List Instr → Prop) : lk1 g_M_shape 63 f = f [.iconst (-1)] := (rfl)
theorem j_M_shape_64 (f : List Instr → Prop) : lk1 g_M_shape 64 f = f [.iadd, .istore 7, .iload 7, .iload_n 2, .if_icmp .ge 8, .iload 7, .goto 4] := (rfl)
theorem j_M_shape_78 (f : List Instr → Prop) : lk1 g_M_shape 78 f = f [.iload_n 2] := (rfl)
theorem j_M_shape_79 (f : List Instr → Prop) : lk1 g_M_shape 79 f = f [.istore_n 2, .iload 7, .iload_n 3, .if_icmp .le 8, .iload 7, .goto 4] := (rfl)
theorem j_M_shape_91 (f : List Instr → Prop) : lk1 g_M_shape 91 f = f [.iload_n 3] := (rfl)
theorem j_M_shape_92 (f : List Instr → Prop) : lk1 g_M_shape 92 f = f [.istore_n 3, .iload 4, .iload 7, .iload 7, .imul, .iadd, .istore 4, .iload 9, .ifCond .le 26, .aload_n 0, .getfield 97, .iload 9, .iaload, .aload_n 0, .getfield 97, .iload 9, .iconst 1, .isub, .iaload, .if_icmp .ne 7, .iconst 1, .goto 4] := (rfl)
theorem j_M_shape_131 (f : List Instr → Prop) : lk1 g_M_shape 131 f = f [.iconst 0] := (rfl)
theorem j_M_shape_132 (f : List Instr → Prop) : lk1 g_M_shape 132 f = f [.istore 10, .iload 10, .ifCond .eq 10, .iload 8, .iconst 1, .iadd, .goto 4] := (rfl)
theorem j_M_shape_146 (f : List Instr → Prop) : lk1 g_M_shape 146 f = f [.iconst 1] := (rfl)
theorem j_M_shape_147 (f : List Instr → Prop) : lk1 g_M_shape 147 f = f [.istore 8, .iload 8, .iload 5, .if_icmp .le 8, .iload 8, .goto 5] := (rfl)
theorem j_M_shape_161 (f : List Instr → Prop) : lk1 g_M_shape 161 f = f [.iload 5] := (rfl)
theorem j_M_shape_163 (f : List Instr → Prop) : lk1 g_M_shape 163 f = f [.istore 5, .iload 6, .iload 9, .ifCond .le 12, .iload 10, .ifCond .ne 7, .iconst 1, .goto 4] := (rfl)
theorem j_M_shape_181 (f : List Instr → Prop) : lk1 g_M_shape 181 f = f [.iconst 0] := (rfl)
theorem j_M_shape_182 (f : List Instr → Prop) : lk1 g_M_shape 182 f = f [.iadd, .istore 6, .iinc 9 1, .goto (-151)] := (rfl)
theorem j_M_shape_191 (f : List Instr → Prop) : lk1 g_M_shape 191 f = f [.iload_n 1, .ifCond .ne 7, .iload_n 2, .goto 34] := (rfl)
theorem j_M_shape_199 (f : List Instr → Prop) : lk1 g_M_shape 199 f = f [.iload_n 1, .iconst 1, .if_icmp .ne 7, .iload_n 3, .goto 25] := (rfl)
theorem j_M_shape_208 (f : List Instr → Prop) : lk1 g_M_shape 208 f = f [.iload_n 1, .iconst 2, .if_icmp .ne 8, .iload 4, .goto 15] := (rfl)
theorem j_M_shape_218 (f : List Instr → Prop) : lk1 g_M_shape 218 f = f [.iload_n 1, .iconst 3, .if_icmp .ne 8, .iload 5, .goto 5] := (rfl)
theorem j_M_shape_228 (f : List Instr → Prop) : lk1 g_M_shape 228 f = f [.iload 6] := (rfl)
theorem j_M_shape_230 (f : List Instr → Prop) : lk1 g_M_shape 230 f = f [.ireturn] := (rfl)
abbrev b_M_count1 : ByteArray := prog_11_method_66_code
abbrev y_M_count1 : MethodName := ⟨RX9, "count", "(I)I"⟩
def k_M_count1_0 : List Instr := [.iload_n 1, .tableswitch 120 0 7 #[47, 52, 57, 62, 67, 83, 99, 115]]
def k_M_count1_48 : List Instr := [.aload_n 0, .getfield 250, .ireturn]
def k_M_count1_53 : List Instr := [.aload_n 0, .getfield 259, .ireturn]
def k_M_count1_58 : List Instr := [.aload_n 0, .getfield 160, .ireturn]
def k_M_count1_63 : List Instr := [.aload_n 0, .getfield 179, .ireturn]
def k_M_count1_68 : List Instr := [.aload_n 0, .getfield 179, .ifCond .ne 7, .iconst 0, .goto 7]
def k_M_count1_79 : List Instr := [.aload_n 0, .getfield 235]
def k_M_count1_83 : List Instr := [.ireturn]
def k_M_count1_84 : List Instr := [.aload_n 0, .getfield 179, .ifCond .ne 7, .iconst 0, .goto 7]
def k_M_count1_95 : List Instr := [.aload_n 0, .getfield 230]
def k_M_count1_99 : List Instr := [.ireturn]
def k_M_count1_100 : List Instr := [.aload_n 0, .getfield 179, .ifCond .ne 7, .iconst (-1), .goto 7]
def k_M_count1_111 : List Instr := [.aload_n 0, .invokevirtual 253]
def k_M_count1_115 : List Instr := [.ireturn]
def k_M_count1_116 : List Instr := [.aload_n 0, .getfield 163, .ireturn]
def k_M_count1_121 : List Instr := [.bipush (-2), .ireturn]
def g_M_count1 : List (Nat × List Instr) := [(0, k_M_count1_0), (48, k_M_count1_48), (53, k_M_count1_53), (58, k_M_count1_58), (63, k_M_count1_63), (68, k_M_count1_68), (79, k_M_count1_79), (83, k_M_count1_83), (84, k_M_count1_84), (95, k_M_count1_95), (99, k_M_count1_99), (100, k_M_count1_100), (111, k_M_count1_111), (115, k_M_count1_115), (116, k_M_count1_116), (121, k_M_count1_121)]
theorem o_M_count1 : ∀ q ∈ g_M_count1, okB b_M_count1 q.1 q.2 = true := List.all_eq_true.mp (by decide +kernel : g_M_count1.all (fun q => okB b_M_count1 q.1 q.2) = true)
theorem j_M_count1_0 (f : List Instr → Prop) : lk1 g_M_count1 0 f = f [.iload_n 1, .tableswitch 120 0 7 #[47, 52, 57, 62, 67, 83, 99, 115]] := (rfl)
theorem j_M_count1_48 (f : List Instr → Prop) : lk1 g_M_count1 48 f = f [.aload_n 0, .getfield 250, .ireturn] := (rfl)
theorem j_M_count1_53 (f : List Instr → Prop) : lk1 g_M_count1 53 f = f [.aload_n 0, .getfield 259, .ireturn] := (rfl)
theorem j_M_count1_58 (f : List Instr → Prop) : lk1 g_M_count1 58 f = f [.aload_n 0, .getfield 160, .ireturn] := (rfl)
theorem j_M_count1_63 (f : List Instr → Prop) : lk1 g_M_count1 63 f = f [.aload_n 0, .getfield 179, .ireturn] := (rfl)
theorem j_M_count1_68 (f : List Instr → Prop) : lk1 g_M_count1 68 f = f [.aload_n 0, .getfield 179, .ifCond .ne 7, .iconst 0, .goto 7] := (rfl)
theorem j_M_count1_79 (f : List Instr → Prop) : lk1 g_M_count1 79 f = f [.aload_n 0, .getfield 235] := (rfl)
theorem j_M_count1_83 (f : List Instr → Prop) : lk1 g_M_count1 83 f = f [.ireturn] := (rfl)
theorem j_M_count1_84 (f : List Instr → Prop) : lk1 g_M_count1 84 f = f [.aload_n 0, .getfield 179, .ifCond .ne 7, .iconst 0, .goto 7] := (rfl)
theorem j_M_count1_95 (f : List Instr → Prop) : lk1 g_M_count1 95 f = f [.aload_n 0, .getfield 230] := (rfl)
theorem j_M_count1_99 (f : List Instr → Prop) : lk1 g_M_count1 99 f = f [.ireturn] := (rfl)
theorem j_M_count1_100 (f : List Instr → Prop) : lk1 g_M_count1 100 f = f [.aload_n 0, .getfield 179, .ifCond .ne 7, .iconst (-1), .goto 7] := (rfl)
theorem j_M_count1_111 (f : List Instr → Prop) : lk1 g_M_count1 111 f = f [.aload_n 0, .invokevirtual 253] := (rfl)
theorem j_M_count1_115 (f : List Instr → Prop) : lk1 g_M_count1 115 f = f [.ireturn] := (rfl)
theorem j_M_count1_116 (f : List Instr → Prop) : lk1 g_M_count1 116 f = f [.aload_n 0, .getfield 163, .ireturn] := (rfl)
theorem j_M_count1_121 (f : List Instr → Prop) : lk1 g_M_count1 121 f = f [.bipush (-2), .ireturn] := (rfl)
abbrev b_M_digest : ByteArray := prog_11_method_67_code
abbrev y_M_digest : MethodName := ⟨RX9, "digest", "()J"⟩
def k_M_digest_0 : List Instr := [.ldc2_w 264, .lstore_n 1, .iconst 0, .istore_n 3]
def k_M_digest_6 : List Instr := [.iload_n 3, .bipush 8, .if_icmp .ge 22, .ldc2_w 266, .lload_n 1, .lmul, .aload_n 0, .iload_n 3, .invokevirtual 268, .i2l, .ladd, .lstore_n 1, .iinc 3 1, .goto (-22)]
def k_M_digest_31 : List Instr := [.iconst 0, .istore_n 3]
def k_M_digest_33 : List Instr := [.iload_n 3, .aload_n 0, .getfield 160, .if_icmp .ge 51, .ldc2_w 266, .lload_n 1, .lmul, .aload_n 0, .getfield 54, .iload_n 3, .iaload, .i2l, .ladd, .lstore_n 1, .ldc2_w 266, .lload_n 1, .lmul, .aload_n 0, .getfield 57, .iload_n 3, .iaload, .i2l, .ladd, .lstore_n 1, .ldc2_w 266, .lload_n 1, .lmul, .aload_n 0, .getfield 75, .iload_n 3, .iaload, .i2l, .ladd, .lstore_n 1, .iinc 3 1, .goto (-53)]
def k_M_digest_89 : List Instr := [.iconst 0, .istore_n 3]
def k_M_digest_91 : List Instr := [.iload_n 3, .aload_n 0, .getfield 250, .if_icmp .ge 23, .ldc2_w 266, .lload_n 1, .lmul, .aload_n 0, .getfield 94, .iload_n 3, .iaload, .i2l, .ladd, .lstore_n 1, .iinc 3 1, .goto (-25)]
def k_M_digest_119 : List Instr := [.iconst 0, .istore_n 3]
def k_M_digest_121 : List Instr := [.iload_n 3, .aload_n 0, .getfield 259, .if_icmp .ge 23, .ldc2_w 266, .lload_n 1, .lmul, .aload_n 0, .getfield 97, .iload_n 3, .iaload, .i2l, .ladd, .lstore_n 1, .iinc 3 1, .goto (-25)]
def k_M_digest_149 : List Instr := [.lload_n 1, .lreturn]
def g_M_digest : List (Nat × List Instr) := [(0, k_M_digest_0), (6, k_M_digest_6), (31, k_M_digest_31), (33, k_M_digest_33), (89, k_M_digest_89), (91, k_M_digest_91), (119, k_M_digest_119), (121, k_M_digest_121), (149, k_M_digest_149)]
theorem o_M_digest : ∀ q ∈ g_M_digest, okB b_M_digest q.1 q.2 = true := List.all_eq_true.mp (by decide +kernel : g_M_digest.all (fun q => okB b_M_digest q.1 q.2) = true)
theorem j_M_digest_0 (f : List Instr → Prop) : lk1 g_M_digest 0 f = f [.ldc2_w 264, .lstore_n 1, .iconst 0, .istore_n 3] := (rfl)
theorem j_M_digest_6 (f : List Instr → Prop) : lk1 g_M_digest 6 f = f [.iload_n 3, .bipush 8, .if_icmp .ge 22, .ldc2_w 266, .lload_n 1, .lmul, .aload_n 0, .iload_n 3, .invokevirtual 268, .i2l, .ladd, .lstore_n 1, .iinc 3 1, .goto (-22)] := (rfl)
theorem j_M_digest_31 (f : List Instr → Prop) : lk1 g_M_digest 31 f = f [.iconst 0, .istore_n 3] := (rfl)
theorem j_M_digest_33 (f : List Instr → Prop) : lk1 g_M_digest 33 f = f [.iload_n 3, .aload_n 0, .getfield 160, .if_icmp .ge 51, .ldc2_w 266, .lload_n 1, .lmul, .aload_n 0, .getfield 54, .iload_n 3, .iaload, .i2l, .ladd, .lstore_n 1, .ldc2_w 266, .lload_n 1, .lmul, .aload_n 0, .getfield 57, .iload_n 3, .iaload, .i2l, .ladd, .lstore_n 1, .ldc2_w 266, .lload_n 1, .lmul, .aload_n 0, .getfield 75, .iload_n 3, .iaload, .i2l, .ladd, .lstore_n 1, .iinc 3 1, .goto (-53)] := (rfl)
theorem j_M_digest_89 (f : List Instr → Prop) : lk1 g_M_digest 89 f = f [.iconst 0, .istore_n 3] := (rfl)
theorem j_M_digest_91 (f : List Instr → Prop) : lk1 g_M_digest 91 f = f [.iload_n 3, .aload_n 0, .getfield 250, .if_icmp .ge 23, .ldc2_w 266, .lload_n 1, .lmul, .aload_n 0, .getfield 94, .iload_n 3, .iaload, .i2l, .ladd, .lstore_n 1, .iinc 3 1, .goto (-25)] := (rfl)
theorem j_M_digest_119 (f : List Instr → Prop) : lk1 g_M_digest 119 f = f [.iconst 0, .istore_n 3] := (rfl)
theorem j_M_digest_121 (f : List Instr → Prop) : lk1 g_M_digest 121 f = f [.iload_n 3, .aload_n 0, .getfield 259, .if_icmp .ge 23, .ldc2_w 266, .lload_n 1, .lmul, .aload_n 0, .getfield 97, .iload_n 3, .iaload, .i2l, .ladd, .lstore_n 1, .iinc 3 1, .goto (-25)] := (rfl)
theorem j_M_digest_149 (f : List Instr → Prop) : lk1 g_M_digest 149 f = f [.lload_n 1, .lreturn] := (rfl)
abbrev b_S_forget : ByteArray := prog_7_method_2_code
abbrev y_S_forget : MethodName := ⟨RX5, "forget", "()V"⟩
def k_S_forget_0 : List Instr := [.aload_n 0, .iconst 0, .putfield 18, .aload_n 0, .iconst (-1), .putfield 22, .aload_n 0, .iconst 0, .putfield 25, .aload_n 0, .iconst 0, .putfield 28, .return_]
def g_S_forget : List (Nat × List Instr) := [(0, k_S_forget_0)]
theorem o_S_forget : ∀ q ∈ g_S_forget, okB b_S_forget q.1 q.2 = true := List.all_eq_true.mp (by decide +kernel : g_S_forget.all (fun q => okB b_S_forget q.1 q.2) = true)
theorem j_S_forget_0 (f : List Instr → Prop) : lk1 g_S_forget 0 f = f [.aload_n 0, .iconst 0, .putfield 18, .aload_n 0, .iconst (-1), .putfield 22, .aload_n 0, .iconst 0, .putfield 25, .aload_n 0, .iconst 0, .putfield 28, .return_] := (rfl)
abbrev b_S_find : ByteArray := prog_7_method_4_code
abbrev y_S_find : MethodName := ⟨RX5, "find", "(LEvenWire$Wire;I)I"⟩
def k_S_find_0 : List Instr := [.aload_n 0, .getfield 18, .ifCond .ne 8, .aload_n 0, .aload_n 1, .invokevirtual 31]
def k_S_find_12 : List Instr := [.aload_n 0, .getfield 18, .iconst 1, .iadd, .istore_n 3]
def k_S_find_19 : List Instr := [.iload_n 3, .iload_n 2, .if_icmp .gt 34, .iload_n 3, .bipush 12, .if_icmp .gt 28, .aload_n 0, .getfield 22, .iconst (-1), .if_icmp .ne 20, .aload_n 0, .aload_n 1, .iload_n 3, .invokevirtual 35, .aload_n 0, .iload_n 3, .putfield 18, .iinc 3 1, .goto (-33)]
def k_S_find_55 : List Instr := [.aload_n 0, .getfield 22, .iconst (-1), .if_icmp .eq 11, .aload_n 0, .getfield 22, .iload_n 2, .if_icmp .le 5]
def k_S_find_71 : List Instr := [.iconst (-1), .ireturn]
def k_S_find_73 : List Instr := [.aload_n 0, .aload_n 0, .getfield 25, .putfield 28, .aload_n 0, .getfield 22, .ireturn]
def g_S_find : List (Nat × List Instr) := [(0, k_S_find_0), (12, k_S_find_12), (19, k_S_find_19), (55, k_S_find_55), (71, k_S_find_71), (73, k_S_find_73)]
theorem o_S_find : ∀ q ∈ g_S_find, okB b_S_find q.1 q.2 = true := List.all_eq_true.mp (by decide +kernel : g_S_find.all (fun q => okB b_S_find q.1 q.2) = true)
theorem j_S_find_0 (f : List Instr → Prop) : lk1 g_S_find 0 f = f [.aload_n 0, .getfield 18, .ifCond .ne 8, .aload_n 0, .aload_n 1, .invokevirtual 31] := (rfl)
theorem j_S_find_12 (f : List Instr → Prop) : lk1 g_S_find 12 f = f [.aload_n 0, .getfield 18, .iconst 1, .iadd, .istore_n 3] := (rfl)
theorem j_S_find_19 (f : List Instr → Prop) : lk1 g_S_find 19 f = f [.iload_n 3, .iload_n 2, .if_icmp .gt 34, .iload_n 3, .bipush 12, .if_icmp .gt 28, .aload_n 0, .getfield 22, .iconst (-1), .if_icmp .ne 20, .aload_n 0, .aload_n 1, .iload_n 3, .invokevirtual 35, .aload_n 0, .iload_n 3, .putfield 18, .iinc 3 1, .goto (-33)] := (rfl)
theorem j_S_find_55 (f : List Instr → Prop) : lk1 g_S_find 55 f = f [.aload_n 0, .getfield 22, .iconst (-1), .if_icmp .eq 11, .aload_n 0, .getfield 22, .iload_n 2, .if_icmp .le 5] := (rfl)
theorem j_S_find_71 (f : List Instr → Prop) : lk1 g_S_find 71 f = f [.iconst (-1), .ireturn] := (rfl)
theorem j_S_find_73 (f : List Instr → Prop) : lk1 g_S_find 73 f = f [.aload_n 0, .aload_n 0, .getfield 25, .putfield 28, .aload_n 0, .getfield 22, .ireturn] := (rfl)
abbrev b_S_startAnywhere : ByteArray := prog_7_method_5_code
abbrev y_S_startAnywhere : MethodName := ⟨RX5, "startAnywhere", "(LEvenWire$Wire;)V"⟩
def k_S_startAnywhere_0 : List Instr := [.aload_n 0, .getfield 11, .iconst 1, .lconst 0, .lastore, .aload_n 0, .getfield 15, .iconst 1, .lconst 0, .lastore, .iconst 0, .istore_n 2]
def k_S_startAnywhere_16 : List Instr := [.iload_n 2, .aload_n 1, .invokevirtual 39, .if_icmp .ge 15, .aload_n 0, .iconst 1, .iload_n 2, .invokevirtual 45, .iinc 2 1, .goto (-17)]
def k_S_startAnywhere_36 : List Instr := [.return_]
def g_S_startAnywhere : List (Nat × List Instr) := [(0, k_S_startAnywhere_0), (16, k_S_startAnywhere_16), (36, k_S_startAnywhere_36)]
theorem o_S_startAnywhere : ∀ q ∈ g_S_startAnywhere, okB b_S_startAnywhere q.1 q.2 = true := List.all_eq_true.mp (by decide +kernel : g_S_startAnywhere.all (fun q => okB b_S_startAnywhere q.1 q.2) = true)
theorem j_S_startAnywhere_0 (f : List Instr → Prop) : lk1 g_S_startAnywhere 0 f = f [.aload_n 0, .getfield 11, .iconst 1, .lconst 0, .lastore, .aload_n 0, .getfield 15, .iconst 1, .lconst 0, .lastore, .iconst 0, .istore_n 2] := (rfl)
theorem j_S_startAnywhere_16 (f : List Instr → Prop) : lk1 g_S_startAnywhere 16 f = f [.iload_n 2, .aload_n 1, .invokevirtual 39, .if_icmp .ge 15, .aload_n 0, .iconst 1, .iload_n 2, .invokevirtual 45, .iinc 2 1, .goto (-17)] := (rfl)
theorem j_S_startAnywhere_36 (f : List Instr → Prop) : lk1 g_S_startAnywhere 36 f = f [.return_] := (rfl)
abbrev b_S_addEnd : ByteArray := prog_7_method_8_code
abbrev y_S_addEnd : MethodName := ⟨RX5, "addEnd", "(II)V"⟩
def k_S_addEnd_0 : List Instr := [.iload_n 2, .iconst (-1), .if_icmp .ne 4, .return_]
def k_S_addEnd_6 : List Instr := [.iload_n 2, .bipush 64, .if_icmp .ge 18, .aload_n 0, .getfield 11, .iload_n 1, .dup2, .laload, .lconst 1, .iload_n 2, .lshl, .lor, .lastore, .goto 18]
def k_S_addEnd_27 : List Instr := [.aload_n 0, .getfield 15, .iload_n 1, .dup2, .laload, .lconst 1, .iload_n 2, .bipush 64, .isub, .lshl, .lor, .lastore]
def k_S_addEnd_42 : List Instr := [.return_]
def g_S_addEnd : List (Nat × List Instr) := [(0, k_S_addEnd_0), (6, k_S_addEnd_6), (27, k_S_addEnd_27), (42, k_S_addEnd_42)]
theorem o_S_addEnd : ∀ q ∈ g_S_addEnd, okB b_S_addEnd q.1 q.2 = true := List.all_eq_true.mp (by decide +kernel : g_S_addEnd.all (fun q => okB b_S_addEnd q.1 q.2) = true)
theorem j_S_addEnd_0 (f : List Instr → Prop) : lk1 g_S_addEnd 0 f = f [.iload_n 2, .iconst (-1), .if_icmp .ne 4, .return_] := (rfl)
theorem j_S_addEnd_6 (f : List Instr → Prop) : lk1 g_S_addEnd 6 f = f [.iload_n 2, .bipush 64, .if_icmp .ge 18, .aload_n 0, .getfield 11, .iload_n 1, .dup2, .laload, .lconst 1, .iload_n 2, .lshl, .lor, .lastore, .goto 18] := (rfl)
theorem j_S_addEnd_27 (f : List Instr → Prop) : lk1 g_S_addEnd 27 f = f [.aload_n 0, .getfield 15, .iload_n 1, .dup2, .laload, .lconst 1, .iload_n 2, .bipush 64, .isub, .lshl, .lor, .lastore] := (rfl)
theorem j_S_addEnd_42 (f : List Instr → Prop) : lk1 g_S_addEnd 42 f = f [.return_] := (rfl)
abbrev b_S_searchLength : ByteArray := prog_7_method_6_code
abbrev y_S_searchLength : MethodName := ⟨RX5, "searchLength", "(LEvenWire$Wire;I)V"⟩
def k_S_searchLength_0 : List Instr := [.iconst 1, .iload_n 2, .ishl, .istore_n 3, .iconst 0, .istore 4]
def k_S_searchLength_7 : List Instr := [.iload 4, .iload_n 3, .if_icmp .ge 102, .iload_n 3, .iload 4, .iadd, .istore 5, .aload_n 0, .getfield 11, .iload 5, .lconst 0, .lastore, .aload_n 0, .getfield 15, .iload 5, .lconst 0, .lastore, .aload_n 0, .aload_n 1, .iload 5, .aload_n 0, .getfield 11, .iload 5, .iconst 1, .ishr, .laload, .iconst 0, .invokevirtual 49, .aload_n 0, .aload_n 1, .iload 5, .aload_n 0, .getfield 15, .iload 5, .iconst 1, .ishr, .laload, .bipush 64, .invokevirtual 49, .aload_n 0, .getfield 11, .iload 5, .laload, .lconst 0, .lcmp, .ifCond .ne 27, .aload_n 0, .getfield 15, .iload 5, .laload, .lconst 0, .lcmp, .ifCond .ne 15, .aload_n 0, .iload_n 2, .putfield 22, .aload_n 0, .iload 4, .putfield 25, .return_]
def k_S_searchLength_106 : List Instr := [.iinc 4 1, .goto (-102)]
def k_S_searchLength_112 : List Instr := [.return_]
def g_S_searchLength : List (Nat × List Instr) := [(0, k_S_searchLength_0), (7, k_S_searchLength_7), (106, k_S_searchLength_106), (112, k_S_searchLength_112)]
theorem o_S_searchLength : ∀ q ∈ g_S_searchLength, okB b_S_searchLength q.1 q.2 = true := List.all_eq_true.mp (by decide +kernel : g_S_searchLength.all (fun q => okB b_S_searchLength q.1 q.2) = true)
theorem j_S_searchLength_0 (f : List Instr → Prop) : lk1 g_S_searchLength 0 f = f [.iconst 1, .iload_n 2, .ishl, .istore_n 3, .iconst 0, .istore 4] := (rfl)
theorem j_S_searchLength_7 (f : List Instr → Prop) : lk1 g_S_searchLength 7 f = f [.iload 4, .iload_n 3, .if_icmp .ge 102, .iload_n 3, .iload 4, .iadd, .istore 5, .aload_n 0, .getfield 11, .iload 5, .lconst 0, .lastore, .aload_n 0, .getfield 15, .iload 5, .lconst 0, .lastore, .aload_n 0, .aload_n 1, .iload 5, .aload_n 0, .getfield 11, .iload 5, .iconst 1, .ishr, .laload, .iconst 0, .invokevirtual 49, .aload_n 0, .aload_n 1, .iload 5, .aload_n 0, .getfield 15, .iload 5, .iconst 1, .ishr, .laload, .bipush 64, .invokevirtual 49, .aload_n 0, .getfield 11, .iload 5, .laload, .lconst 0, .lcmp, .ifCond .ne 27, .aload_n 0, .getfield 15, .iload 5, .laload, .lconst 0, .lcmp, .ifCond .ne 15, .aload_n 0, .iload_n 2, .putfield 22, .aload_n 0, .iload 4, .putfield 25, .return_] := (rfl)
theorem j_S_searchLength_106 (f : List Instr → Prop) : lk1 g_S_searchLength 106 f = f [.iinc 4 1, .goto (-102)] := (rfl)
theorem j_S_searchLength_112 (f : List Instr → Prop) : lk1 g_S_searchLength 112 f = f [.return_] := (rfl)
abbrev b_S_goOn : ByteArray := prog_7_method_7_code
abbrev y_S_goOn : MethodName := ⟨RX5, "goOn", "(LEvenWire$Wire;IJI)V"⟩
def k_S_goOn_0 : List Instr := [.lload_n 3, .lstore 6, .iconst 0, .istore 8]
def k_S_goOn_6 : List Instr := [.iload 8, .bipush 64, .if_icmp .ge 45, .lload 6, .lconst 0, .lcmp, .ifCond .eq 38, .aload_n 0, .iload_n 2, .aload_n 1, .iload 5, .lload 6, .invokestatic 53, .iadd, .iload_n 2, .iconst 1, .iand, .invokevirtual 59, .invokevirtual 45, .lload 6, .lload 6, .lconst 1, .lsub, .land, .lstore 6, .iinc 8 1, .goto (-46)]
def k_S_goOn_55 : List Instr := [.return_]
def g_S_goOn : List (Nat × List Instr) := [(0, k_S_goOn_0), (6, k_S_goOn_6), (55, k_S_goOn_55)]
theorem o_S_goOn : ∀ q ∈ g_S_goOn, okB b_S_goOn q.1 q.2 = true := List.all_eq_true.mp (by decide +kernel : g_S_goOn.all (fun q => okB b_S_goOn q.1 q.2) = true)
theorem j_S_goOn_0 (f : List Instr → Prop) : lk1 g_S_goOn 0 f = f [.lload_n 3, .lstore 6, .iconst 0, .istore 8] := (rfl)
theorem j_S_goOn_6 (f : List Instr → Prop) : lk1 g_S_goOn 6 f = f [.iload 8, .bipush 64, .if_icmp .ge 45, .lload 6, .lconst 0, .lcmp, .ifCond .eq 38, .aload_n 0, .iload_n 2, .aload_n 1, .iload 5, .lload 6, .invokestatic 53, .iadd, .iload_n 2, .iconst 1, .iand, .invokevirtual 59, .invokevirtual 45, .lload 6, .lload 6, .lconst 1, .lsub, .land, .lstore 6, .iinc 8 1, .goto (-46)] := (rfl)
theorem j_S_goOn_55 (f : List Instr → Prop) : lk1 g_S_goOn 55 f = f [.return_] := (rfl)
abbrev b_S_lastFound : ByteArray := prog_7_method_3_code
abbrev y_S_lastFound : MethodName := ⟨RX5, "lastFound", "()I"⟩
def k_S_lastFound_0 : List Instr := [.aload_n 0, .getfield 28, .ireturn]
def g_S_lastFound : List (Nat × List Instr) := [(0, k_S_lastFound_0)]
theorem o_S_lastFound : ∀ q ∈ g_S_lastFound, okB b_S_lastFound q.1 q.2 = true := List.all_eq_true.mp (by decide +kernel : g_S_lastFound.all (fun q => okB b_S_lastFound q.1 q.2) = true)
theorem j_S_lastFound_0 (f : List Instr → Prop) : lk1 g_S_lastFound 0 f = f [.aload_n 0, .getfield 28, .ireturn] := (rfl)
abbrev b_T_keep : ByteArray := prog_3_method_5_code
abbrev y_T_keep : MethodName := ⟨RX1, "keep", "(I)I"⟩
def k_T_keep_0 : List Instr := [.aload_n 0, .getfield 15, .istore_n 2, .aload_n 0, .iconst 0, .aload_n 0, .getfield 15, .iload_n 1, .invokestatic 19, .invokestatic 25, .putfield 15, .iload_n 2, .aload_n 0, .getfield 15, .isub, .ireturn]
def g_T_keep : List (Nat × List Instr) := [(0, k_T_keep_0)]
theorem o_T_keep : ∀ q ∈ g_T_keep, okB b_T_keep q.1 q.2 = true := List.all_eq_true.mp (by decide +kernel : g_T_keep.all (fun q => okB b_T_keep q.1 q.2) = true)
theorem j_T_keep_0 (f : List Instr → Prop) : lk1 g_T_keep 0 f = f [.aload_n 0, .getfield 15, .istore_n 2, .aload_n 0, .iconst 0, .aload_n 0, .getfield 15, .iload_n 1, .invokestatic 19, .invokestatic 25, .putfield 15, .iload_n 2, .aload_n 0, .getfield 15, .isub, .ireturn] := (rfl)
abbrev b_T_setPath : ByteArray := prog_3_method_8_code
abbrev y_T_setPath : MethodName := ⟨RX1, "setPath", "(LEvenWire$Wire;I)V"⟩
def k_T_setPath_0 : List Instr := [.iload_n 2, .istore_n 3, .aload_n 0, .aload_n 1, .iload_n 2, .invokevirtual 38, .sipush 600, .invokestatic 19, .putfield 15, .aload_n 0, .getfield 15, .iconst 1, .isub, .istore 4]
def k_T_setPath_25 : List Instr := [.iload 4, .ifCond .lt 27, .aload_n 0, .getfield 9, .iload 4, .aload_n 1, .iload_n 3, .invokevirtual 43, .iastore, .aload_n 1, .iload_n 3, .invokevirtual 46, .istore_n 3, .iinc 4 (-1), .goto (-26)]
def k_T_setPath_54 : List Instr := [.return_]
def g_T_setPath : List (Nat × List Instr) := [(0, k_T_setPath_0), (25, k_T_setPath_25), (54, k_T_setPath_54)]
theorem o_T_setPath : ∀ q ∈ g_T_setPath, okB b_T_setPath q.1 q.2 = true := List.all_eq_true.mp (by decide +kernel : g_T_setPath.all (fun q => okB b_T_setPath q.1 q.2) = true)
theorem j_T_setPath_0 (f : List Instr → Prop) : lk1 g_T_setPath 0 f = f [.iload_n 2, .istore_n 3, .aload_n 0, .aload_n 1, .iload_n 2, .invokevirtual 38, .sipush 600, .invokestatic 19, .putfield 15, .aload_n 0, .getfield 15, .iconst 1, .isub, .istore 4] := (rfl)
theorem j_T_setPath_25 (f : List Instr → Prop) : lk1 g_T_setPath 25 f = f [.iload 4, .ifCond .lt 27, .aload_n 0, .getfield 9, .iload 4, .aload_n 1, .iload_n 3, .invokevirtual 43, .iastore, .aload_n 1, .iload_n 3, .invokevirtual 46, .istore_n 3, .iinc 4 (-1), .goto (-26)] := (rfl)
theorem j_T_setPath_54 (f : List Instr → Prop) : lk1 g_T_setPath 54 f = f [.return_] := (rfl)
abbrev b_T_size : ByteArray := prog_3_method_2_code
abbrev y_T_size : MethodName := ⟨RX1, "size", "()I"⟩
def k_T_size_0 : List Instr := [.aload_n 0, .getfield 15, .ireturn]
def g_T_size : List (Nat × List Instr) := [(0, k_T_size_0)]
theorem o_T_size : ∀ q ∈ g_T_size, okB b_T_size q.1 q.2 = true := List.all_eq_true.mp (by decide +kernel : g_T_size.all (fun q => okB b_T_size q.1 q.2) = true)
theorem j_T_size_0 (f : List Instr → Prop) : lk1 g_T_size 0 f = f [.aload_n 0, .getfield 15, .ireturn] := (rfl)
abbrev b_T_add : ByteArray := prog_3_method_4_code
abbrev y_T_add : MethodName := ⟨RX1, "add", "(JI)V"⟩
def k_T_add_0 : List Instr := [.iload_n 3, .iconst 1, .isub, .istore 4]
def k_T_add_5 : List Instr := [.iload 4, .ifCond .lt 45, .aload_n 0, .getfield 15, .sipush 600, .if_icmp .ge 35, .aload_n 0, .getfield 9, .aload_n 0, .getfield 15, .lload_n 1, .iload 4, .lshr, .l2i, .iconst 1, .iand, .iastore, .aload_n 0, .dup, .getfield 15, .iconst 1, .iadd, .putfield 15, .iinc 4 (-1), .goto (-44)]
def k_T_add_52 : List Instr := [.return_]
def g_T_add : List (Nat × List Instr) := [(0, k_T_add_0), (5, k_T_add_5), (52, k_T_add_52)]
theorem o_T_add : ∀ q ∈ g_T_add, okB b_T_add q.1 q.2 = true := List.all_eq_true.mp (by decide +kernel : g_T_add.all (fun q => okB b_T_add q.1 q.2) = true)
theorem j_T_add_0 (f : List Instr → Prop) : lk1 g_T_add 0 f = f [.iload_n 3, .iconst 1, .isub, .istore 4] := (rfl)
theorem j_T_add_5 (f : List Instr → Prop) : lk1 g_T_add 5 f = f [.iload 4, .ifCond .lt 45, .aload_n 0, .getfield 15, .sipush 600, .if_icmp .ge 35, .aload_n 0, .getfield 9, .aload_n 0, .getfield 15, .lload_n 1, .iload 4, .lshr, .l2i, .iconst 1, .iand, .iastore, .aload_n 0, .dup, .getfield 15, .iconst 1, .iadd, .putfield 15, .iinc 4 (-1), .goto (-44)] := (rfl)
theorem j_T_add_52 (f : List Instr → Prop) : lk1 g_T_add 52 f = f [.return_] := (rfl)
abbrev b_T_at : ByteArray := prog_3_method_3_code
abbrev y_T_at : MethodName := ⟨RX1, "at", "(I)I"⟩
def k_T_at_0 : List Instr := [.iload_n 1, .ifCond .lt 20, .iload_n 1, .aload_n 0, .getfield 15, .if_icmp .ge 12, .aload_n 0, .getfield 9, .iload_n 1, .iaload, .goto 5]
def k_T_at_21 : List Instr := [.bipush (-2)]
def k_T_at_23 : List Instr := [.ireturn]
def g_T_at : List (Nat × List Instr) := [(0, k_T_at_0), (21, k_T_at_21), (23, k_T_at_23)]
theorem o_T_at : ∀ q ∈ g_T_at, okB b_T_at q.1 q.2 = true := List.all_eq_true.mp (by decide +kernel : g_T_at.all (fun q => okB b_T_at q.1 q.2) = true)
theorem j_T_at_0 (f : List Instr → Prop) : lk1 g_T_at 0 f = f [.iload_n 1, .ifCond .lt 20, .iload_n 1, .aload_n 0, .getfield 15, .if_icmp .ge 12, .aload_n 0, .getfield 9, .iload_n 1, .iaload, .goto 5] := (rfl)
theorem j_T_at_21 (f : List Instr → Prop) : lk1 g_T_at 21 f = f [.bipush (-2)] := (rfl)
theorem j_T_at_23 (f : List Instr → Prop) : lk1 g_T_at 23 f = f [.ireturn] := (rfl)
abbrev b_T_copy : ByteArray := prog_3_method_7_code
abbrev y_T_copy : MethodName := ⟨RX1, "copy", "(LEvenWire$Bits;)V"⟩
def k_T_copy_0 : List Instr := [.aload_n 1, .getfield 9, .iconst 0, .aload_n 0, .getfield 9, .iconst 0, .aload_n 1, .getfield 15, .invokestatic 32, .aload_n 0, .aload_n 1, .getfield 15, .putfield 15, .return_]
def g_T_copy : List (Nat × List Instr) := [(0, k_T_copy_0)]
theorem o_T_copy : ∀ q ∈ g_T_copy, okB b_T_copy q.1 q.2 = true := List.all_eq_true.mp (by decide +kernel : g_T_copy.all (fun q => okB b_T_copy q.1 q.2) = true)
theorem j_T_copy_0 (f : List Instr → Prop) : lk1 g_T_copy 0 f = f [.aload_n 1, .getfield 9, .iconst 0, .aload_n 0, .getfield 9, .iconst 0, .aload_n 1, .getfield 15, .invokestatic 32, .aload_n 0, .aload_n 1, .getfield 15, .putfield 15, .return_] := (rfl)
abbrev b_T_part : ByteArray := prog_3_method_9_code
abbrev y_T_part : MethodName := ⟨RX1, "part", "(II)I"⟩
def k_T_part_0 : List Instr := [.iconst 0, .istore_n 3, .iload_n 1, .istore 4]
def k_T_part_5 : List Instr := [.iload 4, .iload_n 1, .iload_n 2, .iadd, .if_icmp .ge 29, .iconst 2, .iload_n 3, .imul, .aload_n 0, .iload 4, .invokevirtual 28, .iconst 1, .if_icmp .ne 7, .iconst 1, .goto 4]
def k_T_part_30 : List Instr := [.iconst 0]
def k_T_part_31 : List Instr := [.iadd, .istore_n 3, .iinc 4 1, .goto (-31)]
def k_T_part_39 : List Instr := [.iload_n 3, .ireturn]
def g_T_part : List (Nat × List Instr) := [(0, k_T_part_0), (5, k_T_part_5), (30, k_T_part_30), (31, k_T_part_31), (39, k_T_part_39)]
theorem o_T_part : ∀ q ∈ g_T_part, okB b_T_part q.1 q.2 = true := List.all_eq_true.mp (by decide +kernel : g_T_part.all (fun q => okB b_T_part q.1 q.2) = true)
theorem j_T_part_0 (f : List Instr → Prop) : lk1 g_T_part 0 f = f [.iconst 0, .istore_n 3, .iload_n 1, .istore 4] := (rfl)
theorem j_T_part_5 (f : List Instr → Prop) : lk1 g_T_part 5 f = f [.iload 4, .iload_n 1, .iload_n 2, .iadd, .if_icmp .ge 29, .iconst 2, .iload_n 3, .imul, .aload_n 0, .iload 4, .invokevirtual 28, .iconst 1, .if_icmp .ne 7, .iconst 1, .goto 4] := (rfl)
theorem j_T_part_30 (f : List Instr → Prop) : lk1 g_T_part 30 f = f [.iconst 0] := (rfl)
theorem j_T_part_31 (f : List Instr → Prop) : lk1 g_T_part 31 f = f [.iadd, .istore_n 3, .iinc 4 1, .goto (-31)] := (rfl)
theorem j_T_part_39 (f : List Instr → Prop) : lk1 g_T_part 39 f = f [.iload_n 3, .ireturn] := (rfl)
abbrev b_T_firstUnlike : ByteArray := prog_3_method_10_code
abbrev y_T_firstUnlike : MethodName := ⟨RX1, "firstUnlike", "(LEvenWire$Bits;)I"⟩
def k_T_firstUnlike_0 : List Instr := [.iconst 0, .istore_n 2]
def k_T_firstUnlike_2 : List Instr := [.iload_n 2, .aload_n 0, .getfield 15, .if_icmp .ge 25, .aload_n 1, .iload_n 2, .invokevirtual 28, .aload_n 0, .getfield 9, .iload_n 2, .iaload, .if_icmp .eq 5, .iload_n 2, .ireturn]
def k_T_firstUnlike_26 : List Instr := [.iinc 2 1, .goto (-27)]
def k_T_firstUnlike_32 : List Instr := [.iconst (-1), .ireturn]
def g_T_firstUnlike : List (Nat × List Instr) := [(0, k_T_firstUnlike_0), (2, k_T_firstUnlike_2), (26, k_T_firstUnlike_26), (32, k_T_firstUnlike_32)]
theorem o_T_firstUnlike : ∀ q ∈ g_T_firstUnlike, okB b_T_firstUnlike q.1 q.2 = true := List.all_eq_true.mp (by decide +kernel : g_T_firstUnlike.all (fun q => okB b_T_firstUnlike q.1 q.2) = true)
theorem j_T_firstUnlike_0 (f : List Instr → Prop) : lk1 g_T_firstUnlike 0 f = f [.iconst 0, .istore_n 2] := (rfl)
theorem j_T_firstUnlike_2 (f : List Instr → Prop) : lk1 g_T_firstUnlike 2 f = f [.iload_n 2, .aload_n 0, .getfield 15, .if_icmp .ge 25, .aload_n 1, .iload_n 2, .invokevirtual 28, .aload_n 0, .getfield 9, .iload_n 2, .iaload, .if_icmp .eq 5, .iload_n 2, .ireturn] := (rfl)
theorem j_T_firstUnlike_26 (f : List Instr → Prop) : lk1 g_T_firstUnlike 26 f = f [.iinc 2 1, .goto (-27)] := (rfl)
theorem j_T_firstUnlike_32 (f : List Instr → Prop) : lk1 g_T_firstUnlike 32 f = f [.iconst (-1), .ireturn] := (rfl)
abbrev b_T_flip : ByteArray := prog_3_method_6_code
abbrev y_T_flip : MethodName := ⟨RX1, "flip", "(I)I"⟩
def k_T_flip_0 : List Instr := [.aload_n 0, .iload_n 1, .invokevirtual 28, .istore_n 2, .iload_n 2, .bipush (-2), .if_icmp .eq 12, .aload_n 0, .getfield 9, .iload_n 1, .iconst 1, .iload_n 2, .isub, .iastore]
def k_T_flip_21 : List Instr := [.iload_n 2, .ireturn]
def g_T_flip : List (Nat × List Instr) := [(0, k_T_flip_0), (21, k_T_flip_21)]
theorem o_T_flip : ∀ q ∈ g_T_flip, okB b_T_flip q.1 q.2 = true := List.all_eq_true.mp (by decide +kernel : g_T_flip.all (fun q => okB b_T_flip q.1 q.2) = true)
theorem j_T_flip_0 (f : List Instr → Prop) : lk1 g_T_flip 0 f = f [.aload_n 0, .iload_n 1, .invokevirtual 28, .istore_n 2, .iload_n 2, .bipush (-2), .if_icmp .eq 12, .aload_n 0, .getfield 9, .iload_n 1, .iconst 1, .iload_n 2, .isub, .iastore] := (rfl)
theorem j_T_flip_21 (f : List Instr → Prop) : lk1 g_T_flip 21 f = f [.iload_n 2, .ireturn] := (rfl)
abbrev b_T_leastLean : ByteArray := prog_3_method_11_code
abbrev y_T_leastLean : MethodName := ⟨RX1, "leastLean", "()I"⟩
def k_T_leastLean_0 : List Instr := [.iconst 0, .istore_n 1, .iconst 0, .istore_n 2, .iconst 0, .istore_n 3]
def k_T_leastLean_6 : List Instr := [.iload_n 3, .aload_n 0, .getfield 15, .if_icmp .ge 28, .iload_n 1, .iconst 2, .aload_n 0, .getfield 9, .iload_n 3, .iaload, .imul, .iconst 1, .isub, .iadd, .istore_n 1, .iload_n 2, .iload_n 1, .invokestatic 19, .istore_n 2, .iinc 3 1, .goto (-30)]
def k_T_leastLean_39 : List Instr := [.iload_n 2, .ireturn]
def g_T_leastLean : List (Nat × List Instr) := [(0, k_T_leastLean_0), (6, k_T_leastLean_6), (39, k_T_leastLean_39)]
theorem o_T_leastLean : ∀ q ∈ g_T_leastLean, okB b_T_leastLean q.1 q.2 = true := List.all_eq_true.mp (by decide +kernel : g_T_leastLean.all (fun q => okB b_T_leastLean q.1 q.2) = true)
theorem j_T_leastLean_0 (f : List Instr → Prop) : lk1 g_T_leastLean 0 f = f [.iconst 0, .istore_n 1, .iconst 0, .istore_n 2, .iconst 0, .istore_n 3] := (rfl)
theorem j_T_leastLean_6 (f : List Instr → Prop) : lk1 g_T_leastLean 6 f = f [.iload_n 3, .aload_n 0, .getfield 15, .if_icmp .ge 28, .iload_n 1, .iconst 2, .aload_n 0, .getfield 9, .iload_n 3, .iaload, .imul, .iconst 1, .isub, .iadd, .istore_n 1, .iload_n 2, .iload_n 1, .invokestatic 19, .istore_n 2, .iinc 3 1, .goto (-30)] := (rfl)
theorem j_T_leastLean_39 (f : List Instr → Prop) : lk1 g_T_leastLean 39 f = f [.iload_n 2, .ireturn] := (rfl)
abbrev b_T_greatestLean : ByteArray := prog_3_method_12_code
abbrev y_T_greatestLean : MethodName := ⟨RX1, "greatestLean", "()I"⟩
def k_T_greatestLean_0 : List Instr := [.iconst 0, .istore_n 1, .iconst 0, .istore_n 2, .iconst 0, .istore_n 3]
def k_T_greatestLean_6 : List Instr := [.iload_n 3, .aload_n 0, .getfield 15, .if_icmp .ge 28, .iload_n 1, .iconst 2, .aload_n 0, .getfield 9, .iload_n 3, .iaload, .imul, .iconst 1, .isub, .iadd, .istore_n 1, .iload_n 2, .iload_n 1, .invokestatic 25, .istore_n 2, .iinc 3 1, .goto (-30)]
def k_T_greatestLean_39 : List Instr := [.iload_n 2, .ireturn]
def g_T_greatestLean : List (Nat × List Instr) := [(0, k_T_greatestLean_0), (6, k_T_greatestLean_6), (39, k_T_greatestLean_39)]
theorem o_T_greatestLean : ∀ q ∈ g_T_greatestLean, okB b_T_greatestLean q.1 q.2 = true := List.all_eq_true.mp (by decide +kernel : g_T_greatestLean.all (fun q => okB b_T_greatestLean q.1 q.2) = true)
theorem j_T_greatestLean_0 (f : List Instr → Prop) : lk1 g_T_greatestLean 0 f = f [.iconst 0, .istore_n 1, .iconst 0, .istore_n 2, .iconst 0, .istore_n 3] := (rfl)
theorem j_T_greatestLean_6 (f : List Instr → Prop) : lk1 g_T_greatestLean 6 f = f [.iload_n 3, .aload_n 0, .getfield 15, .if_icmp .ge 28, .iload_n 1, .iconst 2, .aload_n 0, .getfield 9, .iload_n 3, .iaload, .imul, .iconst 1, .isub, .iadd, .istore_n 1, .iload_n 2, .iload_n 1, .invokestatic 25, .istore_n 2, .iinc 3 1, .goto (-30)] := (rfl)
theorem j_T_greatestLean_39 (f : List Instr → Prop) : lk1 g_T_greatestLean 39 f = f [.iload_n 2, .ireturn] := (rfl)
abbrev b_T_leanSquares : ByteArray := prog_3_method_13_code
abbrev y_T_leanSquares : MethodName := ⟨RX1, "leanSquares", "()I"⟩
def k_T_leanSquares_0 : List Instr := [.iconst 0, .istore_n 1, .iconst 0, .istore_n 2, .iconst 0, .istore_n 3]
def k_T_leanSquares_6 : List Instr := [.iload_n 3, .aload_n 0, .getfield 15, .if_icmp .ge 28, .iload_n 1, .iconst 2, .aload_n 0, .getfield 9, .iload_n 3, .iaload, .imul, .iconst 1, .isub, .iadd, .istore_n 1, .iload_n 2, .iload_n 1, .iload_n 1, .imul, .iadd, .istore_n 2, .iinc 3 1, .goto (-30)]
def k_T_leanSquares_39 : List Instr := [.iload_n 2, .ireturn]
def g_T_leanSquares : List (Nat × List Instr) := [(0, k_T_leanSquares_0), (6, k_T_leanSquares_6), (39, k_T_leanSquares_39)]
theorem o_T_leanSquares : ∀ q ∈ g_T_leanSquares, okB b_T_leanSquares q.1 q.2 = true := List.all_eq_true.mp (by decide +kernel : g_T_leanSquares.all (fun q => okB b_T_leanSquares q.1 q.2) = true)
theorem j_T_leanSquares_0 (f : List Instr → Prop) : lk1 g_T_leanSquares 0 f = f [.iconst 0, .istore_n 1, .iconst 0, .istore_n 2, .iconst 0, .istore_n 3] := (rfl)
theorem j_T_leanSquares_6 (f : List Instr → Prop) : lk1 g_T_leanSquares 6 f = f [.iload_n 3, .aload_n 0, .getfield 15, .if_icmp .ge 28, .iload_n 1, .iconst 2, .aload_n 0, .getfield 9, .iload_n 3, .iaload, .imul, .iconst 1, .isub, .iadd, .istore_n 1, .iload_n 2, .iload_n 1, .iload_n 1, .imul, .iadd, .istore_n 2, .iinc 3 1, .goto (-30)] := (rfl)
theorem j_T_leanSquares_39 (f : List Instr → Prop) : lk1 g_T_leanSquares 39 f = f [.iload_n 2, .ireturn] := (rfl)
abbrev b_T_longestRun : ByteArray := prog_3_method_14_code
abbrev y_T_longestRun : MethodName := ⟨RX1, "longestRun", "()I"⟩
def k_T_longestRun_0 : List Instr := [.iconst 0, .istore_n 1, .iconst 0, .istore_n 2, .iconst 0, .istore_n 3]
def k_T_longestRun_6 : List Instr := [.iload_n 3, .aload_n 0, .getfield 15, .if_icmp .ge 44, .iload_n 3, .ifCond .le 26, .aload_n 0, .getfield 9, .iload_n 3, .iaload, .aload_n 0, .getfield 9, .iload_n 3, .iconst 1, .isub, .iaload, .if_icmp .ne 9, .iload_n 1, .iconst 1, .iadd, .goto 4]
def k_T_longestRun_41 : List Instr := [.iconst 1]
def k_T_longestRun_42 : List Instr := [.istore_n 1, .iload_n 2, .iload_n 1, .invokestatic 25, .istore_n 2, .iinc 3 1, .goto (-46)]
def k_T_longestRun_55 : List Instr := [.iload_n 2, .ireturn]
def g_T_longestRun : List (Nat × List Instr) := [(0, k_T_longestRun_0), (6, k_T_longestRun_6), (41, k_T_longestRun_41), (42, k_T_longestRun_42), (55, k_T_longestRun_55)]
theorem o_T_longestRun : ∀ q ∈ g_T_longestRun, okB b_T_longestRun q.1 q.2 = true := List.all_eq_true.mp (by decide +kernel : g_T_longestRun.all (fun q => okB b_T_longestRun q.1 q.2) = true)
theorem j_T_longestRun_0 (f : List Instr → Prop) : lk1 g_T_longestRun 0 f = f [.iconst 0, .istore_n 1, .iconst 0, .istore_n 2, .iconst 0, .istore_n 3] := (rfl)
theorem j_T_longestRun_6 (f : List Instr → Prop) : lk1 g_T_longestRun 6 f = f [.iload_n 3, .aload_n 0, .getfield 15, .if_icmp .ge 44, .iload_n 3, .ifCond .le 26, .aload_n 0, .getfield 9, .iload_n 3, .iaload, .aload_n 0, .getfield 9, .iload_n 3, .iconst 1, .isub, .iaload, .if_icmp .ne 9, .iload_n 1, .iconst 1, .iadd, .goto 4] := (rfl)
theorem j_T_longestRun_41 (f : List Instr → Prop) : lk1 g_T_longestRun 41 f = f [.iconst 1] := (rfl)
theorem j_T_longestRun_42 (f : List Instr → Prop) : lk1 g_T_longestRun 42 f = f [.istore_n 1, .iload_n 2, .iload_n 1, .invokestatic 25, .istore_n 2, .iinc 3 1, .goto (-46)] := (rfl)
theorem j_T_longestRun_55 (f : List Instr → Prop) : lk1 g_T_longestRun 55 f = f [.iload_n 2, .ireturn] := (rfl)
abbrev b_T_turns : ByteArray := prog_3_method_15_code
abbrev y_T_turns : MethodName := ⟨RX1, "turns", "()I"⟩
def k_T_turns_0 : List Instr := [.iconst 0, .istore_n 1, .iconst 1, .istore_n 2]
def k_T_turns_4 : List Instr := [.iload_n 2, .aload_n 0, .getfield 15, .if_icmp .ge 29, .aload_n 0, .getfield 9, .iload_n 2, .iaload, .aload_n 0, .getfield 9, .iload_n 2, .iconst 1, .isub, .iaload, .if_icmp .eq 6, .iinc 1 1]
def k_T_turns_32 : List Instr := [.iinc 2 1, .goto (-31)]
def k_T_turns_38 : List Instr := [.iload_n 1, .ireturn]
def g_T_turns : List (Nat × List Instr) := [(0, k_T_turns_0), (4, k_T_turns_4), (32, k_T_turns_32), (38, k_T_turns_38)]
theorem o_T_turns : ∀ q ∈ g_T_turns, okB b_T_turns q.1 q.2 = true := List.all_eq_true.mp (by decide +kernel : g_T_turns.all (fun q => okB b_T_turns q.1 q.2) = true)
theorem j_T_turns_0 (f : List Instr → Prop) : lk1 g_T_turns 0 f = f [.iconst 0, .istore_n 1, .iconst 1, .istore_n 2] := (rfl)
theorem j_T_turns_4 (f : List Instr → Prop) : lk1 g_T_turns 4 f = f [.iload_n 2, .aload_n 0, .getfield 15, .if_icmp .ge 29, .aload_n 0, .getfield 9, .iload_n 2, .iaload, .aload_n 0, .getfield 9, .iload_n 2, .iconst 1, .isub, .iaload, .if_icmp .eq 6, .iinc 1 1] := (rfl)
theorem j_T_turns_32 (f : List Instr → Prop) : lk1 g_T_turns 32 f = f [.iinc 2 1, .goto (-31)] := (rfl)
theorem j_T_turns_38 (f : List Instr → Prop) : lk1 g_T_turns 38 f = f [.iload_n 1, .ireturn] := (rfl)
abbrev b_T_digestBehind : ByteArray := prog_3_method_16_code
abbrev y_T_digestBehind : MethodName := ⟨RX1, "digestBehind", "(J)J"⟩
def k_T_digestBehind_0 : List Instr := [.lload_n 1, .lstore_n 3, .iconst 0, .istore 5]
def k_T_digestBehind_5 : List Instr := [.iload 5, .aload_n 0, .getfield 15, .if_icmp .ge 24, .ldc2_w 49, .lload_n 3, .lmul, .aload_n 0, .getfield 9, .iload 5, .iaload, .i2l, .ladd, .lstore_n 3, .iinc 5 1, .goto (-27)]
def k_T_digestBehind_35 : List Instr := [.lload_n 3, .lreturn]
def g_T_digestBehind : List (Nat × List Instr) := [(0, k_T_digestBehind_0), (5, k_T_digestBehind_5), (35, k_T_digestBehind_35)]
theorem o_T_digestBehind : ∀ q ∈ g_T_digestBehind, okB b_T_digestBehind q.1 q.2 = true := List.all_eq_true.mp (by decide +kernel : g_T_digestBehind.all (fun q => okB b_T_digestBehind q.1 q.2) = true)
theorem j_T_digestBehind_0 (f : List Instr → Prop) : lk1 g_T_digestBehind 0 f = f [.lload_n 1, .lstore_n 3, .iconst 0, .istore 5] := (rfl)
theorem j_T_digestBehind_5 (f : List Instr → Prop) : lk1 g_T_digestBehind 5 f = f [.iload 5, .aload_n 0, .getfield 15, .if_icmp .ge 24, .ldc2_w 49, .lload_n 3, .lmul, .aload_n 0, .getfield 9, .iload 5, .iaload, .i2l, .ladd, .lstore_n 3, .iinc 5 1, .goto (-27)] := (rfl)
theorem j_T_digestBehind_35 (f : List Instr → Prop) : lk1 g_T_digestBehind 35 f = f [.lload_n 3, .lreturn] := (rfl)
abbrev b_W_take : ByteArray := prog_9_method_2_code
abbrev y_W_take : MethodName := ⟨RX7, "take", "(LEvenWire$Maker;)V"⟩
def k_W_take_0 : List Instr := [.aload_n 0, .aload_n 1, .invokevirtual 28, .bipush 100, .invokestatic 34, .putfield 24, .aload_n 1, .aload_n 0, .getfield 9, .invokevirtual 40, .aload_n 0, .getfield 15, .iconst (-1), .invokestatic 44, .aload_n 0, .getfield 21, .iconst 0, .invokestatic 44, .iconst 0, .istore_n 2]
def k_W_take_39 : List Instr := [.iload_n 2, .aload_n 0, .getfield 24, .if_icmp .ge 21, .aload_n 0, .iload_n 2, .iconst 0, .invokevirtual 49, .aload_n 0, .iload_n 2, .iconst 1, .invokevirtual 49, .iinc 2 1, .goto (-23)]
def k_W_take_65 : List Instr := [.return_]
def g_W_take : List (Nat × List Instr) := [(0, k_W_take_0), (39, k_W_take_39), (65, k_W_take_65)]
theorem o_W_take : ∀ q ∈ g_W_take, okB b_W_take q.1 q.2 = true := List.all_eq_true.mp (by decide +kernel : g_W_take.all (fun q => okB b_W_take q.1 q.2) = true)
theorem j_W_take_0 (f : List Instr → Prop) : lk1 g_W_take 0 f = f [.aload_n 0, .aload_n 1, .invokevirtual 28, .bipush 100, .invokestatic 34, .putfield 24, .aload_n 1, .aload_n 0, .getfield 9, .invokevirtual 40, .aload_n 0, .getfield 15, .iconst (-1), .invokestatic 44, .aload_n 0, .getfield 21, .iconst 0, .invokestatic 44, .iconst 0, .istore_n 2] := (rfl)
theorem j_W_take_39 (f : List Instr → Prop) : lk1 g_W_take 39 f = f [.iload_n 2, .aload_n 0, .getfield 24, .if_icmp .ge 21, .aload_n 0, .iload_n 2, .iconst 0, .invokevirtual 49, .aload_n 0, .iload_n 2, .iconst 1, .invokevirtual 49, .iinc 2 1, .goto (-23)] := (rfl)
theorem j_W_take_65 (f : List Instr → Prop) : lk1 g_W_take 65 f = f [.return_] := (rfl)
abbrev b_W_adopt : ByteArray := prog_9_method_3_code
abbrev y_W_adopt : MethodName := ⟨RX7, "adopt", "(II)V"⟩
def k_W_adopt_0 : List Instr := [.aload_n 0, .iload_n 1, .iload_n 2, .invokevirtual 53, .istore_n 3, .iload_n 3, .ifCond .le 41, .aload_n 0, .getfield 15, .iload_n 3, .iaload, .iconst (-1), .if_icmp .ne 31, .aload_n 0, .getfield 15, .iload_n 3, .iload_n 1, .iastore, .aload_n 0, .getfield 18, .iload_n 3, .iload_n 2, .iastore, .aload_n 0, .getfield 21, .iload_n 3, .aload_n 0, .getfield 21, .iload_n 1, .iaload, .iconst 1, .iadd, .iastore]
def k_W_adopt_49 : List Instr := [.return_]
def g_W_adopt : List (Nat × List Instr) := [(0, k_W_adopt_0), (49, k_W_adopt_49)]
theorem o_W_adopt : ∀ q ∈ g_W_adopt, okB b_W_adopt q.1 q.2 = true := List.all_eq_true.mp (by decide +kernel : g_W_adopt.all (fun q => okB b_W_adopt q.1 q.2) = true)
theorem j_W_adopt_0 (f : List Instr → Prop) : lk1 g_W_adopt 0 f = f [.aload_n 0, .iload_n 1, .iload_n 2, .invokevirtual 53, .istore_n 3, .iload_n 3, .ifCond .le 41, .aload_n 0, .getfield 15, .iload_n 3, .iaload, .iconst (-1), .if_icmp .ne 31, .aload_n 0, .getfield 15, .iload_n 3, .iload_n 1, .iastore, .aload_n 0, .getfield 18, .iload_n 3, .iload_n 2, .iastore, .aload_n 0, .getfield 21, .iload_n 3, .aload_n 0, .getfield 21, .iload_n 1, .iaload, .iconst 1, .iadd, .iastore] := (rfl)
theorem j_W_adopt_49 (f : List Instr → Prop) : lk1 g_W_adopt 49 f = f [.return_] := (rfl)
abbrev b_W_step : ByteArray := prog_9_method_6_code
abbrev y_W_step : MethodName := ⟨RX7, "step", "(II)I"⟩
def k_W_step_0 : List Instr := [.aload_n 0, .iload_n 1, .invokevirtual 56, .ifCond .eq 12, .iload_n 2, .ifCond .lt 8, .iload_n 2, .iconst 1, .if_icmp .le 5]
def k_W_step_17 : List Instr := [.iconst (-1), .ireturn]
def k_W_step_19 : List Instr := [.aload_n 0, .getfield 9, .iconst 2, .iload_n 1, .imul, .iload_n 2, .iadd, .iaload, .ireturn]
def g_W_step : List (Nat × List Instr) := [(0, k_W_step_0), (17, k_W_step_17), (19, k_W_step_19)]
theorem o_W_step : ∀ q ∈ g_W_step, okB b_W_step q.1 q.2 = true := List.all_eq_true.mp (by decide +kernel : g_W_step.all (fun q => okB b_W_step q.1 q.2) = true)
theorem j_W_step_0 (f : List Instr → Prop) : lk1 g_W_step 0 f = f [.aload_n 0, .iload_n 1, .invokevirtual 56, .ifCond .eq 12, .iload_n 2, .ifCond .lt 8, .iload_n 2, .iconst 1, .if_icmp .le 5] := (rfl)
theorem j_W_step_17 (f : List Instr → Prop) : lk1 g_W_step 17 f = f [.iconst (-1), .ireturn] := (rfl)
theorem j_W_step_19 (f : List Instr → Prop) : lk1 g_W_step 19 f = f [.aload_n 0, .getfield 9, .iconst 2, .iload_n 1, .imul, .iload_n 2, .iadd, .iaload, .ireturn] := (rfl)
abbrev b_W_has : ByteArray := prog_9_method_5_code
abbrev y_W_has : MethodName := ⟨RX7, "has", "(I)Z"⟩
def k_W_has_0 : List Instr := [.iload_n 1, .ifCond .lt 15, .iload_n 1, .aload_n 0, .getfield 24, .if_icmp .ge 7, .iconst 1, .goto 4]
def k_W_has_16 : List Instr := [.iconst 0]
def k_W_has_17 : List Instr := [.ireturn]
def g_W_has : List (Nat × List Instr) := [(0, k_W_has_0), (16, k_W_has_16), (17, k_W_has_17)]
theorem o_W_has : ∀ q ∈ g_W_has, okB b_W_has q.1 q.2 = true := List.all_eq_true.mp (by decide +kernel : g_W_has.all (fun q => okB b_W_has q.1 q.2) = true)
theorem j_W_has_0 (f : List Instr → Prop) : lk1 g_W_has 0 f = f [.iload_n 1, .ifCond .lt 15, .iload_n 1, .aload_n 0, .getfield 24, .if_icmp .ge 7, .iconst 1, .goto 4] := (rfl)
theorem j_W_has_16 (f : List Instr → Prop) : lk1 g_W_has 16 f = f [.iconst 0] := (rfl)
theorem j_W_has_17 (f : List Instr → Prop) : lk1 g_W_has 17 f = f [.ireturn] := (rfl)
abbrev b_W_size : ByteArray := prog_9_method_4_code
abbrev y_W_size : MethodName := ⟨RX7, "size", "()I"⟩
def k_W_size_0 : List Instr := [.aload_n 0, .getfield 24, .ireturn]
def g_W_size : List (Nat × List Instr) := [(0, k_W_size_0)]
theorem o_W_size : ∀ q ∈ g_W_size, okB b_W_size q.1 q.2 = true := List.all_eq_true.mp (by decide +kernel : g_W_size.all (fun q => okB b_W_size q.1 q.2) = true)
theorem j_W_size_0 (f : List Instr → Prop) : lk1 g_W_size 0 f = f [.aload_n 0, .getfield 24, .ireturn] := (rfl)
abbrev b_W_follow : ByteArray := prog_9_method_7_code
abbrev y_W_follow : MethodName := ⟨RX7, "follow", "(IJI)I"⟩
def k_W_follow_0 : List Instr := [.iload_n 1, .istore 5, .iload 4, .iconst 1, .isub, .istore 6]
def k_W_follow_9 : List Instr := [.iload 6, .ifCond .lt 24, .aload_n 0, .iload 5, .lload_n 2, .iload 6, .lshr, .l2i, .iconst 1, .iand, .invokevirtual 53, .istore 5, .iinc 6 (-1), .goto (-23)]
def k_W_follow_35 : List Instr := [.iload 5, .ireturn]
def g_W_follow : List (Nat × List Instr) := [(0, k_W_follow_0), (9, k_W_follow_9), (35, k_W_follow_35)]
theorem o_W_follow : ∀ q ∈ g_W_follow, okB b_W_follow q.1 q.2 = true := List.all_eq_true.mp (by decide +kernel : g_W_follow.all (fun q => okB b_W_follow q.1 q.2) = true)
theorem j_W_follow_0 (f : List Instr → Prop) : lk1 g_W_follow 0 f = f [.iload_n 1, .istore 5, .iload 4, .iconst 1, .isub, .istore 6] := (rfl)
theorem j_W_follow_9 (f : List Instr → Prop) : lk1 g_W_follow 9 f = f [.iload 6, .ifCond .lt 24, .aload_n 0, .iload 5, .lload_n 2, .iload 6, .lshr, .l2i, .iconst 1, .iand, .invokevirtual 53, .istore 5, .iinc 6 (-1), .goto (-23)] := (rfl)
theorem j_W_follow_35 (f : List Instr → Prop) : lk1 g_W_follow 35 f = f [.iload 5, .ireturn] := (rfl)
abbrev b_W_depthOf : ByteArray := prog_9_method_8_code
abbrev y_W_depthOf : MethodName := ⟨RX7, "depthOf", "(I)I"⟩
def k_W_depthOf_0 : List Instr := [.aload_n 0, .iload_n 1, .invokevirtual 56, .ifCond .eq 12, .aload_n 0, .getfield 21, .iload_n 1, .iaload, .goto 4]
def k_W_depthOf_17 : List Instr := [.iconst 0]
def k_W_depthOf_18 : List Instr := [.ireturn]
def g_W_depthOf : List (Nat × List Instr) := [(0, k_W_depthOf_0), (17, k_W_depthOf_17), (18, k_W_depthOf_18)]
theorem o_W_depthOf : ∀ q ∈ g_W_depthOf, okB b_W_depthOf q.1 q.2 = true := List.all_eq_true.mp (by decide +kernel : g_W_depthOf.all (fun q => okB b_W_depthOf q.1 q.2) = true)
theorem j_W_depthOf_0 (f : List Instr → Prop) : lk1 g_W_depthOf 0 f = f [.aload_n 0, .iload_n 1, .invokevirtual 56, .ifCond .eq 12, .aload_n 0, .getfield 21, .iload_n 1, .iaload, .goto 4] := (rfl)
theorem j_W_depthOf_17 (f : List Instr → Prop) : lk1 g_W_depthOf 17 f = f [.iconst 0] := (rfl)
theorem j_W_depthOf_18 (f : List Instr → Prop) : lk1 g_W_depthOf 18 f = f [.ireturn] := (rfl)
abbrev b_W_shortestRow : ByteArray := prog_9_method_11_code
abbrev y_W_shortestRow : MethodName := ⟨RX7, "shortestRow", "(I)J"⟩
def k_W_shortestRow_0 : List Instr := [.aload_n 0, .iload_n 1, .invokevirtual 60, .istore_n 2, .iload_n 2, .bipush 60, .if_icmp .le 7, .ldc2_w 64, .lreturn]
def k_W_shortestRow_16 : List Instr := [.lconst 0, .lstore_n 3, .iload_n 1, .istore 5, .iconst 0, .istore 6]
def k_W_shortestRow_24 : List Instr := [.iload 6, .iload_n 2, .if_icmp .ge 30, .lload_n 3, .aload_n 0, .iload 5, .invokevirtual 66, .i2l, .iload 6, .lshl, .lor, .lstore_n 3, .aload_n 0, .iload 5, .invokevirtual 69, .istore 5, .iinc 6 1, .goto (-30)]
def k_W_shortestRow_57 : List Instr := [.lload_n 3, .lreturn]
def g_W_shortestRow : List (Nat × List Instr) := [(0, k_W_shortestRow_0), (16, k_W_shortestRow_16), (24, k_W_shortestRow_24), (57, k_W_shortestRow_57)]
theorem o_W_shortestRow : ∀ q ∈ g_W_shortestRow, okB b_W_shortestRow q.1 q.2 = true := List.all_eq_true.mp (by decide +kernel : g_W_shortestRow.all (fun q => okB b_W_shortestRow q.1 q.2) = true)
theorem j_W_shortestRow_0 (f : List Instr → Prop) : lk1 g_W_shortestRow 0 f = f [.aload_n 0, .iload_n 1, .invokevirtual 60, .istore_n 2, .iload_n 2, .bipush 60, .if_icmp .le 7, .ldc2_w 64, .lreturn] := (rfl)
theorem j_W_shortestRow_16 (f : List Instr → Prop) : lk1 g_W_shortestRow 16 f = f [.lconst 0, .lstore_n 3, .iload_n 1, .istore 5, .iconst 0, .istore 6] := (rfl)
theorem j_W_shortestRow_24 (f : List Instr → Prop) : lk1 g_W_shortestRow 24 f = f [.iload 6, .iload_n 2, .if_icmp .ge 30, .lload_n 3, .aload_n 0, .iload 5, .invokevirtual 66, .i2l, .iload 6, .lshl, .lor, .lstore_n 3, .aload_n 0, .iload 5, .invokevirtual 69, .istore 5, .iinc 6 1, .goto (-30)] := (rfl)
theorem j_W_shortestRow_57 (f : List Instr → Prop) : lk1 g_W_shortestRow 57 f = f [.lload_n 3, .lreturn] := (rfl)
abbrev b_W_lastBitOf : ByteArray := prog_9_method_10_code
abbrev y_W_lastBitOf : MethodName := ⟨RX7, "lastBitOf", "(I)I"⟩
def k_W_lastBitOf_0 : List Instr := [.aload_n 0, .iload_n 1, .invokevirtual 56, .ifCond .eq 12, .aload_n 0, .getfield 18, .iload_n 1, .iaload, .goto 4]
def k_W_lastBitOf_17 : List Instr := [.iconst 0]
def k_W_lastBitOf_18 : List Instr := [.ireturn]
def g_W_lastBitOf : List (Nat × List Instr) := [(0, k_W_lastBitOf_0), (17, k_W_lastBitOf_17), (18, k_W_lastBitOf_18)]
theorem o_W_lastBitOf : ∀ q ∈ g_W_lastBitOf, okB b_W_lastBitOf q.1 q.2 = true := List.all_eq_true.mp (by decide +kernel : g_W_lastBitOf.all (fun q => okB b_W_lastBitOf q.1 q.2) = true)
theorem j_W_lastBitOf_0 (f : List Instr → Prop) : lk1 g_W_lastBitOf 0 f = f [.aload_n 0, .iload_n 1, .invokevirtual 56, .ifCond .eq 12, .aload_n 0, .getfield 18, .iload_n 1, .iaload, .goto 4] := (rfl)
theorem j_W_lastBitOf_17 (f : List Instr → Prop) : lk1 g_W_lastBitOf 17 f = f [.iconst 0] := (rfl)
theorem j_W_lastBitOf_18 (f : List Instr → Prop) : lk1 g_W_lastBitOf 18 f = f [.ireturn] := (rfl)
abbrev b_W_parentOf : ByteArray := prog_9_method_9_code
abbrev y_W_parentOf : MethodName := ⟨RX7, "parentOf", "(I)I"⟩
def k_W_parentOf_0 : List Instr := [.aload_n 0, .iload_n 1, .invokevirtual 56, .ifCond .eq 12, .aload_n 0, .getfield 15, .iload_n 1, .iaload, .goto 4]
def k_W_parentOf_17 : List Instr := [.iconst (-1)]
def k_W_parentOf_18 : List Instr := [.ireturn]
def g_W_parentOf : List (Nat × List Instr) := [(0, k_W_parentOf_0), (17, k_W_parentOf_17), (18, k_W_parentOf_18)]
theorem o_W_parentOf : ∀ q ∈ g_W_parentOf, okB b_W_parentOf q.1 q.2 = true := List.all_eq_true.mp (by decide +kernel : g_W_parentOf.all (fun q => okB b_W_parentOf q.1 q.2) = true)
theorem j_W_parentOf_0 (f : List Instr → Prop) : lk1 g_W_parentOf 0 f = f [.aload_n 0, .iload_n 1, .invokevirtual 56, .ifCond .eq 12, .aload_n 0, .getfield 15, .iload_n 1, .iaload, .goto 4] := (rfl)
theorem j_W_parentOf_17 (f : List Instr → Prop) : lk1 g_W_parentOf 17 f = f [.iconst (-1)] := (rfl)
theorem j_W_parentOf_18 (f : List Instr → Prop) : lk1 g_W_parentOf 18 f = f [.ireturn] := (rfl)
abbrev b_X_runs : ByteArray := prog_1_method_2_code
abbrev y_X_runs : MethodName := ⟨RX8, "runs", "(II)I"⟩
def k_X_runs_0 : List Instr := [.iload_n 1, .ifCond .ne 12, .iload_n 2, .iconst (-1), .if_icmp .ne 7, .iconst 1, .goto 4]
def k_X_runs_13 : List Instr := [.iconst 0]
def k_X_runs_14 : List Instr := [.istore_n 3, .iload_n 2, .iconst 0, .bipush 7, .invokestatic 74, .ifCond .eq 16, .iload_n 1, .iconst 0, .iload_n 2, .invokestatic 74, .ifCond .eq 7, .iconst 1, .goto 4]
def k_X_runs_38 : List Instr := [.iconst 0]
def k_X_runs_39 : List Instr := [.istore 4, .iload_n 3, .ifCond .ne 11, .iload 4, .ifCond .ne 6, .bipush (-2), .ireturn]
def k_X_runs_53 : List Instr := [.aload_n 0, .getfield 10, .iload_n 1, .iload_n 2, .invokevirtual 78, .iconst 1, .ireturn]
def g_X_runs : List (Nat × List Instr) := [(0, k_X_runs_0), (13, k_X_runs_13), (14, k_X_runs_14), (38, k_X_runs_38), (39, k_X_runs_39), (53, k_X_runs_53)]
theorem o_X_runs : ∀ q ∈ g_X_runs, okB b_X_runs q.1 q.2 = true := List.all_eq_true.mp (by decide +kernel : g_X_runs.all (fun q => okB b_X_runs q.1 q.2) = true)
theorem j_X_runs_0 (f : List Instr → Prop) : lk1 g_X_runs 0 f = f [.iload_n 1, .ifCond .ne 12, .iload_n 2, .iconst (-1), .if_icmp .ne 7, .iconst 1, .goto 4] := (rfl)
theorem j_X_runs_13 (f : List Instr → Prop) : lk1 g_X_runs 13 f = f [.iconst 0] := (rfl)
theorem j_X_runs_14 (f : List Instr → Prop) : lk1 g_X_runs 14 f = f [.istore_n 3, .iload_n 2, .iconst 0, .bipush 7, .invokestatic 74, .ifCond .eq 16, .iload_n 1, .iconst 0, .iload_n 2, .invokestatic 74, .ifCond .eq 7, .iconst 1, .goto 4] := (rfl)
theorem j_X_runs_38 (f : List Instr → Prop) : lk1 g_X_runs 38 f = f [.iconst 0] := (rfl)
theorem j_X_runs_39 (f : List Instr → Prop) : lk1 g_X_runs 39 f = f [.istore 4, .iload_n 3, .ifCond .ne 11, .iload 4, .ifCond .ne 6, .bipush (-2), .ireturn] := (rfl)
theorem j_X_runs_53 (f : List Instr → Prop) : lk1 g_X_runs 53 f = f [.aload_n 0, .getfield 10, .iload_n 1, .iload_n 2, .invokevirtual 78, .iconst 1, .ireturn] := (rfl)
abbrev b_X_isWithin : ByteArray := prog_1_method_39_code
abbrev y_X_isWithin : MethodName := ⟨RX8, "isWithin", "(III)Z"⟩
def k_X_isWithin_0 : List Instr := [.iload_n 0, .iload_n 1, .if_icmp .lt 12, .iload_n 0, .iload_n 2, .if_icmp .gt 7, .iconst 1, .goto 4]
def k_X_isWithin_14 : List Instr := [.iconst 0]
def k_X_isWithin_15 : List Instr := [.ireturn]
def g_X_isWithin : List (Nat × List Instr) := [(0, k_X_isWithin_0), (14, k_X_isWithin_14), (15, k_X_isWithin_15)]
theorem o_X_isWithin : ∀ q ∈ g_X_isWithin, okB b_X_isWithin q.1 q.2 = true := List.all_eq_true.mp (by decide +kernel : g_X_isWithin.all (fun q => okB b_X_isWithin q.1 q.2) = true)
theorem j_X_isWithin_0 (f : List Instr → Prop) : lk1 g_X_isWithin 0 f = f [.iload_n 0, .iload_n 1, .if_icmp .lt 12, .iload_n 0, .iload_n 2, .if_icmp .gt 7, .iconst 1, .goto 4] := (rfl)
theorem j_X_isWithin_14 (f : List Instr → Prop) : lk1 g_X_isWithin 14 f = f [.iconst 0] := (rfl)
theorem j_X_isWithin_15 (f : List Instr → Prop) : lk1 g_X_isWithin 15 f = f [.ireturn] := (rfl)
abbrev b_X_word : ByteArray := prog_1_method_3_code
abbrev y_X_word : MethodName := ⟨RX8, "word", "(II)I"⟩
def k_X_word_0 : List Instr := [.iload_n 2, .iconst 1, .bipush 6, .invokestatic 74, .ifCond .eq 12, .iload_n 1, .i2l, .iload_n 2, .invokestatic 82, .ifCond .ne 6]
def k_X_word_19 : List Instr := [.bipush (-2), .ireturn]
def k_X_word_22 : List Instr := [.aload_n 0, .getfield 10, .iload_n 1, .iload_n 2, .invokevirtual 86, .ireturn]
def g_X_word : List (Nat × List Instr) := [(0, k_X_word_0), (19, k_X_word_19), (22, k_X_word_22)]
theorem o_X_word : ∀ q ∈ g_X_word, okB b_X_word q.1 q.2 = true := List.all_eq_true.mp (by decide +kernel : g_X_word.all (fun q => okB b_X_word q.1 q.2) = true)
theorem j_X_word_0 (f : List Instr → Prop) : lk1 g_X_word 0 f = f [.iload_n 2, .iconst 1, .bipush 6, .invokestatic 74, .ifCond .eq 12, .iload_n 1, .i2l, .iload_n 2, .invokestatic 82, .ifCond .ne 6] := (rfl)
theorem j_X_word_19 (f : List Instr → Prop) : lk1 g_X_word 19 f = f [.bipush (-2), .ireturn] := (rfl)
theorem j_X_word_22 (f : List Instr → Prop) : lk1 g_X_word 22 f = f [.aload_n 0, .getfield 10, .iload_n 1, .iload_n 2, .invokevirtual 86, .ireturn] := (rfl)
abbrev b_X_isRow : ByteArray := prog_1_method_40_code
abbrev y_X_isRow : MethodName := ⟨RX8, "isRow", "(JI)Z"⟩
def k_X_isRow_0 : List Instr := [.iload_n 2, .iconst 0, .bipush 60, .invokestatic 74, .ifCond .eq 21, .lload_n 0, .lconst 0, .lcmp, .ifCond .lt 15, .lload_n 0, .lconst 1, .iload_n 2, .lshl, .lcmp, .ifCond .ge 7, .iconst 1, .goto 4]
def k_X_isRow_28 : List Instr := [.iconst 0]
def k_X_isRow_29 : List Instr := [.ireturn]
def g_X_isRow : List (Nat × List Instr) := [(0, k_X_isRow_0), (28, k_X_isRow_28), (29, k_X_isRow_29)]
theorem o_X_isRow : ∀ q ∈ g_X_isRow, okB b_X_isRow q.1 q.2 = true := List.all_eq_true.mp (by decide +kernel : g_X_isRow.all (fun q => okB b_X_isRow q.1 q.2) = true)
theorem j_X_isRow_0 (f : List Instr → Prop) : lk1 g_X_isRow 0 f = f [.iload_n 2, .iconst 0, .bipush 60, .invokestatic 74, .ifCond .eq 21, .lload_n 0, .lconst 0, .lcmp, .ifCond .lt 15, .lload_n 0, .lconst 1, .iload_n 2, .lshl, .lcmp, .ifCond .ge 7, .iconst 1, .goto 4] := (rfl)
theorem j_X_isRow_28 (f : List Instr → Prop) : lk1 g_X_isRow 28 f = f [.iconst 0] := (rfl)
theorem j_X_isRow_29 (f : List Instr → Prop) : lk1 g_X_isRow 29 f = f [.ireturn] := (rfl)
abbrev b_X_clearWords : ByteArray := prog_1_method_4_code
abbrev y_X_clearWords : MethodName := ⟨RX8, "clearWords", "()I"⟩
def k_X_clearWords_0 : List Instr := [.aload_n 0, .getfield 10, .invokevirtual 90, .ireturn]
def g_X_clearWords : List (Nat × List Instr) := [(0, k_X_clearWords_0)]
theorem o_X_clearWords : ∀ q ∈ g_X_clearWords, okB b_X_clearWords q.1 q.2 = true := List.all_eq_true.mp (by decide +kernel : g_X_clearWords.all (fun q => okB b_X_clearWords q.1 q.2) = true)
theorem j_X_clearWords_0 (f : List Instr → Prop) : lk1 g_X_clearWords 0 f = f [.aload_n 0, .getfield 10, .invokevirtual 90, .ireturn] := (rfl)
abbrev b_X_lean : ByteArray := prog_1_method_5_code
abbrev y_X_lean : MethodName := ⟨RX8, "lean", "(I)I"⟩
def k_X_lean_0 : List Instr := [.iload_n 1, .iconst (-1), .iconst 5, .invokestatic 74, .ifCond .ne 6, .bipush (-2), .ireturn]
def k_X_lean_12 : List Instr := [.aload_n 0, .getfield 10, .iload_n 1, .invokevirtual 94, .iconst 1, .ireturn]
def g_X_lean : List (Nat × List Instr) := [(0, k_X_lean_0), (12, k_X_lean_12)]
theorem o_X_lean : ∀ q ∈ g_X_lean, okB b_X_lean q.1 q.2 = true := List.all_eq_true.mp (by decide +kernel : g_X_lean.all (fun q => okB b_X_lean q.1 q.2) = true)
theorem j_X_lean_0 (f : List Instr → Prop) : lk1 g_X_lean 0 f = f [.iload_n 1, .iconst (-1), .iconst 5, .invokestatic 74, .ifCond .ne 6, .bipush (-2), .ireturn] := (rfl)
theorem j_X_lean_12 (f : List Instr → Prop) : lk1 g_X_lean 12 f = f [.aload_n 0, .getfield 10, .iload_n 1, .invokevirtual 94, .iconst 1, .ireturn] := (rfl)
abbrev b_X_ban : ByteArray := prog_1_method_6_code
abbrev y_X_ban : MethodName := ⟨RX8, "ban", "(I)I"⟩
def k_X_ban_0 : List Instr := [.aload_n 0, .getfield 10, .iload_n 1, .invokevirtual 98, .ireturn]
def g_X_ban : List (Nat × List Instr) := [(0, k_X_ban_0)]
theorem o_X_ban : ∀ q ∈ g_X_ban, okB b_X_ban q.1 q.2 = true := List.all_eq_true.mp (by decide +kernel : g_X_ban.all (fun q => okB b_X_ban q.1 q.2) = true)
theorem j_X_ban_0 (f : List Instr → Prop) : lk1 g_X_ban 0 f = f [.aload_n 0, .getfield 10, .iload_n 1, .invokevirtual 98, .ireturn] := (rfl)
abbrev b_X_build : ByteArray := prog_1_method_7_code
abbrev y_X_build : MethodName := ⟨RX8, "build", "()I"⟩
def k_X_build_0 : List Instr := [.aload_n 0, .getfield 102, .bipush 40, .if_icmp .lt 6, .bipush (-4), .ireturn]
def k_X_build_12 : List Instr := [.aload_n 0, .dup, .getfield 102, .iconst 1, .iadd, .putfield 102, .aload_n 0, .getfield 19, .aload_n 0, .getfield 10, .invokevirtual 106, .ifCond .ne 6, .bipush (-4), .ireturn]
def k_X_build_39 : List Instr := [.aload_n 0, .getfield 26, .aload_n 0, .getfield 19, .invokevirtual 110, .aload_n 0, .getfield 33, .lconst 1, .invokevirtual 114, .aload_n 0, .getfield 33, .aload_n 0, .getfield 26, .bipush 60, .invokevirtual 118, .aload_n 0, .getfield 43, .invokevirtual 122, .aload_n 0, .getfield 50, .iconst 0, .invokevirtual 125, .aload_n 0, .getfield 57, .invokevirtual 127, .aload_n 0, .getfield 26, .invokevirtual 130, .ireturn]
def g_X_build : List (Nat × List Instr) := [(0, k_X_build_0), (12, k_X_build_12), (39, k_X_build_39)]
theorem o_X_build : ∀ q ∈ g_X_build, okB b_X_build q.1 q.2 = true := List.all_eq_true.mp (by decide +kernel : g_X_build.all (fun q => okB b_X_build q.1 q.2) = true)
theorem j_X_build_0 (f : List Instr → Prop) : lk1 g_X_build 0 f = f [.aload_n 0, .getfield 102, .bipush 40, .if_icmp .lt 6, .bipush (-4), .ireturn] := (rfl)
theorem j_X_build_12 (f : List Instr → Prop) : lk1 g_X_build 12 f = f [.aload_n 0, .dup, .getfield 102, .iconst 1, .iadd, .putfield 102, .aload_n 0, .getfield 19, .aload_n 0, .getfield 10, .invokevirtual 106, .ifCond .ne 6, .bipush (-4), .ireturn] := (rfl)
theorem j_X_build_39 (f : List Instr → Prop) : lk1 g_X_build 39 f = f [.aload_n 0, .getfield 26, .aload_n 0, .getfield 19, .invokevirtual 110, .aload_n 0, .getfield 33, .lconst 1, .invokevirtual 114, .aload_n 0, .getfield 33, .aload_n 0, .getfield 26, .bipush 60, .invokevirtual 118, .aload_n 0, .getfield 43, .invokevirtual 122, .aload_n 0, .getfield 50, .iconst 0, .invokevirtual 125, .aload_n 0, .getfield 57, .invokevirtual 127, .aload_n 0, .getfield 26, .invokevirtual 130, .ireturn] := (rfl)
abbrev b_X_states : ByteArray := prog_1_method_8_code
abbrev y_X_states : MethodName := ⟨RX8, "states", "()I"⟩
def k_X_states_0 : List Instr := [.aload_n 0, .getfield 26, .invokevirtual 130, .ireturn]
def g_X_states : List (Nat × List Instr) := [(0, k_X_states_0)]
theorem o_X_states : ∀ q ∈ g_X_states, okB b_X_states q.1 q.2 = true := List.all_eq_true.mp (by decide +kernel : g_X_states.all (fun q => okB b_X_states q.1 q.2) = true)
theorem j_X_states_0 (f : List Instr → Prop) : lk1 g_X_states 0 f = f [.aload_n 0, .getfield 26, .invokevirtual 130, .ireturn] := (rfl)
abbrev b_X_go : ByteArray := prog_1_method_9_code
abbrev y_X_go : MethodName := ⟨RX8, "go", "(II)I"⟩
def k_X_go_0 : List Instr := [.aload_n 0, .getfield 26, .iload_n 1, .invokevirtual 133, .ifCond .eq 12, .iload_n 2, .iconst 0, .iconst 1, .invokestatic 74, .ifCond .ne 6]
def k_X_go_20 : List Instr := [.bipush (-2), .ireturn]
def k_X_go_23 : List Instr := [.aload_n 0, .getfield 26, .iload_n 1, .iload_n 2, .invokevirtual 137, .ireturn]
def g_X_go : List (Nat × List Instr) := [(0, k_X_go_0), (20, k_X_go_20), (23, k_X_go_23)]
theorem o_X_go : ∀ q ∈ g_X_go, okB b_X_go q.1 q.2 = true := List.all_eq_true.mp (by decide +kernel : g_X_go.all (fun q => okB b_X_go q.1 q.2) = true)
theorem j_X_go_0 (f : List Instr → Prop) : lk1 g_X_go 0 f = f [.aload_n 0, .getfield 26, .iload_n 1, .invokevirtual 133, .ifCond .eq 12, .iload_n 2, .iconst 0, .iconst 1, .invokestatic 74, .ifCond .ne 6] := (rfl)
theorem j_X_go_20 (f : List Instr → Prop) : lk1 g_X_go 20 f = f [.bipush (-2), .ireturn] := (rfl)
theorem j_X_go_23 (f : List Instr → Prop) : lk1 g_X_go 23 f = f [.aload_n 0, .getfield 26, .iload_n 1, .iload_n 2, .invokevirtual 137, .ireturn] := (rfl)
abbrev b_X_walk : ByteArray := prog_1_method_10_code
abbrev y_X_walk : MethodName := ⟨RX8, "walk", "(IJI)I"⟩
def k_X_walk_0 : List Instr := [.aload_n 0, .getfield 26, .iload_n 1, .invokevirtual 133, .ifCond .eq 12, .lload_n 2, .iload 4, .invokestatic 82, .ifCond .ne 6]
def k_X_walk_20 : List Instr := [.bipush (-2), .ireturn]
def k_X_walk_23 : List Instr := [.aload_n 0, .getfield 26, .iload_n 1, .lload_n 2, .iload 4, .invokevirtual 140, .ireturn]
def g_X_walk : List (Nat × List Instr) := [(0, k_X_walk_0), (20, k_X_walk_20), (23, k_X_walk_23)]
theorem o_X_walk : ∀ q ∈ g_X_walk, okB b_X_walk q.1 q.2 = true := List.all_eq_true.mp (by decide +kernel : g_X_walk.all (fun q => okB b_X_walk q.1 q.2) = true)
theorem j_X_walk_0 (f : List Instr → Prop) : lk1 g_X_walk 0 f = f [.aload_n 0, .getfield 26, .iload_n 1, .invokevirtual 133, .ifCond .eq 12, .lload_n 2, .iload 4, .invokestatic 82, .ifCond .ne 6] := (rfl)
theorem j_X_walk_20 (f : List Instr → Prop) : lk1 g_X_walk 20 f = f [.bipush (-2), .ireturn] := (rfl)
theorem j_X_walk_23 (f : List Instr → Prop) : lk1 g_X_walk 23 f = f [.aload_n 0, .getfield 26, .iload_n 1, .lload_n 2, .iload 4, .invokevirtual 140, .ireturn] := (rfl)
abbrev b_X_first : ByteArray := prog_1_method_11_code
abbrev y_X_first : MethodName := ⟨RX8, "first", "(II)J"⟩
def k_X_first_0 : List Instr := [.aload_n 0, .getfield 26, .iload_n 1, .invokevirtual 133, .ifCond .eq 12, .iload_n 2, .iconst 0, .iconst 1, .invokestatic 74, .ifCond .ne 7]
def k_X_first_20 : List Instr := [.ldc2_w 144, .lreturn]
def k_X_first_24 : List Instr := [.iload_n 2, .ifCond .ne 15, .aload_n 0, .getfield 26, .iload_n 1, .invokevirtual 146, .i2l, .goto 11]
def k_X_first_40 : List Instr := [.aload_n 0, .getfield 26, .iload_n 1, .invokevirtual 149]
def k_X_first_48 : List Instr := [.lreturn]
def g_X_first : List (Nat × List Instr) := [(0, k_X_first_0), (20, k_X_first_20), (24, k_X_first_24), (40, k_X_first_40), (48, k_X_first_48)]
theorem o_X_first : ∀ q ∈ g_X_first, okB b_X_first q.1 q.2 = true := List.all_eq_true.mp (by decide +kernel : g_X_first.all (fun q => okB b_X_first q.1 q.2) = true)
theorem j_X_first_0 (f : List Instr → Prop) : lk1 g_X_first 0 f = f [.aload_n 0, .getfield 26, .iload_n 1, .invokevirtual 133, .ifCond .eq 12, .iload_n 2, .iconst 0, .iconst 1, .invokestatic 74, .ifCond .ne 7] := (rfl)
theorem j_X_first_20 (f : List Instr → Prop) : lk1 g_X_first 20 f = f [.ldc2_w 144, .lreturn] := (rfl)
theorem j_X_first_24 (f : List Instr → Prop) : lk1 g_X_first 24 f = f [.iload_n 2, .ifCond .ne 15, .aload_n 0, .getfield 26, .iload_n 1, .invokevirtual 146, .i2l, .goto 11] := (rfl)
theorem j_X_first_40 (f : List Instr → Prop) : lk1 g_X_first 40 f = f [.aload_n 0, .getfield 26, .iload_n 1, .invokevirtual 149] := (rfl)
theorem j_X_first_48 (f : List Instr → Prop) : lk1 g_X_first 48 f = f [.lreturn] := (rfl)
abbrev b_X_count : ByteArray := prog_1_method_12_code
abbrev y_X_count : MethodName := ⟨RX8, "count", "(II)J"⟩
def k_X_count_0 : List Instr := [.aload_n 0, .getfield 26, .iload_n 1, .invokevirtual 133, .ifCond .eq 13, .iload_n 2, .iconst 0, .bipush 60, .invokestatic 74, .ifCond .ne 7]
def k_X_count_21 : List Instr := [.ldc2_w 144, .lreturn]
def k_X_count_25 : List Instr := [.aload_n 0, .getfield 33, .iload_n 2, .iload_n 1, .invokevirtual 153, .lreturn]
def g_X_count : List (Nat × List Instr) := [(0, k_X_count_0), (21, k_X_count_21), (25, k_X_count_25)]
theorem o_X_count : ∀ q ∈ g_X_count, okB b_X_count q.1 q.2 = true := List.all_eq_true.mp (by decide +kernel : g_X_count.all (fun q => okB b_X_count q.1 q.2) = true)
theorem j_X_count_0 (f : List Instr → Prop) : lk1 g_X_count 0 f = f [.aload_n 0, .getfield 26, .iload_n 1, .invokevirtual 133, .ifCond .eq 13, .iload_n 2, .iconst 0, .bipush 60, .invokestatic 74, .ifCond .ne 7] := (rfl)
theorem j_X_count_21 (f : List Instr → Prop) : lk1 g_X_count 21 f = f [.ldc2_w 144, .lreturn] := (rfl)
theorem j_X_count_25 (f : List Instr → Prop) : lk1 g_X_count 25 f = f [.aload_n 0, .getfield 33, .iload_n 2, .iload_n 1, .invokevirtual 153, .lreturn] := (rfl)
abbrev b_X_number : ByteArray := prog_1_method_13_code
abbrev y_X_number : MethodName := ⟨RX8, "number", "(IJI)J"⟩
def k_X_number_0 : List Instr := [.aload_n 0, .getfield 26, .iload_n 1, .invokevirtual 133, .ifCond .eq 12, .lload_n 2, .iload 4, .invokestatic 82, .ifCond .ne 7]
def k_X_number_20 : List Instr := [.ldc2_w 144, .lreturn]
def k_X_number_24 : List Instr := [.aload_n 0, .getfield 33, .aload_n 0, .getfield 26, .iload_n 1, .lload_n 2, .iload 4, .invokevirtual 157, .lreturn]
def g_X_number : List (Nat × List Instr) := [(0, k_X_number_0), (20, k_X_number_20), (24, k_X_number_24)]
theorem o_X_number : ∀ q ∈ g_X_number, okB b_X_number q.1 q.2 = true := List.all_eq_true.mp (by decide +kernel : g_X_number.all (fun q => okB b_X_number q.1 q.2) = true)
theorem j_X_number_0 (f : List Instr → Prop) : lk1 g_X_number 0 f = f [.aload_n 0, .getfield 26, .iload_n 1, .invokevirtual 133, .ifCond .eq 12, .lload_n 2, .iload 4, .invokestatic 82, .ifCond .ne 7] := (rfl)
theorem j_X_number_20 (f : List Instr → Prop) : lk1 g_X_number 20 f = f [.ldc2_w 144, .lreturn] := (rfl)
theorem j_X_number_24 (f : List Instr → Prop) : lk1 g_X_number 24 f = f [.aload_n 0, .getfield 33, .aload_n 0, .getfield 26, .iload_n 1, .lload_n 2, .iload 4, .invokevirtual 157, .lreturn] := (rfl)
abbrev b_X_row : ByteArray := prog_1_method_14_code
abbrev y_X_row : MethodName := ⟨RX8, "row", "(IJI)J"⟩
def k_X_row_0 : List Instr := [.aload_n 0, .getfield 26, .iload_n 1, .invokevirtual 133, .ifCond .eq 20, .lload_n 2, .lconst 0, .lcmp, .ifCond .lt 14, .iload 4, .iconst 0, .bipush 60, .invokestatic 74, .ifCond .ne 7]
def k_X_row_28 : List Instr := [.ldc2_w 144, .lreturn]
def k_X_row_32 : List Instr := [.aload_n 0, .getfield 33, .aload_n 0, .getfield 26, .iload_n 1, .lload_n 2, .iload 4, .invokevirtual 161, .lreturn]
def g_X_row : List (Nat × List Instr) := [(0, k_X_row_0), (28, k_X_row_28), (32, k_X_row_32)]
theorem o_X_row : ∀ q ∈ g_X_row, okB b_X_row q.1 q.2 = true := List.all_eq_true.mp (by decide +kernel : g_X_row.all (fun q => okB b_X_row q.1 q.2) = true)
theorem j_X_row_0 (f : List Instr → Prop) : lk1 g_X_row 0 f = f [.aload_n 0, .getfield 26, .iload_n 1, .invokevirtual 133, .ifCond .eq 20, .lload_n 2, .lconst 0, .lcmp, .ifCond .lt 14, .iload 4, .iconst 0, .bipush 60, .invokestatic 74, .ifCond .ne 7] := (rfl)
theorem j_X_row_28 (f : List Instr → Prop) : lk1 g_X_row 28 f = f [.ldc2_w 144, .lreturn] := (rfl)
theorem j_X_row_32 (f : List Instr → Prop) : lk1 g_X_row 32 f = f [.aload_n 0, .getfield 33, .aload_n 0, .getfield 26, .iload_n 1, .lload_n 2, .iload 4, .invokevirtual 161, .lreturn] := (rfl)
abbrev b_X_ways : ByteArray := prog_1_method_15_code
abbrev y_X_ways : MethodName := ⟨RX8, "ways", "(III)I"⟩
def k_X_ways_0 : List Instr := [.aload_n 0, .getfield 26, .iload_n 1, .invokevirtual 133, .ifCond .eq 24, .aload_n 0, .getfield 26, .iload_n 2, .invokevirtual 133, .ifCond .eq 13, .iload_n 3, .iconst 0, .bipush 12, .invokestatic 74, .ifCond .ne 6]
def k_X_ways_32 : List Instr := [.bipush (-2), .ireturn]
def k_X_ways_35 : List Instr := [.aload_n 0, .getfield 37, .lconst 0, .invokevirtual 114, .aload_n 0, .getfield 37, .iload_n 2, .lconst 1, .invokevirtual 164, .aload_n 0, .getfield 37, .aload_n 0, .getfield 26, .iload_n 3, .invokevirtual 118, .aload_n 0, .getfield 37, .iload_n 3, .iload_n 1, .invokevirtual 153, .l2i, .ireturn]
def g_X_ways : List (Nat × List Instr) := [(0, k_X_ways_0), (32, k_X_ways_32), (35, k_X_ways_35)]
theorem o_X_ways : ∀ q ∈ g_X_ways, okB b_X_ways q.1 q.2 = true := List.all_eq_true.mp (by decide +kernel : g_X_ways.all (fun q => okB b_X_ways q.1 q.2) = true)
theorem j_X_ways_0 (f : List Instr → Prop) : lk1 g_X_ways 0 f = f [.aload_n 0, .getfield 26, .iload_n 1, .invokevirtual 133, .ifCond .eq 24, .aload_n 0, .getfield 26, .iload_n 2, .invokevirtual 133, .ifCond .eq 13, .iload_n 3, .iconst 0, .bipush 12, .invokestatic 74, .ifCond .ne 6] := (rfl)
theorem j_X_ways_32 (f : List Instr → Prop) : lk1 g_X_ways 32 f = f [.bipush (-2), .ireturn] := (rfl)
theorem j_X_ways_35 (f : List Instr → Prop) : lk1 g_X_ways 35 f = f [.aload_n 0, .getfield 37, .lconst 0, .invokevirtual 114, .aload_n 0, .getfield 37, .iload_n 2, .lconst 1, .invokevirtual 164, .aload_n 0, .getfield 37, .aload_n 0, .getfield 26, .iload_n 3, .invokevirtual 118, .aload_n 0, .getfield 37, .iload_n 3, .iload_n 1, .invokevirtual 153, .l2i, .ireturn] := (rfl)
abbrev b_X_mark : ByteArray := prog_1_method_16_code
abbrev y_X_mark : MethodName := ⟨RX8, "mark", "(I)I"⟩
def k_X_mark_0 : List Instr := [.iload_n 1, .iconst 1, .bipush 12, .invokestatic 74, .ifCond .ne 6, .bipush (-2), .ireturn]
def k_X_mark_13 : List Instr := [.aload_n 0, .getfield 26, .invokevirtual 130, .ifCond .ne 6, .bipush (-3), .ireturn]
def k_X_mark_26 : List Instr := [.aload_n 0, .getfield 43, .aload_n 0, .getfield 26, .iload_n 1, .invokevirtual 168, .ireturn]
def g_X_mark : List (Nat × List Instr) := [(0, k_X_mark_0), (13, k_X_mark_13), (26, k_X_mark_26)]
theorem o_X_mark : ∀ q ∈ g_X_mark, okB b_X_mark q.1 q.2 = true := List.all_eq_true.mp (by decide +kernel : g_X_mark.all (fun q => okB b_X_mark q.1 q.2) = true)
theorem j_X_mark_0 (f : List Instr → Prop) : lk1 g_X_mark 0 f = f [.iload_n 1, .iconst 1, .bipush 12, .invokestatic 74, .ifCond .ne 6, .bipush (-2), .ireturn] := (rfl)
theorem j_X_mark_13 (f : List Instr → Prop) : lk1 g_X_mark 13 f = f [.aload_n 0, .getfield 26, .invokevirtual 130, .ifCond .ne 6, .bipush (-3), .ireturn] := (rfl)
theorem j_X_mark_26 (f : List Instr → Prop) : lk1 g_X_mark 26 f = f [.aload_n 0, .getfield 43, .aload_n 0, .getfield 26, .iload_n 1, .invokevirtual 168, .ireturn] := (rfl)
abbrev b_X_marked : ByteArray := prog_1_method_17_code
abbrev y_X_marked : MethodName := ⟨RX8, "marked", "()I"⟩
def k_X_marked_0 : List Instr := [.aload_n 0, .getfield 43, .invokevirtual 172, .ireturn]
def g_X_marked : List (Nat × List Instr) := [(0, k_X_marked_0)]
theorem o_X_marked : ∀ q ∈ g_X_marked, okB b_X_marked q.1 q.2 = true := List.all_eq_true.mp (by decide +kernel : g_X_marked.all (fun q => okB b_X_marked q.1 q.2) = true)
theorem j_X_marked_0 (f : List Instr → Prop) : lk1 g_X_marked 0 f = f [.aload_n 0, .getfield 43, .invokevirtual 172, .ireturn] := (rfl)
abbrev b_X_weigh : ByteArray := prog_1_method_18_code
abbrev y_X_weigh : MethodName := ⟨RX8, "weigh", "(II)I"⟩
def k_X_weigh_0 : List Instr := [.aload_n 0, .getfield 26, .iload_n 1, .invokevirtual 133, .ifCond .eq 13, .iload_n 2, .iconst 0, .ldc 175, .invokestatic 74, .ifCond .ne 6]
def k_X_weigh_21 : List Instr := [.bipush (-2), .ireturn]
def k_X_weigh_24 : List Instr := [.aload_n 0, .getfield 50, .iload_n 1, .invokevirtual 176, .istore_n 3, .aload_n 0, .getfield 50, .iload_n 1, .iload_n 2, .invokevirtual 179, .iload_n 3, .ireturn]
def g_X_weigh : List (Nat × List Instr) := [(0, k_X_weigh_0), (21, k_X_weigh_21), (24, k_X_weigh_24)]
theorem o_X_weigh : ∀ q ∈ g_X_weigh, okB b_X_weigh q.1 q.2 = true := List.all_eq_true.mp (by decide +kernel : g_X_weigh.all (fun q => okB b_X_weigh q.1 q.2) = true)
theorem j_X_weigh_0 (f : List Instr → Prop) : lk1 g_X_weigh 0 f = f [.aload_n 0, .getfield 26, .iload_n 1, .invokevirtual 133, .ifCond .eq 13, .iload_n 2, .iconst 0, .ldc 175, .invokestatic 74, .ifCond .ne 6] := (rfl)
theorem j_X_weigh_21 (f : List Instr → Prop) : lk1 g_X_weigh 21 f = f [.bipush (-2), .ireturn] := (rfl)
theorem j_X_weigh_24 (f : List Instr → Prop) : lk1 g_X_weigh 24 f = f [.aload_n 0, .getfield 50, .iload_n 1, .invokevirtual 176, .istore_n 3, .aload_n 0, .getfield 50, .iload_n 1, .iload_n 2, .invokevirtual 179, .iload_n 3, .ireturn] := (rfl)
abbrev b_X_weight : ByteArray := prog_1_method_19_code
abbrev y_X_weight : MethodName := ⟨RX8, "weight", "(I)I"⟩
def k_X_weight_0 : List Instr := [.aload_n 0, .getfield 26, .iload_n 1, .invokevirtual 133, .ifCond .ne 6, .bipush (-2), .ireturn]
def k_X_weight_14 : List Instr := [.aload_n 0, .getfield 50, .iload_n 1, .invokevirtual 176, .ireturn]
def g_X_weight : List (Nat × List Instr) := [(0, k_X_weight_0), (14, k_X_weight_14)]
theorem o_X_weight : ∀ q ∈ g_X_weight, okB b_X_weight q.1 q.2 = true := List.all_eq_true.mp (by decide +kernel : g_X_weight.all (fun q => okB b_X_weight q.1 q.2) = true)
theorem j_X_weight_0 (f : List Instr → Prop) : lk1 g_X_weight 0 f = f [.aload_n 0, .getfield 26, .iload_n 1, .invokevirtual 133, .ifCond .ne 6, .bipush (-2), .ireturn] := (rfl)
theorem j_X_weight_14 (f : List Instr → Prop) : lk1 g_X_weight 14 f = f [.aload_n 0, .getfield 50, .iload_n 1, .invokevirtual 176, .ireturn] := (rfl)
abbrev b_X_judge : ByteArray := prog_1_method_20_code
abbrev y_X_judge : MethodName := ⟨RX8, "judge", "(II)I"⟩
def k_X_judge_0 : List Instr := [.iload_n 1, .iload_n 2, .invokestatic 181, .ifCond .ne 6, .bipush (-2), .ireturn]
def k_X_judge_11 : List Instr := [.aload_n 0, .getfield 26, .invokevirtual 130, .ifCond .ne 6, .bipush (-3), .ireturn]
def k_X_judge_24 : List Instr := [.aload_n 0, .getfield 50, .aload_n 0, .getfield 26, .aload_n 0, .getfield 37, .iload_n 1, .iload_n 2, .invokevirtual 185, .ireturn]
def g_X_judge : List (Nat × List Instr) := [(0, k_X_judge_0), (11, k_X_judge_11), (24, k_X_judge_24)]
theorem o_X_judge : ∀ q ∈ g_X_judge, okB b_X_judge q.1 q.2 = true := List.all_eq_true.mp (by decide +kernel : g_X_judge.all (fun q => okB b_X_judge q.1 q.2) = true)
theorem j_X_judge_0 (f : List Instr → Prop) : lk1 g_X_judge 0 f = f [.iload_n 1, .iload_n 2, .invokestatic 181, .ifCond .ne 6, .bipush (-2), .ireturn] := (rfl)
theorem j_X_judge_11 (f : List Instr → Prop) : lk1 g_X_judge 11 f = f [.aload_n 0, .getfield 26, .invokevirtual 130, .ifCond .ne 6, .bipush (-3), .ireturn] := (rfl)
theorem j_X_judge_24 (f : List Instr → Prop) : lk1 g_X_judge 24 f = f [.aload_n 0, .getfield 50, .aload_n 0, .getfield 26, .aload_n 0, .getfield 37, .iload_n 1, .iload_n 2, .invokevirtual 185, .ireturn] := (rfl)
abbrev b_X_isShowable : ByteArray := prog_1_method_41_code
abbrev y_X_isShowable : MethodName := ⟨RX8, "isShowable", "(II)Z"⟩
def k_X_isShowable_0 : List Instr := [.iload_n 0, .iconst 0, .bipush 12, .invokestatic 74, .ifCond .eq 17, .iload_n 1, .iconst 1, .bipush 12, .invokestatic 74, .ifCond .eq 7, .iconst 1, .goto 4]
def k_X_isShowable_24 : List Instr := [.iconst 0]
def k_X_isShowable_25 : List Instr := [.ireturn]
def g_X_isShowable : List (Nat × List Instr) := [(0, k_X_isShowable_0), (24, k_X_isShowable_24), (25, k_X_isShowable_25)]
theorem o_X_isShowable : ∀ q ∈ g_X_isShowable, okB b_X_isShowable q.1 q.2 = true := List.all_eq_true.mp (by decide +kernel : g_X_isShowable.all (fun q => okB b_X_isShowable q.1 q.2) = true)
theorem j_X_isShowable_0 (f : List Instr → Prop) : lk1 g_X_isShowable 0 f = f [.iload_n 0, .iconst 0, .bipush 12, .invokestatic 74, .ifCond .eq 17, .iload_n 1, .iconst 1, .bipush 12, .invokestatic 74, .ifCond .eq 7, .iconst 1, .goto 4] := (rfl)
theorem j_X_isShowable_24 (f : List Instr → Prop) : lk1 g_X_isShowable 24 f = f [.iconst 0] := (rfl)
theorem j_X_isShowable_25 (f : List Instr → Prop) : lk1 g_X_isShowable 25 f = f [.ireturn] := (rfl)
abbrev b_X_best : ByteArray := prog_1_method_21_code
abbrev y_X_best : MethodName := ⟨RX8, "best", "(III)I"⟩
def k_X_best_0 : List Instr := [.iload_n 1, .iload_n 2, .invokestatic 181, .ifCond .eq 14, .iload_n 3, .iconst 1, .sipush 200, .invokestatic 74, .ifCond .ne 6]
def k_X_best_19 : List Instr := [.bipush (-2), .ireturn]
def k_X_best_22 : List Instr := [.aload_n 0, .getfield 26, .invokevirtual 130, .ifCond .ne 6, .bipush (-3), .ireturn]
def k_X_best_35 : List Instr := [.aload_n 0, .getfield 50, .aload_n 0, .getfield 26, .iload_n 3, .invokevirtual 189, .aload_n 0, .getfield 50, .aload_n 0, .getfield 26, .aload_n 0, .getfield 37, .iload_n 1, .iload_n 2, .invokevirtual 192, .aload_n 0, .getfield 50, .invokevirtual 196, .ireturn]
def g_X_best : List (Nat × List Instr) := [(0, k_X_best_0), (19, k_X_best_19), (22, k_X_best_22), (35, k_X_best_35)]
theorem o_X_best : ∀ q ∈ g_X_best, okB b_X_best q.1 q.2 = true := List.all_eq_true.mp (by decide +kernel : g_X_best.all (fun q => okB b_X_best q.1 q.2) = true)
theorem j_X_best_0 (f : List Instr → Prop) : lk1 g_X_best 0 f = f [.iload_n 1, .iload_n 2, .invokestatic 181, .ifCond .eq 14, .iload_n 3, .iconst 1, .sipush 200, .invokestatic 74, .ifCond .ne 6] := (rfl)
theorem j_X_best_19 (f : List Instr → Prop) : lk1 g_X_best 19 f = f [.bipush (-2), .ireturn] := (rfl)
theorem j_X_best_22 (f : List Instr → Prop) : lk1 g_X_best 22 f = f [.aload_n 0, .getfield 26, .invokevirtual 130, .ifCond .ne 6, .bipush (-3), .ireturn] := (rfl)
theorem j_X_best_35 (f : List Instr → Prop) : lk1 g_X_best 35 f = f [.aload_n 0, .getfield 50, .aload_n 0, .getfield 26, .iload_n 3, .invokevirtual 189, .aload_n 0, .getfield 50, .aload_n 0, .getfield 26, .aload_n 0, .getfield 37, .iload_n 1, .iload_n 2, .invokevirtual 192, .aload_n 0, .getfield 50, .invokevirtual 196, .ireturn] := (rfl)
abbrev b_X_code : ByteArray := prog_1_method_22_code
abbrev y_X_code : MethodName := ⟨RX8, "code", "(II)I"⟩
def k_X_code_0 : List Instr := [.iload_n 1, .iconst 1, .bipush 8, .invokestatic 74, .ifCond .eq 13, .iload_n 2, .iconst 1, .bipush 12, .invokestatic 74, .ifCond .ne 6]
def k_X_code_20 : List Instr := [.bipush (-2), .ireturn]
def k_X_code_23 : List Instr := [.aload_n 0, .getfield 26, .invokevirtual 130, .ifCond .ne 6, .bipush (-3), .ireturn]
def k_X_code_36 : List Instr := [.aload_n 0, .getfield 57, .aload_n 0, .getfield 26, .iload_n 1, .iload_n 2, .invokevirtual 199, .aload_n 0, .getfield 57, .invokevirtual 202, .ireturn]
def g_X_code : List (Nat × List Instr) := [(0, k_X_code_0), (20, k_X_code_20), (23, k_X_code_23), (36, k_X_code_36)]
theorem o_X_code : ∀ q ∈ g_X_code, okB b_X_code q.1 q.2 = true := List.all_eq_true.mp (by decide +kernel : g_X_code.all (fun q => okB b_X_code q.1 q.2) = true)
theorem j_X_code_0 (f : List Instr → Prop) : lk1 g_X_code 0 f = f [.iload_n 1, .iconst 1, .bipush 8, .invokestatic 74, .ifCond .eq 13, .iload_n 2, .iconst 1, .bipush 12, .invokestatic 74, .ifCond .ne 6] := (rfl)
theorem j_X_code_20 (f : List Instr → Prop) : lk1 g_X_code 20 f = f [.bipush (-2), .ireturn] := (rfl)
theorem j_X_code_23 (f : List Instr → Prop) : lk1 g_X_code 23 f = f [.aload_n 0, .getfield 26, .invokevirtual 130, .ifCond .ne 6, .bipush (-3), .ireturn] := (rfl)
theorem j_X_code_36 (f : List Instr → Prop) : lk1 g_X_code 36 f = f [.aload_n 0, .getfield 57, .aload_n 0, .getfield 26, .iload_n 1, .iload_n 2, .invokevirtual 199, .aload_n 0, .getfield 57, .invokevirtual 202, .ireturn] := (rfl)
abbrev b_X_member : ByteArray := prog_1_method_23_code
abbrev y_X_member : MethodName := ⟨RX8, "member", "(I)I"⟩
def k_X_member_0 : List Instr := [.aload_n 0, .getfield 26, .iload_n 1, .invokevirtual 133, .ifCond .ne 6, .bipush (-2), .ireturn]
def k_X_member_14 : List Instr := [.aload_n 0, .getfield 57, .invokevirtual 203, .ifCond .ne 6, .bipush (-3), .ireturn]
def k_X_member_27 : List Instr := [.aload_n 0, .getfield 57, .iload_n 1, .invokevirtual 207, .ifCond .eq 7, .iconst 1, .goto 4]
def k_X_member_42 : List Instr := [.iconst 0]
def k_X_member_43 : List Instr := [.ireturn]
def g_X_member : List (Nat × List Instr) := [(0, k_X_member_0), (14, k_X_member_14), (27, k_X_member_27), (42, k_X_member_42), (43, k_X_member_43)]
theorem o_X_member : ∀ q ∈ g_X_member, okB b_X_member q.1 q.2 = true := List.all_eq_true.mp (by decide +kernel : g_X_member.all (fun q => okB b_X_member q.1 q.2) = true)
theorem j_X_member_0 (f : List Instr → Prop) : lk1 g_X_member 0 f = f [.aload_n 0, .getfield 26, .iload_n 1, .invokevirtual 133, .ifCond .ne 6, .bipush (-2), .ireturn] := (rfl)
theorem j_X_member_14 (f : List Instr → Prop) : lk1 g_X_member 14 f = f [.aload_n 0, .getfield 57, .invokevirtual 203, .ifCond .ne 6, .bipush (-3), .ireturn] := (rfl)
theorem j_X_member_27 (f : List Instr → Prop) : lk1 g_X_member 27 f = f [.aload_n 0, .getfield 57, .iload_n 1, .invokevirtual 207, .ifCond .eq 7, .iconst 1, .goto 4] := (rfl)
theorem j_X_member_42 (f : List Instr → Prop) : lk1 g_X_member 42 f = f [.iconst 0] := (rfl)
theorem j_X_member_43 (f : List Instr → Prop) : lk1 g_X_member 43 f = f [.ireturn] := (rfl)
abbrev b_X_wordOf : ByteArray := prog_1_method_24_code
abbrev y_X_wordOf : MethodName := ⟨RX8, "wordOf", "(II)I"⟩
def k_X_wordOf_0 : List Instr := [.aload_n 0, .getfield 57, .invokevirtual 203, .ifCond .ne 6, .bipush (-3), .ireturn]
def k_X_wordOf_13 : List Instr := [.aload_n 0, .getfield 57, .iload_n 1, .invokevirtual 207, .ifCond .eq 18, .iload_n 2, .i2l, .aload_n 0, .getfield 57, .invokevirtual 210, .invokestatic 82, .ifCond .ne 6]
def k_X_wordOf_39 : List Instr := [.bipush (-2), .ireturn]
def k_X_wordOf_42 : List Instr := [.aload_n 0, .getfield 57, .aload_n 0, .getfield 26, .iload_n 1, .iload_n 2, .invokevirtual 213, .ireturn]
def g_X_wordOf : List (Nat × List Instr) := [(0, k_X_wordOf_0), (13, k_X_wordOf_13), (39, k_X_wordOf_39), (42, k_X_wordOf_42)]
theorem o_X_wordOf : ∀ q ∈ g_X_wordOf, okB b_X_wordOf q.1 q.2 = true := List.all_eq_true.mp (by decide +kernel : g_X_wordOf.all (fun q => okB b_X_wordOf q.1 q.2) = true)
theorem j_X_wordOf_0 (f : List Instr → Prop) : lk1 g_X_wordOf 0 f = f [.aload_n 0, .getfield 57, .invokevirtual 203, .ifCond .ne 6, .bipush (-3), .ireturn] := (rfl)
theorem j_X_wordOf_13 (f : List Instr → Prop) : lk1 g_X_wordOf 13 f = f [.aload_n 0, .getfield 57, .iload_n 1, .invokevirtual 207, .ifCond .eq 18, .iload_n 2, .i2l, .aload_n 0, .getfield 57, .invokevirtual 210, .invokestatic 82, .ifCond .ne 6] := (rfl)
theorem j_X_wordOf_39 (f : List Instr → Prop) : lk1 g_X_wordOf 39 f = f [.bipush (-2), .ireturn] := (rfl)
theorem j_X_wordOf_42 (f : List Instr → Prop) : lk1 g_X_wordOf 42 f = f [.aload_n 0, .getfield 57, .aload_n 0, .getfield 26, .iload_n 1, .iload_n 2, .invokevirtual 213, .ireturn] := (rfl)
abbrev b_X_read : ByteArray := prog_1_method_25_code
abbrev y_X_read : MethodName := ⟨RX8, "read", "(II)I"⟩
def k_X_read_0 : List Instr := [.aload_n 0, .getfield 57, .invokevirtual 203, .ifCond .ne 6, .bipush (-3), .ireturn]
def k_X_read_13 : List Instr := [.aload_n 0, .getfield 57, .iload_n 1, .invokevirtual 207, .ifCond .eq 18, .iload_n 2, .i2l, .aload_n 0, .getfield 57, .invokevirtual 217, .invokestatic 82, .ifCond .ne 6]
def k_X_read_39 : List Instr := [.bipush (-2), .ireturn]
def k_X_read_42 : List Instr := [.aload_n 0, .getfield 57, .aload_n 0, .getfield 26, .iload_n 1, .iload_n 2, .invokevirtual 220, .ireturn]
def g_X_read : List (Nat × List Instr) := [(0, k_X_read_0), (13, k_X_read_13), (39, k_X_read_39), (42, k_X_read_42)]
theorem o_X_read : ∀ q ∈ g_X_read, okB b_X_read q.1 q.2 = true := List.all_eq_true.mp (by decide +kernel : g_X_read.all (fun q => okB b_X_read q.1 q.2) = true)
theorem j_X_read_0 (f : List Instr → Prop) : lk1 g_X_read 0 f = f [.aload_n 0, .getfield 57, .invokevirtual 203, .ifCond .ne 6, .bipush (-3), .ireturn] := (rfl)
theorem j_X_read_13 (f : List Instr → Prop) : lk1 g_X_read 13 f = f [.aload_n 0, .getfield 57, .iload_n 1, .invokevirtual 207, .ifCond .eq 18, .iload_n 2, .i2l, .aload_n 0, .getfield 57, .invokevirtual 217, .invokestatic 82, .ifCond .ne 6] := (rfl)
theorem j_X_read_39 (f : List Instr → Prop) : lk1 g_X_read 39 f = f [.bipush (-2), .ireturn] := (rfl)
theorem j_X_read_42 (f : List Instr → Prop) : lk1 g_X_read 42 f = f [.aload_n 0, .getfield 57, .aload_n 0, .getfield 26, .iload_n 1, .iload_n 2, .invokevirtual 220, .ireturn] := (rfl)
abbrev b_X_say : ByteArray := prog_1_method_26_code
abbrev y_X_say : MethodName := ⟨RX8, "say", "(JI)I"⟩
def k_X_say_0 : List Instr := [.aload_n 0, .getfield 64, .lload_n 1, .iload_n 3, .sipush 240, .invokestatic 223, .ireturn]
def g_X_say : List (Nat × List Instr) := [(0, k_X_say_0)]
theorem o_X_say : ∀ q ∈ g_X_say, okB b_X_say q.1 q.2 = true := List.all_eq_true.mp (by decide +kernel : g_X_say.all (fun q => okB b_X_say q.1 q.2) = true)
theorem j_X_say_0 (f : List Instr → Prop) : lk1 g_X_say 0 f = f [.aload_n 0, .getfield 64, .lload_n 1, .iload_n 3, .sipush 240, .invokestatic 223, .ireturn] := (rfl)
abbrev b_X_append : ByteArray := prog_1_method_42_code
abbrev y_X_append : MethodName := ⟨RX8, "append", "(LEvenWire$Bits;JII)I"⟩
def k_X_append_0 : List Instr := [.lload_n 1, .iload_n 3, .invokestatic 82, .ifCond .ne 6, .bipush (-2), .ireturn]
def k_X_append_11 : List Instr := [.aload_n 0, .invokevirtual 240, .iload_n 3, .iadd, .iload 4, .if_icmp .le 6, .bipush (-4), .ireturn]
def k_X_append_25 : List Instr := [.aload_n 0, .lload_n 1, .iload_n 3, .invokevirtual 281, .aload_n 0, .invokevirtual 240, .ireturn]
def g_X_append : List (Nat × List Instr) := [(0, k_X_append_0), (11, k_X_append_11), (25, k_X_append_25)]
theorem o_X_append : ∀ q ∈ g_X_append, okB b_X_append q.1 q.2 = true := List.all_eq_true.mp (by decide +kernel : g_X_append.all (fun q => okB b_X_append q.1 q.2) = true)
theorem j_X_append_0 (f : List Instr → Prop) : lk1 g_X_append 0 f = f [.lload_n 1, .iload_n 3, .invokestatic 82, .ifCond .ne 6, .bipush (-2), .ireturn] := (rfl)
theorem j_X_append_11 (f : List Instr → Prop) : lk1 g_X_append 11 f = f [.aload_n 0, .invokevirtual 240, .iload_n 3, .iadd, .iload 4, .if_icmp .le 6, .bipush (-4), .ireturn] := (rfl)
theorem j_X_append_25 (f : List Instr → Prop) : lk1 g_X_append 25 f = f [.aload_n 0, .lload_n 1, .iload_n 3, .invokevirtual 281, .aload_n 0, .invokevirtual 240, .ireturn] := (rfl)
abbrev b_X_hush : ByteArray := prog_1_method_27_code
abbrev y_X_hush : MethodName := ⟨RX8, "hush", "()I"⟩
def k_X_hush_0 : List Instr := [.aload_n 0, .getfield 64, .iconst 0, .invokevirtual 227, .ireturn]
def g_X_hush : List (Nat × List Instr) := [(0, k_X_hush_0)]
theorem o_X_hush : ∀ q ∈ g_X_hush, okB b_X_hush q.1 q.2 = true := List.all_eq_true.mp (by decide +kernel : g_X_hush.all (fun q => okB b_X_hush q.1 q.2) = true)
theorem j_X_hush_0 (f : List Instr → Prop) : lk1 g_X_hush 0 f = f [.aload_n 0, .getfield 64, .iconst 0, .invokevirtual 227, .ireturn] := (rfl)
abbrev b_X_message : ByteArray := prog_1_method_28_code
abbrev y_X_message : MethodName := ⟨RX8, "message", "(I)I"⟩
def k_X_message_0 : List Instr := [.aload_n 0, .getfield 64, .iload_n 1, .invokevirtual 230, .ireturn]
def g_X_message : List (Nat × List Instr) := [(0, k_X_message_0)]
theorem o_X_message : ∀ q ∈ g_X_message, okB b_X_message q.1 q.2 = true := List.all_eq_true.mp (by decide +kernel : g_X_message.all (fun q => okB b_X_message q.1 q.2) = true)
theorem j_X_message_0 (f : List Instr → Prop) : lk1 g_X_message 0 f = f [.aload_n 0, .getfield 64, .iload_n 1, .invokevirtual 230, .ireturn] := (rfl)
abbrev b_X_write : ByteArray := prog_1_method_29_code
abbrev y_X_write : MethodName := ⟨RX8, "write", "()I"⟩
def k_X_write_0 : List Instr := [.aload_n 0, .getfield 57, .invokevirtual 203, .ifCond .ne 6, .bipush (-3), .ireturn]
def k_X_write_13 : List Instr := [.aload_n 0, .getfield 57, .aload_n 0, .getfield 64, .invokevirtual 232, .sipush 600, .if_icmp .le 6, .bipush (-4), .ireturn]
def k_X_write_33 : List Instr := [.aload_n 0, .getfield 57, .aload_n 0, .getfield 26, .aload_n 0, .getfield 64, .aload_n 0, .getfield 68, .invokevirtual 236, .aload_n 0, .getfield 68, .invokevirtual 240, .ireturn]
def g_X_write : List (Nat × List Instr) := [(0, k_X_write_0), (13, k_X_write_13), (33, k_X_write_33)]
theorem o_X_write : ∀ q ∈ g_X_write, okB b_X_write q.1 q.2 = true := List.all_eq_true.mp (by decide +kernel : g_X_write.all (fun q => okB b_X_write q.1 q.2) = true)
theorem j_X_write_0 (f : List Instr → Prop) : lk1 g_X_write 0 f = f [.aload_n 0, .getfield 57, .invokevirtual 203, .ifCond .ne 6, .bipush (-3), .ireturn] := (rfl)
theorem j_X_write_13 (f : List Instr → Prop) : lk1 g_X_write 13 f = f [.aload_n 0, .getfield 57, .aload_n 0, .getfield 64, .invokevirtual 232, .sipush 600, .if_icmp .le 6, .bipush (-4), .ireturn] := (rfl)
theorem j_X_write_33 (f : List Instr → Prop) : lk1 g_X_write 33 f = f [.aload_n 0, .getfield 57, .aload_n 0, .getfield 26, .aload_n 0, .getfield 64, .aload_n 0, .getfield 68, .invokevirtual 236, .aload_n 0, .getfield 68, .invokevirtual 240, .ireturn] := (rfl)
abbrev b_X_tell : ByteArray := prog_1_method_30_code
abbrev y_X_tell : MethodName := ⟨RX8, "tell", "()I"⟩
def k_X_tell_0 : List Instr := [.aload_n 0, .getfield 57, .invokevirtual 203, .ifCond .ne 6, .bipush (-3), .ireturn]
def k_X_tell_13 : List Instr := [.aload_n 0, .getfield 57, .aload_n 0, .getfield 26, .aload_n 0, .getfield 68, .aload_n 0, .getfield 71, .invokevirtual 241, .istore_n 1, .iload_n 1, .iconst (-1), .if_icmp .eq 8, .bipush (-100), .iload_n 1, .isub, .ireturn]
def k_X_tell_43 : List Instr := [.aload_n 0, .getfield 71, .invokevirtual 240, .sipush 240, .if_icmp .le 6, .bipush (-4), .ireturn]
def k_X_tell_59 : List Instr := [.aload_n 0, .getfield 64, .aload_n 0, .getfield 71, .invokevirtual 245, .aload_n 0, .getfield 64, .invokevirtual 240, .ireturn]
def g_X_tell : List (Nat × List Instr) := [(0, k_X_tell_0), (13, k_X_tell_13), (43, k_X_tell_43), (59, k_X_tell_59)]
theorem o_X_tell : ∀ q ∈ g_X_tell, okB b_X_tell q.1 q.2 = true := List.all_eq_true.mp (by decide +kernel : g_X_tell.all (fun q => okB b_X_tell q.1 q.2) = true)
theorem j_X_tell_0 (f : List Instr → Prop) : lk1 g_X_tell 0 f = f [.aload_n 0, .getfield 57, .invokevirtual 203, .ifCond .ne 6, .bipush (-3), .ireturn] := (rfl)
theorem j_X_tell_13 (f : List Instr → Prop) : lk1 g_X_tell 13 f = f [.aload_n 0, .getfield 57, .aload_n 0, .getfield 26, .aload_n 0, .getfield 68, .aload_n 0, .getfield 71, .invokevirtual 241, .istore_n 1, .iload_n 1, .iconst (-1), .if_icmp .eq 8, .bipush (-100), .iload_n 1, .isub, .ireturn] := (rfl)
theorem j_X_tell_43 (f : List Instr → Prop) : lk1 g_X_tell 43 f = f [.aload_n 0, .getfield 71, .invokevirtual 240, .sipush 240, .if_icmp .le 6, .bipush (-4), .ireturn] := (rfl)
theorem j_X_tell_59 (f : List Instr → Prop) : lk1 g_X_tell 59 f = f [.aload_n 0, .getfield 64, .aload_n 0, .getfield 71, .invokevirtual 245, .aload_n 0, .getfield 64, .invokevirtual 240, .ireturn] := (rfl)
abbrev b_X_put : ByteArray := prog_1_method_31_code
abbrev y_X_put : MethodName := ⟨RX8, "put", "(JI)I"⟩
def k_X_put_0 : List Instr := [.aload_n 0, .getfield 68, .lload_n 1, .iload_n 3, .sipush 600, .invokestatic 223, .ireturn]
def g_X_put : List (Nat × List Instr) := [(0, k_X_put_0)]
theorem o_X_put : ∀ q ∈ g_X_put, okB b_X_put q.1 q.2 = true := List.all_eq_true.mp (by decide +kernel : g_X_put.all (fun q => okB b_X_put q.1 q.2) = true)
theorem j_X_put_0 (f : List Instr → Prop) : lk1 g_X_put 0 f = f [.aload_n 0, .getfield 68, .lload_n 1, .iload_n 3, .sipush 600, .invokestatic 223, .ireturn] := (rfl)
abbrev b_X_cut : ByteArray := prog_1_method_32_code
abbrev y_X_cut : MethodName := ⟨RX8, "cut", "(I)I"⟩
def k_X_cut_0 : List Instr := [.iload_n 1, .iconst 0, .aload_n 0, .getfield 68, .invokevirtual 240, .invokestatic 74, .ifCond .ne 6, .bipush (-2), .ireturn]
def k_X_cut_18 : List Instr := [.aload_n 0, .getfield 68, .iload_n 1, .invokevirtual 227, .ireturn]
def g_X_cut : List (Nat × List Instr) := [(0, k_X_cut_0), (18, k_X_cut_18)]
theorem o_X_cut : ∀ q ∈ g_X_cut, okB b_X_cut q.1 q.2 = true := List.all_eq_true.mp (by decide +kernel : g_X_cut.all (fun q => okB b_X_cut q.1 q.2) = true)
theorem j_X_cut_0 (f : List Instr → Prop) : lk1 g_X_cut 0 f = f [.iload_n 1, .iconst 0, .aload_n 0, .getfield 68, .invokevirtual 240, .invokestatic 74, .ifCond .ne 6, .bipush (-2), .ireturn] := (rfl)
theorem j_X_cut_18 (f : List Instr → Prop) : lk1 g_X_cut 18 f = f [.aload_n 0, .getfield 68, .iload_n 1, .invokevirtual 227, .ireturn] := (rfl)
abbrev b_X_spoil : ByteArray := prog_1_method_33_code
abbrev y_X_spoil : MethodName := ⟨RX8, "spoil", "(I)I"⟩
def k_X_spoil_0 : List Instr := [.aload_n 0, .getfield 68, .iload_n 1, .invokevirtual 249, .ireturn]
def g_X_spoil : List (Nat × List Instr) := [(0, k_X_spoil_0)]
theorem o_X_spoil : ∀ q ∈ g_X_spoil, okB b_X_spoil q.1 q.2 = true := List.all_eq_true.mp (by decide +kernel : g_X_spoil.all (fun q => okB b_X_spoil q.1 q.2) = true)
theorem j_X_spoil_0 (f : List Instr → Prop) : lk1 g_X_spoil 0 f = f [.aload_n 0, .getfield 68, .iload_n 1, .invokevirtual 249, .ireturn] := (rfl)
abbrev b_X_plate : ByteArray := prog_1_method_34_code
abbrev y_X_plate : MethodName := ⟨RX8, "plate", "(I)I"⟩
def k_X_plate_0 : List Instr := [.aload_n 0, .getfield 68, .iload_n 1, .invokevirtual 230, .ireturn]
def g_X_plate : List (Nat × List Instr) := [(0, k_X_plate_0)]
theorem o_X_plate : ∀ q ∈ g_X_plate, okB b_X_plate q.1 q.2 = true := List.all_eq_true.mp (by decide +kernel : g_X_plate.all (fun q => okB b_X_plate q.1 q.2) = true)
theorem j_X_plate_0 (f : List Instr → Prop) : lk1 g_X_plate 0 f = f [.aload_n 0, .getfield 68, .iload_n 1, .invokevirtual 230, .ireturn] := (rfl)
abbrev b_X_check : ByteArray := prog_1_method_35_code
abbrev y_X_check : MethodName := ⟨RX8, "check", "()I"⟩
def k_X_check_0 : List Instr := [.aload_n 0, .getfield 26, .invokevirtual 130, .ifCond .ne 6, .bipush (-3), .ireturn]
def k_X_check_13 : List Instr := [.iconst 0, .istore_n 1, .iconst 0, .istore_n 2]
def k_X_check_17 : List Instr := [.iload_n 2, .aload_n 0, .getfield 68, .invokevirtual 240, .if_icmp .ge 33, .aload_n 0, .getfield 26, .iload_n 1, .aload_n 0, .getfield 68, .iload_n 2, .invokevirtual 230, .invokevirtual 137, .istore_n 1, .iload_n 1, .iconst (-1), .if_icmp .ne 5, .iload_n 2, .ireturn]
def k_X_check_52 : List Instr := [.iinc 2 1, .goto (-38)]
def k_X_check_58 : List Instr := [.iconst (-1), .ireturn]
def g_X_check : List (Nat × List Instr) := [(0, k_X_check_0), (13, k_X_check_13), (17, k_X_check_17), (52, k_X_check_52), (58, k_X_check_58)]
theorem o_X_check : ∀ q ∈ g_X_check, okB b_X_check q.1 q.2 = true := List.all_eq_true.mp (by decide +kernel : g_X_check.all (fun q => okB b_X_check q.1 q.2) = true)
theorem j_X_check_0 (f : List Instr → Prop) : lk1 g_X_check 0 f = f [.aload_n 0, .getfield 26, .invokevirtual 130, .ifCond .ne 6, .bipush (-3), .ireturn] := (rfl)
theorem j_X_check_13 (f : List Instr → Prop) : lk1 g_X_check 13 f = f [.iconst 0, .istore_n 1, .iconst 0, .istore_n 2] := (rfl)
theorem j_X_check_17 (f : List Instr → Prop) : lk1 g_X_check 17 f = f [.iload_n 2, .aload_n 0, .getfield 68, .invokevirtual 240, .if_icmp .ge 33, .aload_n 0, .getfield 26, .iload_n 1, .aload_n 0, .getfield 68, .iload_n 2, .invokevirtual 230, .invokevirtual 137, .istore_n 1, .iload_n 1, .iconst (-1), .if_icmp .ne 5, .iload_n 2, .ireturn] := (rfl)
theorem j_X_check_52 (f : List Instr → Prop) : lk1 g_X_check 52 f = f [.iinc 2 1, .goto (-38)] := (rfl)
theorem j_X_check_58 (f : List Instr → Prop) : lk1 g_X_check 58 f = f [.iconst (-1), .ireturn] := (rfl)
abbrev b_X_shape : ByteArray := prog_1_method_36_code
abbrev y_X_shape : MethodName := ⟨RX8, "shape", "(I)I"⟩
def k_X_shape_0 : List Instr := [.iload_n 1, .tableswitch 75 0 4 #[35, 43, 51, 59, 67]]
def k_X_shape_36 : List Instr := [.aload_n 0, .getfield 68, .invokevirtual 252, .ireturn]
def k_X_shape_44 : List Instr := [.aload_n 0, .getfield 68, .invokevirtual 255, .ireturn]
def k_X_shape_52 : List Instr := [.aload_n 0, .getfield 68, .invokevirtual 258, .ireturn]
def k_X_shape_60 : List Instr := [.aload_n 0, .getfield 68, .invokevirtual 261, .ireturn]
def k_X_shape_68 : List Instr := [.aload_n 0, .getfield 68, .invokevirtual 264, .ireturn]
def k_X_shape_76 : List Instr := [.bipush (-2), .ireturn]
def g_X_shape : List (Nat × List Instr) := [(0, k_X_shape_0), (36, k_X_shape_36), (44, k_X_shape_44), (52, k_X_shape_52), (60, k_X_shape_60), (68, k_X_shape_68), (76, k_X_shape_76)]
theorem o_X_shape : ∀ q ∈ g_X_shape, okB b_X_shape q.1 q.2 = true := List.all_eq_true.mp (by decide +kernel : g_X_shape.all (fun q => okB b_X_shape q.1 q.2) = true)
theorem j_X_shape_0 (f : List Instr → Prop) : lk1 g_X_shape 0 f = f [.iload_n 1, .tableswitch 75 0 4 #[35, 43, 51, 59, 67]] := (rfl)
theorem j_X_shape_36 (f : List Instr → Prop) : lk1 g_X_shape 36 f = f [.aload_n 0, .getfield 68, .invokevirtual 252, .ireturn] := (rfl)
theorem j_X_shape_44 (f : List Instr → Prop) : lk1 g_X_shape 44 f = f [.aload_n 0, .getfield 68, .invokevirtual 255, .ireturn] := (rfl)
theorem j_X_shape_52 (f : List Instr → Prop) : lk1 g_X_shape 52 f = f [.aload_n 0, .getfield 68, .invokevirtual 258, .ireturn] := (rfl)
theorem j_X_shape_60 (f : List Instr → Prop) : lk1 g_X_shape 60 f = f [.aload_n 0, .getfield 68, .invokevirtual 261, .ireturn] := (rfl)
theorem j_X_shape_68 (f : List Instr → Prop) : lk1 g_X_shape 68 f = f [.aload_n 0, .getfield 68, .invokevirtual 264, .ireturn] := (rfl)
theorem j_X_shape_76 (f : List Instr → Prop) : lk1 g_X_shape 76 f = f [.bipush (-2), .ireturn] := (rfl)
abbrev b_X_count1 : ByteArray := prog_1_method_37_code
abbrev y_X_count1 : MethodName := ⟨RX8, "count", "(I)I"⟩
def k_X_count1_0 : List Instr := [.iload_n 1, .tableswitch 108 0 7 #[47, 55, 63, 71, 79, 87, 95, 103]]
def k_X_count1_48 : List Instr := [.aload_n 0, .getfield 64, .invokevirtual 240, .ireturn]
def k_X_count1_56 : List Instr := [.aload_n 0, .getfield 68, .invokevirtual 240, .ireturn]
def k_X_count1_64 : List Instr := [.aload_n 0, .getfield 26, .invokevirtual 130, .ireturn]
def k_X_count1_72 : List Instr := [.aload_n 0, .getfield 57, .invokevirtual 202, .ireturn]
def k_X_count1_80 : List Instr := [.aload_n 0, .getfield 57, .invokevirtual 210, .ireturn]
def k_X_count1_88 : List Instr := [.aload_n 0, .getfield 57, .invokevirtual 217, .ireturn]
def k_X_count1_96 : List Instr := [.aload_n 0, .getfield 57, .invokevirtual 267, .ireturn]
def k_X_count1_104 : List Instr := [.aload_n 0, .getfield 102, .ireturn]
def k_X_count1_109 : List Instr := [.bipush (-2), .ireturn]
def g_X_count1 : List (Nat × List Instr) := [(0, k_X_count1_0), (48, k_X_count1_48), (56, k_X_count1_56), (64, k_X_count1_64), (72, k_X_count1_72), (80, k_X_count1_80), (88, k_X_count1_88), (96, k_X_count1_96), (104, k_X_count1_104), (109, k_X_count1_109)]
theorem o_X_count1 : ∀ q ∈ g_X_count1, okB b_X_count1 q.1 q.2 = true := List.all_eq_true.mp (by decide +kernel : g_X_count1.all (fun q => okB b_X_count1 q.1 q.2) = true)
theorem j_X_count1_0 (f : List Instr → Prop) : lk1 g_X_count1 0 f = f [.iload_n 1, .tableswitch 108 0 7 #[47, 55, 63, 71, 79, 87, 95, 103]] := (rfl)
theorem j_X_count1_48 (f : List Instr → Prop) : lk1 g_X_count1 48 f = f [.aload_n 0, .getfield 64, .invokevirtual 240, .ireturn] := (rfl)
theorem j_X_count1_56 (f : List Instr → Prop) : lk1 g_X_count1 56 f = f [.aload_n 0, .getfield 68, .invokevirtual 240, .ireturn] := (rfl)
theorem j_X_count1_64 (f : List Instr → Prop) : lk1 g_X_count1 64 f = f [.aload_n 0, .getfield 26, .invokevirtual 130, .ireturn] := (rfl)
theorem j_X_count1_72 (f : List Instr → Prop) : lk1 g_X_count1 72 f = f [.aload_n 0, .getfield 57, .invokevirtual 202, .ireturn] := (rfl)
theorem j_X_count1_80 (f : List Instr → Prop) : lk1 g_X_count1 80 f = f [.aload_n 0, .getfield 57, .invokevirtual 210, .ireturn] := (rfl)
theorem j_X_count1_88 (f : List Instr → Prop) : lk1 g_X_count1 88 f = f [.aload_n 0, .getfield 57, .invokevirtual 217, .ireturn] := (rfl)
theorem j_X_count1_96 (f : List Instr → Prop) : lk1 g_X_count1 96 f = f [.aload_n 0, .getfield 57, .invokevirtual 267, .ireturn] := (rfl)
theorem j_X_count1_104 (f : List Instr → Prop) : lk1 g_X_count1 104 f = f [.aload_n 0, .getfield 102, .ireturn] := (rfl)
theorem j_X_count1_109 (f : List Instr → Prop) : lk1 g_X_count1 109 f = f [.bipush (-2), .ireturn] := (rfl)
abbrev b_X_digest : ByteArray := prog_1_method_38_code
abbrev y_X_digest : MethodName := ⟨RX8, "digest", "()J"⟩
def k_X_digest_0 : List Instr := [.ldc2_w 270, .lstore_n 1, .iconst 0, .istore_n 3]
def k_X_digest_6 : List Instr := [.iload_n 3, .bipush 7, .if_icmp .gt 22, .ldc2_w 272, .lload_n 1, .lmul, .aload_n 0, .iload_n 3, .invokevirtual 274, .i2l, .ladd, .lstore_n 1, .iinc 3 1, .goto (-22)]
def k_X_digest_31 : List Instr := [.iconst 0, .istore_n 3]
def k_X_digest_33 : List Instr := [.iload_n 3, .aload_n 0, .getfield 26, .invokevirtual 130, .if_icmp .ge 59, .ldc2_w 272, .lload_n 1, .lmul, .aload_n 0, .getfield 26, .iload_n 3, .iconst 0, .invokevirtual 137, .i2l, .ladd, .lstore_n 1, .ldc2_w 272, .lload_n 1, .lmul, .aload_n 0, .getfield 26, .iload_n 3, .iconst 1, .invokevirtual 137, .i2l, .ladd, .lstore_n 1, .ldc2_w 272, .lload_n 1, .lmul, .aload_n 0, .getfield 50, .iload_n 3, .invokevirtual 176, .i2l, .ladd, .lstore_n 1, .iinc 3 1, .goto (-64)]
def k_X_digest_100 : List Instr := [.aload_n 0, .getfield 68, .aload_n 0, .getfield 64, .lload_n 1, .invokevirtual 277, .invokevirtual 277, .lreturn]
def g_X_digest : List (Nat × List Instr) := [(0, k_X_digest_0), (6, k_X_digest_6), (31, k_X_digest_31), (33, k_X_digest_33), (100, k_X_digest_100)]
theorem o_X_digest : ∀ q ∈ g_X_digest, okB b_X_digest q.1 q.2 = true := List.all_eq_true.mp (by decide +kernel : g_X_digest.all (fun q => okB b_X_digest q.1 q.2) = true)
theorem j_X_digest_0 (f : List Instr → Prop) : lk1 g_X_digest 0 f = f [.ldc2_w 270, .lstore_n 1, .iconst 0, .istore_n 3] := (rfl)
theorem j_X_digest_6 (f : List Instr → Prop) : lk1 g_X_digest 6 f = f [.iload_n 3, .bipush 7, .if_icmp .gt 22, .ldc2_w 272, .lload_n 1, .lmul, .aload_n 0, .iload_n 3, .invokevirtual 274, .i2l, .ladd, .lstore_n 1, .iinc 3 1, .goto (-22)] := (rfl)
theorem j_X_digest_31 (f : List Instr → Prop) : lk1 g_X_digest 31 f = f [.iconst 0, .istore_n 3] := (rfl)
theorem j_X_digest_33 (f : List Instr → Prop) : lk1 g_X_digest 33 f = f [.iload_n 3, .aload_n 0, .getfield 26, .invokevirtual 130, .if_icmp .ge 59, .ldc2_w 272, .lload_n 1, .lmul, .aload_n 0, .getfield 26, .iload_n 3, .iconst 0, .invokevirtual 137, .i2l, .ladd, .lstore_n 1, .ldc2_w 272, .lload_n 1, .lmul, .aload_n 0, .getfield 26, .iload_n 3, .iconst 1, .invokevirtual 137, .i2l, .ladd, .lstore_n 1, .ldc2_w 272, .lload_n 1, .lmul, .aload_n 0, .getfield 50, .iload_n 3, .invokevirtual 176, .i2l, .ladd, .lstore_n 1, .iinc 3 1, .goto (-64)] := (rfl)
theorem j_X_digest_100 (f : List Instr → Prop) : lk1 g_X_digest 100 f = f [.aload_n 0, .getfield 68, .aload_n 0, .getfield 64, .lload_n 1, .invokevirtual 277, .invokevirtual 277, .lreturn] := (rfl)
end
section
/-! tables of fields, constants, links (by program) -/
def R_lawV : String := "EvenWireLaw"
def TGi (i : Nat) : Option Jvm.Cond := match lw_tbl[i]? with
  | some w => if goodWord w then some w else none
  | none => none
theorem TGi_in {i : Nat} {w : Jvm.Cond} (h : TGi i = some w) : w ∈ TG := by
  unfold TGi at h
  split at h
  · next w' e =>
    split at h
    · next g => cases h; exact tg_in i e g
    · cases h
  · cases h
theorem sh_ref (ci k : Nat) (h : SH.all (fun x => match x with
    | .inl (c, fs) => decide (c = ci → fs[k]? ≠ some none)
    | _ => true) = true) : ∀ (i : Nat) (fs : List (Option Nat)), SH[i]? = some (.inl (ci, fs)) → fs[k]? ≠ some none := by
  intro i fs hi
  have h1 := List.all_eq_true.mp h _ (List.mem_of_getElem? hi)
  simpa using h1
theorem in_B : ∀ w ∈ u_ws RX0 TX0 6, w ∈ TG := by
  have h : u_ws RX0 TX0 6 = [82, 84, 86, 88, 90, 92].filterMap (fun i => TGi i) := by decide +kernel
  intro w hw; rw [h] at hw; obtain ⟨i, -, hi⟩ := List.mem_filterMap.mp hw; exact TGi_in hi
theorem in_T : ∀ w ∈ u_ws RX1 TX1 2, w ∈ TG := by
  have h : u_ws RX1 TX1 2 = [214, 216].filterMap (fun i => TGi i) := by decide +kernel
  intro w hw; rw [h] at hw; obtain ⟨i, -, hi⟩ := List.mem_filterMap.mp hw; exact TGi_in hi
theorem in_C : ∀ w ∈ u_ws RX2 TX2 7, w ∈ TG := by
  have h : u_ws RX2 TX2 7 = [226, 228, 230, 232, 234, 236, 238].filterMap (fun i => TGi i) := by decide +kernel
  intro w hw; rw [h] at hw; obtain ⟨i, -, hi⟩ := List.mem_filterMap.mp hw; exact TGi_in hi
theorem in_L : ∀ w ∈ u_ws RX3 TX3 1, w ∈ TG := by
  have h : u_ws RX3 TX3 1 = [159].filterMap (fun i => TGi i) := by decide +kernel
  intro w hw; rw [h] at hw; obtain ⟨i, -, hi⟩ := List.mem_filterMap.mp hw; exact TGi_in hi
theorem in_K : ∀ w ∈ u_ws RX4 TX4 9, w ∈ TG := by
  have h : u_ws RX4 TX4 9 = [111, 113, 115, 117, 119, 121, 123, 125, 127].filterMap (fun i => TGi i) := by decide +kernel
  intro w hw; rw [h] at hw; obtain ⟨i, -, hi⟩ := List.mem_filterMap.mp hw; exact TGi_in hi
theorem in_S : ∀ w ∈ u_ws RX5 TX5 6, w ∈ TG := by
  have h : u_ws RX5 TX5 6 = [175, 177, 179, 181, 183, 185].filterMap (fun i => TGi i) := by decide +kernel
  intro w hw; rw [h] at hw; obtain ⟨i, -, hi⟩ := List.mem_filterMap.mp hw; exact TGi_in hi
theorem in_G : ∀ w ∈ u_ws RX6 TX6 1, w ∈ TG := by
  have h : u_ws RX6 TX6 1 = [195].filterMap (fun i => TGi i) := by decide +kernel
  intro w hw; rw [h] at hw; obtain ⟨i, -, hi⟩ := List.mem_filterMap.mp hw; exact TGi_in hi
theorem in_W : ∀ w ∈ u_ws RX7 TX7 5, w ∈ TG := by
  have h : u_ws RX7 TX7 5 = [141, 143, 145, 147, 149].filterMap (fun i => TGi i) := by decide +kernel
  intro w hw; rw [h] at hw; obtain ⟨i, -, hi⟩ := List.mem_filterMap.mp hw; exact TGi_in hi
theorem in_X : ∀ w ∈ u_ws RX8 TX8 12, w ∈ TG := by
  have h : u_ws RX8 TX8 12 = [255, 257, 259, 261, 263, 265, 267, 269, 271, 273, 275, 277].filterMap (fun i => TGi i) := by decide +kernel
  intro w hw; rw [h] at hw; obtain ⟨i, -, hi⟩ := List.mem_filterMap.mp hw; exact TGi_in hi
theorem in_M : ∀ w ∈ u_ws RX9 TX9 42, w ∈ TG := by
  have h : u_ws RX9 TX9 42 = [901, 903, 905, 907, 909, 911, 913, 915, 917, 919, 921, 923, 925, 927, 929, 931, 933, 935, 937, 939, 941, 943, 945, 947, 949, 951, 953, 955, 957, 959, 961, 963, 965, 967, 969, 971, 973, 975, 977, 979, 981, 983].filterMap (fun i => TGi i) := by decide +kernel
  intro w hw; rw [h] at hw; obtain ⟨i, -, hi⟩ := List.mem_filterMap.mp hw; exact TGi_in hi
def P_B : List (Nat × Nat × Nat) := [(11, 0, 0), (15, 0, 1), (18, 0, 2), (22, 0, 3), (25, 0, 4), (28, 0, 5)]
theorem P_B_ok : ∀ q ∈ P_B, FieldOK RX0 q := by
  refine List.forall_mem_cons.mpr ⟨?_, List.forall_mem_cons.mpr ⟨?_, List.forall_mem_cons.mpr ⟨?_, List.forall_mem_cons.mpr ⟨?_, List.forall_mem_cons.mpr ⟨?_, List.forall_mem_cons.mpr ⟨?_, fun _ h => absurd h List.not_mem_nil⟩⟩⟩⟩⟩⟩
  · exact ⟨RX0, TX0, 6, tyX0, rfl, by decide, rfl, tg_in 76 (by decide +kernel) (by decide +kernel), in_B, tyX0_ok, nmX0, (fun h => by cases h), Or.inr (sh_ref 0 0 (by decide +kernel))⟩
  · exact ⟨RX0, TX0, 6, tyX0, rfl, by decide, rfl, tg_in 77 (by decide +kernel) (by decide +kernel), in_B, tyX0_ok, nmX0, (fun h => by cases h), Or.inr (sh_ref 0 1 (by decide +kernel))⟩
  · exact ⟨RX0, TX0, 6, tyX0, rfl, by decide, rfl, tg_in 78 (by decide +kernel) (by decide +kernel), in_B, tyX0_ok, nmX0, (fun _ => rfl), Or.inl rfl⟩
  · exact ⟨RX0, TX0, 6, tyX0, rfl, by decide, rfl, tg_in 79 (by decide +kernel) (by decide +kernel), in_B, tyX0_ok, nmX0, (fun _ => rfl), Or.inl rfl⟩
  · exact ⟨RX0, TX0, 6, tyX0, rfl, by decide, rfl, tg_in 80 (by decide +kernel) (by decide +kernel), in_B, tyX0_ok, nmX0, (fun _ => rfl), Or.inl rfl⟩
  · exact ⟨RX0, TX0, 6, tyX0, rfl, by decide, rfl, tg_in 81 (by decide +kernel) (by decide +kernel), in_B, tyX0_ok, nmX0, (fun _ => rfl), Or.inl rfl⟩
theorem f_B_11 (f : Nat × Nat → Prop) : lk1 P_B 11 f = f (0, 0) := (rfl)
theorem f_B_15 (f : Nat × Nat → Prop) : lk1 P_B 15 f = f (0, 1) := (rfl)
theorem f_B_18 (f : Nat × Nat → Prop) : lk1 P_B 18 f = f (0, 2) := (rfl)
theorem f_B_22 (f : Nat × Nat → Prop) : lk1 P_B 22 f = f (0, 3) := (rfl)
theorem f_B_25 (f : Nat × Nat → Prop) : lk1 P_B 25 f = f (0, 4) := (rfl)
theorem f_B_28 (f : Nat × Nat → Prop) : lk1 P_B 28 f = f (0, 5) := (rfl)
def P_C : List (Nat × Nat × Nat) := [(12, 2, 0), (18, 2, 1), (25, 2, 2), (29, 2, 3), (33, 2, 4), (36, 2, 5), (39, 2, 6)]
theorem P_C_ok : ∀ q ∈ P_C, FieldOK RX2 q := by
  refine List.forall_mem_cons.mpr ⟨?_, List.forall_mem_cons.mpr ⟨?_, List.forall_mem_cons.mpr ⟨?_, List.forall_mem_cons.mpr ⟨?_, List.forall_mem_cons.mpr ⟨?_, List.forall_mem_cons.mpr ⟨?_, List.forall_mem_cons.mpr ⟨?_, fun _ h => absurd h List.not_mem_nil⟩⟩⟩⟩⟩⟩⟩
  · exact ⟨RX2, TX2, 7, tyX2, rfl, by decide, rfl, tg_in 219 (by decide +kernel) (by decide +kernel), in_C, tyX2_ok, nmX2, (fun h => by cases h), Or.inr (sh_ref 2 0 (by decide +kernel))⟩
  · exact ⟨RX2, TX2, 7, tyX2, rfl, by decide, rfl, tg_in 220 (by decide +kernel) (by decide +kernel), in_C, tyX2_ok, nmX2, (fun h => by cases h), Or.inr (sh_ref 2 1 (by decide +kernel))⟩
  · exact ⟨RX2, TX2, 7, tyX2, rfl, by decide, rfl, tg_in 221 (by decide +kernel) (by decide +kernel), in_C, tyX2_ok, nmX2, (fun h => by cases h), Or.inr (sh_ref 2 2 (by decide +kernel))⟩
  · exact ⟨RX2, TX2, 7, tyX2, rfl, by decide, rfl, tg_in 222 (by decide +kernel) (by decide +kernel), in_C, tyX2_ok, nmX2, (fun _ => rfl), Or.inl rfl⟩
  · exact ⟨RX2, TX2, 7, tyX2, rfl, by decide, rfl, tg_in 223 (by decide +kernel) (by decide +kernel), in_C, tyX2_ok, nmX2, (fun _ => rfl), Or.inl rfl⟩
  · exact ⟨RX2, TX2, 7, tyX2, rfl, by decide, rfl, tg_in 224 (by decide +kernel) (by decide +kernel), in_C, tyX2_ok, nmX2, (fun _ => rfl), Or.inl rfl⟩
  · exact ⟨RX2, TX2, 7, tyX2, rfl, by decide, rfl, tg_in 225 (by decide +kernel) (by decide +kernel), in_C, tyX2_ok, nmX2, (fun _ => rfl), Or.inl rfl⟩
theorem f_C_12 (f : Nat × Nat → Prop) : lk1 P_C 12 f = f (2, 0) := (rfl)
theorem f_C_18 (f : Nat × Nat → Prop) : lk1 P_C 18 f = f (2, 1) := (rfl)
theorem f_C_25 (f : Nat × Nat → Prop) : lk1 P_C 25 f = f (2, 2) := (rfl)
theorem f_C_29 (f : Nat × Nat → Prop) : lk1 P_C 29 f = f (2, 3) := (rfl)
theorem f_C_33 (f : Nat × Nat → Prop) : lk1 P_C 33 f = f (2, 4) := (rfl)
theorem f_C_36 (f : Nat × Nat → Prop) : lk1 P_C 36 f = f (2, 5) := (rfl)
theorem f_C_39 (f : Nat × Nat → Prop) : lk1 P_C 39 f = f (2, 6) := (rfl)
def P_G : List (Nat × Nat × Nat) := [(9, 6, 0)]
theorem P_G_ok : ∀ q ∈ P_G, FieldOK RX6 q := by
  refine List.forall_mem_cons.mpr ⟨?_, fun _ h => absurd h List.not_mem_nil⟩
  · exact ⟨RX6, TX6, 1, tyX6, rfl, by decide, rfl, tg_in 194 (by decide +kernel) (by decide +kernel), in_G, tyX6_ok, nmX6, (fun h => by cases h), Or.inr (sh_ref 6 0 (by decide +kernel))⟩
theorem f_G_9 (f : Nat × Nat → Prop) : lk1 P_G 9 f = f (6, 0) := (rfl)
def P_K : List (Nat × Nat × Nat) := [(11, 4, 0), (17, 4, 1), (20, 4, 2), (23, 4, 3), (26, 4, 4), (29, 4, 5), (32, 4, 6), (36, 4, 7), (39, 4, 8)]
theorem P_K_ok : ∀ q ∈ P_K, FieldOK RX4 q := by
  refine List.forall_mem_cons.mpr ⟨?_, List.forall_mem_cons.mpr ⟨?_, List.forall_mem_cons.mpr ⟨?_, List.forall_mem_cons.mpr ⟨?_, List.forall_mem_cons.mpr ⟨?_, List.forall_mem_cons.mpr ⟨?_, List.forall_mem_cons.mpr ⟨?_, List.forall_mem_cons.mpr ⟨?_, List.forall_mem_cons.mpr ⟨?_, fun _ h => absurd h List.not_mem_nil⟩⟩⟩⟩⟩⟩⟩⟩⟩
  · exact ⟨RX4, TX4, 9, tyX4, rfl, by decide, rfl, tg_in 102 (by decide +kernel) (by decide +kernel), in_K, tyX4_ok, nmX4, (fun h => by cases h), Or.inr (sh_ref 4 0 (by decide +kernel))⟩
  · exact ⟨RX4, TX4, 9, tyX4, rfl, by decide, rfl, tg_in 103 (by decide +kernel) (by decide +kernel), in_K, tyX4_ok, nmX4, (fun h => by cases h), Or.inr (sh_ref 4 1 (by decide +kernel))⟩
  · exact ⟨RX4, TX4, 9, tyX4, rfl, by decide, rfl, tg_in 104 (by decide +kernel) (by decide +kernel), in_K, tyX4_ok, nmX4, (fun h => by cases h), Or.inr (sh_ref 4 2 (by decide +kernel))⟩
  · exact ⟨RX4, TX4, 9, tyX4, rfl, by decide, rfl, tg_in 105 (by decide +kernel) (by decide +kernel), in_K, tyX4_ok, nmX4, (fun h => by cases h), Or.inr (sh_ref 4 3 (by decide +kernel))⟩
  · exact ⟨RX4, TX4, 9, tyX4, rfl, by decide, rfl, tg_in 106 (by decide +kernel) (by decide +kernel), in_K, tyX4_ok, nmX4, (fun h => by cases h), Or.inr (sh_ref 4 4 (by decide +kernel))⟩
  · exact ⟨RX4, TX4, 9, tyX4, rfl, by decide, rfl, tg_in 107 (by decide +kernel) (by decide +kernel), in_K, tyX4_ok, nmX4, (fun h => by cases h), Or.inr (sh_ref 4 5 (by decide +kernel))⟩
  · exact ⟨RX4, TX4, 9, tyX4, rfl, by decide, rfl, tg_in 108 (by decide +kernel) (by decide +kernel), in_K, tyX4_ok, nmX4, (fun _ => rfl), Or.inl rfl⟩
  · exact ⟨RX4, TX4, 9, tyX4, rfl, by decide, rfl, tg_in 109 (by decide +kernel) (by decide +kernel), in_K, tyX4_ok, nmX4, (fun _ => rfl), Or.inl rfl⟩
  · exact ⟨RX4, TX4, 9, tyX4, rfl, by decide, rfl, tg_in 110 (by decide +kernel) (by decide +kernel), in_K, tyX4_ok, nmX4, (fun _ => rfl), Or.inl rfl⟩
theorem f_K_11 (f : Nat × Nat → Prop) : lk1 P_K 11 f = f (4, 0) := (rfl)
theorem f_K_17 (f : Nat × Nat → Prop) : lk1 P_K 17 f = f (4, 1) := (rfl)
theorem f_K_20 (f : Nat × Nat → Prop) : lk1 P_K 20 f = f (4, 2) := (rfl)
theorem f_K_23 (f : Nat × Nat → Prop) : lk1 P_K 23 f = f (4, 3) := (rfl)
theorem f_K_26 (f : Nat × Nat → Prop) : lk1 P_K 26 f = f (4, 4) := (rfl)
theorem f_K_29 (f : Nat × Nat → Prop) : lk1 P_K 29 f = f (4, 5) := (rfl)
theorem f_K_32 (f : Nat × Nat → Prop) : lk1 P_K 32 f = f (4, 6) := (rfl)
theorem f_K_36 (f : Nat × Nat → Prop) : lk1 P_K 36 f = f (4, 7) := (rfl)
theorem f_K_39 (f : Nat × Nat → Prop) : lk1 P_K 39 f = f (4, 8) := (rfl)
def P_L : List (Nat × Nat × Nat) := [(11, 3, 0)]
theorem P_L_ok : ∀ q ∈ P_L, FieldOK RX3 q := by
  refine List.forall_mem_cons.mpr ⟨?_, fun _ h => absurd h List.not_mem_nil⟩
  · exact ⟨RX3, TX3, 1, tyX3, rfl, by decide, rfl, tg_in 158 (by decide +kernel) (by decide +kernel), in_L, tyX3_ok, nmX3, (fun h => by cases h), Or.inr (sh_ref 3 0 (by decide +kernel))⟩
theorem f_L_11 (f : Nat × Nat → Prop) : lk1 P_L 11 f = f (3, 0) := (rfl)
def P_M : List (Nat × Nat × Nat) := [(7, 9, 1), (13, 9, 3), (17, 9, 4), (20, 9, 5), (23, 9, 6), (26, 9, 8), (29, 9, 9), (32, 9, 10), (35, 9, 11), (39, 9, 12), (42, 9, 13), (45, 9, 14), (48, 9, 15), (51, 9, 16), (54, 9, 18), (57, 9, 19), (60, 9, 20), (63, 9, 21), (66, 9, 22), (69, 9, 23), (72, 9, 24), (75, 9, 25), (78, 9, 28), (82, 9, 29), (85, 9, 30), (88, 9, 31), (91, 9, 35), (94, 9, 37), (97, 9, 39), (100, 9, 40), (103, 9, 41), (112, 9, 0), (117, 9, 2), (140, 9, 7), (160, 9, 17), (163, 9, 26), (179, 9, 32), (182, 9, 27), (230, 9, 34), (235, 9, 33), (250, 9, 36), (259, 9, 38)]
theorem P_M_ok : ∀ q ∈ P_M, FieldOK RX9 q := by
  refine List.forall_mem_cons.mpr ⟨?_, List.forall_mem_cons.mpr ⟨?_, List.forall_mem_cons.mpr ⟨?_, List.forall_mem_cons.mpr ⟨?_, List.forall_mem_cons.mpr ⟨?_, List.forall_mem_cons.mpr ⟨?_, List.forall_mem_cons.mpr ⟨?_, List.forall_mem_cons.mpr ⟨?_, List.forall_mem_cons.mpr ⟨?_, List.forall_mem_cons.mpr ⟨?_, List.forall_mem_cons.mpr ⟨?_, List.forall_mem_cons.mpr ⟨?_, List.forall_mem_cons.mpr ⟨?_, List.forall_mem_cons.mpr ⟨?_, List.forall_mem_cons.mpr ⟨?_, List.forall_mem_cons.mpr ⟨?_, List.forall_mem_cons.mpr ⟨?_, List.forall_mem_cons.mpr ⟨?_, List.forall_mem_cons.mpr ⟨?_, List.forall_mem_cons.mpr ⟨?_, List.forall_mem_cons.mpr ⟨?_, List.forall_mem_cons.mpr ⟨?_, List.forall_mem_cons.mpr ⟨?_, List.forall_mem_cons.mpr ⟨?_, List.forall_mem_cons.mpr ⟨?_, List.forall_mem_cons.mpr ⟨?_, List.forall_mem_cons.mpr ⟨?_, List.forall_mem_cons.mpr ⟨?_, List.forall_mem_cons.mpr ⟨?_, List.forall_mem_cons.mpr ⟨?_, List.forall_mem_cons.mpr ⟨?_, List.forall_mem_cons.mpr ⟨?_, List.forall_mem_cons.mpr ⟨?_, List.forall_mem_cons.mpr ⟨?_, List.forall_mem_cons.mpr ⟨?_, List.forall_mem_cons.mpr ⟨?_, List.forall_mem_cons.mpr ⟨?_, List.forall_mem_cons.mpr ⟨?_, List.forall_mem_cons.mpr ⟨?_, List.forall_mem_cons.mpr ⟨?_, List.forall_mem_cons.mpr ⟨?_, List.forall_mem_cons.mpr ⟨?_, fun _ h => absurd h List.not_mem_nil⟩⟩⟩⟩⟩⟩⟩⟩⟩⟩⟩⟩⟩⟩⟩⟩⟩⟩⟩⟩⟩⟩⟩⟩⟩⟩⟩⟩⟩⟩⟩⟩⟩⟩⟩⟩⟩⟩⟩⟩⟩⟩
  · exact ⟨RX9, TX9, 42, tyX9, rfl, by decide, rfl, tg_in 860 (by decide +kernel) (by decide +kernel), in_M, tyX9_ok, nmX9, (fun _ => rfl), Or.inl rfl⟩
  · exact ⟨RX9, TX9, 42, tyX9, rfl, by decide, rfl, tg_in 862 (by decide +kernel) (by decide +kernel), in_M, tyX9_ok, nmX9, (fun h => by cases h), Or.inr (sh_ref 9 3 (by decide +kernel))⟩
  · exact ⟨RX9, TX9, 42, tyX9, rfl, by decide, rfl, tg_in 863 (by decide +kernel) (by decide +kernel), in_M, tyX9_ok, nmX9, (fun h => by cases h), Or.inr (sh_ref 9 4 (by decide +kernel))⟩
  · exact ⟨RX9, TX9, 42, tyX9, rfl, by decide, rfl, tg_in 864 (by decide +kernel) (by decide +kernel), in_M, tyX9_ok, nmX9, (fun _ => rfl), Or.inl rfl⟩
  · exact ⟨RX9, TX9, 42, tyX9, rfl, by decide, rfl, tg_in 865 (by decide +kernel) (by decide +kernel), in_M, tyX9_ok, nmX9, (fun h => by cases h), Or.inr (sh_ref 9 6 (by decide +kernel))⟩
  · exact ⟨RX9, TX9, 42, tyX9, rfl, by decide, rfl, tg_in 867 (by decide +kernel) (by decide +kernel), in_M, tyX9_ok, nmX9, (fun h => by cases h), Or.inr (sh_ref 9 8 (by decide +kernel))⟩
  · exact ⟨RX9, TX9, 42, tyX9, rfl, by decide, rfl, tg_in 868 (by decide +kernel) (by decide +kernel), in_M, tyX9_ok, nmX9, (fun h => by cases h), Or.inr (sh_ref 9 9 (by decide +kernel))⟩
  · exact ⟨RX9, TX9, 42, tyX9, rfl, by decide, rfl, tg_in 869 (by decide +kernel) (by decide +kernel), in_M, tyX9_ok, nmX9, (fun h => by cases h), Or.inr (sh_ref 9 10 (by decide +kernel))⟩
  · exact ⟨RX9, TX9, 42, tyX9, rfl, by decide, rfl, tg_in 870 (by decide +kernel) (by decide +kernel), in_M, tyX9_ok, nmX9, (fun h => by cases h), Or.inr (sh_ref 9 11 (by decide +kernel))⟩
  · exact ⟨RX9, TX9, 42, tyX9, rfl, by decide, rfl, tg_in 871 (by decide +kernel) (by decide +kernel), in_M, tyX9_ok, nmX9, (fun h => by cases h), Or.inr (sh_ref 9 12 (by decide +kernel))⟩
  · exact ⟨RX9, TX9, 42, tyX9, rfl, by decide, rfl, tg_in 872 (by decide +kernel) (by decide +kernel), in_M, tyX9_ok, nmX9, (fun h => by cases h), Or.inr (sh_ref 9 13 (by decide +kernel))⟩
  · exact ⟨RX9, TX9, 42, tyX9, rfl, by decide, rfl, tg_in 873 (by decide +kernel) (by decide +kernel), in_M, tyX9_ok, nmX9, (fun h => by cases h), Or.inr (sh_ref 9 14 (by decide +kernel))⟩
  · exact ⟨RX9, TX9, 42, tyX9, rfl, by decide, rfl, tg_in 874 (by decide +kernel) (by decide +kernel), in_M, tyX9_ok, nmX9, (fun h => by cases h), Or.inr (sh_ref 9 15 (by decide +kernel))⟩
  · exact ⟨RX9, TX9, 42, tyX9, rfl, by decide, rfl, tg_in 875 (by decide +kernel) (by decide +kernel), in_M, tyX9_ok, nmX9, (fun h => by cases h), Or.inr (sh_ref 9 16 (by decide +kernel))⟩
  · exact ⟨RX9, TX9, 42, tyX9, rfl, by decide, rfl, tg_in 877 (by decide +kernel) (by decide +kernel), in_M, tyX9_ok, nmX9, (fun h => by cases h), Or.inr (sh_ref 9 18 (by decide +kernel))⟩
  · exact ⟨RX9, TX9, 42, tyX9, rfl, by decide, rfl, tg_in 878 (by decide +kernel) (by decide +kernel), in_M, tyX9_ok, nmX9, (fun h => by cases h), Or.inr (sh_ref 9 19 (by decide +kernel))⟩
  · exact ⟨RX9, TX9, 42, tyX9, rfl, by decide, rfl, tg_in 879 (by decide +kernel) (by decide +kernel), in_M, tyX9_ok, nmX9, (fun h => by cases h), Or.inr (sh_ref 9 20 (by decide +kernel))⟩
  · exact ⟨RX9, TX9, 42, tyX9, rfl, by decide, rfl, tg_in 880 (by decide +kernel) (by decide +kernel), in_M, tyX9_ok, nmX9, (fun h => by cases h), Or.inr (sh_ref 9 21 (by decide +kernel))⟩
  · exact ⟨RX9, TX9, 42, tyX9, rfl, by decide, rfl, tg_in 881 (by decide +kernel) (by decide +kernel), in_M, tyX9_ok, nmX9, (fun h => by cases h), Or.inr (sh_ref 9 22 (by decide +kernel))⟩
  · exact ⟨RX9, TX9, 42, tyX9, rfl, by decide, rfl, tg_in 882 (by decide +kernel) (by decide +kernel), in_M, tyX9_ok, nmX9, (fun h => by cases h), Or.inr (sh_ref 9 23 (by decide +kernel))⟩
  · exact ⟨RX9, TX9, 42, tyX9, rfl, by decide, rfl, tg_in 883 (by decide +kernel) (by decide +kernel), in_M, tyX9_ok, nmX9, (fun h => by cases h), Or.inr (sh_ref 9 24 (by decide +kernel))⟩
  · exact ⟨RX9, TX9, 42, tyX9, rfl, by decide, rfl, tg_in 884 (by decide +kernel) (by decide +kernel), in_M, tyX9_ok, nmX9, (fun h => by cases h), Or.inr (sh_ref 9 25 (by decide +kernel))⟩
  · exact ⟨RX9, TX9, 42, tyX9, rfl, by decide, rfl, tg_in 887 (by decide +kernel) (by decide +kernel), in_M, tyX9_ok, nmX9, (fun h => by cases h), Or.inr (sh_ref 9 28 (by decide +kernel))⟩
  · exact ⟨RX9, TX9, 42, tyX9, rfl, by decide, rfl, tg_in 888 (by decide +kernel) (by decide +kernel), in_M, tyX9_ok, nmX9, (fun h => by cases h), Or.inr (sh_ref 9 29 (by decide +kernel))⟩
  · exact ⟨RX9, TX9, 42, tyX9, rfl, by decide, rfl, tg_in 889 (by decide +kernel) (by decide +kernel), in_M, tyX9_ok, nmX9, (fun h => by cases h), Or.inr (sh_ref 9 30 (by decide +kernel))⟩
  · exact ⟨RX9, TX9, 42, tyX9, rfl, by decide, rfl, tg_in 890 (by decide +kernel) (by decide +kernel), in_M, tyX9_ok, nmX9, (fun h => by cases h), Or.inr (sh_ref 9 31 (by decide +kernel))⟩
  · exact ⟨RX9, TX9, 42, tyX9, rfl, by decide, rfl, tg_in 894 (by decide +kernel) (by decide +kernel), in_M, tyX9_ok, nmX9, (fun h => by cases h), Or.inr (sh_ref 9 35 (by decide +kernel))⟩
  · exact ⟨RX9, TX9, 42, tyX9, rfl, by decide, rfl, tg_in 896 (by decide +kernel) (by decide +kernel), in_M, tyX9_ok, nmX9, (fun h => by cases h), Or.inr (sh_ref 9 37 (by decide +kernel))⟩
  · exact ⟨RX9, TX9, 42, tyX9, rfl, by decide, rfl, tg_in 898 (by decide +kernel) (by decide +kernel), in_M, tyX9_ok, nmX9, (fun h => by cases h), Or.inr (sh_ref 9 39 (by decide +kernel))⟩
  · exact ⟨RX9, TX9, 42, tyX9, rfl, by decide, rfl, tg_in 899 (by decide +kernel) (by decide +kernel), in_M, tyX9_ok, nmX9, (fun h => by cases h), Or.inr (sh_ref 9 40 (by decide +kernel))⟩
  · exact ⟨RX9, TX9, 42, tyX9, rfl, by decide, rfl, tg_in 900 (by decide +kernel) (by decide +kernel), in_M, tyX9_ok, nmX9, (fun h => by cases h), Or.inr (sh_ref 9 41 (by decide +kernel))⟩
  · exact ⟨RX9, TX9, 42, tyX9, rfl, by decide, rfl, tg_in 859 (by decide +kernel) (by decide +kernel), in_M, tyX9_ok, nmX9, (fun _ => rfl), Or.inl rfl⟩
  · exact ⟨RX9, TX9, 42, tyX9, rfl, by decide, rfl, tg_in 861 (by decide +kernel) (by decide +kernel), in_M, tyX9_ok, nmX9, (fun _ => rfl), Or.inl rfl⟩
  · exact ⟨RX9, TX9, 42, tyX9, rfl, by decide, rfl, tg_in 866 (by decide +kernel) (by decide +kernel), in_M, tyX9_ok, nmX9, (fun _ => rfl), Or.inl rfl⟩
  · exact ⟨RX9, TX9, 42, tyX9, rfl, by decide, rfl, tg_in 876 (by decide +kernel) (by decide +kernel), in_M, tyX9_ok, nmX9, (fun _ => rfl), Or.inl rfl⟩
  · exact ⟨RX9, TX9, 42, tyX9, rfl, by decide, rfl, tg_in 885 (by decide +kernel) (by decide +kernel), in_M, tyX9_ok, nmX9, (fun _ => rfl), Or.inl rfl⟩
  · exact ⟨RX9, TX9, 42, tyX9, rfl, by decide, rfl, tg_in 891 (by decide +kernel) (by decide +kernel), in_M, tyX9_ok, nmX9, (fun _ => rfl), Or.inl rfl⟩
  · exact ⟨RX9, TX9, 42, tyX9, rfl, by decide, rfl, tg_in 886 (by decide +kernel) (by decide +kernel), in_M, tyX9_ok, nmX9, (fun _ => rfl), Or.inl rfl⟩
  · exact ⟨RX9, TX9, 42, tyX9, rfl, by decide, rfl, tg_in 893 (by decide +kernel) (by decide +kernel), in_M, tyX9_ok, nmX9, (fun _ => rfl), Or.inl rfl⟩
  · exact ⟨RX9, TX9, 42, tyX9, rfl, by decide, rfl, tg_in 892 (by decide +kernel) (by decide +kernel), in_M, tyX9_ok, nmX9, (fun _ => rfl), Or.inl rfl⟩
  · exact ⟨RX9, TX9, 42, tyX9, rfl, by decide, rfl, tg_in 895 (by decide +kernel) (by decide +kernel), in_M, tyX9_ok, nmX9, (fun _ => rfl), Or.inl rfl⟩
  · exact ⟨RX9, TX9, 42, tyX9, rfl, by decide, rfl, tg_in 897 (by decide +kernel) (by decide +kernel), in_M, tyX9_ok, nmX9, (fun _ => rfl), Or.inl rfl⟩
theorem f_M_7 (f : Nat × Nat → Prop) : lk1 P_M 7 f = f (9, 1) := (rfl)
theorem f_M_13 (f : Nat × Nat → Prop) : lk1 P_M 13 f = f (9, 3) := (rfl)
theorem f_M_17 (f : Nat × Nat → Prop) : lk1 P_M 17 f = f (9, 4) := (rfl)
theorem f_M_20 (f : Nat × Nat → Prop) : lk1 P_M 20 f = f (9, 5) := (rfl)
theorem f_M_23 (f : Nat × Nat → Prop) : lk1 P_M 23 f = f (9, 6) := (rfl)
theorem f_M_26 (f : Nat × Nat → Prop) : lk1 P_M 26 f = f (9, 8) := (rfl)
theorem f_M_29 (f : Nat × Nat → Prop) : lk1 P_M 29 f = f (9, 9) := (rfl)
theorem f_M_32 (f : Nat × Nat → Prop) : lk1 P_M 32 f = f (9, 10) := (rfl)
theorem f_M_35 (f : Nat × Nat → Prop) : lk1 P_M 35 f = f (9, 11) := (rfl)
theorem f_M_39 (f : Nat × Nat → Prop) : lk1 P_M 39 f = f (9, 12) := (rfl)
theorem f_M_42 (f : Nat × Nat → Prop) : lk1 P_M 42 f = f (9, 13) := (rfl)
theorem f_M_45 (f : Nat × Nat → Prop) : lk1 P_M 45 f = f (9, 14) := (rfl)
theorem f_M_48 (f : Nat × Nat → Prop) : lk1 P_M 48 f = f (9, 15) := (rfl)
theorem f_M_51 (f : Nat × Nat → Prop) : lk1 P_M 51 f = f (9, 16) := (rfl)
theorem f_M_54 (f : Nat × Nat → Prop) : lk1 P_M 54 f = f (9, 18) := (rfl)
theorem f_M_57 (f : Nat × Nat → Prop) : lk1 P_M 57 f = f (9, 19) := (rfl)
theorem f_M_60 (f : Nat × Nat → Prop) : lk1 P_M 60 f = f (9, 20) := (rfl)
theorem f_M_63 (f : Nat × Nat → Prop) : lk1 P_M 63 f = f (9, 21) := (rfl)
theorem f_M_66 (f : Nat × Nat → Prop) : lk1 P_M 66 f = f (9, 22) := (rfl)
theorem f_M_69 (f : Nat × Nat → Prop) : lk1 P_M 69 f = f (9, 23) := (rfl)
theorem f_M_72 (f : Nat × Nat → Prop) : lk1 P_M 72 f = f (9, 24) := (rfl)
theorem f_M_75 (f : Nat × Nat → Prop) : lk1 P_M 75 f = f (9, 25) := (rfl)
theorem f_M_78 (f : Nat × Nat → Prop) : lk1 P_M 78 f = f (9, 28) := (rfl)
theorem f_M_82 (f : Nat × Nat → Prop) : lk1 P_M 82 f = f (9, 29) := (rfl)
theorem f_M_85 (f : Nat × Nat → Prop) : lk1 P_M 85 f = f (9, 30) := (rfl)
theorem f_M_88 (f : Nat × Nat → Prop) : lk1 P_M 88 f = f (9, 31) := (rfl)
theorem f_M_91 (f : Nat × Nat → Prop) : lk1 P_M 91 f = f (9, 35) := (rfl)
theorem f_M_94 (f : Nat × Nat → Prop) : lk1 P_M 94 f = f (9, 37) := (rfl)
theorem f_M_97 (f : Nat × Nat → Prop) : lk1 P_M 97 f = f (9, 39) := (rfl)
theorem f_M_100 (f : Nat × Nat → Prop) : lk1 P_M 100 f = f (9, 40) := (rfl)
theorem f_M_103 (f : Nat × Nat → Prop) : lk1 P_M 103 f = f (9, 41) := (rfl)
theorem f_M_112 (f : Nat × Nat → Prop) : lk1 P_M 112 f = f (9, 0) := (rfl)
theorem f_M_117 (f : Nat × Nat → Prop) : lk1 P_M 117 f = f (9, 2) := (rfl)
theorem f_M_140 (f : Nat × Nat → Prop) : lk1 P_M 140 f = f (9, 7) := (rfl)
theorem f_M_160 (f : Nat × Nat → Prop) : lk1 P_M 160 f = f (9, 17) := (rfl)
theorem f_M_163 (f : Nat × Nat → Prop) : lk1 P_M 163 f = f (9, 26) := (rfl)
theorem f_M_179 (f : Nat × Nat → Prop) : lk1 P_M 179 f = f (9, 32) := (rfl)
theorem f_M_182 (f : Nat × Nat → Prop) : lk1 P_M 182 f = f (9, 27) := (rfl)
theorem f_M_230 (f : Nat × Nat → Prop) : lk1 P_M 230 f = f (9, 34) := (rfl)
theorem f_M_235 (f : Nat × Nat → Prop) : lk1 P_M 235 f = f (9, 33) := (rfl)
theorem f_M_250 (f : Nat × Nat → Prop) : lk1 P_M 250 f = f (9, 36) := (rfl)
theorem f_M_259 (f : Nat × Nat → Prop) : lk1 P_M 259 f = f (9, 38) := (rfl)
def P_S : List (Nat × Nat × Nat) := [(11, 5, 0), (15, 5, 1), (18, 5, 2), (22, 5, 3), (25, 5, 4), (28, 5, 5)]
theorem P_S_ok : ∀ q ∈ P_S, FieldOK RX5 q := by
  refine List.forall_mem_cons.mpr ⟨?_, List.forall_mem_cons.mpr ⟨?_, List.forall_mem_cons.mpr ⟨?_, List.forall_mem_cons.mpr ⟨?_, List.forall_mem_cons.mpr ⟨?_, List.forall_mem_cons.mpr ⟨?_, fun _ h => absurd h List.not_mem_nil⟩⟩⟩⟩⟩⟩
  · exact ⟨RX5, TX5, 6, tyX5, rfl, by decide, rfl, tg_in 169 (by decide +kernel) (by decide +kernel), in_S, tyX5_ok, nmX5, (fun h => by cases h), Or.inr (sh_ref 5 0 (by decide +kernel))⟩
  · exact ⟨RX5, TX5, 6, tyX5, rfl, by decide, rfl, tg_in 170 (by decide +kernel) (by decide +kernel), in_S, tyX5_ok, nmX5, (fun h => by cases h), Or.inr (sh_ref 5 1 (by decide +kernel))⟩
  · exact ⟨RX5, TX5, 6, tyX5, rfl, by decide, rfl, tg_in 171 (by decide +kernel) (by decide +kernel), in_S, tyX5_ok, nmX5, (fun _ => rfl), Or.inl rfl⟩
  · exact ⟨RX5, TX5, 6, tyX5, rfl, by decide, rfl, tg_in 172 (by decide +kernel) (by decide +kernel), in_S, tyX5_ok, nmX5, (fun _ => rfl), Or.inl rfl⟩
  · exact ⟨RX5, TX5, 6, tyX5, rfl, by decide, rfl, tg_in 173 (by decide +kernel) (by decide +kernel), in_S, tyX5_ok, nmX5, (fun _ => rfl), Or.inl rfl⟩
  · exact ⟨RX5, TX5, 6, tyX5, rfl, by decide, rfl, tg_in 174 (by decide +kernel) (by decide +kernel), in_S, tyX5_ok, nmX5, (fun _ => rfl), Or.inl rfl⟩
theorem f_S_11 (f : Nat × Nat → Prop) : lk1 P_S 11 f = f (5, 0) := (rfl)
theorem f_S_15 (f : Nat × Nat → Prop) : lk1 P_S 15 f = f (5, 1) := (rfl)
theorem f_S_18 (f : Nat × Nat → Prop) : lk1 P_S 18 f = f (5, 2) := (rfl)
theorem f_S_22 (f : Nat × Nat → Prop) : lk1 P_S 22 f = f (5, 3) := (rfl)
theorem f_S_25 (f : Nat × Nat → Prop) : lk1 P_S 25 f = f (5, 4) := (rfl)
theorem f_S_28 (f : Nat × Nat → Prop) : lk1 P_S 28 f = f (5, 5) := (rfl)
def P_T : List (Nat × Nat × Nat) := [(9, 1, 0), (15, 1, 1)]
theorem P_T_ok : ∀ q ∈ P_T, FieldOK RX1 q := by
  refine List.forall_mem_cons.mpr ⟨?_, List.forall_mem_cons.mpr ⟨?_, fun _ h => absurd h List.not_mem_nil⟩⟩
  · exact ⟨RX1, TX1, 2, tyX1, rfl, by decide, rfl, tg_in 212 (by decide +kernel) (by decide +kernel), in_T, tyX1_ok, nmX1, (fun h => by cases h), Or.inr (sh_ref 1 0 (by decide +kernel))⟩
  · exact ⟨RX1, TX1, 2, tyX1, rfl, by decide, rfl, tg_in 213 (by decide +kernel) (by decide +kernel), in_T, tyX1_ok, nmX1, (fun _ => rfl), Or.inl rfl⟩
theorem f_T_9 (f : Nat × Nat → Prop) : lk1 P_T 9 f = f (1, 0) := (rfl)
theorem f_T_15 (f : Nat × Nat → Prop) : lk1 P_T 15 f = f (1, 1) := (rfl)
def P_W : List (Nat × Nat × Nat) := [(9, 7, 0), (15, 7, 1), (18, 7, 2), (21, 7, 3), (24, 7, 4)]
theorem P_W_ok : ∀ q ∈ P_W, FieldOK RX7 q := by
  refine List.forall_mem_cons.mpr ⟨?_, List.forall_mem_cons.mpr ⟨?_, List.forall_mem_cons.mpr ⟨?_, List.forall_mem_cons.mpr ⟨?_, List.forall_mem_cons.mpr ⟨?_, fun _ h => absurd h List.not_mem_nil⟩⟩⟩⟩⟩
  · exact ⟨RX7, TX7, 5, tyX7, rfl, by decide, rfl, tg_in 136 (by decide +kernel) (by decide +kernel), in_W, tyX7_ok, nmX7, (fun h => by cases h), Or.inr (sh_ref 7 0 (by decide +kernel))⟩
  · exact ⟨RX7, TX7, 5, tyX7, rfl, by decide, rfl, tg_in 137 (by decide +kernel) (by decide +kernel), in_W, tyX7_ok, nmX7, (fun h => by cases h), Or.inr (sh_ref 7 1 (by decide +kernel))⟩
  · exact ⟨RX7, TX7, 5, tyX7, rfl, by decide, rfl, tg_in 138 (by decide +kernel) (by decide +kernel), in_W, tyX7_ok, nmX7, (fun h => by cases h), Or.inr (sh_ref 7 2 (by decide +kernel))⟩
  · exact ⟨RX7, TX7, 5, tyX7, rfl, by decide, rfl, tg_in 139 (by decide +kernel) (by decide +kernel), in_W, tyX7_ok, nmX7, (fun h => by cases h), Or.inr (sh_ref 7 3 (by decide +kernel))⟩
  · exact ⟨RX7, TX7, 5, tyX7, rfl, by decide, rfl, tg_in 140 (by decide +kernel) (by decide +kernel), in_W, tyX7_ok, nmX7, (fun _ => rfl), Or.inl rfl⟩
theorem f_W_9 (f : Nat × Nat → Prop) : lk1 P_W 9 f = f (7, 0) := (rfl)
theorem f_W_15 (f : Nat × Nat → Prop) : lk1 P_W 15 f = f (7, 1) := (rfl)
theorem f_W_18 (f : Nat × Nat → Prop) : lk1 P_W 18 f = f (7, 2) := (rfl)
theorem f_W_21 (f : Nat × Nat → Prop) : lk1 P_W 21 f = f (7, 3) := (rfl)
theorem f_W_24 (f : Nat × Nat → Prop) : lk1 P_W 24 f = f (7, 4) := (rfl)
def P_X : List (Nat × Nat × Nat) := [(10, 8, 0), (19, 8, 1), (26, 8, 2), (33, 8, 3), (37, 8, 4), (43, 8, 5), (50, 8, 6), (57, 8, 7), (64, 8, 8), (68, 8, 9), (71, 8, 10), (102, 8, 11)]
theorem P_X_ok : ∀ q ∈ P_X, FieldOK RX8 q := by
  refine List.forall_mem_cons.mpr ⟨?_, List.forall_mem_cons.mpr ⟨?_, List.forall_mem_cons.mpr ⟨?_, List.forall_mem_cons.mpr ⟨?_, List.forall_mem_cons.mpr ⟨?_, List.forall_mem_cons.mpr ⟨?_, List.forall_mem_cons.mpr ⟨?_, List.forall_mem_cons.mpr ⟨?_, List.forall_mem_cons.mpr ⟨?_, List.forall_mem_cons.mpr ⟨?_, List.forall_mem_cons.mpr ⟨?_, List.forall_mem_cons.mpr ⟨?_, fun _ h => absurd h List.not_mem_nil⟩⟩⟩⟩⟩⟩⟩⟩⟩⟩⟩⟩
  · exact ⟨RX8, TX8, 12, tyX8, rfl, by decide, rfl, tg_in 243 (by decide +kernel) (by decide +kernel), in_X, tyX8_ok, nmX8, (fun h => by cases h), Or.inr (sh_ref 8 0 (by decide +kernel))⟩
  · exact ⟨RX8, TX8, 12, tyX8, rfl, by decide, rfl, tg_in 244 (by decide +kernel) (by decide +kernel), in_X, tyX8_ok, nmX8, (fun h => by cases h), Or.inr (sh_ref 8 1 (by decide +kernel))⟩
  · exact ⟨RX8, TX8, 12, tyX8, rfl, by decide, rfl, tg_in 245 (by decide +kernel) (by decide +kernel), in_X, tyX8_ok, nmX8, (fun h => by cases h), Or.inr (sh_ref 8 2 (by decide +kernel))⟩
  · exact ⟨RX8, TX8, 12, tyX8, rfl, by decide, rfl, tg_in 246 (by decide +kernel) (by decide +kernel), in_X, tyX8_ok, nmX8, (fun h => by cases h), Or.inr (sh_ref 8 3 (by decide +kernel))⟩
  · exact ⟨RX8, TX8, 12, tyX8, rfl, by decide, rfl, tg_in 247 (by decide +kernel) (by decide +kernel), in_X, tyX8_ok, nmX8, (fun h => by cases h), Or.inr (sh_ref 8 4 (by decide +kernel))⟩
  · exact ⟨RX8, TX8, 12, tyX8, rfl, by decide, rfl, tg_in 248 (by decide +kernel) (by decide +kernel), in_X, tyX8_ok, nmX8, (fun h => by cases h), Or.inr (sh_ref 8 5 (by decide +kernel))⟩
  · exact ⟨RX8, TX8, 12, tyX8, rfl, by decide, rfl, tg_in 249 (by decide +kernel) (by decide +kernel), in_X, tyX8_ok, nmX8, (fun h => by cases h), Or.inr (sh_ref 8 6 (by decide +kernel))⟩
  · exact ⟨RX8, TX8, 12, tyX8, rfl, by decide, rfl, tg_in 250 (by decide +kernel) (by decide +kernel), in_X, tyX8_ok, nmX8, (fun h => by cases h), Or.inr (sh_ref 8 7 (by decide +kernel))⟩
  · exact ⟨RX8, TX8, 12, tyX8, rfl, by decide, rfl, tg_in 251 (by decide +kernel) (by decide +kernel), in_X, tyX8_ok, nmX8, (fun h => by cases h), Or.inr (sh_ref 8 8 (by decide +kernel))⟩
  · exact ⟨RX8, TX8, 12, tyX8, rfl, by decide, rfl, tg_in 252 (by decide +kernel) (by decide +kernel), in_X, tyX8_ok, nmX8, (fun h => by cases h), Or.inr (sh_ref 8 9 (by decide +kernel))⟩
  · exact ⟨RX8, TX8, 12, tyX8, rfl, by decide, rfl, tg_in 253 (by decide +kernel) (by decide +kernel), in_X, tyX8_ok, nmX8, (fun h => by cases h), Or.inr (sh_ref 8 10 (by decide +kernel))⟩
  · exact ⟨RX8, TX8, 12, tyX8, rfl, by decide, rfl, tg_in 254 (by decide +kernel) (by decide +kernel), in_X, tyX8_ok, nmX8, (fun _ => rfl), Or.inl rfl⟩
theorem f_X_10 (f : Nat × Nat → Prop) : lk1 P_X 10 f = f (8, 0) := (rfl)
theorem f_X_19 (f : Nat × Nat → Prop) : lk1 P_X 19 f = f (8, 1) := (rfl)
theorem f_X_26 (f : Nat × Nat → Prop) : lk1 P_X 26 f = f (8, 2) := (rfl)
theorem f_X_33 (f : Nat × Nat → Prop) : lk1 P_X 33 f = f (8, 3) := (rfl)
theorem f_X_37 (f : Nat × Nat → Prop) : lk1 P_X 37 f = f (8, 4) := (rfl)
theorem f_X_43 (f : Nat × Nat → Prop) : lk1 P_X 43 f = f (8, 5) := (rfl)
theorem f_X_50 (f : Nat × Nat → Prop) : lk1 P_X 50 f = f (8, 6) := (rfl)
theorem f_X_57 (f : Nat × Nat → Prop) : lk1 P_X 57 f = f (8, 7) := (rfl)
theorem f_X_64 (f : Nat × Nat → Prop) : lk1 P_X 64 f = f (8, 8) := (rfl)
theorem f_X_68 (f : Nat × Nat → Prop) : lk1 P_X 68 f = f (8, 9) := (rfl)
theorem f_X_71 (f : Nat × Nat → Prop) : lk1 P_X 71 f = f (8, 10) := (rfl)
theorem f_X_102 (f : Nat × Nat → Prop) : lk1 P_X 102 f = f (8, 11) := (rfl)
def P_JA : List (Nat × Nat × Nat) := []
def P_JM : List (Nat × Nat × Nat) := []
def P_JI : List (Nat × Nat × Nat) := []
def P_JL : List (Nat × Nat × Nat) := []
def P_V : List (Nat × Nat × Nat) := []
def Q_B : List (Nat × Int) := []
theorem Q_B_ok : ∀ q ∈ Q_B, ConstOK RX0 q := by
  refine fun _ h => absurd h List.not_mem_nil
def Q_T : List (Nat × Int) := [(100049, 31)]
theorem Q_T_ok : ∀ q ∈ Q_T, ConstOK RX1 q := by
  refine List.forall_mem_cons.mpr ⟨?_, fun _ h => absurd h List.not_mem_nil⟩
  · exact ⟨fun h => absurd h (by decide), fun _ => tg_in 852 (by decide +kernel) (by decide +kernel)⟩
theorem c_T_100049 (f : Int → Prop) : lk1 Q_T 100049 f = f 31 := (rfl)
def Q_C : List (Nat × Int) := []
theorem Q_C_ok : ∀ q ∈ Q_C, ConstOK RX2 q := by
  refine fun _ h => absurd h List.not_mem_nil
def Q_L : List (Nat × Int) := [(100035, -1), (100037, 2)]
theorem Q_L_ok : ∀ q ∈ Q_L, ConstOK RX3 q := by
  refine List.forall_mem_cons.mpr ⟨?_, List.forall_mem_cons.mpr ⟨?_, fun _ h => absurd h List.not_mem_nil⟩⟩
  · exact ⟨fun h => absurd h (by decide), fun _ => tg_in 528 (by decide +kernel) (by decide +kernel)⟩
  · exact ⟨fun h => absurd h (by decide), fun _ => tg_in 537 (by decide +kernel) (by decide +kernel)⟩
theorem c_L_100035 (f : Int → Prop) : lk1 Q_L 100035 f = f (-1) := (rfl)
theorem c_L_100037 (f : Int → Prop) : lk1 Q_L 100037 f = f 2 := (rfl)
def Q_K : List (Nat × Int) := []
theorem Q_K_ok : ∀ q ∈ Q_K, ConstOK RX4 q := by
  refine fun _ h => absurd h List.not_mem_nil
def Q_S : List (Nat × Int) := []
theorem Q_S_ok : ∀ q ∈ Q_S, ConstOK RX5 q := by
  refine fun _ h => absurd h List.not_mem_nil
def Q_G : List (Nat × Int) := []
theorem Q_G_ok : ∀ q ∈ Q_G, ConstOK RX6 q := by
  refine fun _ h => absurd h List.not_mem_nil
def Q_W : List (Nat × Int) := [(100064, -1)]
theorem Q_W_ok : ∀ q ∈ Q_W, ConstOK RX7 q := by
  refine List.forall_mem_cons.mpr ⟨?_, fun _ h => absurd h List.not_mem_nil⟩
  · exact ⟨fun h => absurd h (by decide), fun _ => tg_in 506 (by decide +kernel) (by decide +kernel)⟩
theorem c_W_100064 (f : Int → Prop) : lk1 Q_W 100064 f = f (-1) := (rfl)
def Q_X : List (Nat × Int) := [(175, 1000000), (100144, -2), (100270, 17), (100272, 31)]
theorem Q_X_ok : ∀ q ∈ Q_X, ConstOK RX8 q := by
  refine List.forall_mem_cons.mpr ⟨?_, List.forall_mem_cons.mpr ⟨?_, List.forall_mem_cons.mpr ⟨?_, List.forall_mem_cons.mpr ⟨?_, fun _ h => absurd h List.not_mem_nil⟩⟩⟩⟩
  · exact ⟨fun _ => tg_in 588 (by decide +kernel) (by decide +kernel), fun h => absurd h (by decide)⟩
  · exact ⟨fun h => absurd h (by decide), fun _ => tg_in 496 (by decide +kernel) (by decide +kernel)⟩
  · exact ⟨fun h => absurd h (by decide), fun _ => tg_in 845 (by decide +kernel) (by decide +kernel)⟩
  · exact ⟨fun h => absurd h (by decide), fun _ => tg_in 846 (by decide +kernel) (by decide +kernel)⟩
theorem c_X_175 (f : Int → Prop) : lk1 Q_X 175 f = f 1000000 := (rfl)
theorem c_X_100144 (f : Int → Prop) : lk1 Q_X 100144 f = f (-2) := (rfl)
theorem c_X_100270 (f : Int → Prop) : lk1 Q_X 100270 f = f 17 := (rfl)
theorem c_X_100272 (f : Int → Prop) : lk1 Q_X 100272 f = f 31 := (rfl)
def Q_M : List (Nat × Int) := [(100106, 7), (100115, 6), (100120, -1), (100122, 5), (100124, 10), (100126, 20), (100191, 60), (100201, -2), (100207, 2), (100209, 12), (100219, 1000000), (100228, 200), (100233, 8), (100262, 4), (100264, 17), (100266, 31)]
theorem Q_M_ok : ∀ q ∈ Q_M, ConstOK RX9 q := by
  refine List.forall_mem_cons.mpr ⟨?_, List.forall_mem_cons.mpr ⟨?_, List.forall_mem_cons.mpr ⟨?_, List.forall_mem_cons.mpr ⟨?_, List.forall_mem_cons.mpr ⟨?_, List.forall_mem_cons.mpr ⟨?_, List.forall_mem_cons.mpr ⟨?_, List.forall_mem_cons.mpr ⟨?_, List.forall_mem_cons.mpr ⟨?_, List.forall_mem_cons.mpr ⟨?_, List.forall_mem_cons.mpr ⟨?_, List.forall_mem_cons.mpr ⟨?_, List.forall_mem_cons.mpr ⟨?_, List.forall_mem_cons.mpr ⟨?_, List.forall_mem_cons.mpr ⟨?_, List.forall_mem_cons.mpr ⟨?_, fun _ h => absurd h List.not_mem_nil⟩⟩⟩⟩⟩⟩⟩⟩⟩⟩⟩⟩⟩⟩⟩⟩
  · exact ⟨fun h => absurd h (by decide), fun _ => tg_in 991 (by decide +kernel) (by decide +kernel)⟩
  · exact ⟨fun h => absurd h (by decide), fun _ => tg_in 999 (by decide +kernel) (by decide +kernel)⟩
  · exact ⟨fun h => absurd h (by decide), fun _ => tg_in 1008 (by decide +kernel) (by decide +kernel)⟩
  · exact ⟨fun h => absurd h (by decide), fun _ => tg_in 1009 (by decide +kernel) (by decide +kernel)⟩
  · exact ⟨fun h => absurd h (by decide), fun _ => tg_in 1014 (by decide +kernel) (by decide +kernel)⟩
  · exact ⟨fun h => absurd h (by decide), fun _ => tg_in 1015 (by decide +kernel) (by decide +kernel)⟩
  · exact ⟨fun h => absurd h (by decide), fun _ => tg_in 1090 (by decide +kernel) (by decide +kernel)⟩
  · exact ⟨fun h => absurd h (by decide), fun _ => tg_in 1099 (by decide +kernel) (by decide +kernel)⟩
  · exact ⟨fun h => absurd h (by decide), fun _ => tg_in 1116 (by decide +kernel) (by decide +kernel)⟩
  · exact ⟨fun h => absurd h (by decide), fun _ => tg_in 1121 (by decide +kernel) (by decide +kernel)⟩
  · exact ⟨fun h => absurd h (by decide), fun _ => tg_in 1142 (by decide +kernel) (by decide +kernel)⟩
  · exact ⟨fun h => absurd h (by decide), fun _ => tg_in 1163 (by decide +kernel) (by decide +kernel)⟩
  · exact ⟨fun h => absurd h (by decide), fun _ => tg_in 1168 (by decide +kernel) (by decide +kernel)⟩
  · exact ⟨fun h => absurd h (by decide), fun _ => tg_in 1249 (by decide +kernel) (by decide +kernel)⟩
  · exact ⟨fun h => absurd h (by decide), fun _ => tg_in 1258 (by decide +kernel) (by decide +kernel)⟩
  · exact ⟨fun h => absurd h (by decide), fun _ => tg_in 1259 (by decide +kernel) (by decide +kernel)⟩
theorem c_M_100106 (f : Int → Prop) : lk1 Q_M 100106 f = f 7 := (rfl)
theorem c_M_100115 (f : Int → Prop) : lk1 Q_M 100115 f = f 6 := (rfl)
theorem c_M_100120 (f : Int → Prop) : lk1 Q_M 100120 f = f (-1) := (rfl)
theorem c_M_100122 (f : Int → Prop) : lk1 Q_M 100122 f = f 5 := (rfl)
theorem c_M_100124 (f : Int → Prop) : lk1 Q_M 100124 f = f 10 := (rfl)
theorem c_M_100126 (f : Int → Prop) : lk1 Q_M 100126 f = f 20 := (rfl)
theorem c_M_100191 (f : Int → Prop) : lk1 Q_M 100191 f = f 60 := (rfl)
theorem c_M_100201 (f : Int → Prop) : lk1 Q_M 100201 f = f (-2) := (rfl)
theorem c_M_100207 (f : Int → Prop) : lk1 Q_M 100207 f = f 2 := (rfl)
theorem c_M_100209 (f : Int → Prop) : lk1 Q_M 100209 f = f 12 := (rfl)
theorem c_M_100219 (f : Int → Prop) : lk1 Q_M 100219 f = f 1000000 := (rfl)
theorem c_M_100228 (f : Int → Prop) : lk1 Q_M 100228 f = f 200 := (rfl)
theorem c_M_100233 (f : Int → Prop) : lk1 Q_M 100233 f = f 8 := (rfl)
theorem c_M_100262 (f : Int → Prop) : lk1 Q_M 100262 f = f 4 := (rfl)
theorem c_M_100264 (f : Int → Prop) : lk1 Q_M 100264 f = f 17 := (rfl)
theorem c_M_100266 (f : Int → Prop) : lk1 Q_M 100266 f = f 31 := (rfl)
def Q_JA : List (Nat × Int) := []
theorem Q_JA_ok : ∀ q ∈ Q_JA, ConstOK R_JA q := by
  refine fun _ h => absurd h List.not_mem_nil
def Q_JM : List (Nat × Int) := []
theorem Q_JM_ok : ∀ q ∈ Q_JM, ConstOK R_JM q := by
  refine fun _ h => absurd h List.not_mem_nil
def Q_JI : List (Nat × Int) := [(264, 65536)]
theorem Q_JI_ok : ∀ q ∈ Q_JI, ConstOK R_JI q := by
  refine List.forall_mem_cons.mpr ⟨?_, fun _ h => absurd h List.not_mem_nil⟩
  · exact ⟨fun _ => tg_in 371 (by decide +kernel) (by decide +kernel), fun h => absurd h (by decide)⟩
theorem c_JI_264 (f : Int → Prop) : lk1 Q_JI 264 f = f 65536 := (rfl)
def Q_JL : List (Nat × Int) := []
theorem Q_JL_ok : ∀ q ∈ Q_JL, ConstOK R_JL q := by
  refine fun _ h => absurd h List.not_mem_nil
def Q_V : List (Nat × Int) := [(100048, 4294967295)]
theorem Q_V_ok : ∀ q ∈ Q_V, ConstOK R_lawV q := by
  refine List.forall_mem_cons.mpr ⟨?_, fun _ h => absurd h List.not_mem_nil⟩
  · exact ⟨fun h => absurd h (by decide), fun _ => tg_in 1261 (by decide +kernel) (by decide +kernel)⟩
theorem c_V_100048 (f : Int → Prop) : lk1 Q_V 100048 f = f 4294967295 := (rfl)
theorem m_B_tellRuns {l : Launch} {own : String} {R : Room} {S : Spec} {lv x : Nat} (h : Sat l y_B_tellRuns b_B_tellRuns 3 none lv S) (hR : lv + 1 ≤ R.frames ∧ 8 + (3 + 11) + 36 * lv ≤ R.locals) (hl : Jvm.Cond.methodLink own x y_B_tellRuns ∈ TG) : CalleeOK l own R (x, 1, 2, S) :=
  Or.inr ⟨(show (1 : Nat) ≠ 1000 by decide), y_B_tellRuns, b_B_tellRuns, 3, none, lv, h, hR, hl, tg_in 290 (by decide +kernel) (by decide +kernel), tg_in 47 (by decide +kernel) (by decide +kernel), (show (y_B_tellRuns : MethodName).cls ≠ "java/lang/invoke/MethodHandle" ∧ (y_B_tellRuns : MethodName).cls ≠ "java/lang/invoke/VarHandle" ∧ (parseMethodDescriptor (y_B_tellRuns : MethodName).desc).map (fun d => d.parameters.length) = some 2 by decide +kernel), Or.inr ⟨(show 0 < (1 : Nat) by decide), tg_in 288 (by decide +kernel) (by decide +kernel), tg_in 289 (by decide +kernel) (by decide +kernel), TX0, 6, rfl⟩⟩
theorem m_B_addWord {l : Launch} {own : String} {R : Room} {S : Spec} {lv x : Nat} (h : Sat l y_B_addWord b_B_addWord 3 (some .int) lv S) (hR : lv + 1 ≤ R.frames ∧ 8 + (3 + 11) + 36 * lv ≤ R.locals) (hl : Jvm.Cond.methodLink own x y_B_addWord ∈ TG) : CalleeOK l own R (x, 1, 2, S) :=
  Or.inr ⟨(show (1 : Nat) ≠ 1000 by decide), y_B_addWord, b_B_addWord, 3, (some .int), lv, h, hR, hl, tg_in 301 (by decide +kernel) (by decide +kernel), tg_in 47 (by decide +kernel) (by decide +kernel), (show (y_B_addWord : MethodName).cls ≠ "java/lang/invoke/MethodHandle" ∧ (y_B_addWord : MethodName).cls ≠ "java/lang/invoke/VarHandle" ∧ (parseMethodDescriptor (y_B_addWord : MethodName).desc).map (fun d => d.parameters.length) = some 2 by decide +kernel), Or.inr ⟨(show 0 < (1 : Nat) by decide), tg_in 299 (by decide +kernel) (by decide +kernel), tg_in 300 (by decide +kernel) (by decide +kernel), TX0, 6, rfl⟩⟩
theorem m_B_dropWords {l : Launch} {own : String} {R : Room} {S : Spec} {lv x : Nat} (h : Sat l y_B_dropWords b_B_dropWords 2 (some .int) lv S) (hR : lv + 1 ≤ R.frames ∧ 8 + (2 + 11) + 36 * lv ≤ R.locals) (hl : Jvm.Cond.methodLink own x y_B_dropWords ∈ TG) : CalleeOK l own R (x, 1, 0, S) :=
  Or.inr ⟨(show (1 : Nat) ≠ 1000 by decide), y_B_dropWords, b_B_dropWords, 2, (some .int), lv, h, hR, hl, tg_in 309 (by decide +kernel) (by decide +kernel), tg_in 47 (by decide +kernel) (by decide +kernel), (show (y_B_dropWords : MethodName).cls ≠ "java/lang/invoke/MethodHandle" ∧ (y_B_dropWords : MethodName).cls ≠ "java/lang/invoke/VarHandle" ∧ (parseMethodDescriptor (y_B_dropWords : MethodName).desc).map (fun d => d.parameters.length) = some 0 by decide +kernel), Or.inr ⟨(show 0 < (1 : Nat) by decide), tg_in 307 (by decide +kernel) (by decide +kernel), tg_in 308 (by decide +kernel) (by decide +kernel), TX0, 6, rfl⟩⟩
theorem m_B_tellLean {l : Launch} {own : String} {R : Room} {S : Spec} {lv x : Nat} (h : Sat l y_B_tellLean b_B_tellLean 2 none lv S) (hR : lv + 1 ≤ R.frames ∧ 8 + (2 + 11) + 36 * lv ≤ R.locals) (hl : Jvm.Cond.methodLink own x y_B_tellLean ∈ TG) : CalleeOK l own R (x, 1, 1, S) :=
  Or.inr ⟨(show (1 : Nat) ≠ 1000 by decide), y_B_tellLean, b_B_tellLean, 2, none, lv, h, hR, hl, tg_in 317 (by decide +kernel) (by decide +kernel), tg_in 47 (by decide +kernel) (by decide +kernel), (show (y_B_tellLean : MethodName).cls ≠ "java/lang/invoke/MethodHandle" ∧ (y_B_tellLean : MethodName).cls ≠ "java/lang/invoke/VarHandle" ∧ (parseMethodDescriptor (y_B_tellLean : MethodName).desc).map (fun d => d.parameters.length) = some 1 by decide +kernel), Or.inr ⟨(show 0 < (1 : Nat) by decide), tg_in 315 (by decide +kernel) (by decide +kernel), tg_in 316 (by decide +kernel) (by decide +kernel), TX0, 6, rfl⟩⟩
theorem m_B_told {l : Launch} {own : String} {R : Room} {S : Spec} {lv x : Nat} (h : Sat l y_B_told b_B_told 2 (some .int) lv S) (hR : lv + 1 ≤ R.frames ∧ 8 + (2 + 11) + 36 * lv ≤ R.locals) (hl : Jvm.Cond.methodLink own x y_B_told ∈ TG) : CalleeOK l own R (x, 1, 1, S) :=
  Or.inr ⟨(show (1 : Nat) ≠ 1000 by decide), y_B_told, b_B_told, 2, (some .int), lv, h, hR, hl, tg_in 325 (by decide +kernel) (by decide +kernel), tg_in 47 (by decide +kernel) (by decide +kernel), (show (y_B_told : MethodName).cls ≠ "java/lang/invoke/MethodHandle" ∧ (y_B_told : MethodName).cls ≠ "java/lang/invoke/VarHandle" ∧ (parseMethodDescriptor (y_B_told : MethodName).desc).map (fun d => d.parameters.length) = some 1 by decide +kernel), Or.inr ⟨(show 0 < (1 : Nat) by decide), tg_in 323 (by decide +kernel) (by decide +kernel), tg_in 324 (by decide +kernel) (by decide +kernel), TX0, 6, rfl⟩⟩
theorem m_B_toldOfWord {l : Launch} {own : String} {R : Room} {S : Spec} {lv x : Nat} (h : Sat l y_B_toldOfWord b_B_toldOfWord 3 (some .int) lv S) (hR : lv + 1 ≤ R.frames ∧ 8 + (3 + 11) + 36 * lv ≤ R.locals) (hl : Jvm.Cond.methodLink own x y_B_toldOfWord ∈ TG) : CalleeOK l own R (x, 1, 1, S) :=
  Or.inr ⟨(show (1 : Nat) ≠ 1000 by decide), y_B_toldOfWord, b_B_toldOfWord, 3, (some .int), lv, h, hR, hl, tg_in 329 (by decide +kernel) (by decide +kernel), tg_in 47 (by decide +kernel) (by decide +kernel), (show (y_B_toldOfWord : MethodName).cls ≠ "java/lang/invoke/MethodHandle" ∧ (y_B_toldOfWord : MethodName).cls ≠ "java/lang/invoke/VarHandle" ∧ (parseMethodDescriptor (y_B_toldOfWord : MethodName).desc).map (fun d => d.parameters.length) = some 1 by decide +kernel), Or.inr ⟨(show 0 < (1 : Nat) by decide), tg_in 328 (by decide +kernel) (by decide +kernel), tg_in 0 (by decide +kernel) (by decide +kernel), TX0, 6, rfl⟩⟩
theorem m_B_memory {l : Launch} {own : String} {R : Room} {S : Spec} {lv x : Nat} (h : Sat l y_B_memory b_B_memory 3 (some .int) lv S) (hR : lv + 1 ≤ R.frames ∧ 8 + (3 + 11) + 36 * lv ≤ R.locals) (hl : Jvm.Cond.methodLink own x y_B_memory ∈ TG) : CalleeOK l own R (x, 1, 0, S) :=
  Or.inr ⟨(show (1 : Nat) ≠ 1000 by decide), y_B_memory, b_B_memory, 3, (some .int), lv, h, hR, hl, tg_in 345 (by decide +kernel) (by decide +kernel), tg_in 47 (by decide +kernel) (by decide +kernel), (show (y_B_memory : MethodName).cls ≠ "java/lang/invoke/MethodHandle" ∧ (y_B_memory : MethodName).cls ≠ "java/lang/invoke/VarHandle" ∧ (parseMethodDescriptor (y_B_memory : MethodName).desc).map (fun d => d.parameters.length) = some 0 by decide +kernel), Or.inr ⟨(show 0 < (1 : Nat) by decide), tg_in 343 (by decide +kernel) (by decide +kernel), tg_in 344 (by decide +kernel) (by decide +kernel), TX0, 6, rfl⟩⟩
theorem m_B_emptyKey {l : Launch} {own : String} {R : Room} {S : Spec} {lv x : Nat} (h : Sat l y_B_emptyKey b_B_emptyKey 1 (some .int) lv S) (hR : lv + 1 ≤ R.frames ∧ 8 + (1 + 11) + 36 * lv ≤ R.locals) (hl : Jvm.Cond.methodLink own x y_B_emptyKey ∈ TG) : CalleeOK l own R (x, 1, 0, S) :=
  Or.inr ⟨(show (1 : Nat) ≠ 1000 by decide), y_B_emptyKey, b_B_emptyKey, 1, (some .int), lv, h, hR, hl, tg_in 355 (by decide +kernel) (by decide +kernel), tg_in 47 (by decide +kernel) (by decide +kernel), (show (y_B_emptyKey : MethodName).cls ≠ "java/lang/invoke/MethodHandle" ∧ (y_B_emptyKey : MethodName).cls ≠ "java/lang/invoke/VarHandle" ∧ (parseMethodDescriptor (y_B_emptyKey : MethodName).desc).map (fun d => d.parameters.length) = some 0 by decide +kernel), Or.inr ⟨(show 0 < (1 : Nat) by decide), tg_in 353 (by decide +kernel) (by decide +kernel), tg_in 354 (by decide +kernel) (by decide +kernel), TX0, 6, rfl⟩⟩
theorem m_B_keyAfter {l : Launch} {own : String} {R : Room} {S : Spec} {lv x : Nat} (h : Sat l y_B_keyAfter b_B_keyAfter 7 (some .int) lv S) (hR : lv + 1 ≤ R.frames ∧ 8 + (7 + 11) + 36 * lv ≤ R.locals) (hl : Jvm.Cond.methodLink own x y_B_keyAfter ∈ TG) : CalleeOK l own R (x, 1, 3, S) :=
  Or.inr ⟨(show (1 : Nat) ≠ 1000 by decide), y_B_keyAfter, b_B_keyAfter, 7, (some .int), lv, h, hR, hl, tg_in 363 (by decide +kernel) (by decide +kernel), tg_in 47 (by decide +kernel) (by decide +kernel), (show (y_B_keyAfter : MethodName).cls ≠ "java/lang/invoke/MethodHandle" ∧ (y_B_keyAfter : MethodName).cls ≠ "java/lang/invoke/VarHandle" ∧ (parseMethodDescriptor (y_B_keyAfter : MethodName).desc).map (fun d => d.parameters.length) = some 3 by decide +kernel), Or.inr ⟨(show 0 < (1 : Nat) by decide), tg_in 361 (by decide +kernel) (by decide +kernel), tg_in 362 (by decide +kernel) (by decide +kernel), TX0, 6, rfl⟩⟩
theorem m_B_breaksRuns {l : Launch} {own : String} {R : Room} {S : Spec} {lv x : Nat} (h : Sat l y_B_breaksRuns b_B_breaksRuns 5 (some .boolean) lv S) (hR : lv + 1 ≤ R.frames ∧ 8 + (5 + 11) + 36 * lv ≤ R.locals) (hl : Jvm.Cond.methodLink own x y_B_breaksRuns ∈ TG) : CalleeOK l own R (x, 1, 2, S) :=
  Or.inr ⟨(show (1 : Nat) ≠ 1000 by decide), y_B_breaksRuns, b_B_breaksRuns, 5, (some .boolean), lv, h, hR, hl, tg_in 367 (by decide +kernel) (by decide +kernel), tg_in 47 (by decide +kernel) (by decide +kernel), (show (y_B_breaksRuns : MethodName).cls ≠ "java/lang/invoke/MethodHandle" ∧ (y_B_breaksRuns : MethodName).cls ≠ "java/lang/invoke/VarHandle" ∧ (parseMethodDescriptor (y_B_breaksRuns : MethodName).desc).map (fun d => d.parameters.length) = some 2 by decide +kernel), Or.inr ⟨(show 0 < (1 : Nat) by decide), tg_in 366 (by decide +kernel) (by decide +kernel), tg_in 3 (by decide +kernel) (by decide +kernel), TX0, 6, rfl⟩⟩
theorem m_B_endsInWord {l : Launch} {own : String} {R : Room} {S : Spec} {lv x : Nat} (h : Sat l y_B_endsInWord b_B_endsInWord 4 (some .boolean) lv S) (hR : lv + 1 ≤ R.frames ∧ 8 + (4 + 11) + 36 * lv ≤ R.locals) (hl : Jvm.Cond.methodLink own x y_B_endsInWord ∈ TG) : CalleeOK l own R (x, 1, 1, S) :=
  Or.inr ⟨(show (1 : Nat) ≠ 1000 by decide), y_B_endsInWord, b_B_endsInWord, 4, (some .boolean), lv, h, hR, hl, tg_in 375 (by decide +kernel) (by decide +kernel), tg_in 47 (by decide +kernel) (by decide +kernel), (show (y_B_endsInWord : MethodName).cls ≠ "java/lang/invoke/MethodHandle" ∧ (y_B_endsInWord : MethodName).cls ≠ "java/lang/invoke/VarHandle" ∧ (parseMethodDescriptor (y_B_endsInWord : MethodName).desc).map (fun d => d.parameters.length) = some 1 by decide +kernel), Or.inr ⟨(show 0 < (1 : Nat) by decide), tg_in 374 (by decide +kernel) (by decide +kernel), tg_in 4 (by decide +kernel) (by decide +kernel), TX0, 6, rfl⟩⟩
theorem m_B_shortened {l : Launch} {own : String} {R : Room} {S : Spec} {lv x : Nat} (h : Sat l y_B_shortened b_B_shortened 3 (some .int) lv S) (hR : lv + 1 ≤ R.frames ∧ 8 + (3 + 11) + 36 * lv ≤ R.locals) (hl : Jvm.Cond.methodLink own x y_B_shortened ∈ TG) : CalleeOK l own R (x, 0, 2, S) :=
  Or.inr ⟨(show (0 : Nat) ≠ 1000 by decide), y_B_shortened, b_B_shortened, 3, (some .int), lv, h, hR, hl, tg_in 378 (by decide +kernel) (by decide +kernel), tg_in 47 (by decide +kernel) (by decide +kernel), (show (y_B_shortened : MethodName).cls ≠ "java/lang/invoke/MethodHandle" ∧ (y_B_shortened : MethodName).cls ≠ "java/lang/invoke/VarHandle" ∧ (parseMethodDescriptor (y_B_shortened : MethodName).desc).map (fun d => d.parameters.length) = some 2 by decide +kernel), Or.inl ⟨rfl, tg_in 377 (by decide +kernel) (by decide +kernel)⟩⟩
theorem m_T_size {l : Launch} {own : String} {R : Room} {S : Spec} {lv x : Nat} (h : Sat l y_T_size b_T_size 1 (some .int) lv S) (hR : lv + 1 ≤ R.frames ∧ 8 + (1 + 11) + 36 * lv ≤ R.locals) (hl : Jvm.Cond.methodLink own x y_T_size ∈ TG) : CalleeOK l own R (x, 2, 0, S) :=
  Or.inr ⟨(show (2 : Nat) ≠ 1000 by decide), y_T_size, b_T_size, 1, (some .int), lv, h, hR, hl, tg_in 723 (by decide +kernel) (by decide +kernel), tg_in 54 (by decide +kernel) (by decide +kernel), (show (y_T_size : MethodName).cls ≠ "java/lang/invoke/MethodHandle" ∧ (y_T_size : MethodName).cls ≠ "java/lang/invoke/VarHandle" ∧ (parseMethodDescriptor (y_T_size : MethodName).desc).map (fun d => d.parameters.length) = some 0 by decide +kernel), Or.inr ⟨(show 0 < (2 : Nat) by decide), tg_in 721 (by decide +kernel) (by decide +kernel), tg_in 722 (by decide +kernel) (by decide +kernel), TX1, 2, rfl⟩⟩
theorem m_T_at {l : Launch} {own : String} {R : Room} {S : Spec} {lv x : Nat} (h : Sat l y_T_at b_T_at 2 (some .int) lv S) (hR : lv + 1 ≤ R.frames ∧ 8 + (2 + 11) + 36 * lv ≤ R.locals) (hl : Jvm.Cond.methodLink own x y_T_at ∈ TG) : CalleeOK l own R (x, 2, 1, S) :=
  Or.inr ⟨(show (2 : Nat) ≠ 1000 by decide), y_T_at, b_T_at, 2, (some .int), lv, h, hR, hl, tg_in 740 (by decide +kernel) (by decide +kernel), tg_in 54 (by decide +kernel) (by decide +kernel), (show (y_T_at : MethodName).cls ≠ "java/lang/invoke/MethodHandle" ∧ (y_T_at : MethodName).cls ≠ "java/lang/invoke/VarHandle" ∧ (parseMethodDescriptor (y_T_at : MethodName).desc).map (fun d => d.parameters.length) = some 1 by decide +kernel), Or.inr ⟨(show 0 < (2 : Nat) by decide), tg_in 738 (by decide +kernel) (by decide +kernel), tg_in 739 (by decide +kernel) (by decide +kernel), TX1, 2, rfl⟩⟩
theorem m_T_add {l : Launch} {own : String} {R : Room} {S : Spec} {lv x : Nat} (h : Sat l y_T_add b_T_add 5 none lv S) (hR : lv + 1 ≤ R.frames ∧ 8 + (5 + 11) + 36 * lv ≤ R.locals) (hl : Jvm.Cond.methodLink own x y_T_add ∈ TG) : CalleeOK l own R (x, 2, 2, S) :=
  Or.inr ⟨(show (2 : Nat) ≠ 1000 by decide), y_T_add, b_T_add, 5, none, lv, h, hR, hl, tg_in 727 (by decide +kernel) (by decide +kernel), tg_in 54 (by decide +kernel) (by decide +kernel), (show (y_T_add : MethodName).cls ≠ "java/lang/invoke/MethodHandle" ∧ (y_T_add : MethodName).cls ≠ "java/lang/invoke/VarHandle" ∧ (parseMethodDescriptor (y_T_add : MethodName).desc).map (fun d => d.parameters.length) = some 2 by decide +kernel), Or.inr ⟨(show 0 < (2 : Nat) by decide), tg_in 725 (by decide +kernel) (by decide +kernel), tg_in 726 (by decide +kernel) (by decide +kernel), TX1, 2, rfl⟩⟩
theorem m_T_keep {l : Launch} {own : String} {R : Room} {S : Spec} {lv x : Nat} (h : Sat l y_T_keep b_T_keep 3 (some .int) lv S) (hR : lv + 1 ≤ R.frames ∧ 8 + (3 + 11) + 36 * lv ≤ R.locals) (hl : Jvm.Cond.methodLink own x y_T_keep ∈ TG) : CalleeOK l own R (x, 2, 1, S) :=
  Or.inr ⟨(show (2 : Nat) ≠ 1000 by decide), y_T_keep, b_T_keep, 3, (some .int), lv, h, hR, hl, tg_in 470 (by decide +kernel) (by decide +kernel), tg_in 54 (by decide +kernel) (by decide +kernel), (show (y_T_keep : MethodName).cls ≠ "java/lang/invoke/MethodHandle" ∧ (y_T_keep : MethodName).cls ≠ "java/lang/invoke/VarHandle" ∧ (parseMethodDescriptor (y_T_keep : MethodName).desc).map (fun d => d.parameters.length) = some 1 by decide +kernel), Or.inr ⟨(show 0 < (2 : Nat) by decide), tg_in 468 (by decide +kernel) (by decide +kernel), tg_in 469 (by decide +kernel) (by decide +kernel), TX1, 2, rfl⟩⟩
theorem m_T_flip {l : Launch} {own : String} {R : Room} {S : Spec} {lv x : Nat} (h : Sat l y_T_flip b_T_flip 3 (some .int) lv S) (hR : lv + 1 ≤ R.frames ∧ 8 + (3 + 11) + 36 * lv ≤ R.locals) (hl : Jvm.Cond.methodLink own x y_T_flip ∈ TG) : CalleeOK l own R (x, 2, 1, S) :=
  Or.inr ⟨(show (2 : Nat) ≠ 1000 by decide), y_T_flip, b_T_flip, 3, (some .int), lv, h, hR, hl, tg_in 800 (by decide +kernel) (by decide +kernel), tg_in 54 (by decide +kernel) (by decide +kernel), (show (y_T_flip : MethodName).cls ≠ "java/lang/invoke/MethodHandle" ∧ (y_T_flip : MethodName).cls ≠ "java/lang/invoke/VarHandle" ∧ (parseMethodDescriptor (y_T_flip : MethodName).desc).map (fun d => d.parameters.length) = some 1 by decide +kernel), Or.inr ⟨(show 0 < (2 : Nat) by decide), tg_in 798 (by decide +kernel) (by decide +kernel), tg_in 799 (by decide +kernel) (by decide +kernel), TX1, 2, rfl⟩⟩
theorem m_T_copy {l : Launch} {own : String} {R : Room} {S : Spec} {lv x : Nat} (h : Sat l y_T_copy b_T_copy 2 none lv S) (hR : lv + 1 ≤ R.frames ∧ 8 + (2 + 11) + 36 * lv ≤ R.locals) (hl : Jvm.Cond.methodLink own x y_T_copy ∈ TG) : CalleeOK l own R (x, 2, 1, S) :=
  Or.inr ⟨(show (2 : Nat) ≠ 1000 by decide), y_T_copy, b_T_copy, 2, none, lv, h, hR, hl, tg_in 761 (by decide +kernel) (by decide +kernel), tg_in 54 (by decide +kernel) (by decide +kernel), (show (y_T_copy : MethodName).cls ≠ "java/lang/invoke/MethodHandle" ∧ (y_T_copy : MethodName).cls ≠ "java/lang/invoke/VarHandle" ∧ (parseMethodDescriptor (y_T_copy : MethodName).desc).map (fun d => d.parameters.length) = some 1 by decide +kernel), Or.inr ⟨(show 0 < (2 : Nat) by decide), tg_in 759 (by decide +kernel) (by decide +kernel), tg_in 760 (by decide +kernel) (by decide +kernel), TX1, 2, rfl⟩⟩
theorem m_T_setPath {l : Launch} {own : String} {R : Room} {S : Spec} {lv x : Nat} (h : Sat l y_T_setPath b_T_setPath 5 none lv S) (hR : lv + 1 ≤ R.frames ∧ 8 + (5 + 11) + 36 * lv ≤ R.locals) (hl : Jvm.Cond.methodLink own x y_T_setPath ∈ TG) : CalleeOK l own R (x, 2, 2, S) :=
  Or.inr ⟨(show (2 : Nat) ≠ 1000 by decide), y_T_setPath, b_T_setPath, 5, none, lv, h, hR, hl, tg_in 667 (by decide +kernel) (by decide +kernel), tg_in 54 (by decide +kernel) (by decide +kernel), (show (y_T_setPath : MethodName).cls ≠ "java/lang/invoke/MethodHandle" ∧ (y_T_setPath : MethodName).cls ≠ "java/lang/invoke/VarHandle" ∧ (parseMethodDescriptor (y_T_setPath : MethodName).desc).map (fun d => d.parameters.length) = some 2 by decide +kernel), Or.inr ⟨(show 0 < (2 : Nat) by decide), tg_in 665 (by decide +kernel) (by decide +kernel), tg_in 666 (by decide +kernel) (by decide +kernel), TX1, 2, rfl⟩⟩
theorem m_T_part {l : Launch} {own : String} {R : Room} {S : Spec} {lv x : Nat} (h : Sat l y_T_part b_T_part 5 (some .int) lv S) (hR : lv + 1 ≤ R.frames ∧ 8 + (5 + 11) + 36 * lv ≤ R.locals) (hl : Jvm.Cond.methodLink own x y_T_part ∈ TG) : CalleeOK l own R (x, 2, 2, S) :=
  Or.inr ⟨(show (2 : Nat) ≠ 1000 by decide), y_T_part, b_T_part, 5, (some .int), lv, h, hR, hl, tg_in 766 (by decide +kernel) (by decide +kernel), tg_in 54 (by decide +kernel) (by decide +kernel), (show (y_T_part : MethodName).cls ≠ "java/lang/invoke/MethodHandle" ∧ (y_T_part : MethodName).cls ≠ "java/lang/invoke/VarHandle" ∧ (parseMethodDescriptor (y_T_part : MethodName).desc).map (fun d => d.parameters.length) = some 2 by decide +kernel), Or.inr ⟨(show 0 < (2 : Nat) by decide), tg_in 764 (by decide +kernel) (by decide +kernel), tg_in 765 (by decide +kernel) (by decide +kernel), TX1, 2, rfl⟩⟩
theorem m_T_firstUnlike {l : Launch} {own : String} {R : Room} {S : Spec} {lv x : Nat} (h : Sat l y_T_firstUnlike b_T_firstUnlike 3 (some .int) lv S) (hR : lv + 1 ≤ R.frames ∧ 8 + (3 + 11) + 36 * lv ≤ R.locals) (hl : Jvm.Cond.methodLink own x y_T_firstUnlike ∈ TG) : CalleeOK l own R (x, 2, 1, S) :=
  Or.inr ⟨(show (2 : Nat) ≠ 1000 by decide), y_T_firstUnlike, b_T_firstUnlike, 3, (some .int), lv, h, hR, hl, tg_in 782 (by decide +kernel) (by decide +kernel), tg_in 54 (by decide +kernel) (by decide +kernel), (show (y_T_firstUnlike : MethodName).cls ≠ "java/lang/invoke/MethodHandle" ∧ (y_T_firstUnlike : MethodName).cls ≠ "java/lang/invoke/VarHandle" ∧ (parseMethodDescriptor (y_T_firstUnlike : MethodName).desc).map (fun d => d.parameters.length) = some 1 by decide +kernel), Or.inr ⟨(show 0 < (2 : Nat) by decide), tg_in 780 (by decide +kernel) (by decide +kernel), tg_in 781 (by decide +kernel) (by decide +kernel), TX1, 2, rfl⟩⟩
theorem m_T_leastLean {l : Launch} {own : String} {R : Room} {S : Spec} {lv x : Nat} (h : Sat l y_T_leastLean b_T_leastLean 4 (some .int) lv S) (hR : lv + 1 ≤ R.frames ∧ 8 + (4 + 11) + 36 * lv ≤ R.locals) (hl : Jvm.Cond.methodLink own x y_T_leastLean ∈ TG) : CalleeOK l own R (x, 2, 0, S) :=
  Or.inr ⟨(show (2 : Nat) ≠ 1000 by decide), y_T_leastLean, b_T_leastLean, 4, (some .int), lv, h, hR, hl, tg_in 816 (by decide +kernel) (by decide +kernel), tg_in 54 (by decide +kernel) (by decide +kernel), (show (y_T_leastLean : MethodName).cls ≠ "java/lang/invoke/MethodHandle" ∧ (y_T_leastLean : MethodName).cls ≠ "java/lang/invoke/VarHandle" ∧ (parseMethodDescriptor (y_T_leastLean : MethodName).desc).map (fun d => d.parameters.length) = some 0 by decide +kernel), Or.inr ⟨(show 0 < (2 : Nat) by decide), tg_in 814 (by decide +kernel) (by decide +kernel), tg_in 815 (by decide +kernel) (by decide +kernel), TX1, 2, rfl⟩⟩
theorem m_T_greatestLean {l : Launch} {own : String} {R : Room} {S : Spec} {lv x : Nat} (h : Sat l y_T_greatestLean b_T_greatestLean 4 (some .int) lv S) (hR : lv + 1 ≤ R.frames ∧ 8 + (4 + 11) + 36 * lv ≤ R.locals) (hl : Jvm.Cond.methodLink own x y_T_greatestLean ∈ TG) : CalleeOK l own R (x, 2, 0, S) :=
  Or.inr ⟨(show (2 : Nat) ≠ 1000 by decide), y_T_greatestLean, b_T_greatestLean, 4, (some .int), lv, h, hR, hl, tg_in 820 (by decide +kernel) (by decide +kernel), tg_in 54 (by decide +kernel) (by decide +kernel), (show (y_T_greatestLean : MethodName).cls ≠ "java/lang/invoke/MethodHandle" ∧ (y_T_greatestLean : MethodName).cls ≠ "java/lang/invoke/VarHandle" ∧ (parseMethodDescriptor (y_T_greatestLean : MethodName).desc).map (fun d => d.parameters.length) = some 0 by decide +kernel), Or.inr ⟨(show 0 < (2 : Nat) by decide), tg_in 818 (by decide +kernel) (by decide +kernel), tg_in 819 (by decide +kernel) (by decide +kernel), TX1, 2, rfl⟩⟩
theorem m_T_leanSquares {l : Launch} {own : String} {R : Room} {S : Spec} {lv x : Nat} (h : Sat l y_T_leanSquares b_T_leanSquares 4 (some .int) lv S) (hR : lv + 1 ≤ R.frames ∧ 8 + (4 + 11) + 36 * lv ≤ R.locals) (hl : Jvm.Cond.methodLink own x y_T_leanSquares ∈ TG) : CalleeOK l own R (x, 2, 0, S) :=
  Or.inr ⟨(show (2 : Nat) ≠ 1000 by decide), y_T_leanSquares, b_T_leanSquares, 4, (some .int), lv, h, hR, hl, tg_in 824 (by decide +kernel) (by decide +kernel), tg_in 54 (by decide +kernel) (by decide +kernel), (show (y_T_leanSquares : MethodName).cls ≠ "java/lang/invoke/MethodHandle" ∧ (y_T_leanSquares : MethodName).cls ≠ "java/lang/invoke/VarHandle" ∧ (parseMethodDescriptor (y_T_leanSquares : MethodName).desc).map (fun d => d.parameters.length) = some 0 by decide +kernel), Or.inr ⟨(show 0 < (2 : Nat) by decide), tg_in 822 (by decide +kernel) (by decide +kernel), tg_in 823 (by decide +kernel) (by decide +kernel), TX1, 2, rfl⟩⟩
theorem m_T_longestRun {l : Launch} {own : String} {R : Room} {S : Spec} {lv x : Nat} (h : Sat l y_T_longestRun b_T_longestRun 4 (some .int) lv S) (hR : lv + 1 ≤ R.frames ∧ 8 + (4 + 11) + 36 * lv ≤ R.locals) (hl : Jvm.Cond.methodLink own x y_T_longestRun ∈ TG) : CalleeOK l own R (x, 2, 0, S) :=
  Or.inr ⟨(show (2 : Nat) ≠ 1000 by decide), y_T_longestRun, b_T_longestRun, 4, (some .int), lv, h, hR, hl, tg_in 828 (by decide +kernel) (by decide +kernel), tg_in 54 (by decide +kernel) (by decide +kernel), (show (y_T_longestRun : MethodName).cls ≠ "java/lang/invoke/MethodHandle" ∧ (y_T_longestRun : MethodName).cls ≠ "java/lang/invoke/VarHandle" ∧ (parseMethodDescriptor (y_T_longestRun : MethodName).desc).map (fun d => d.parameters.length) = some 0 by decide +kernel), Or.inr ⟨(show 0 < (2 : Nat) by decide), tg_in 826 (by decide +kernel) (by decide +kernel), tg_in 827 (by decide +kernel) (by decide +kernel), TX1, 2, rfl⟩⟩
theorem m_T_turns {l : Launch} {own : String} {R : Room} {S : Spec} {lv x : Nat} (h : Sat l y_T_turns b_T_turns 3 (some .int) lv S) (hR : lv + 1 ≤ R.frames ∧ 8 + (3 + 11) + 36 * lv ≤ R.locals) (hl : Jvm.Cond.methodLink own x y_T_turns ∈ TG) : CalleeOK l own R (x, 2, 0, S) :=
  Or.inr ⟨(show (2 : Nat) ≠ 1000 by decide), y_T_turns, b_T_turns, 3, (some .int), lv, h, hR, hl, tg_in 832 (by decide +kernel) (by decide +kernel), tg_in 54 (by decide +kernel) (by decide +kernel), (show (y_T_turns : MethodName).cls ≠ "java/lang/invoke/MethodHandle" ∧ (y_T_turns : MethodName).cls ≠ "java/lang/invoke/VarHandle" ∧ (parseMethodDescriptor (y_T_turns : MethodName).desc).map (fun d => d.parameters.length) = some 0 by decide +kernel), Or.inr ⟨(show 0 < (2 : Nat) by decide), tg_in 830 (by decide +kernel) (by decide +kernel), tg_in 831 (by decide +kernel) (by decide +kernel), TX1, 2, rfl⟩⟩
theorem m_T_digestBehind {l : Launch} {own : String} {R : Room} {S : Spec} {lv x : Nat} (h : Sat l y_T_digestBehind b_T_digestBehind 6 (some .long) lv S) (hR : lv + 1 ≤ R.frames ∧ 8 + (6 + 11) + 36 * lv ≤ R.locals) (hl : Jvm.Cond.methodLink own x y_T_digestBehind ∈ TG) : CalleeOK l own R (x, 2, 1, S) :=
  Or.inr ⟨(show (2 : Nat) ≠ 1000 by decide), y_T_digestBehind, b_T_digestBehind, 6, (some .long), lv, h, hR, hl, tg_in 851 (by decide +kernel) (by decide +kernel), tg_in 54 (by decide +kernel) (by decide +kernel), (show (y_T_digestBehind : MethodName).cls ≠ "java/lang/invoke/MethodHandle" ∧ (y_T_digestBehind : MethodName).cls ≠ "java/lang/invoke/VarHandle" ∧ (parseMethodDescriptor (y_T_digestBehind : MethodName).desc).map (fun d => d.parameters.length) = some 1 by decide +kernel), Or.inr ⟨(show 0 < (2 : Nat) by decide), tg_in 849 (by decide +kernel) (by decide +kernel), tg_in 850 (by decide +kernel) (by decide +kernel), TX1, 2, rfl⟩⟩
theorem m_C_exists {l : Launch} {own : String} {R : Room} {S : Spec} {lv x : Nat} (h : Sat l y_C_exists b_C_exists 1 (some .boolean) lv S) (hR : lv + 1 ≤ R.frames ∧ 8 + (1 + 11) + 36 * lv ≤ R.locals) (hl : Jvm.Cond.methodLink own x y_C_exists ∈ TG) : CalleeOK l own R (x, 3, 0, S) :=
  Or.inr ⟨(show (3 : Nat) ≠ 1000 by decide), y_C_exists, b_C_exists, 1, (some .boolean), lv, h, hR, hl, tg_in 682 (by decide +kernel) (by decide +kernel), tg_in 53 (by decide +kernel) (by decide +kernel), (show (y_C_exists : MethodName).cls ≠ "java/lang/invoke/MethodHandle" ∧ (y_C_exists : MethodName).cls ≠ "java/lang/invoke/VarHandle" ∧ (parseMethodDescriptor (y_C_exists : MethodName).desc).map (fun d => d.parameters.length) = some 0 by decide +kernel), Or.inr ⟨(show 0 < (3 : Nat) by decide), tg_in 680 (by decide +kernel) (by decide +kernel), tg_in 681 (by decide +kernel) (by decide +kernel), TX2, 7, rfl⟩⟩
theorem m_C_size {l : Launch} {own : String} {R : Room} {S : Spec} {lv x : Nat} (h : Sat l y_C_size b_C_size 1 (some .int) lv S) (hR : lv + 1 ≤ R.frames ∧ 8 + (1 + 11) + 36 * lv ≤ R.locals) (hl : Jvm.Cond.methodLink own x y_C_size ∈ TG) : CalleeOK l own R (x, 3, 0, S) :=
  Or.inr ⟨(show (3 : Nat) ≠ 1000 by decide), y_C_size, b_C_size, 1, (some .int), lv, h, hR, hl, tg_in 674 (by decide +kernel) (by decide +kernel), tg_in 53 (by decide +kernel) (by decide +kernel), (show (y_C_size : MethodName).cls ≠ "java/lang/invoke/MethodHandle" ∧ (y_C_size : MethodName).cls ≠ "java/lang/invoke/VarHandle" ∧ (parseMethodDescriptor (y_C_size : MethodName).desc).map (fun d => d.parameters.length) = some 0 by decide +kernel), Or.inr ⟨(show 0 < (3 : Nat) by decide), tg_in 672 (by decide +kernel) (by decide +kernel), tg_in 673 (by decide +kernel) (by decide +kernel), TX2, 7, rfl⟩⟩
theorem m_C_pieceLength {l : Launch} {own : String} {R : Room} {S : Spec} {lv x : Nat} (h : Sat l y_C_pieceLength b_C_pieceLength 1 (some .int) lv S) (hR : lv + 1 ≤ R.frames ∧ 8 + (1 + 11) + 36 * lv ≤ R.locals) (hl : Jvm.Cond.methodLink own x y_C_pieceLength ∈ TG) : CalleeOK l own R (x, 3, 0, S) :=
  Or.inr ⟨(show (3 : Nat) ≠ 1000 by decide), y_C_pieceLength, b_C_pieceLength, 1, (some .int), lv, h, hR, hl, tg_in 694 (by decide +kernel) (by decide +kernel), tg_in 53 (by decide +kernel) (by decide +kernel), (show (y_C_pieceLength : MethodName).cls ≠ "java/lang/invoke/MethodHandle" ∧ (y_C_pieceLength : MethodName).cls ≠ "java/lang/invoke/VarHandle" ∧ (parseMethodDescriptor (y_C_pieceLength : MethodName).desc).map (fun d => d.parameters.length) = some 0 by decide +kernel), Or.inr ⟨(show 0 < (3 : Nat) by decide), tg_in 692 (by decide +kernel) (by decide +kernel), tg_in 693 (by decide +kernel) (by decide +kernel), TX2, 7, rfl⟩⟩
theorem m_C_wordLength {l : Launch} {own : String} {R : Room} {S : Spec} {lv x : Nat} (h : Sat l y_C_wordLength b_C_wordLength 1 (some .int) lv S) (hR : lv + 1 ≤ R.frames ∧ 8 + (1 + 11) + 36 * lv ≤ R.locals) (hl : Jvm.Cond.methodLink own x y_C_wordLength ∈ TG) : CalleeOK l own R (x, 3, 0, S) :=
  Or.inr ⟨(show (3 : Nat) ≠ 1000 by decide), y_C_wordLength, b_C_wordLength, 1, (some .int), lv, h, hR, hl, tg_in 707 (by decide +kernel) (by decide +kernel), tg_in 53 (by decide +kernel) (by decide +kernel), (show (y_C_wordLength : MethodName).cls ≠ "java/lang/invoke/MethodHandle" ∧ (y_C_wordLength : MethodName).cls ≠ "java/lang/invoke/VarHandle" ∧ (parseMethodDescriptor (y_C_wordLength : MethodName).desc).map (fun d => d.parameters.length) = some 0 by decide +kernel), Or.inr ⟨(show 0 < (3 : Nat) by decide), tg_in 705 (by decide +kernel) (by decide +kernel), tg_in 706 (by decide +kernel) (by decide +kernel), TX2, 7, rfl⟩⟩
theorem m_C_home {l : Launch} {own : String} {R : Room} {S : Spec} {lv x : Nat} (h : Sat l y_C_home b_C_home 1 (some .int) lv S) (hR : lv + 1 ≤ R.frames ∧ 8 + (1 + 11) + 36 * lv ≤ R.locals) (hl : Jvm.Cond.methodLink own x y_C_home ∈ TG) : CalleeOK l own R (x, 3, 0, S) :=
  Or.inr ⟨(show (3 : Nat) ≠ 1000 by decide), y_C_home, b_C_home, 1, (some .int), lv, h, hR, hl, tg_in 840 (by decide +kernel) (by decide +kernel), tg_in 53 (by decide +kernel) (by decide +kernel), (show (y_C_home : MethodName).cls ≠ "java/lang/invoke/MethodHandle" ∧ (y_C_home : MethodName).cls ≠ "java/lang/invoke/VarHandle" ∧ (parseMethodDescriptor (y_C_home : MethodName).desc).map (fun d => d.parameters.length) = some 0 by decide +kernel), Or.inr ⟨(show 0 < (3 : Nat) by decide), tg_in 838 (by decide +kernel) (by decide +kernel), tg_in 839 (by decide +kernel) (by decide +kernel), TX2, 7, rfl⟩⟩
theorem m_C_holds {l : Launch} {own : String} {R : Room} {S : Spec} {lv x : Nat} (h : Sat l y_C_holds b_C_holds 2 (some .boolean) lv S) (hR : lv + 1 ≤ R.frames ∧ 8 + (2 + 11) + 36 * lv ≤ R.locals) (hl : Jvm.Cond.methodLink own x y_C_holds ∈ TG) : CalleeOK l own R (x, 3, 1, S) :=
  Or.inr ⟨(show (3 : Nat) ≠ 1000 by decide), y_C_holds, b_C_holds, 2, (some .boolean), lv, h, hR, hl, tg_in 686 (by decide +kernel) (by decide +kernel), tg_in 53 (by decide +kernel) (by decide +kernel), (show (y_C_holds : MethodName).cls ≠ "java/lang/invoke/MethodHandle" ∧ (y_C_holds : MethodName).cls ≠ "java/lang/invoke/VarHandle" ∧ (parseMethodDescriptor (y_C_holds : MethodName).desc).map (fun d => d.parameters.length) = some 1 by decide +kernel), Or.inr ⟨(show 0 < (3 : Nat) by decide), tg_in 684 (by decide +kernel) (by decide +kernel), tg_in 685 (by decide +kernel) (by decide +kernel), TX2, 7, rfl⟩⟩
theorem m_C_drop {l : Launch} {own : String} {R : Room} {S : Spec} {lv x : Nat} (h : Sat l y_C_drop b_C_drop 1 none lv S) (hR : lv + 1 ≤ R.frames ∧ 8 + (1 + 11) + 36 * lv ≤ R.locals) (hl : Jvm.Cond.methodLink own x y_C_drop ∈ TG) : CalleeOK l own R (x, 3, 0, S) :=
  Or.inr ⟨(show (3 : Nat) ≠ 1000 by decide), y_C_drop, b_C_drop, 1, none, lv, h, hR, hl, tg_in 465 (by decide +kernel) (by decide +kernel), tg_in 53 (by decide +kernel) (by decide +kernel), (show (y_C_drop : MethodName).cls ≠ "java/lang/invoke/MethodHandle" ∧ (y_C_drop : MethodName).cls ≠ "java/lang/invoke/VarHandle" ∧ (parseMethodDescriptor (y_C_drop : MethodName).desc).map (fun d => d.parameters.length) = some 0 by decide +kernel), Or.inr ⟨(show 0 < (3 : Nat) by decide), tg_in 463 (by decide +kernel) (by decide +kernel), tg_in 464 (by decide +kernel) (by decide +kernel), TX2, 7, rfl⟩⟩
theorem m_C_find {l : Launch} {own : String} {R : Room} {S : Spec} {lv x : Nat} (h : Sat l y_C_find b_C_find 5 none lv S) (hR : lv + 1 ≤ R.frames ∧ 8 + (5 + 11) + 36 * lv ≤ R.locals) (hl : Jvm.Cond.methodLink own x y_C_find ∈ TG) : CalleeOK l own R (x, 3, 3, S) :=
  Or.inr ⟨(show (3 : Nat) ≠ 1000 by decide), y_C_find, b_C_find, 5, none, lv, h, hR, hl, tg_in 650 (by decide +kernel) (by decide +kernel), tg_in 53 (by decide +kernel) (by decide +kernel), (show (y_C_find : MethodName).cls ≠ "java/lang/invoke/MethodHandle" ∧ (y_C_find : MethodName).cls ≠ "java/lang/invoke/VarHandle" ∧ (parseMethodDescriptor (y_C_find : MethodName).desc).map (fun d => d.parameters.length) = some 3 by decide +kernel), Or.inr ⟨(show 0 < (3 : Nat) by decide), tg_in 648 (by decide +kernel) (by decide +kernel), tg_in 649 (by decide +kernel) (by decide +kernel), TX2, 7, rfl⟩⟩
theorem m_C_dropPoor {l : Launch} {own : String} {R : Room} {S : Spec} {lv x : Nat} (h : Sat l y_C_dropPoor b_C_dropPoor 6 (some .boolean) lv S) (hR : lv + 1 ≤ R.frames ∧ 8 + (6 + 11) + 36 * lv ≤ R.locals) (hl : Jvm.Cond.methodLink own x y_C_dropPoor ∈ TG) : CalleeOK l own R (x, 3, 3, S) :=
  Or.inr ⟨(show (3 : Nat) ≠ 1000 by decide), y_C_dropPoor, b_C_dropPoor, 6, (some .boolean), lv, h, hR, hl, tg_in 656 (by decide +kernel) (by decide +kernel), tg_in 53 (by decide +kernel) (by decide +kernel), (show (y_C_dropPoor : MethodName).cls ≠ "java/lang/invoke/MethodHandle" ∧ (y_C_dropPoor : MethodName).cls ≠ "java/lang/invoke/VarHandle" ∧ (parseMethodDescriptor (y_C_dropPoor : MethodName).desc).map (fun d => d.parameters.length) = some 3 by decide +kernel), Or.inr ⟨(show 0 < (3 : Nat) by decide), tg_in 655 (by decide +kernel) (by decide +kernel), tg_in 17 (by decide +kernel) (by decide +kernel), TX2, 7, rfl⟩⟩
theorem m_C_enroll {l : Launch} {own : String} {R : Room} {S : Spec} {lv x : Nat} (h : Sat l y_C_enroll b_C_enroll 5 none lv S) (hR : lv + 1 ≤ R.frames ∧ 8 + (5 + 11) + 36 * lv ≤ R.locals) (hl : Jvm.Cond.methodLink own x y_C_enroll ∈ TG) : CalleeOK l own R (x, 3, 3, S) :=
  Or.inr ⟨(show (3 : Nat) ≠ 1000 by decide), y_C_enroll, b_C_enroll, 5, none, lv, h, hR, hl, tg_in 663 (by decide +kernel) (by decide +kernel), tg_in 53 (by decide +kernel) (by decide +kernel), (show (y_C_enroll : MethodName).cls ≠ "java/lang/invoke/MethodHandle" ∧ (y_C_enroll : MethodName).cls ≠ "java/lang/invoke/VarHandle" ∧ (parseMethodDescriptor (y_C_enroll : MethodName).desc).map (fun d => d.parameters.length) = some 3 by decide +kernel), Or.inr ⟨(show 0 < (3 : Nat) by decide), tg_in 662 (by decide +kernel) (by decide +kernel), tg_in 18 (by decide +kernel) (by decide +kernel), TX2, 7, rfl⟩⟩
theorem m_C_wordFor {l : Launch} {own : String} {R : Room} {S : Spec} {lv x : Nat} (h : Sat l y_C_wordFor b_C_wordFor 4 (some .int) lv S) (hR : lv + 1 ≤ R.frames ∧ 8 + (4 + 11) + 36 * lv ≤ R.locals) (hl : Jvm.Cond.methodLink own x y_C_wordFor ∈ TG) : CalleeOK l own R (x, 3, 3, S) :=
  Or.inr ⟨(show (3 : Nat) ≠ 1000 by decide), y_C_wordFor, b_C_wordFor, 4, (some .int), lv, h, hR, hl, tg_in 698 (by decide +kernel) (by decide +kernel), tg_in 53 (by decide +kernel) (by decide +kernel), (show (y_C_wordFor : MethodName).cls ≠ "java/lang/invoke/MethodHandle" ∧ (y_C_wordFor : MethodName).cls ≠ "java/lang/invoke/VarHandle" ∧ (parseMethodDescriptor (y_C_wordFor : MethodName).desc).map (fun d => d.parameters.length) = some 3 by decide +kernel), Or.inr ⟨(show 0 < (3 : Nat) by decide), tg_in 696 (by decide +kernel) (by decide +kernel), tg_in 697 (by decide +kernel) (by decide +kernel), TX2, 7, rfl⟩⟩
theorem m_C_pieceFor {l : Launch} {own : String} {R : Room} {S : Spec} {lv x : Nat} (h : Sat l y_C_pieceFor b_C_pieceFor 6 (some .int) lv S) (hR : lv + 1 ≤ R.frames ∧ 8 + (6 + 11) + 36 * lv ≤ R.locals) (hl : Jvm.Cond.methodLink own x y_C_pieceFor ∈ TG) : CalleeOK l own R (x, 3, 3, S) :=
  Or.inr ⟨(show (3 : Nat) ≠ 1000 by decide), y_C_pieceFor, b_C_pieceFor, 6, (some .int), lv, h, hR, hl, tg_in 711 (by decide +kernel) (by decide +kernel), tg_in 53 (by decide +kernel) (by decide +kernel), (show (y_C_pieceFor : MethodName).cls ≠ "java/lang/invoke/MethodHandle" ∧ (y_C_pieceFor : MethodName).cls ≠ "java/lang/invoke/VarHandle" ∧ (parseMethodDescriptor (y_C_pieceFor : MethodName).desc).map (fun d => d.parameters.length) = some 3 by decide +kernel), Or.inr ⟨(show 0 < (3 : Nat) by decide), tg_in 709 (by decide +kernel) (by decide +kernel), tg_in 710 (by decide +kernel) (by decide +kernel), TX2, 7, rfl⟩⟩
theorem m_C_pieces {l : Launch} {own : String} {R : Room} {S : Spec} {lv x : Nat} (h : Sat l y_C_pieces b_C_pieces 2 (some .int) lv S) (hR : lv + 1 ≤ R.frames ∧ 8 + (2 + 11) + 36 * lv ≤ R.locals) (hl : Jvm.Cond.methodLink own x y_C_pieces ∈ TG) : CalleeOK l own R (x, 3, 1, S) :=
  Or.inr ⟨(show (3 : Nat) ≠ 1000 by decide), y_C_pieces, b_C_pieces, 2, (some .int), lv, h, hR, hl, tg_in 753 (by decide +kernel) (by decide +kernel), tg_in 53 (by decide +kernel) (by decide +kernel), (show (y_C_pieces : MethodName).cls ≠ "java/lang/invoke/MethodHandle" ∧ (y_C_pieces : MethodName).cls ≠ "java/lang/invoke/VarHandle" ∧ (parseMethodDescriptor (y_C_pieces : MethodName).desc).map (fun d => d.parameters.length) = some 1 by decide +kernel), Or.inr ⟨(show 0 < (3 : Nat) by decide), tg_in 752 (by decide +kernel) (by decide +kernel), tg_in 19 (by decide +kernel) (by decide +kernel), TX2, 7, rfl⟩⟩
theorem m_C_lengthWritten {l : Launch} {own : String} {R : Room} {S : Spec} {lv x : Nat} (h : Sat l y_C_lengthWritten b_C_lengthWritten 2 (some .int) lv S) (hR : lv + 1 ≤ R.frames ∧ 8 + (2 + 11) + 36 * lv ≤ R.locals) (hl : Jvm.Cond.methodLink own x y_C_lengthWritten ∈ TG) : CalleeOK l own R (x, 3, 1, S) :=
  Or.inr ⟨(show (3 : Nat) ≠ 1000 by decide), y_C_lengthWritten, b_C_lengthWritten, 2, (some .int), lv, h, hR, hl, tg_in 748 (by decide +kernel) (by decide +kernel), tg_in 53 (by decide +kernel) (by decide +kernel), (show (y_C_lengthWritten : MethodName).cls ≠ "java/lang/invoke/MethodHandle" ∧ (y_C_lengthWritten : MethodName).cls ≠ "java/lang/invoke/VarHandle" ∧ (parseMethodDescriptor (y_C_lengthWritten : MethodName).desc).map (fun d => d.parameters.length) = some 1 by decide +kernel), Or.inr ⟨(show 0 < (3 : Nat) by decide), tg_in 746 (by decide +kernel) (by decide +kernel), tg_in 747 (by decide +kernel) (by decide +kernel), TX2, 7, rfl⟩⟩
theorem m_C_encode {l : Launch} {own : String} {R : Room} {S : Spec} {lv x : Nat} (h : Sat l y_C_encode b_C_encode 8 none lv S) (hR : lv + 1 ≤ R.frames ∧ 8 + (8 + 11) + 36 * lv ≤ R.locals) (hl : Jvm.Cond.methodLink own x y_C_encode ∈ TG) : CalleeOK l own R (x, 3, 3, S) :=
  Or.inr ⟨(show (3 : Nat) ≠ 1000 by decide), y_C_encode, b_C_encode, 8, none, lv, h, hR, hl, tg_in 757 (by decide +kernel) (by decide +kernel), tg_in 53 (by decide +kernel) (by decide +kernel), (show (y_C_encode : MethodName).cls ≠ "java/lang/invoke/MethodHandle" ∧ (y_C_encode : MethodName).cls ≠ "java/lang/invoke/VarHandle" ∧ (parseMethodDescriptor (y_C_encode : MethodName).desc).map (fun d => d.parameters.length) = some 3 by decide +kernel), Or.inr ⟨(show 0 < (3 : Nat) by decide), tg_in 755 (by decide +kernel) (by decide +kernel), tg_in 756 (by decide +kernel) (by decide +kernel), TX2, 7, rfl⟩⟩
theorem m_C_decode {l : Launch} {own : String} {R : Room} {S : Spec} {lv x : Nat} (h : Sat l y_C_decode b_C_decode 10 (some .int) lv S) (hR : lv + 1 ≤ R.frames ∧ 8 + (10 + 11) + 36 * lv ≤ R.locals) (hl : Jvm.Cond.methodLink own x y_C_decode ∈ TG) : CalleeOK l own R (x, 3, 3, S) :=
  Or.inr ⟨(show (3 : Nat) ≠ 1000 by decide), y_C_decode, b_C_decode, 10, (some .int), lv, h, hR, hl, tg_in 778 (by decide +kernel) (by decide +kernel), tg_in 53 (by decide +kernel) (by decide +kernel), (show (y_C_decode : MethodName).cls ≠ "java/lang/invoke/MethodHandle" ∧ (y_C_decode : MethodName).cls ≠ "java/lang/invoke/VarHandle" ∧ (parseMethodDescriptor (y_C_decode : MethodName).desc).map (fun d => d.parameters.length) = some 3 by decide +kernel), Or.inr ⟨(show 0 < (3 : Nat) by decide), tg_in 776 (by decide +kernel) (by decide +kernel), tg_in 777 (by decide +kernel) (by decide +kernel), TX2, 7, rfl⟩⟩
theorem m_L_setAll {l : Launch} {own : String} {R : Room} {S : Spec} {lv x : Nat} (h : Sat l y_L_setAll b_L_setAll 3 none lv S) (hR : lv + 1 ≤ R.frames ∧ 8 + (3 + 11) + 36 * lv ≤ R.locals) (hl : Jvm.Cond.methodLink own x y_L_setAll ∈ TG) : CalleeOK l own R (x, 4, 1, S) :=
  Or.inr ⟨(show (4 : Nat) ≠ 1000 by decide), y_L_setAll, b_L_setAll, 3, none, lv, h, hR, hl, tg_in 433 (by decide +kernel) (by decide +kernel), tg_in 50 (by decide +kernel) (by decide +kernel), (show (y_L_setAll : MethodName).cls ≠ "java/lang/invoke/MethodHandle" ∧ (y_L_setAll : MethodName).cls ≠ "java/lang/invoke/VarHandle" ∧ (parseMethodDescriptor (y_L_setAll : MethodName).desc).map (fun d => d.parameters.length) = some 1 by decide +kernel), Or.inr ⟨(show 0 < (4 : Nat) by decide), tg_in 431 (by decide +kernel) (by decide +kernel), tg_in 432 (by decide +kernel) (by decide +kernel), TX3, 1, rfl⟩⟩
theorem m_L_set {l : Launch} {own : String} {R : Room} {S : Spec} {lv x : Nat} (h : Sat l y_L_set b_L_set 4 none lv S) (hR : lv + 1 ≤ R.frames ∧ 8 + (4 + 11) + 36 * lv ≤ R.locals) (hl : Jvm.Cond.methodLink own x y_L_set ∈ TG) : CalleeOK l own R (x, 4, 2, S) :=
  Or.inr ⟨(show (4 : Nat) ≠ 1000 by decide), y_L_set, b_L_set, 4, none, lv, h, hR, hl, tg_in 545 (by decide +kernel) (by decide +kernel), tg_in 50 (by decide +kernel) (by decide +kernel), (show (y_L_set : MethodName).cls ≠ "java/lang/invoke/MethodHandle" ∧ (y_L_set : MethodName).cls ≠ "java/lang/invoke/VarHandle" ∧ (parseMethodDescriptor (y_L_set : MethodName).desc).map (fun d => d.parameters.length) = some 2 by decide +kernel), Or.inr ⟨(show 0 < (4 : Nat) by decide), tg_in 543 (by decide +kernel) (by decide +kernel), tg_in 544 (by decide +kernel) (by decide +kernel), TX3, 1, rfl⟩⟩
theorem m_L_at {l : Launch} {own : String} {R : Room} {S : Spec} {lv x : Nat} (h : Sat l y_L_at b_L_at 3 (some .long) lv S) (hR : lv + 1 ≤ R.frames ∧ 8 + (3 + 11) + 36 * lv ≤ R.locals) (hl : Jvm.Cond.methodLink own x y_L_at ∈ TG) : CalleeOK l own R (x, 4, 2, S) :=
  Or.inr ⟨(show (4 : Nat) ≠ 1000 by decide), y_L_at, b_L_at, 3, (some .long), lv, h, hR, hl, tg_in 452 (by decide +kernel) (by decide +kernel), tg_in 50 (by decide +kernel) (by decide +kernel), (show (y_L_at : MethodName).cls ≠ "java/lang/invoke/MethodHandle" ∧ (y_L_at : MethodName).cls ≠ "java/lang/invoke/VarHandle" ∧ (parseMethodDescriptor (y_L_at : MethodName).desc).map (fun d => d.parameters.length) = some 2 by decide +kernel), Or.inr ⟨(show 0 < (4 : Nat) by decide), tg_in 450 (by decide +kernel) (by decide +kernel), tg_in 451 (by decide +kernel) (by decide +kernel), TX3, 1, rfl⟩⟩
theorem m_L_climb {l : Launch} {own : String} {R : Room} {S : Spec} {lv x : Nat} (h : Sat l y_L_climb b_L_climb 5 none lv S) (hR : lv + 1 ≤ R.frames ∧ 8 + (5 + 11) + 36 * lv ≤ R.locals) (hl : Jvm.Cond.methodLink own x y_L_climb ∈ TG) : CalleeOK l own R (x, 4, 2, S) :=
  Or.inr ⟨(show (4 : Nat) ≠ 1000 by decide), y_L_climb, b_L_climb, 5, none, lv, h, hR, hl, tg_in 443 (by decide +kernel) (by decide +kernel), tg_in 50 (by decide +kernel) (by decide +kernel), (show (y_L_climb : MethodName).cls ≠ "java/lang/invoke/MethodHandle" ∧ (y_L_climb : MethodName).cls ≠ "java/lang/invoke/VarHandle" ∧ (parseMethodDescriptor (y_L_climb : MethodName).desc).map (fun d => d.parameters.length) = some 2 by decide +kernel), Or.inr ⟨(show 0 < (4 : Nat) by decide), tg_in 441 (by decide +kernel) (by decide +kernel), tg_in 442 (by decide +kernel) (by decide +kernel), TX3, 1, rfl⟩⟩
theorem m_L_rank {l : Launch} {own : String} {R : Room} {S : Spec} {lv x : Nat} (h : Sat l y_L_rank b_L_rank 11 (some .long) lv S) (hR : lv + 1 ≤ R.frames ∧ 8 + (11 + 11) + 36 * lv ≤ R.locals) (hl : Jvm.Cond.methodLink own x y_L_rank ∈ TG) : CalleeOK l own R (x, 4, 4, S) :=
  Or.inr ⟨(show (4 : Nat) ≠ 1000 by decide), y_L_rank, b_L_rank, 11, (some .long), lv, h, hR, hl, tg_in 527 (by decide +kernel) (by decide +kernel), tg_in 50 (by decide +kernel) (by decide +kernel), (show (y_L_rank : MethodName).cls ≠ "java/lang/invoke/MethodHandle" ∧ (y_L_rank : MethodName).cls ≠ "java/lang/invoke/VarHandle" ∧ (parseMethodDescriptor (y_L_rank : MethodName).desc).map (fun d => d.parameters.length) = some 4 by decide +kernel), Or.inr ⟨(show 0 < (4 : Nat) by decide), tg_in 525 (by decide +kernel) (by decide +kernel), tg_in 526 (by decide +kernel) (by decide +kernel), TX3, 1, rfl⟩⟩
theorem m_L_pick {l : Launch} {own : String} {R : Room} {S : Spec} {lv x : Nat} (h : Sat l y_L_pick b_L_pick 15 (some .long) lv S) (hR : lv + 1 ≤ R.frames ∧ 8 + (15 + 11) + 36 * lv ≤ R.locals) (hl : Jvm.Cond.methodLink own x y_L_pick ∈ TG) : CalleeOK l own R (x, 4, 4, S) :=
  Or.inr ⟨(show (4 : Nat) ≠ 1000 by decide), y_L_pick, b_L_pick, 15, (some .long), lv, h, hR, hl, tg_in 536 (by decide +kernel) (by decide +kernel), tg_in 50 (by decide +kernel) (by decide +kernel), (show (y_L_pick : MethodName).cls ≠ "java/lang/invoke/MethodHandle" ∧ (y_L_pick : MethodName).cls ≠ "java/lang/invoke/VarHandle" ∧ (parseMethodDescriptor (y_L_pick : MethodName).desc).map (fun d => d.parameters.length) = some 4 by decide +kernel), Or.inr ⟨(show 0 < (4 : Nat) by decide), tg_in 534 (by decide +kernel) (by decide +kernel), tg_in 535 (by decide +kernel) (by decide +kernel), TX3, 1, rfl⟩⟩
theorem m_K_make {l : Launch} {own : String} {R : Room} {S : Spec} {lv x : Nat} (h : Sat l y_K_make b_K_make 2 (some .boolean) lv S) (hR : lv + 1 ≤ R.frames ∧ 8 + (2 + 11) + 36 * lv ≤ R.locals) (hl : Jvm.Cond.methodLink own x y_K_make ∈ TG) : CalleeOK l own R (x, 5, 1, S) :=
  Or.inr ⟨(show (5 : Nat) ≠ 1000 by decide), y_K_make, b_K_make, 2, (some .boolean), lv, h, hR, hl, tg_in 337 (by decide +kernel) (by decide +kernel), tg_in 48 (by decide +kernel) (by decide +kernel), (show (y_K_make : MethodName).cls ≠ "java/lang/invoke/MethodHandle" ∧ (y_K_make : MethodName).cls ≠ "java/lang/invoke/VarHandle" ∧ (parseMethodDescriptor (y_K_make : MethodName).desc).map (fun d => d.parameters.length) = some 1 by decide +kernel), Or.inr ⟨(show 0 < (5 : Nat) by decide), tg_in 335 (by decide +kernel) (by decide +kernel), tg_in 336 (by decide +kernel) (by decide +kernel), TX4, 9, rfl⟩⟩
theorem m_K_made {l : Launch} {own : String} {R : Room} {S : Spec} {lv x : Nat} (h : Sat l y_K_made b_K_made 1 (some .int) lv S) (hR : lv + 1 ≤ R.frames ∧ 8 + (1 + 11) + 36 * lv ≤ R.locals) (hl : Jvm.Cond.methodLink own x y_K_made ∈ TG) : CalleeOK l own R (x, 5, 0, S) :=
  Or.inr ⟨(show (5 : Nat) ≠ 1000 by decide), y_K_made, b_K_made, 1, (some .int), lv, h, hR, hl, tg_in 409 (by decide +kernel) (by decide +kernel), tg_in 48 (by decide +kernel) (by decide +kernel), (show (y_K_made : MethodName).cls ≠ "java/lang/invoke/MethodHandle" ∧ (y_K_made : MethodName).cls ≠ "java/lang/invoke/VarHandle" ∧ (parseMethodDescriptor (y_K_made : MethodName).desc).map (fun d => d.parameters.length) = some 0 by decide +kernel), Or.inr ⟨(show 0 < (5 : Nat) by decide), tg_in 407 (by decide +kernel) (by decide +kernel), tg_in 408 (by decide +kernel) (by decide +kernel), TX4, 9, rfl⟩⟩
theorem m_K_explore {l : Launch} {own : String} {R : Room} {S : Spec} {lv x : Nat} (h : Sat l y_K_explore b_K_explore 4 none lv S) (hR : lv + 1 ≤ R.frames ∧ 8 + (4 + 11) + 36 * lv ≤ R.locals) (hl : Jvm.Cond.methodLink own x y_K_explore ∈ TG) : CalleeOK l own R (x, 5, 1, S) :=
  Or.inr ⟨(show (5 : Nat) ≠ 1000 by decide), y_K_explore, b_K_explore, 4, none, lv, h, hR, hl, tg_in 341 (by decide +kernel) (by decide +kernel), tg_in 48 (by decide +kernel) (by decide +kernel), (show (y_K_explore : MethodName).cls ≠ "java/lang/invoke/MethodHandle" ∧ (y_K_explore : MethodName).cls ≠ "java/lang/invoke/VarHandle" ∧ (parseMethodDescriptor (y_K_explore : MethodName).desc).map (fun d => d.parameters.length) = some 1 by decide +kernel), Or.inr ⟨(show 0 < (5 : Nat) by decide), tg_in 340 (by decide +kernel) (by decide +kernel), tg_in 1 (by decide +kernel) (by decide +kernel), TX4, 9, rfl⟩⟩
theorem m_K_placeFor {l : Launch} {own : String} {R : Room} {S : Spec} {lv x : Nat} (h : Sat l y_K_placeFor b_K_placeFor 2 (some .int) lv S) (hR : lv + 1 ≤ R.frames ∧ 8 + (2 + 11) + 36 * lv ≤ R.locals) (hl : Jvm.Cond.methodLink own x y_K_placeFor ∈ TG) : CalleeOK l own R (x, 5, 1, S) :=
  Or.inr ⟨(show (5 : Nat) ≠ 1000 by decide), y_K_placeFor, b_K_placeFor, 2, (some .int), lv, h, hR, hl, tg_in 359 (by decide +kernel) (by decide +kernel), tg_in 48 (by decide +kernel) (by decide +kernel), (show (y_K_placeFor : MethodName).cls ≠ "java/lang/invoke/MethodHandle" ∧ (y_K_placeFor : MethodName).cls ≠ "java/lang/invoke/VarHandle" ∧ (parseMethodDescriptor (y_K_placeFor : MethodName).desc).map (fun d => d.parameters.length) = some 1 by decide +kernel), Or.inr ⟨(show 0 < (5 : Nat) by decide), tg_in 358 (by decide +kernel) (by decide +kernel), tg_in 2 (by decide +kernel) (by decide +kernel), TX4, 9, rfl⟩⟩
theorem m_K_dropDead {l : Launch} {own : String} {R : Room} {S : Spec} {lv x : Nat} (h : Sat l y_K_dropDead b_K_dropDead 2 none lv S) (hR : lv + 1 ≤ R.frames ∧ 8 + (2 + 11) + 36 * lv ≤ R.locals) (hl : Jvm.Cond.methodLink own x y_K_dropDead ∈ TG) : CalleeOK l own R (x, 5, 0, S) :=
  Or.inr ⟨(show (5 : Nat) ≠ 1000 by decide), y_K_dropDead, b_K_dropDead, 2, none, lv, h, hR, hl, tg_in 382 (by decide +kernel) (by decide +kernel), tg_in 48 (by decide +kernel) (by decide +kernel), (show (y_K_dropDead : MethodName).cls ≠ "java/lang/invoke/MethodHandle" ∧ (y_K_dropDead : MethodName).cls ≠ "java/lang/invoke/VarHandle" ∧ (parseMethodDescriptor (y_K_dropDead : MethodName).desc).map (fun d => d.parameters.length) = some 0 by decide +kernel), Or.inr ⟨(show 0 < (5 : Nat) by decide), tg_in 381 (by decide +kernel) (by decide +kernel), tg_in 5 (by decide +kernel) (by decide +kernel), TX4, 9, rfl⟩⟩
theorem m_K_dropDeadOnce {l : Launch} {own : String} {R : Room} {S : Spec} {lv x : Nat} (h : Sat l y_K_dropDeadOnce b_K_dropDeadOnce 3 (some .boolean) lv S) (hR : lv + 1 ≤ R.frames ∧ 8 + (3 + 11) + 36 * lv ≤ R.locals) (hl : Jvm.Cond.methodLink own x y_K_dropDeadOnce ∈ TG) : CalleeOK l own R (x, 5, 0, S) :=
  Or.inr ⟨(show (5 : Nat) ≠ 1000 by decide), y_K_dropDeadOnce, b_K_dropDeadOnce, 3, (some .boolean), lv, h, hR, hl, tg_in 386 (by decide +kernel) (by decide +kernel), tg_in 48 (by decide +kernel) (by decide +kernel), (show (y_K_dropDeadOnce : MethodName).cls ≠ "java/lang/invoke/MethodHandle" ∧ (y_K_dropDeadOnce : MethodName).cls ≠ "java/lang/invoke/VarHandle" ∧ (parseMethodDescriptor (y_K_dropDeadOnce : MethodName).desc).map (fun d => d.parameters.length) = some 0 by decide +kernel), Or.inr ⟨(show 0 < (5 : Nat) by decide), tg_in 385 (by decide +kernel) (by decide +kernel), tg_in 6 (by decide +kernel) (by decide +kernel), TX4, 9, rfl⟩⟩
theorem m_K_groupAfter {l : Launch} {own : String} {R : Room} {S : Spec} {lv x : Nat} (h : Sat l y_K_groupAfter b_K_groupAfter 4 (some .int) lv S) (hR : lv + 1 ≤ R.frames ∧ 8 + (4 + 11) + 36 * lv ≤ R.locals) (hl : Jvm.Cond.methodLink own x y_K_groupAfter ∈ TG) : CalleeOK l own R (x, 5, 2, S) :=
  Or.inr ⟨(show (5 : Nat) ≠ 1000 by decide), y_K_groupAfter, b_K_groupAfter, 4, (some .int), lv, h, hR, hl, tg_in 390 (by decide +kernel) (by decide +kernel), tg_in 48 (by decide +kernel) (by decide +kernel), (show (y_K_groupAfter : MethodName).cls ≠ "java/lang/invoke/MethodHandle" ∧ (y_K_groupAfter : MethodName).cls ≠ "java/lang/invoke/VarHandle" ∧ (parseMethodDescriptor (y_K_groupAfter : MethodName).desc).map (fun d => d.parameters.length) = some 2 by decide +kernel), Or.inr ⟨(show 0 < (5 : Nat) by decide), tg_in 389 (by decide +kernel) (by decide +kernel), tg_in 7 (by decide +kernel) (by decide +kernel), TX4, 9, rfl⟩⟩
theorem m_K_refine {l : Launch} {own : String} {R : Room} {S : Spec} {lv x : Nat} (h : Sat l y_K_refine b_K_refine 3 (some .boolean) lv S) (hR : lv + 1 ≤ R.frames ∧ 8 + (3 + 11) + 36 * lv ≤ R.locals) (hl : Jvm.Cond.methodLink own x y_K_refine ∈ TG) : CalleeOK l own R (x, 5, 0, S) :=
  Or.inr ⟨(show (5 : Nat) ≠ 1000 by decide), y_K_refine, b_K_refine, 3, (some .boolean), lv, h, hR, hl, tg_in 394 (by decide +kernel) (by decide +kernel), tg_in 48 (by decide +kernel) (by decide +kernel), (show (y_K_refine : MethodName).cls ≠ "java/lang/invoke/MethodHandle" ∧ (y_K_refine : MethodName).cls ≠ "java/lang/invoke/VarHandle" ∧ (parseMethodDescriptor (y_K_refine : MethodName).desc).map (fun d => d.parameters.length) = some 0 by decide +kernel), Or.inr ⟨(show 0 < (5 : Nat) by decide), tg_in 393 (by decide +kernel) (by decide +kernel), tg_in 8 (by decide +kernel) (by decide +kernel), TX4, 9, rfl⟩⟩
theorem m_K_split {l : Launch} {own : String} {R : Room} {S : Spec} {lv x : Nat} (h : Sat l y_K_split b_K_split 5 (some .boolean) lv S) (hR : lv + 1 ≤ R.frames ∧ 8 + (5 + 11) + 36 * lv ≤ R.locals) (hl : Jvm.Cond.methodLink own x y_K_split ∈ TG) : CalleeOK l own R (x, 5, 1, S) :=
  Or.inr ⟨(show (5 : Nat) ≠ 1000 by decide), y_K_split, b_K_split, 5, (some .boolean), lv, h, hR, hl, tg_in 398 (by decide +kernel) (by decide +kernel), tg_in 48 (by decide +kernel) (by decide +kernel), (show (y_K_split : MethodName).cls ≠ "java/lang/invoke/MethodHandle" ∧ (y_K_split : MethodName).cls ≠ "java/lang/invoke/VarHandle" ∧ (parseMethodDescriptor (y_K_split : MethodName).desc).map (fun d => d.parameters.length) = some 1 by decide +kernel), Or.inr ⟨(show 0 < (5 : Nat) by decide), tg_in 397 (by decide +kernel) (by decide +kernel), tg_in 9 (by decide +kernel) (by decide +kernel), TX4, 9, rfl⟩⟩
theorem m_K_fill {l : Launch} {own : String} {R : Room} {S : Spec} {lv x : Nat} (h : Sat l y_K_fill b_K_fill 4 none lv S) (hR : lv + 1 ≤ R.frames ∧ 8 + (4 + 11) + 36 * lv ≤ R.locals) (hl : Jvm.Cond.methodLink own x y_K_fill ∈ TG) : CalleeOK l own R (x, 5, 1, S) :=
  Or.inr ⟨(show (5 : Nat) ≠ 1000 by decide), y_K_fill, b_K_fill, 4, none, lv, h, hR, hl, tg_in 416 (by decide +kernel) (by decide +kernel), tg_in 48 (by decide +kernel) (by decide +kernel), (show (y_K_fill : MethodName).cls ≠ "java/lang/invoke/MethodHandle" ∧ (y_K_fill : MethodName).cls ≠ "java/lang/invoke/VarHandle" ∧ (parseMethodDescriptor (y_K_fill : MethodName).desc).map (fun d => d.parameters.length) = some 1 by decide +kernel), Or.inr ⟨(show 0 < (5 : Nat) by decide), tg_in 414 (by decide +kernel) (by decide +kernel), tg_in 415 (by decide +kernel) (by decide +kernel), TX4, 9, rfl⟩⟩
theorem m_S_forget {l : Launch} {own : String} {R : Room} {S : Spec} {lv x : Nat} (h : Sat l y_S_forget b_S_forget 1 none lv S) (hR : lv + 1 ≤ R.frames ∧ 8 + (1 + 11) + 36 * lv ≤ R.locals) (hl : Jvm.Cond.methodLink own x y_S_forget ∈ TG) : CalleeOK l own R (x, 6, 0, S) :=
  Or.inr ⟨(show (6 : Nat) ≠ 1000 by decide), y_S_forget, b_S_forget, 1, none, lv, h, hR, hl, tg_in 456 (by decide +kernel) (by decide +kernel), tg_in 51 (by decide +kernel) (by decide +kernel), (show (y_S_forget : MethodName).cls ≠ "java/lang/invoke/MethodHandle" ∧ (y_S_forget : MethodName).cls ≠ "java/lang/invoke/VarHandle" ∧ (parseMethodDescriptor (y_S_forget : MethodName).desc).map (fun d => d.parameters.length) = some 0 by decide +kernel), Or.inr ⟨(show 0 < (6 : Nat) by decide), tg_in 454 (by decide +kernel) (by decide +kernel), tg_in 455 (by decide +kernel) (by decide +kernel), TX5, 6, rfl⟩⟩
theorem m_S_lastFound {l : Launch} {own : String} {R : Room} {S : Spec} {lv x : Nat} (h : Sat l y_S_lastFound b_S_lastFound 1 (some .int) lv S) (hR : lv + 1 ≤ R.frames ∧ 8 + (1 + 11) + 36 * lv ≤ R.locals) (hl : Jvm.Cond.methodLink own x y_S_lastFound ∈ TG) : CalleeOK l own R (x, 6, 0, S) :=
  Or.inr ⟨(show (6 : Nat) ≠ 1000 by decide), y_S_lastFound, b_S_lastFound, 1, (some .int), lv, h, hR, hl, tg_in 583 (by decide +kernel) (by decide +kernel), tg_in 51 (by decide +kernel) (by decide +kernel), (show (y_S_lastFound : MethodName).cls ≠ "java/lang/invoke/MethodHandle" ∧ (y_S_lastFound : MethodName).cls ≠ "java/lang/invoke/VarHandle" ∧ (parseMethodDescriptor (y_S_lastFound : MethodName).desc).map (fun d => d.parameters.length) = some 0 by decide +kernel), Or.inr ⟨(show 0 < (6 : Nat) by decide), tg_in 581 (by decide +kernel) (by decide +kernel), tg_in 582 (by decide +kernel) (by decide +kernel), TX5, 6, rfl⟩⟩
theorem m_S_find {l : Launch} {own : String} {R : Room} {S : Spec} {lv x : Nat} (h : Sat l y_S_find b_S_find 4 (some .int) lv S) (hR : lv + 1 ≤ R.frames ∧ 8 + (4 + 11) + 36 * lv ≤ R.locals) (hl : Jvm.Cond.methodLink own x y_S_find ∈ TG) : CalleeOK l own R (x, 6, 2, S) :=
  Or.inr ⟨(show (6 : Nat) ≠ 1000 by decide), y_S_find, b_S_find, 4, (some .int), lv, h, hR, hl, tg_in 553 (by decide +kernel) (by decide +kernel), tg_in 51 (by decide +kernel) (by decide +kernel), (show (y_S_find : MethodName).cls ≠ "java/lang/invoke/MethodHandle" ∧ (y_S_find : MethodName).cls ≠ "java/lang/invoke/VarHandle" ∧ (parseMethodDescriptor (y_S_find : MethodName).desc).map (fun d => d.parameters.length) = some 2 by decide +kernel), Or.inr ⟨(show 0 < (6 : Nat) by decide), tg_in 551 (by decide +kernel) (by decide +kernel), tg_in 552 (by decide +kernel) (by decide +kernel), TX5, 6, rfl⟩⟩
theorem m_S_startAnywhere {l : Launch} {own : String} {R : Room} {S : Spec} {lv x : Nat} (h : Sat l y_S_startAnywhere b_S_startAnywhere 3 none lv S) (hR : lv + 1 ≤ R.frames ∧ 8 + (3 + 11) + 36 * lv ≤ R.locals) (hl : Jvm.Cond.methodLink own x y_S_startAnywhere ∈ TG) : CalleeOK l own R (x, 6, 1, S) :=
  Or.inr ⟨(show (6 : Nat) ≠ 1000 by decide), y_S_startAnywhere, b_S_startAnywhere, 3, none, lv, h, hR, hl, tg_in 557 (by decide +kernel) (by decide +kernel), tg_in 51 (by decide +kernel) (by decide +kernel), (show (y_S_startAnywhere : MethodName).cls ≠ "java/lang/invoke/MethodHandle" ∧ (y_S_startAnywhere : MethodName).cls ≠ "java/lang/invoke/VarHandle" ∧ (parseMethodDescriptor (y_S_startAnywhere : MethodName).desc).map (fun d => d.parameters.length) = some 1 by decide +kernel), Or.inr ⟨(show 0 < (6 : Nat) by decide), tg_in 556 (by decide +kernel) (by decide +kernel), tg_in 11 (by decide +kernel) (by decide +kernel), TX5, 6, rfl⟩⟩
theorem m_S_searchLength {l : Launch} {own : String} {R : Room} {S : Spec} {lv x : Nat} (h : Sat l y_S_searchLength b_S_searchLength 6 none lv S) (hR : lv + 1 ≤ R.frames ∧ 8 + (6 + 11) + 36 * lv ≤ R.locals) (hl : Jvm.Cond.methodLink own x y_S_searchLength ∈ TG) : CalleeOK l own R (x, 6, 2, S) :=
  Or.inr ⟨(show (6 : Nat) ≠ 1000 by decide), y_S_searchLength, b_S_searchLength, 6, none, lv, h, hR, hl, tg_in 566 (by decide +kernel) (by decide +kernel), tg_in 51 (by decide +kernel) (by decide +kernel), (show (y_S_searchLength : MethodName).cls ≠ "java/lang/invoke/MethodHandle" ∧ (y_S_searchLength : MethodName).cls ≠ "java/lang/invoke/VarHandle" ∧ (parseMethodDescriptor (y_S_searchLength : MethodName).desc).map (fun d => d.parameters.length) = some 2 by decide +kernel), Or.inr ⟨(show 0 < (6 : Nat) by decide), tg_in 565 (by decide +kernel) (by decide +kernel), tg_in 13 (by decide +kernel) (by decide +kernel), TX5, 6, rfl⟩⟩
theorem m_S_goOn {l : Launch} {own : String} {R : Room} {S : Spec} {lv x : Nat} (h : Sat l y_S_goOn b_S_goOn 9 none lv S) (hR : lv + 1 ≤ R.frames ∧ 8 + (9 + 11) + 36 * lv ≤ R.locals) (hl : Jvm.Cond.methodLink own x y_S_goOn ∈ TG) : CalleeOK l own R (x, 6, 4, S) :=
  Or.inr ⟨(show (6 : Nat) ≠ 1000 by decide), y_S_goOn, b_S_goOn, 9, none, lv, h, hR, hl, tg_in 570 (by decide +kernel) (by decide +kernel), tg_in 51 (by decide +kernel) (by decide +kernel), (show (y_S_goOn : MethodName).cls ≠ "java/lang/invoke/MethodHandle" ∧ (y_S_goOn : MethodName).cls ≠ "java/lang/invoke/VarHandle" ∧ (parseMethodDescriptor (y_S_goOn : MethodName).desc).map (fun d => d.parameters.length) = some 4 by decide +kernel), Or.inr ⟨(show 0 < (6 : Nat) by decide), tg_in 569 (by decide +kernel) (by decide +kernel), tg_in 14 (by decide +kernel) (by decide +kernel), TX5, 6, rfl⟩⟩
theorem m_S_addEnd {l : Launch} {own : String} {R : Room} {S : Spec} {lv x : Nat} (h : Sat l y_S_addEnd b_S_addEnd 3 none lv S) (hR : lv + 1 ≤ R.frames ∧ 8 + (3 + 11) + 36 * lv ≤ R.locals) (hl : Jvm.Cond.methodLink own x y_S_addEnd ∈ TG) : CalleeOK l own R (x, 6, 2, S) :=
  Or.inr ⟨(show (6 : Nat) ≠ 1000 by decide), y_S_addEnd, b_S_addEnd, 3, none, lv, h, hR, hl, tg_in 562 (by decide +kernel) (by decide +kernel), tg_in 51 (by decide +kernel) (by decide +kernel), (show (y_S_addEnd : MethodName).cls ≠ "java/lang/invoke/MethodHandle" ∧ (y_S_addEnd : MethodName).cls ≠ "java/lang/invoke/VarHandle" ∧ (parseMethodDescriptor (y_S_addEnd : MethodName).desc).map (fun d => d.parameters.length) = some 2 by decide +kernel), Or.inr ⟨(show 0 < (6 : Nat) by decide), tg_in 561 (by decide +kernel) (by decide +kernel), tg_in 12 (by decide +kernel) (by decide +kernel), TX5, 6, rfl⟩⟩
theorem m_G_setAll {l : Launch} {own : String} {R : Room} {S : Spec} {lv x : Nat} (h : Sat l y_G_setAll b_G_setAll 2 none lv S) (hR : lv + 1 ≤ R.frames ∧ 8 + (2 + 11) + 36 * lv ≤ R.locals) (hl : Jvm.Cond.methodLink own x y_G_setAll ∈ TG) : CalleeOK l own R (x, 7, 1, S) :=
  Or.inr ⟨(show (7 : Nat) ≠ 1000 by decide), y_G_setAll, b_G_setAll, 2, none, lv, h, hR, hl, tg_in 460 (by decide +kernel) (by decide +kernel), tg_in 52 (by decide +kernel) (by decide +kernel), (show (y_G_setAll : MethodName).cls ≠ "java/lang/invoke/MethodHandle" ∧ (y_G_setAll : MethodName).cls ≠ "java/lang/invoke/VarHandle" ∧ (parseMethodDescriptor (y_G_setAll : MethodName).desc).map (fun d => d.parameters.length) = some 1 by decide +kernel), Or.inr ⟨(show 0 < (7 : Nat) by decide), tg_in 458 (by decide +kernel) (by decide +kernel), tg_in 459 (by decide +kernel) (by decide +kernel), TX6, 1, rfl⟩⟩
theorem m_G_set {l : Launch} {own : String} {R : Room} {S : Spec} {lv x : Nat} (h : Sat l y_G_set b_G_set 3 none lv S) (hR : lv + 1 ≤ R.frames ∧ 8 + (3 + 11) + 36 * lv ≤ R.locals) (hl : Jvm.Cond.methodLink own x y_G_set ∈ TG) : CalleeOK l own R (x, 7, 2, S) :=
  Or.inr ⟨(show (7 : Nat) ≠ 1000 by decide), y_G_set, b_G_set, 3, none, lv, h, hR, hl, tg_in 596 (by decide +kernel) (by decide +kernel), tg_in 52 (by decide +kernel) (by decide +kernel), (show (y_G_set : MethodName).cls ≠ "java/lang/invoke/MethodHandle" ∧ (y_G_set : MethodName).cls ≠ "java/lang/invoke/VarHandle" ∧ (parseMethodDescriptor (y_G_set : MethodName).desc).map (fun d => d.parameters.length) = some 2 by decide +kernel), Or.inr ⟨(show 0 < (7 : Nat) by decide), tg_in 594 (by decide +kernel) (by decide +kernel), tg_in 595 (by decide +kernel) (by decide +kernel), TX6, 1, rfl⟩⟩
theorem m_G_of {l : Launch} {own : String} {R : Room} {S : Spec} {lv x : Nat} (h : Sat l y_G_of b_G_of 2 (some .int) lv S) (hR : lv + 1 ≤ R.frames ∧ 8 + (2 + 11) + 36 * lv ≤ R.locals) (hl : Jvm.Cond.methodLink own x y_G_of ∈ TG) : CalleeOK l own R (x, 7, 1, S) :=
  Or.inr ⟨(show (7 : Nat) ≠ 1000 by decide), y_G_of, b_G_of, 2, (some .int), lv, h, hR, hl, tg_in 592 (by decide +kernel) (by decide +kernel), tg_in 52 (by decide +kernel) (by decide +kernel), (show (y_G_of : MethodName).cls ≠ "java/lang/invoke/MethodHandle" ∧ (y_G_of : MethodName).cls ≠ "java/lang/invoke/VarHandle" ∧ (parseMethodDescriptor (y_G_of : MethodName).desc).map (fun d => d.parameters.length) = some 1 by decide +kernel), Or.inr ⟨(show 0 < (7 : Nat) by decide), tg_in 590 (by decide +kernel) (by decide +kernel), tg_in 591 (by decide +kernel) (by decide +kernel), TX6, 1, rfl⟩⟩
theorem m_G_sum {l : Launch} {own : String} {R : Room} {S : Spec} {lv x : Nat} (h : Sat l y_G_sum b_G_sum 3 (some .int) lv S) (hR : lv + 1 ≤ R.frames ∧ 8 + (3 + 11) + 36 * lv ≤ R.locals) (hl : Jvm.Cond.methodLink own x y_G_sum ∈ TG) : CalleeOK l own R (x, 7, 0, S) :=
  Or.inr ⟨(show (7 : Nat) ≠ 1000 by decide), y_G_sum, b_G_sum, 3, (some .int), lv, h, hR, hl, tg_in 615 (by decide +kernel) (by decide +kernel), tg_in 52 (by decide +kernel) (by decide +kernel), (show (y_G_sum : MethodName).cls ≠ "java/lang/invoke/MethodHandle" ∧ (y_G_sum : MethodName).cls ≠ "java/lang/invoke/VarHandle" ∧ (parseMethodDescriptor (y_G_sum : MethodName).desc).map (fun d => d.parameters.length) = some 0 by decide +kernel), Or.inr ⟨(show 0 < (7 : Nat) by decide), tg_in 613 (by decide +kernel) (by decide +kernel), tg_in 614 (by decide +kernel) (by decide +kernel), TX6, 1, rfl⟩⟩
theorem m_G_raise {l : Launch} {own : String} {R : Room} {S : Spec} {lv x : Nat} (h : Sat l y_G_raise b_G_raise 4 none lv S) (hR : lv + 1 ≤ R.frames ∧ 8 + (4 + 11) + 36 * lv ≤ R.locals) (hl : Jvm.Cond.methodLink own x y_G_raise ∈ TG) : CalleeOK l own R (x, 7, 2, S) :=
  Or.inr ⟨(show (7 : Nat) ≠ 1000 by decide), y_G_raise, b_G_raise, 4, none, lv, h, hR, hl, tg_in 632 (by decide +kernel) (by decide +kernel), tg_in 52 (by decide +kernel) (by decide +kernel), (show (y_G_raise : MethodName).cls ≠ "java/lang/invoke/MethodHandle" ∧ (y_G_raise : MethodName).cls ≠ "java/lang/invoke/VarHandle" ∧ (parseMethodDescriptor (y_G_raise : MethodName).desc).map (fun d => d.parameters.length) = some 2 by decide +kernel), Or.inr ⟨(show 0 < (7 : Nat) by decide), tg_in 630 (by decide +kernel) (by decide +kernel), tg_in 631 (by decide +kernel) (by decide +kernel), TX6, 1, rfl⟩⟩
theorem m_G_firstTooGreat {l : Launch} {own : String} {R : Room} {S : Spec} {lv x : Nat} (h : Sat l y_G_firstTooGreat b_G_firstTooGreat 6 (some .int) lv S) (hR : lv + 1 ≤ R.frames ∧ 8 + (6 + 11) + 36 * lv ≤ R.locals) (hl : Jvm.Cond.methodLink own x y_G_firstTooGreat ∈ TG) : CalleeOK l own R (x, 7, 4, S) :=
  Or.inr ⟨(show (7 : Nat) ≠ 1000 by decide), y_G_firstTooGreat, b_G_firstTooGreat, 6, (some .int), lv, h, hR, hl, tg_in 611 (by decide +kernel) (by decide +kernel), tg_in 52 (by decide +kernel) (by decide +kernel), (show (y_G_firstTooGreat : MethodName).cls ≠ "java/lang/invoke/MethodHandle" ∧ (y_G_firstTooGreat : MethodName).cls ≠ "java/lang/invoke/VarHandle" ∧ (parseMethodDescriptor (y_G_firstTooGreat : MethodName).desc).map (fun d => d.parameters.length) = some 4 by decide +kernel), Or.inr ⟨(show 0 < (7 : Nat) by decide), tg_in 609 (by decide +kernel) (by decide +kernel), tg_in 610 (by decide +kernel) (by decide +kernel), TX6, 1, rfl⟩⟩
theorem m_G_settle {l : Launch} {own : String} {R : Room} {S : Spec} {lv x : Nat} (h : Sat l y_G_settle b_G_settle 6 none lv S) (hR : lv + 1 ≤ R.frames ∧ 8 + (6 + 11) + 36 * lv ≤ R.locals) (hl : Jvm.Cond.methodLink own x y_G_settle ∈ TG) : CalleeOK l own R (x, 7, 4, S) :=
  Or.inr ⟨(show (7 : Nat) ≠ 1000 by decide), y_G_settle, b_G_settle, 6, none, lv, h, hR, hl, tg_in 637 (by decide +kernel) (by decide +kernel), tg_in 52 (by decide +kernel) (by decide +kernel), (show (y_G_settle : MethodName).cls ≠ "java/lang/invoke/MethodHandle" ∧ (y_G_settle : MethodName).cls ≠ "java/lang/invoke/VarHandle" ∧ (parseMethodDescriptor (y_G_settle : MethodName).desc).map (fun d => d.parameters.length) = some 4 by decide +kernel), Or.inr ⟨(show 0 < (7 : Nat) by decide), tg_in 635 (by decide +kernel) (by decide +kernel), tg_in 636 (by decide +kernel) (by decide +kernel), TX6, 1, rfl⟩⟩
theorem m_G_lower {l : Launch} {own : String} {R : Room} {S : Spec} {lv x : Nat} (h : Sat l y_G_lower b_G_lower 9 (some .boolean) lv S) (hR : lv + 1 ≤ R.frames ∧ 8 + (9 + 11) + 36 * lv ≤ R.locals) (hl : Jvm.Cond.methodLink own x y_G_lower ∈ TG) : CalleeOK l own R (x, 7, 4, S) :=
  Or.inr ⟨(show (7 : Nat) ≠ 1000 by decide), y_G_lower, b_G_lower, 9, (some .boolean), lv, h, hR, hl, tg_in 641 (by decide +kernel) (by decide +kernel), tg_in 52 (by decide +kernel) (by decide +kernel), (show (y_G_lower : MethodName).cls ≠ "java/lang/invoke/MethodHandle" ∧ (y_G_lower : MethodName).cls ≠ "java/lang/invoke/VarHandle" ∧ (parseMethodDescriptor (y_G_lower : MethodName).desc).map (fun d => d.parameters.length) = some 4 by decide +kernel), Or.inr ⟨(show 0 < (7 : Nat) by decide), tg_in 640 (by decide +kernel) (by decide +kernel), tg_in 16 (by decide +kernel) (by decide +kernel), TX6, 1, rfl⟩⟩
theorem m_G_weighEnds {l : Launch} {own : String} {R : Room} {S : Spec} {lv x : Nat} (h : Sat l y_G_weighEnds b_G_weighEnds 5 none lv S) (hR : lv + 1 ≤ R.frames ∧ 8 + (5 + 11) + 36 * lv ≤ R.locals) (hl : Jvm.Cond.methodLink own x y_G_weighEnds ∈ TG) : CalleeOK l own R (x, 7, 3, S) :=
  Or.inr ⟨(show (7 : Nat) ≠ 1000 by decide), y_G_weighEnds, b_G_weighEnds, 5, none, lv, h, hR, hl, tg_in 619 (by decide +kernel) (by decide +kernel), tg_in 52 (by decide +kernel) (by decide +kernel), (show (y_G_weighEnds : MethodName).cls ≠ "java/lang/invoke/MethodHandle" ∧ (y_G_weighEnds : MethodName).cls ≠ "java/lang/invoke/VarHandle" ∧ (parseMethodDescriptor (y_G_weighEnds : MethodName).desc).map (fun d => d.parameters.length) = some 3 by decide +kernel), Or.inr ⟨(show 0 < (7 : Nat) by decide), tg_in 618 (by decide +kernel) (by decide +kernel), tg_in 15 (by decide +kernel) (by decide +kernel), TX6, 1, rfl⟩⟩
theorem m_W_take {l : Launch} {own : String} {R : Room} {S : Spec} {lv x : Nat} (h : Sat l y_W_take b_W_take 3 none lv S) (hR : lv + 1 ≤ R.frames ∧ 8 + (3 + 11) + 36 * lv ≤ R.locals) (hl : Jvm.Cond.methodLink own x y_W_take ∈ TG) : CalleeOK l own R (x, 8, 1, S) :=
  Or.inr ⟨(show (8 : Nat) ≠ 1000 by decide), y_W_take, b_W_take, 3, none, lv, h, hR, hl, tg_in 405 (by decide +kernel) (by decide +kernel), tg_in 49 (by decide +kernel) (by decide +kernel), (show (y_W_take : MethodName).cls ≠ "java/lang/invoke/MethodHandle" ∧ (y_W_take : MethodName).cls ≠ "java/lang/invoke/VarHandle" ∧ (parseMethodDescriptor (y_W_take : MethodName).desc).map (fun d => d.parameters.length) = some 1 by decide +kernel), Or.inr ⟨(show 0 < (8 : Nat) by decide), tg_in 403 (by decide +kernel) (by decide +kernel), tg_in 404 (by decide +kernel) (by decide +kernel), TX7, 5, rfl⟩⟩
theorem m_W_adopt {l : Launch} {own : String} {R : Room} {S : Spec} {lv x : Nat} (h : Sat l y_W_adopt b_W_adopt 4 none lv S) (hR : lv + 1 ≤ R.frames ∧ 8 + (4 + 11) + 36 * lv ≤ R.locals) (hl : Jvm.Cond.methodLink own x y_W_adopt ∈ TG) : CalleeOK l own R (x, 8, 2, S) :=
  Or.inr ⟨(show (8 : Nat) ≠ 1000 by decide), y_W_adopt, b_W_adopt, 4, none, lv, h, hR, hl, tg_in 421 (by decide +kernel) (by decide +kernel), tg_in 49 (by decide +kernel) (by decide +kernel), (show (y_W_adopt : MethodName).cls ≠ "java/lang/invoke/MethodHandle" ∧ (y_W_adopt : MethodName).cls ≠ "java/lang/invoke/VarHandle" ∧ (parseMethodDescriptor (y_W_adopt : MethodName).desc).map (fun d => d.parameters.length) = some 2 by decide +kernel), Or.inr ⟨(show 0 < (8 : Nat) by decide), tg_in 420 (by decide +kernel) (by decide +kernel), tg_in 10 (by decide +kernel) (by decide +kernel), TX7, 5, rfl⟩⟩
theorem m_W_size {l : Launch} {own : String} {R : Room} {S : Spec} {lv x : Nat} (h : Sat l y_W_size b_W_size 1 (some .int) lv S) (hR : lv + 1 ≤ R.frames ∧ 8 + (1 + 11) + 36 * lv ≤ R.locals) (hl : Jvm.Cond.methodLink own x y_W_size ∈ TG) : CalleeOK l own R (x, 8, 0, S) :=
  Or.inr ⟨(show (8 : Nat) ≠ 1000 by decide), y_W_size, b_W_size, 1, (some .int), lv, h, hR, hl, tg_in 447 (by decide +kernel) (by decide +kernel), tg_in 49 (by decide +kernel) (by decide +kernel), (show (y_W_size : MethodName).cls ≠ "java/lang/invoke/MethodHandle" ∧ (y_W_size : MethodName).cls ≠ "java/lang/invoke/VarHandle" ∧ (parseMethodDescriptor (y_W_size : MethodName).desc).map (fun d => d.parameters.length) = some 0 by decide +kernel), Or.inr ⟨(show 0 < (8 : Nat) by decide), tg_in 445 (by decide +kernel) (by decide +kernel), tg_in 446 (by decide +kernel) (by decide +kernel), TX7, 5, rfl⟩⟩
theorem m_W_has {l : Launch} {own : String} {R : Room} {S : Spec} {lv x : Nat} (h : Sat l y_W_has b_W_has 2 (some .boolean) lv S) (hR : lv + 1 ≤ R.frames ∧ 8 + (2 + 11) + 36 * lv ≤ R.locals) (hl : Jvm.Cond.methodLink own x y_W_has ∈ TG) : CalleeOK l own R (x, 8, 1, S) :=
  Or.inr ⟨(show (8 : Nat) ≠ 1000 by decide), y_W_has, b_W_has, 2, (some .boolean), lv, h, hR, hl, tg_in 429 (by decide +kernel) (by decide +kernel), tg_in 49 (by decide +kernel) (by decide +kernel), (show (y_W_has : MethodName).cls ≠ "java/lang/invoke/MethodHandle" ∧ (y_W_has : MethodName).cls ≠ "java/lang/invoke/VarHandle" ∧ (parseMethodDescriptor (y_W_has : MethodName).desc).map (fun d => d.parameters.length) = some 1 by decide +kernel), Or.inr ⟨(show 0 < (8 : Nat) by decide), tg_in 427 (by decide +kernel) (by decide +kernel), tg_in 428 (by decide +kernel) (by decide +kernel), TX7, 5, rfl⟩⟩
theorem m_W_step {l : Launch} {own : String} {R : Room} {S : Spec} {lv x : Nat} (h : Sat l y_W_step b_W_step 3 (some .int) lv S) (hR : lv + 1 ≤ R.frames ∧ 8 + (3 + 11) + 36 * lv ≤ R.locals) (hl : Jvm.Cond.methodLink own x y_W_step ∈ TG) : CalleeOK l own R (x, 8, 2, S) :=
  Or.inr ⟨(show (8 : Nat) ≠ 1000 by decide), y_W_step, b_W_step, 3, (some .int), lv, h, hR, hl, tg_in 425 (by decide +kernel) (by decide +kernel), tg_in 49 (by decide +kernel) (by decide +kernel), (show (y_W_step : MethodName).cls ≠ "java/lang/invoke/MethodHandle" ∧ (y_W_step : MethodName).cls ≠ "java/lang/invoke/VarHandle" ∧ (parseMethodDescriptor (y_W_step : MethodName).desc).map (fun d => d.parameters.length) = some 2 by decide +kernel), Or.inr ⟨(show 0 < (8 : Nat) by decide), tg_in 423 (by decide +kernel) (by decide +kernel), tg_in 424 (by decide +kernel) (by decide +kernel), TX7, 5, rfl⟩⟩
theorem m_W_follow {l : Launch} {own : String} {R : Room} {S : Spec} {lv x : Nat} (h : Sat l y_W_follow b_W_follow 7 (some .int) lv S) (hR : lv + 1 ≤ R.frames ∧ 8 + (7 + 11) + 36 * lv ≤ R.locals) (hl : Jvm.Cond.methodLink own x y_W_follow ∈ TG) : CalleeOK l own R (x, 8, 3, S) :=
  Or.inr ⟨(show (8 : Nat) ≠ 1000 by decide), y_W_follow, b_W_follow, 7, (some .int), lv, h, hR, hl, tg_in 491 (by decide +kernel) (by decide +kernel), tg_in 49 (by decide +kernel) (by decide +kernel), (show (y_W_follow : MethodName).cls ≠ "java/lang/invoke/MethodHandle" ∧ (y_W_follow : MethodName).cls ≠ "java/lang/invoke/VarHandle" ∧ (parseMethodDescriptor (y_W_follow : MethodName).desc).map (fun d => d.parameters.length) = some 3 by decide +kernel), Or.inr ⟨(show 0 < (8 : Nat) by decide), tg_in 489 (by decide +kernel) (by decide +kernel), tg_in 490 (by decide +kernel) (by decide +kernel), TX7, 5, rfl⟩⟩
theorem m_W_depthOf {l : Launch} {own : String} {R : Room} {S : Spec} {lv x : Nat} (h : Sat l y_W_depthOf b_W_depthOf 2 (some .int) lv S) (hR : lv + 1 ≤ R.frames ∧ 8 + (2 + 11) + 36 * lv ≤ R.locals) (hl : Jvm.Cond.methodLink own x y_W_depthOf ∈ TG) : CalleeOK l own R (x, 8, 1, S) :=
  Or.inr ⟨(show (8 : Nat) ≠ 1000 by decide), y_W_depthOf, b_W_depthOf, 2, (some .int), lv, h, hR, hl, tg_in 500 (by decide +kernel) (by decide +kernel), tg_in 49 (by decide +kernel) (by decide +kernel), (show (y_W_depthOf : MethodName).cls ≠ "java/lang/invoke/MethodHandle" ∧ (y_W_depthOf : MethodName).cls ≠ "java/lang/invoke/VarHandle" ∧ (parseMethodDescriptor (y_W_depthOf : MethodName).desc).map (fun d => d.parameters.length) = some 1 by decide +kernel), Or.inr ⟨(show 0 < (8 : Nat) by decide), tg_in 498 (by decide +kernel) (by decide +kernel), tg_in 499 (by decide +kernel) (by decide +kernel), TX7, 5, rfl⟩⟩
theorem m_W_parentOf {l : Launch} {own : String} {R : Room} {S : Spec} {lv x : Nat} (h : Sat l y_W_parentOf b_W_parentOf 2 (some .int) lv S) (hR : lv + 1 ≤ R.frames ∧ 8 + (2 + 11) + 36 * lv ≤ R.locals) (hl : Jvm.Cond.methodLink own x y_W_parentOf ∈ TG) : CalleeOK l own R (x, 8, 1, S) :=
  Or.inr ⟨(show (8 : Nat) ≠ 1000 by decide), y_W_parentOf, b_W_parentOf, 2, (some .int), lv, h, hR, hl, tg_in 514 (by decide +kernel) (by decide +kernel), tg_in 49 (by decide +kernel) (by decide +kernel), (show (y_W_parentOf : MethodName).cls ≠ "java/lang/invoke/MethodHandle" ∧ (y_W_parentOf : MethodName).cls ≠ "java/lang/invoke/VarHandle" ∧ (parseMethodDescriptor (y_W_parentOf : MethodName).desc).map (fun d => d.parameters.length) = some 1 by decide +kernel), Or.inr ⟨(show 0 < (8 : Nat) by decide), tg_in 512 (by decide +kernel) (by decide +kernel), tg_in 513 (by decide +kernel) (by decide +kernel), TX7, 5, rfl⟩⟩
theorem m_W_lastBitOf {l : Launch} {own : String} {R : Room} {S : Spec} {lv x : Nat} (h : Sat l y_W_lastBitOf b_W_lastBitOf 2 (some .int) lv S) (hR : lv + 1 ≤ R.frames ∧ 8 + (2 + 11) + 36 * lv ≤ R.locals) (hl : Jvm.Cond.methodLink own x y_W_lastBitOf ∈ TG) : CalleeOK l own R (x, 8, 1, S) :=
  Or.inr ⟨(show (8 : Nat) ≠ 1000 by decide), y_W_lastBitOf, b_W_lastBitOf, 2, (some .int), lv, h, hR, hl, tg_in 510 (by decide +kernel) (by decide +kernel), tg_in 49 (by decide +kernel) (by decide +kernel), (show (y_W_lastBitOf : MethodName).cls ≠ "java/lang/invoke/MethodHandle" ∧ (y_W_lastBitOf : MethodName).cls ≠ "java/lang/invoke/VarHandle" ∧ (parseMethodDescriptor (y_W_lastBitOf : MethodName).desc).map (fun d => d.parameters.length) = some 1 by decide +kernel), Or.inr ⟨(show 0 < (8 : Nat) by decide), tg_in 508 (by decide +kernel) (by decide +kernel), tg_in 509 (by decide +kernel) (by decide +kernel), TX7, 5, rfl⟩⟩
theorem m_W_shortestRow {l : Launch} {own : String} {R : Room} {S : Spec} {lv x : Nat} (h : Sat l y_W_shortestRow b_W_shortestRow 7 (some .long) lv S) (hR : lv + 1 ≤ R.frames ∧ 8 + (7 + 11) + 36 * lv ≤ R.locals) (hl : Jvm.Cond.methodLink own x y_W_shortestRow ∈ TG) : CalleeOK l own R (x, 8, 1, S) :=
  Or.inr ⟨(show (8 : Nat) ≠ 1000 by decide), y_W_shortestRow, b_W_shortestRow, 7, (some .long), lv, h, hR, hl, tg_in 504 (by decide +kernel) (by decide +kernel), tg_in 49 (by decide +kernel) (by decide +kernel), (show (y_W_shortestRow : MethodName).cls ≠ "java/lang/invoke/MethodHandle" ∧ (y_W_shortestRow : MethodName).cls ≠ "java/lang/invoke/VarHandle" ∧ (parseMethodDescriptor (y_W_shortestRow : MethodName).desc).map (fun d => d.parameters.length) = some 1 by decide +kernel), Or.inr ⟨(show 0 < (8 : Nat) by decide), tg_in 502 (by decide +kernel) (by decide +kernel), tg_in 503 (by decide +kernel) (by decide +kernel), TX7, 5, rfl⟩⟩
theorem m_X_runs {l : Launch} {own : String} {R : Room} {S : Spec} {lv x : Nat} (h : Sat l y_X_runs b_X_runs 5 (some .int) lv S) (hR : lv + 1 ≤ R.frames ∧ 8 + (5 + 11) + 36 * lv ≤ R.locals) (hl : Jvm.Cond.methodLink own x y_X_runs ∈ TG) : CalleeOK l own R (x, 9, 2, S) :=
  Or.inr ⟨(show (9 : Nat) ≠ 1000 by decide), y_X_runs, b_X_runs, 5, (some .int), lv, h, hR, hl, tg_in 283 (by decide +kernel) (by decide +kernel), tg_in 46 (by decide +kernel) (by decide +kernel), (show (y_X_runs : MethodName).cls ≠ "java/lang/invoke/MethodHandle" ∧ (y_X_runs : MethodName).cls ≠ "java/lang/invoke/VarHandle" ∧ (parseMethodDescriptor (y_X_runs : MethodName).desc).map (fun d => d.parameters.length) = some 2 by decide +kernel), Or.inr ⟨(show 0 < (9 : Nat) by decide), tg_in 281 (by decide +kernel) (by decide +kernel), tg_in 282 (by decide +kernel) (by decide +kernel), TX8, 12, rfl⟩⟩
theorem m_X_word {l : Launch} {own : String} {R : Room} {S : Spec} {lv x : Nat} (h : Sat l y_X_word b_X_word 3 (some .int) lv S) (hR : lv + 1 ≤ R.frames ∧ 8 + (3 + 11) + 36 * lv ≤ R.locals) (hl : Jvm.Cond.methodLink own x y_X_word ∈ TG) : CalleeOK l own R (x, 9, 2, S) :=
  Or.inr ⟨(show (9 : Nat) ≠ 1000 by decide), y_X_word, b_X_word, 3, (some .int), lv, h, hR, hl, tg_in 294 (by decide +kernel) (by decide +kernel), tg_in 46 (by decide +kernel) (by decide +kernel), (show (y_X_word : MethodName).cls ≠ "java/lang/invoke/MethodHandle" ∧ (y_X_word : MethodName).cls ≠ "java/lang/invoke/VarHandle" ∧ (parseMethodDescriptor (y_X_word : MethodName).desc).map (fun d => d.parameters.length) = some 2 by decide +kernel), Or.inr ⟨(show 0 < (9 : Nat) by decide), tg_in 292 (by decide +kernel) (by decide +kernel), tg_in 293 (by decide +kernel) (by decide +kernel), TX8, 12, rfl⟩⟩
theorem m_X_clearWords {l : Launch} {own : String} {R : Room} {S : Spec} {lv x : Nat} (h : Sat l y_X_clearWords b_X_clearWords 1 (some .int) lv S) (hR : lv + 1 ≤ R.frames ∧ 8 + (1 + 11) + 36 * lv ≤ R.locals) (hl : Jvm.Cond.methodLink own x y_X_clearWords ∈ TG) : CalleeOK l own R (x, 9, 0, S) :=
  Or.inr ⟨(show (9 : Nat) ≠ 1000 by decide), y_X_clearWords, b_X_clearWords, 1, (some .int), lv, h, hR, hl, tg_in 305 (by decide +kernel) (by decide +kernel), tg_in 46 (by decide +kernel) (by decide +kernel), (show (y_X_clearWords : MethodName).cls ≠ "java/lang/invoke/MethodHandle" ∧ (y_X_clearWords : MethodName).cls ≠ "java/lang/invoke/VarHandle" ∧ (parseMethodDescriptor (y_X_clearWords : MethodName).desc).map (fun d => d.parameters.length) = some 0 by decide +kernel), Or.inr ⟨(show 0 < (9 : Nat) by decide), tg_in 303 (by decide +kernel) (by decide +kernel), tg_in 304 (by decide +kernel) (by decide +kernel), TX8, 12, rfl⟩⟩
theorem m_X_lean {l : Launch} {own : String} {R : Room} {S : Spec} {lv x : Nat} (h : Sat l y_X_lean b_X_lean 2 (some .int) lv S) (hR : lv + 1 ≤ R.frames ∧ 8 + (2 + 11) + 36 * lv ≤ R.locals) (hl : Jvm.Cond.methodLink own x y_X_lean ∈ TG) : CalleeOK l own R (x, 9, 1, S) :=
  Or.inr ⟨(show (9 : Nat) ≠ 1000 by decide), y_X_lean, b_X_lean, 2, (some .int), lv, h, hR, hl, tg_in 313 (by decide +kernel) (by decide +kernel), tg_in 46 (by decide +kernel) (by decide +kernel), (show (y_X_lean : MethodName).cls ≠ "java/lang/invoke/MethodHandle" ∧ (y_X_lean : MethodName).cls ≠ "java/lang/invoke/VarHandle" ∧ (parseMethodDescriptor (y_X_lean : MethodName).desc).map (fun d => d.parameters.length) = some 1 by decide +kernel), Or.inr ⟨(show 0 < (9 : Nat) by decide), tg_in 311 (by decide +kernel) (by decide +kernel), tg_in 312 (by decide +kernel) (by decide +kernel), TX8, 12, rfl⟩⟩
theorem m_X_ban {l : Launch} {own : String} {R : Room} {S : Spec} {lv x : Nat} (h : Sat l y_X_ban b_X_ban 2 (some .int) lv S) (hR : lv + 1 ≤ R.frames ∧ 8 + (2 + 11) + 36 * lv ≤ R.locals) (hl : Jvm.Cond.methodLink own x y_X_ban ∈ TG) : CalleeOK l own R (x, 9, 1, S) :=
  Or.inr ⟨(show (9 : Nat) ≠ 1000 by decide), y_X_ban, b_X_ban, 2, (some .int), lv, h, hR, hl, tg_in 321 (by decide +kernel) (by decide +kernel), tg_in 46 (by decide +kernel) (by decide +kernel), (show (y_X_ban : MethodName).cls ≠ "java/lang/invoke/MethodHandle" ∧ (y_X_ban : MethodName).cls ≠ "java/lang/invoke/VarHandle" ∧ (parseMethodDescriptor (y_X_ban : MethodName).desc).map (fun d => d.parameters.length) = some 1 by decide +kernel), Or.inr ⟨(show 0 < (9 : Nat) by decide), tg_in 319 (by decide +kernel) (by decide +kernel), tg_in 320 (by decide +kernel) (by decide +kernel), TX8, 12, rfl⟩⟩
theorem m_X_build {l : Launch} {own : String} {R : Room} {S : Spec} {lv x : Nat} (h : Sat l y_X_build b_X_build 1 (some .int) lv S) (hR : lv + 1 ≤ R.frames ∧ 8 + (1 + 11) + 36 * lv ≤ R.locals) (hl : Jvm.Cond.methodLink own x y_X_build ∈ TG) : CalleeOK l own R (x, 9, 0, S) :=
  Or.inr ⟨(show (9 : Nat) ≠ 1000 by decide), y_X_build, b_X_build, 1, (some .int), lv, h, hR, hl, tg_in 333 (by decide +kernel) (by decide +kernel), tg_in 46 (by decide +kernel) (by decide +kernel), (show (y_X_build : MethodName).cls ≠ "java/lang/invoke/MethodHandle" ∧ (y_X_build : MethodName).cls ≠ "java/lang/invoke/VarHandle" ∧ (parseMethodDescriptor (y_X_build : MethodName).desc).map (fun d => d.parameters.length) = some 0 by decide +kernel), Or.inr ⟨(show 0 < (9 : Nat) by decide), tg_in 331 (by decide +kernel) (by decide +kernel), tg_in 332 (by decide +kernel) (by decide +kernel), TX8, 12, rfl⟩⟩
theorem m_X_states {l : Launch} {own : String} {R : Room} {S : Spec} {lv x : Nat} (h : Sat l y_X_states b_X_states 1 (some .int) lv S) (hR : lv + 1 ≤ R.frames ∧ 8 + (1 + 11) + 36 * lv ≤ R.locals) (hl : Jvm.Cond.methodLink own x y_X_states ∈ TG) : CalleeOK l own R (x, 9, 0, S) :=
  Or.inr ⟨(show (9 : Nat) ≠ 1000 by decide), y_X_states, b_X_states, 1, (some .int), lv, h, hR, hl, tg_in 477 (by decide +kernel) (by decide +kernel), tg_in 46 (by decide +kernel) (by decide +kernel), (show (y_X_states : MethodName).cls ≠ "java/lang/invoke/MethodHandle" ∧ (y_X_states : MethodName).cls ≠ "java/lang/invoke/VarHandle" ∧ (parseMethodDescriptor (y_X_states : MethodName).desc).map (fun d => d.parameters.length) = some 0 by decide +kernel), Or.inr ⟨(show 0 < (9 : Nat) by decide), tg_in 475 (by decide +kernel) (by decide +kernel), tg_in 476 (by decide +kernel) (by decide +kernel), TX8, 12, rfl⟩⟩
theorem m_X_go {l : Launch} {own : String} {R : Room} {S : Spec} {lv x : Nat} (h : Sat l y_X_go b_X_go 3 (some .int) lv S) (hR : lv + 1 ≤ R.frames ∧ 8 + (3 + 11) + 36 * lv ≤ R.locals) (hl : Jvm.Cond.methodLink own x y_X_go ∈ TG) : CalleeOK l own R (x, 9, 2, S) :=
  Or.inr ⟨(show (9 : Nat) ≠ 1000 by decide), y_X_go, b_X_go, 3, (some .int), lv, h, hR, hl, tg_in 481 (by decide +kernel) (by decide +kernel), tg_in 46 (by decide +kernel) (by decide +kernel), (show (y_X_go : MethodName).cls ≠ "java/lang/invoke/MethodHandle" ∧ (y_X_go : MethodName).cls ≠ "java/lang/invoke/VarHandle" ∧ (parseMethodDescriptor (y_X_go : MethodName).desc).map (fun d => d.parameters.length) = some 2 by decide +kernel), Or.inr ⟨(show 0 < (9 : Nat) by decide), tg_in 479 (by decide +kernel) (by decide +kernel), tg_in 480 (by decide +kernel) (by decide +kernel), TX8, 12, rfl⟩⟩
theorem m_X_walk {l : Launch} {own : String} {R : Room} {S : Spec} {lv x : Nat} (h : Sat l y_X_walk b_X_walk 5 (some .int) lv S) (hR : lv + 1 ≤ R.frames ∧ 8 + (5 + 11) + 36 * lv ≤ R.locals) (hl : Jvm.Cond.methodLink own x y_X_walk ∈ TG) : CalleeOK l own R (x, 9, 3, S) :=
  Or.inr ⟨(show (9 : Nat) ≠ 1000 by decide), y_X_walk, b_X_walk, 5, (some .int), lv, h, hR, hl, tg_in 487 (by decide +kernel) (by decide +kernel), tg_in 46 (by decide +kernel) (by decide +kernel), (show (y_X_walk : MethodName).cls ≠ "java/lang/invoke/MethodHandle" ∧ (y_X_walk : MethodName).cls ≠ "java/lang/invoke/VarHandle" ∧ (parseMethodDescriptor (y_X_walk : MethodName).desc).map (fun d => d.parameters.length) = some 3 by decide +kernel), Or.inr ⟨(show 0 < (9 : Nat) by decide), tg_in 485 (by decide +kernel) (by decide +kernel), tg_in 486 (by decide +kernel) (by decide +kernel), TX8, 12, rfl⟩⟩
theorem m_X_first {l : Launch} {own : String} {R : Room} {S : Spec} {lv x : Nat} (h : Sat l y_X_first b_X_first 3 (some .long) lv S) (hR : lv + 1 ≤ R.frames ∧ 8 + (3 + 11) + 36 * lv ≤ R.locals) (hl : Jvm.Cond.methodLink own x y_X_first ∈ TG) : CalleeOK l own R (x, 9, 2, S) :=
  Or.inr ⟨(show (9 : Nat) ≠ 1000 by decide), y_X_first, b_X_first, 3, (some .long), lv, h, hR, hl, tg_in 495 (by decide +kernel) (by decide +kernel), tg_in 46 (by decide +kernel) (by decide +kernel), (show (y_X_first : MethodName).cls ≠ "java/lang/invoke/MethodHandle" ∧ (y_X_first : MethodName).cls ≠ "java/lang/invoke/VarHandle" ∧ (parseMethodDescriptor (y_X_first : MethodName).desc).map (fun d => d.parameters.length) = some 2 by decide +kernel), Or.inr ⟨(show 0 < (9 : Nat) by decide), tg_in 493 (by decide +kernel) (by decide +kernel), tg_in 494 (by decide +kernel) (by decide +kernel), TX8, 12, rfl⟩⟩
theorem m_X_count {l : Launch} {own : String} {R : Room} {S : Spec} {lv x : Nat} (h : Sat l y_X_count b_X_count 3 (some .long) lv S) (hR : lv + 1 ≤ R.frames ∧ 8 + (3 + 11) + 36 * lv ≤ R.locals) (hl : Jvm.Cond.methodLink own x y_X_count ∈ TG) : CalleeOK l own R (x, 9, 2, S) :=
  Or.inr ⟨(show (9 : Nat) ≠ 1000 by decide), y_X_count, b_X_count, 3, (some .long), lv, h, hR, hl, tg_in 518 (by decide +kernel) (by decide +kernel), tg_in 46 (by decide +kernel) (by decide +kernel), (show (y_X_count : MethodName).cls ≠ "java/lang/invoke/MethodHandle" ∧ (y_X_count : MethodName).cls ≠ "java/lang/invoke/VarHandle" ∧ (parseMethodDescriptor (y_X_count : MethodName).desc).map (fun d => d.parameters.length) = some 2 by decide +kernel), Or.inr ⟨(show 0 < (9 : Nat) by decide), tg_in 516 (by decide +kernel) (by decide +kernel), tg_in 517 (by decide +kernel) (by decide +kernel), TX8, 12, rfl⟩⟩
theorem m_X_number {l : Launch} {own : String} {R : Room} {S : Spec} {lv x : Nat} (h : Sat l y_X_number b_X_number 5 (some .long) lv S) (hR : lv + 1 ≤ R.frames ∧ 8 + (5 + 11) + 36 * lv ≤ R.locals) (hl : Jvm.Cond.methodLink own x y_X_number ∈ TG) : CalleeOK l own R (x, 9, 3, S) :=
  Or.inr ⟨(show (9 : Nat) ≠ 1000 by decide), y_X_number, b_X_number, 5, (some .long), lv, h, hR, hl, tg_in 523 (by decide +kernel) (by decide +kernel), tg_in 46 (by decide +kernel) (by decide +kernel), (show (y_X_number : MethodName).cls ≠ "java/lang/invoke/MethodHandle" ∧ (y_X_number : MethodName).cls ≠ "java/lang/invoke/VarHandle" ∧ (parseMethodDescriptor (y_X_number : MethodName).desc).map (fun d => d.parameters.length) = some 3 by decide +kernel), Or.inr ⟨(show 0 < (9 : Nat) by decide), tg_in 521 (by decide +kernel) (by decide +kernel), tg_in 522 (by decide +kernel) (by decide +kernel), TX8, 12, rfl⟩⟩
theorem m_X_row {l : Launch} {own : String} {R : Room} {S : Spec} {lv x : Nat} (h : Sat l y_X_row b_X_row 5 (some .long) lv S) (hR : lv + 1 ≤ R.frames ∧ 8 + (5 + 11) + 36 * lv ≤ R.locals) (hl : Jvm.Cond.methodLink own x y_X_row ∈ TG) : CalleeOK l own R (x, 9, 3, S) :=
  Or.inr ⟨(show (9 : Nat) ≠ 1000 by decide), y_X_row, b_X_row, 5, (some .long), lv, h, hR, hl, tg_in 532 (by decide +kernel) (by decide +kernel), tg_in 46 (by decide +kernel) (by decide +kernel), (show (y_X_row : MethodName).cls ≠ "java/lang/invoke/MethodHandle" ∧ (y_X_row : MethodName).cls ≠ "java/lang/invoke/VarHandle" ∧ (parseMethodDescriptor (y_X_row : MethodName).desc).map (fun d => d.parameters.length) = some 3 by decide +kernel), Or.inr ⟨(show 0 < (9 : Nat) by decide), tg_in 530 (by decide +kernel) (by decide +kernel), tg_in 531 (by decide +kernel) (by decide +kernel), TX8, 12, rfl⟩⟩
theorem m_X_ways {l : Launch} {own : String} {R : Room} {S : Spec} {lv x : Nat} (h : Sat l y_X_ways b_X_ways 4 (some .int) lv S) (hR : lv + 1 ≤ R.frames ∧ 8 + (4 + 11) + 36 * lv ≤ R.locals) (hl : Jvm.Cond.methodLink own x y_X_ways ∈ TG) : CalleeOK l own R (x, 9, 3, S) :=
  Or.inr ⟨(show (9 : Nat) ≠ 1000 by decide), y_X_ways, b_X_ways, 4, (some .int), lv, h, hR, hl, tg_in 541 (by decide +kernel) (by decide +kernel), tg_in 46 (by decide +kernel) (by decide +kernel), (show (y_X_ways : MethodName).cls ≠ "java/lang/invoke/MethodHandle" ∧ (y_X_ways : MethodName).cls ≠ "java/lang/invoke/VarHandle" ∧ (parseMethodDescriptor (y_X_ways : MethodName).desc).map (fun d => d.parameters.length) = some 3 by decide +kernel), Or.inr ⟨(show 0 < (9 : Nat) by decide), tg_in 539 (by decide +kernel) (by decide +kernel), tg_in 540 (by decide +kernel) (by decide +kernel), TX8, 12, rfl⟩⟩
theorem m_X_mark {l : Launch} {own : String} {R : Room} {S : Spec} {lv x : Nat} (h : Sat l y_X_mark b_X_mark 2 (some .int) lv S) (hR : lv + 1 ≤ R.frames ∧ 8 + (2 + 11) + 36 * lv ≤ R.locals) (hl : Jvm.Cond.methodLink own x y_X_mark ∈ TG) : CalleeOK l own R (x, 9, 1, S) :=
  Or.inr ⟨(show (9 : Nat) ≠ 1000 by decide), y_X_mark, b_X_mark, 2, (some .int), lv, h, hR, hl, tg_in 549 (by decide +kernel) (by decide +kernel), tg_in 46 (by decide +kernel) (by decide +kernel), (show (y_X_mark : MethodName).cls ≠ "java/lang/invoke/MethodHandle" ∧ (y_X_mark : MethodName).cls ≠ "java/lang/invoke/VarHandle" ∧ (parseMethodDescriptor (y_X_mark : MethodName).desc).map (fun d => d.parameters.length) = some 1 by decide +kernel), Or.inr ⟨(show 0 < (9 : Nat) by decide), tg_in 547 (by decide +kernel) (by decide +kernel), tg_in 548 (by decide +kernel) (by decide +kernel), TX8, 12, rfl⟩⟩
theorem m_X_marked {l : Launch} {own : String} {R : Room} {S : Spec} {lv x : Nat} (h : Sat l y_X_marked b_X_marked 1 (some .int) lv S) (hR : lv + 1 ≤ R.frames ∧ 8 + (1 + 11) + 36 * lv ≤ R.locals) (hl : Jvm.Cond.methodLink own x y_X_marked ∈ TG) : CalleeOK l own R (x, 9, 0, S) :=
  Or.inr ⟨(show (9 : Nat) ≠ 1000 by decide), y_X_marked, b_X_marked, 1, (some .int), lv, h, hR, hl, tg_in 579 (by decide +kernel) (by decide +kernel), tg_in 46 (by decide +kernel) (by decide +kernel), (show (y_X_marked : MethodName).cls ≠ "java/lang/invoke/MethodHandle" ∧ (y_X_marked : MethodName).cls ≠ "java/lang/invoke/VarHandle" ∧ (parseMethodDescriptor (y_X_marked : MethodName).desc).map (fun d => d.parameters.length) = some 0 by decide +kernel), Or.inr ⟨(show 0 < (9 : Nat) by decide), tg_in 577 (by decide +kernel) (by decide +kernel), tg_in 578 (by decide +kernel) (by decide +kernel), TX8, 12, rfl⟩⟩
theorem m_X_weigh {l : Launch} {own : String} {R : Room} {S : Spec} {lv x : Nat} (h : Sat l y_X_weigh b_X_weigh 4 (some .int) lv S) (hR : lv + 1 ≤ R.frames ∧ 8 + (4 + 11) + 36 * lv ≤ R.locals) (hl : Jvm.Cond.methodLink own x y_X_weigh ∈ TG) : CalleeOK l own R (x, 9, 2, S) :=
  Or.inr ⟨(show (9 : Nat) ≠ 1000 by decide), y_X_weigh, b_X_weigh, 4, (some .int), lv, h, hR, hl, tg_in 587 (by decide +kernel) (by decide +kernel), tg_in 46 (by decide +kernel) (by decide +kernel), (show (y_X_weigh : MethodName).cls ≠ "java/lang/invoke/MethodHandle" ∧ (y_X_weigh : MethodName).cls ≠ "java/lang/invoke/VarHandle" ∧ (parseMethodDescriptor (y_X_weigh : MethodName).desc).map (fun d => d.parameters.length) = some 2 by decide +kernel), Or.inr ⟨(show 0 < (9 : Nat) by decide), tg_in 585 (by decide +kernel) (by decide +kernel), tg_in 586 (by decide +kernel) (by decide +kernel), TX8, 12, rfl⟩⟩
theorem m_X_weight {l : Launch} {own : String} {R : Room} {S : Spec} {lv x : Nat} (h : Sat l y_X_weight b_X_weight 2 (some .int) lv S) (hR : lv + 1 ≤ R.frames ∧ 8 + (2 + 11) + 36 * lv ≤ R.locals) (hl : Jvm.Cond.methodLink own x y_X_weight ∈ TG) : CalleeOK l own R (x, 9, 1, S) :=
  Or.inr ⟨(show (9 : Nat) ≠ 1000 by decide), y_X_weight, b_X_weight, 2, (some .int), lv, h, hR, hl, tg_in 600 (by decide +kernel) (by decide +kernel), tg_in 46 (by decide +kernel) (by decide +kernel), (show (y_X_weight : MethodName).cls ≠ "java/lang/invoke/MethodHandle" ∧ (y_X_weight : MethodName).cls ≠ "java/lang/invoke/VarHandle" ∧ (parseMethodDescriptor (y_X_weight : MethodName).desc).map (fun d => d.parameters.length) = some 1 by decide +kernel), Or.inr ⟨(show 0 < (9 : Nat) by decide), tg_in 598 (by decide +kernel) (by decide +kernel), tg_in 599 (by decide +kernel) (by decide +kernel), TX8, 12, rfl⟩⟩
theorem m_X_judge {l : Launch} {own : String} {R : Room} {S : Spec} {lv x : Nat} (h : Sat l y_X_judge b_X_judge 3 (some .int) lv S) (hR : lv + 1 ≤ R.frames ∧ 8 + (3 + 11) + 36 * lv ≤ R.locals) (hl : Jvm.Cond.methodLink own x y_X_judge ∈ TG) : CalleeOK l own R (x, 9, 2, S) :=
  Or.inr ⟨(show (9 : Nat) ≠ 1000 by decide), y_X_judge, b_X_judge, 3, (some .int), lv, h, hR, hl, tg_in 604 (by decide +kernel) (by decide +kernel), tg_in 46 (by decide +kernel) (by decide +kernel), (show (y_X_judge : MethodName).cls ≠ "java/lang/invoke/MethodHandle" ∧ (y_X_judge : MethodName).cls ≠ "java/lang/invoke/VarHandle" ∧ (parseMethodDescriptor (y_X_judge : MethodName).desc).map (fun d => d.parameters.length) = some 2 by decide +kernel), Or.inr ⟨(show 0 < (9 : Nat) by decide), tg_in 602 (by decide +kernel) (by decide +kernel), tg_in 603 (by decide +kernel) (by decide +kernel), TX8, 12, rfl⟩⟩
theorem m_X_best {l : Launch} {own : String} {R : Room} {S : Spec} {lv x : Nat} (h : Sat l y_X_best b_X_best 4 (some .int) lv S) (hR : lv + 1 ≤ R.frames ∧ 8 + (4 + 11) + 36 * lv ≤ R.locals) (hl : Jvm.Cond.methodLink own x y_X_best ∈ TG) : CalleeOK l own R (x, 9, 3, S) :=
  Or.inr ⟨(show (9 : Nat) ≠ 1000 by decide), y_X_best, b_X_best, 4, (some .int), lv, h, hR, hl, tg_in 628 (by decide +kernel) (by decide +kernel), tg_in 46 (by decide +kernel) (by decide +kernel), (show (y_X_best : MethodName).cls ≠ "java/lang/invoke/MethodHandle" ∧ (y_X_best : MethodName).cls ≠ "java/lang/invoke/VarHandle" ∧ (parseMethodDescriptor (y_X_best : MethodName).desc).map (fun d => d.parameters.length) = some 3 by decide +kernel), Or.inr ⟨(show 0 < (9 : Nat) by decide), tg_in 626 (by decide +kernel) (by decide +kernel), tg_in 627 (by decide +kernel) (by decide +kernel), TX8, 12, rfl⟩⟩
theorem m_X_code {l : Launch} {own : String} {R : Room} {S : Spec} {lv x : Nat} (h : Sat l y_X_code b_X_code 3 (some .int) lv S) (hR : lv + 1 ≤ R.frames ∧ 8 + (3 + 11) + 36 * lv ≤ R.locals) (hl : Jvm.Cond.methodLink own x y_X_code ∈ TG) : CalleeOK l own R (x, 9, 2, S) :=
  Or.inr ⟨(show (9 : Nat) ≠ 1000 by decide), y_X_code, b_X_code, 3, (some .int), lv, h, hR, hl, tg_in 646 (by decide +kernel) (by decide +kernel), tg_in 46 (by decide +kernel) (by decide +kernel), (show (y_X_code : MethodName).cls ≠ "java/lang/invoke/MethodHandle" ∧ (y_X_code : MethodName).cls ≠ "java/lang/invoke/VarHandle" ∧ (parseMethodDescriptor (y_X_code : MethodName).desc).map (fun d => d.parameters.length) = some 2 by decide +kernel), Or.inr ⟨(show 0 < (9 : Nat) by decide), tg_in 644 (by decide +kernel) (by decide +kernel), tg_in 645 (by decide +kernel) (by decide +kernel), TX8, 12, rfl⟩⟩
theorem m_X_member {l : Launch} {own : String} {R : Room} {S : Spec} {lv x : Nat} (h : Sat l y_X_member b_X_member 2 (some .int) lv S) (hR : lv + 1 ≤ R.frames ∧ 8 + (2 + 11) + 36 * lv ≤ R.locals) (hl : Jvm.Cond.methodLink own x y_X_member ∈ TG) : CalleeOK l own R (x, 9, 1, S) :=
  Or.inr ⟨(show (9 : Nat) ≠ 1000 by decide), y_X_member, b_X_member, 2, (some .int), lv, h, hR, hl, tg_in 678 (by decide +kernel) (by decide +kernel), tg_in 46 (by decide +kernel) (by decide +kernel), (show (y_X_member : MethodName).cls ≠ "java/lang/invoke/MethodHandle" ∧ (y_X_member : MethodName).cls ≠ "java/lang/invoke/VarHandle" ∧ (parseMethodDescriptor (y_X_member : MethodName).desc).map (fun d => d.parameters.length) = some 1 by decide +kernel), Or.inr ⟨(show 0 < (9 : Nat) by decide), tg_in 676 (by decide +kernel) (by decide +kernel), tg_in 677 (by decide +kernel) (by decide +kernel), TX8, 12, rfl⟩⟩
theorem m_X_wordOf {l : Launch} {own : String} {R : Room} {S : Spec} {lv x : Nat} (h : Sat l y_X_wordOf b_X_wordOf 3 (some .int) lv S) (hR : lv + 1 ≤ R.frames ∧ 8 + (3 + 11) + 36 * lv ≤ R.locals) (hl : Jvm.Cond.methodLink own x y_X_wordOf ∈ TG) : CalleeOK l own R (x, 9, 2, S) :=
  Or.inr ⟨(show (9 : Nat) ≠ 1000 by decide), y_X_wordOf, b_X_wordOf, 3, (some .int), lv, h, hR, hl, tg_in 690 (by decide +kernel) (by decide +kernel), tg_in 46 (by decide +kernel) (by decide +kernel), (show (y_X_wordOf : MethodName).cls ≠ "java/lang/invoke/MethodHandle" ∧ (y_X_wordOf : MethodName).cls ≠ "java/lang/invoke/VarHandle" ∧ (parseMethodDescriptor (y_X_wordOf : MethodName).desc).map (fun d => d.parameters.length) = some 2 by decide +kernel), Or.inr ⟨(show 0 < (9 : Nat) by decide), tg_in 688 (by decide +kernel) (by decide +kernel), tg_in 689 (by decide +kernel) (by decide +kernel), TX8, 12, rfl⟩⟩
theorem m_X_read {l : Launch} {own : String} {R : Room} {S : Spec} {lv x : Nat} (h : Sat l y_X_read b_X_read 3 (some .int) lv S) (hR : lv + 1 ≤ R.frames ∧ 8 + (3 + 11) + 36 * lv ≤ R.locals) (hl : Jvm.Cond.methodLink own x y_X_read ∈ TG) : CalleeOK l own R (x, 9, 2, S) :=
  Or.inr ⟨(show (9 : Nat) ≠ 1000 by decide), y_X_read, b_X_read, 3, (some .int), lv, h, hR, hl, tg_in 703 (by decide +kernel) (by decide +kernel), tg_in 46 (by decide +kernel) (by decide +kernel), (show (y_X_read : MethodName).cls ≠ "java/lang/invoke/MethodHandle" ∧ (y_X_read : MethodName).cls ≠ "java/lang/invoke/VarHandle" ∧ (parseMethodDescriptor (y_X_read : MethodName).desc).map (fun d => d.parameters.length) = some 2 by decide +kernel), Or.inr ⟨(show 0 < (9 : Nat) by decide), tg_in 701 (by decide +kernel) (by decide +kernel), tg_in 702 (by decide +kernel) (by decide +kernel), TX8, 12, rfl⟩⟩
theorem m_X_say {l : Launch} {own : String} {R : Room} {S : Spec} {lv x : Nat} (h : Sat l y_X_say b_X_say 4 (some .int) lv S) (hR : lv + 1 ≤ R.frames ∧ 8 + (4 + 11) + 36 * lv ≤ R.locals) (hl : Jvm.Cond.methodLink own x y_X_say ∈ TG) : CalleeOK l own R (x, 9, 2, S) :=
  Or.inr ⟨(show (9 : Nat) ≠ 1000 by decide), y_X_say, b_X_say, 4, (some .int), lv, h, hR, hl, tg_in 716 (by decide +kernel) (by decide +kernel), tg_in 46 (by decide +kernel) (by decide +kernel), (show (y_X_say : MethodName).cls ≠ "java/lang/invoke/MethodHandle" ∧ (y_X_say : MethodName).cls ≠ "java/lang/invoke/VarHandle" ∧ (parseMethodDescriptor (y_X_say : MethodName).desc).map (fun d => d.parameters.length) = some 2 by decide +kernel), Or.inr ⟨(show 0 < (9 : Nat) by decide), tg_in 714 (by decide +kernel) (by decide +kernel), tg_in 715 (by decide +kernel) (by decide +kernel), TX8, 12, rfl⟩⟩
theorem m_X_hush {l : Launch} {own : String} {R : Room} {S : Spec} {lv x : Nat} (h : Sat l y_X_hush b_X_hush 1 (some .int) lv S) (hR : lv + 1 ≤ R.frames ∧ 8 + (1 + 11) + 36 * lv ≤ R.locals) (hl : Jvm.Cond.methodLink own x y_X_hush ∈ TG) : CalleeOK l own R (x, 9, 0, S) :=
  Or.inr ⟨(show (9 : Nat) ≠ 1000 by decide), y_X_hush, b_X_hush, 1, (some .int), lv, h, hR, hl, tg_in 731 (by decide +kernel) (by decide +kernel), tg_in 46 (by decide +kernel) (by decide +kernel), (show (y_X_hush : MethodName).cls ≠ "java/lang/invoke/MethodHandle" ∧ (y_X_hush : MethodName).cls ≠ "java/lang/invoke/VarHandle" ∧ (parseMethodDescriptor (y_X_hush : MethodName).desc).map (fun d => d.parameters.length) = some 0 by decide +kernel), Or.inr ⟨(show 0 < (9 : Nat) by decide), tg_in 729 (by decide +kernel) (by decide +kernel), tg_in 730 (by decide +kernel) (by decide +kernel), TX8, 12, rfl⟩⟩
theorem m_X_message {l : Launch} {own : String} {R : Room} {S : Spec} {lv x : Nat} (h : Sat l y_X_message b_X_message 2 (some .int) lv S) (hR : lv + 1 ≤ R.frames ∧ 8 + (2 + 11) + 36 * lv ≤ R.locals) (hl : Jvm.Cond.methodLink own x y_X_message ∈ TG) : CalleeOK l own R (x, 9, 1, S) :=
  Or.inr ⟨(show (9 : Nat) ≠ 1000 by decide), y_X_message, b_X_message, 2, (some .int), lv, h, hR, hl, tg_in 736 (by decide +kernel) (by decide +kernel), tg_in 46 (by decide +kernel) (by decide +kernel), (show (y_X_message : MethodName).cls ≠ "java/lang/invoke/MethodHandle" ∧ (y_X_message : MethodName).cls ≠ "java/lang/invoke/VarHandle" ∧ (parseMethodDescriptor (y_X_message : MethodName).desc).map (fun d => d.parameters.length) = some 1 by decide +kernel), Or.inr ⟨(show 0 < (9 : Nat) by decide), tg_in 734 (by decide +kernel) (by decide +kernel), tg_in 735 (by decide +kernel) (by decide +kernel), TX8, 12, rfl⟩⟩
theorem m_X_write {l : Launch} {own : String} {R : Room} {S : Spec} {lv x : Nat} (h : Sat l y_X_write b_X_write 1 (some .int) lv S) (hR : lv + 1 ≤ R.frames ∧ 8 + (1 + 11) + 36 * lv ≤ R.locals) (hl : Jvm.Cond.methodLink own x y_X_write ∈ TG) : CalleeOK l own R (x, 9, 0, S) :=
  Or.inr ⟨(show (9 : Nat) ≠ 1000 by decide), y_X_write, b_X_write, 1, (some .int), lv, h, hR, hl, tg_in 744 (by decide +kernel) (by decide +kernel), tg_in 46 (by decide +kernel) (by decide +kernel), (show (y_X_write : MethodName).cls ≠ "java/lang/invoke/MethodHandle" ∧ (y_X_write : MethodName).cls ≠ "java/lang/invoke/VarHandle" ∧ (parseMethodDescriptor (y_X_write : MethodName).desc).map (fun d => d.parameters.length) = some 0 by decide +kernel), Or.inr ⟨(show 0 < (9 : Nat) by decide), tg_in 742 (by decide +kernel) (by decide +kernel), tg_in 743 (by decide +kernel) (by decide +kernel), TX8, 12, rfl⟩⟩
theorem m_X_tell {l : Launch} {own : String} {R : Room} {S : Spec} {lv x : Nat} (h : Sat l y_X_tell b_X_tell 2 (some .int) lv S) (hR : lv + 1 ≤ R.frames ∧ 8 + (2 + 11) + 36 * lv ≤ R.locals) (hl : Jvm.Cond.methodLink own x y_X_tell ∈ TG) : CalleeOK l own R (x, 9, 0, S) :=
  Or.inr ⟨(show (9 : Nat) ≠ 1000 by decide), y_X_tell, b_X_tell, 2, (some .int), lv, h, hR, hl, tg_in 774 (by decide +kernel) (by decide +kernel), tg_in 46 (by decide +kernel) (by decide +kernel), (show (y_X_tell : MethodName).cls ≠ "java/lang/invoke/MethodHandle" ∧ (y_X_tell : MethodName).cls ≠ "java/lang/invoke/VarHandle" ∧ (parseMethodDescriptor (y_X_tell : MethodName).desc).map (fun d => d.parameters.length) = some 0 by decide +kernel), Or.inr ⟨(show 0 < (9 : Nat) by decide), tg_in 772 (by decide +kernel) (by decide +kernel), tg_in 773 (by decide +kernel) (by decide +kernel), TX8, 12, rfl⟩⟩
theorem m_X_put {l : Launch} {own : String} {R : Room} {S : Spec} {lv x : Nat} (h : Sat l y_X_put b_X_put 4 (some .int) lv S) (hR : lv + 1 ≤ R.frames ∧ 8 + (4 + 11) + 36 * lv ≤ R.locals) (hl : Jvm.Cond.methodLink own x y_X_put ∈ TG) : CalleeOK l own R (x, 9, 2, S) :=
  Or.inr ⟨(show (9 : Nat) ≠ 1000 by decide), y_X_put, b_X_put, 4, (some .int), lv, h, hR, hl, tg_in 788 (by decide +kernel) (by decide +kernel), tg_in 46 (by decide +kernel) (by decide +kernel), (show (y_X_put : MethodName).cls ≠ "java/lang/invoke/MethodHandle" ∧ (y_X_put : MethodName).cls ≠ "java/lang/invoke/VarHandle" ∧ (parseMethodDescriptor (y_X_put : MethodName).desc).map (fun d => d.parameters.length) = some 2 by decide +kernel), Or.inr ⟨(show 0 < (9 : Nat) by decide), tg_in 786 (by decide +kernel) (by decide +kernel), tg_in 787 (by decide +kernel) (by decide +kernel), TX8, 12, rfl⟩⟩
theorem m_X_cut {l : Launch} {own : String} {R : Room} {S : Spec} {lv x : Nat} (h : Sat l y_X_cut b_X_cut 2 (some .int) lv S) (hR : lv + 1 ≤ R.frames ∧ 8 + (2 + 11) + 36 * lv ≤ R.locals) (hl : Jvm.Cond.methodLink own x y_X_cut ∈ TG) : CalleeOK l own R (x, 9, 1, S) :=
  Or.inr ⟨(show (9 : Nat) ≠ 1000 by decide), y_X_cut, b_X_cut, 2, (some .int), lv, h, hR, hl, tg_in 792 (by decide +kernel) (by decide +kernel), tg_in 46 (by decide +kernel) (by decide +kernel), (show (y_X_cut : MethodName).cls ≠ "java/lang/invoke/MethodHandle" ∧ (y_X_cut : MethodName).cls ≠ "java/lang/invoke/VarHandle" ∧ (parseMethodDescriptor (y_X_cut : MethodName).desc).map (fun d => d.parameters.length) = some 1 by decide +kernel), Or.inr ⟨(show 0 < (9 : Nat) by decide), tg_in 790 (by decide +kernel) (by decide +kernel), tg_in 791 (by decide +kernel) (by decide +kernel), TX8, 12, rfl⟩⟩
theorem m_X_spoil {l : Launch} {own : String} {R : Room} {S : Spec} {lv x : Nat} (h : Sat l y_X_spoil b_X_spoil 2 (some .int) lv S) (hR : lv + 1 ≤ R.frames ∧ 8 + (2 + 11) + 36 * lv ≤ R.locals) (hl : Jvm.Cond.methodLink own x y_X_spoil ∈ TG) : CalleeOK l own R (x, 9, 1, S) :=
  Or.inr ⟨(show (9 : Nat) ≠ 1000 by decide), y_X_spoil, b_X_spoil, 2, (some .int), lv, h, hR, hl, tg_in 796 (by decide +kernel) (by decide +kernel), tg_in 46 (by decide +kernel) (by decide +kernel), (show (y_X_spoil : MethodName).cls ≠ "java/lang/invoke/MethodHandle" ∧ (y_X_spoil : MethodName).cls ≠ "java/lang/invoke/VarHandle" ∧ (parseMethodDescriptor (y_X_spoil : MethodName).desc).map (fun d => d.parameters.length) = some 1 by decide +kernel), Or.inr ⟨(show 0 < (9 : Nat) by decide), tg_in 794 (by decide +kernel) (by decide +kernel), tg_in 795 (by decide +kernel) (by decide +kernel), TX8, 12, rfl⟩⟩
theorem m_X_plate {l : Launch} {own : String} {R : Room} {S : Spec} {lv x : Nat} (h : Sat l y_X_plate b_X_plate 2 (some .int) lv S) (hR : lv + 1 ≤ R.frames ∧ 8 + (2 + 11) + 36 * lv ≤ R.locals) (hl : Jvm.Cond.methodLink own x y_X_plate ∈ TG) : CalleeOK l own R (x, 9, 1, S) :=
  Or.inr ⟨(show (9 : Nat) ≠ 1000 by decide), y_X_plate, b_X_plate, 2, (some .int), lv, h, hR, hl, tg_in 804 (by decide +kernel) (by decide +kernel), tg_in 46 (by decide +kernel) (by decide +kernel), (show (y_X_plate : MethodName).cls ≠ "java/lang/invoke/MethodHandle" ∧ (y_X_plate : MethodName).cls ≠ "java/lang/invoke/VarHandle" ∧ (parseMethodDescriptor (y_X_plate : MethodName).desc).map (fun d => d.parameters.length) = some 1 by decide +kernel), Or.inr ⟨(show 0 < (9 : Nat) by decide), tg_in 802 (by decide +kernel) (by decide +kernel), tg_in 803 (by decide +kernel) (by decide +kernel), TX8, 12, rfl⟩⟩
theorem m_X_check {l : Launch} {own : String} {R : Room} {S : Spec} {lv x : Nat} (h : Sat l y_X_check b_X_check 3 (some .int) lv S) (hR : lv + 1 ≤ R.frames ∧ 8 + (3 + 11) + 36 * lv ≤ R.locals) (hl : Jvm.Cond.methodLink own x y_X_check ∈ TG) : CalleeOK l own R (x, 9, 0, S) :=
  Or.inr ⟨(show (9 : Nat) ≠ 1000 by decide), y_X_check, b_X_check, 3, (some .int), lv, h, hR, hl, tg_in 808 (by decide +kernel) (by decide +kernel), tg_in 46 (by decide +kernel) (by decide +kernel), (show (y_X_check : MethodName).cls ≠ "java/lang/invoke/MethodHandle" ∧ (y_X_check : MethodName).cls ≠ "java/lang/invoke/VarHandle" ∧ (parseMethodDescriptor (y_X_check : MethodName).desc).map (fun d => d.parameters.length) = some 0 by decide +kernel), Or.inr ⟨(show 0 < (9 : Nat) by decide), tg_in 806 (by decide +kernel) (by decide +kernel), tg_in 807 (by decide +kernel) (by decide +kernel), TX8, 12, rfl⟩⟩
theorem m_X_shape {l : Launch} {own : String} {R : Room} {S : Spec} {lv x : Nat} (h : Sat l y_X_shape b_X_shape 2 (some .int) lv S) (hR : lv + 1 ≤ R.frames ∧ 8 + (2 + 11) + 36 * lv ≤ R.locals) (hl : Jvm.Cond.methodLink own x y_X_shape ∈ TG) : CalleeOK l own R (x, 9, 1, S) :=
  Or.inr ⟨(show (9 : Nat) ≠ 1000 by decide), y_X_shape, b_X_shape, 2, (some .int), lv, h, hR, hl, tg_in 812 (by decide +kernel) (by decide +kernel), tg_in 46 (by decide +kernel) (by decide +kernel), (show (y_X_shape : MethodName).cls ≠ "java/lang/invoke/MethodHandle" ∧ (y_X_shape : MethodName).cls ≠ "java/lang/invoke/VarHandle" ∧ (parseMethodDescriptor (y_X_shape : MethodName).desc).map (fun d => d.parameters.length) = some 1 by decide +kernel), Or.inr ⟨(show 0 < (9 : Nat) by decide), tg_in 810 (by decide +kernel) (by decide +kernel), tg_in 811 (by decide +kernel) (by decide +kernel), TX8, 12, rfl⟩⟩
theorem m_X_count1 {l : Launch} {own : String} {R : Room} {S : Spec} {lv x : Nat} (h : Sat l y_X_count1 b_X_count1 2 (some .int) lv S) (hR : lv + 1 ≤ R.frames ∧ 8 + (2 + 11) + 36 * lv ≤ R.locals) (hl : Jvm.Cond.methodLink own x y_X_count1 ∈ TG) : CalleeOK l own R (x, 9, 1, S) :=
  Or.inr ⟨(show (9 : Nat) ≠ 1000 by decide), y_X_count1, b_X_count1, 2, (some .int), lv, h, hR, hl, tg_in 836 (by decide +kernel) (by decide +kernel), tg_in 46 (by decide +kernel) (by decide +kernel), (show (y_X_count1 : MethodName).cls ≠ "java/lang/invoke/MethodHandle" ∧ (y_X_count1 : MethodName).cls ≠ "java/lang/invoke/VarHandle" ∧ (parseMethodDescriptor (y_X_count1 : MethodName).desc).map (fun d => d.parameters.length) = some 1 by decide +kernel), Or.inr ⟨(show 0 < (9 : Nat) by decide), tg_in 834 (by decide +kernel) (by decide +kernel), tg_in 835 (by decide +kernel) (by decide +kernel), TX8, 12, rfl⟩⟩
theorem m_X_digest {l : Launch} {own : String} {R : Room} {S : Spec} {lv x : Nat} (h : Sat l y_X_digest b_X_digest 4 (some .long) lv S) (hR : lv + 1 ≤ R.frames ∧ 8 + (4 + 11) + 36 * lv ≤ R.locals) (hl : Jvm.Cond.methodLink own x y_X_digest ∈ TG) : CalleeOK l own R (x, 9, 0, S) :=
  Or.inr ⟨(show (9 : Nat) ≠ 1000 by decide), y_X_digest, b_X_digest, 4, (some .long), lv, h, hR, hl, tg_in 844 (by decide +kernel) (by decide +kernel), tg_in 46 (by decide +kernel) (by decide +kernel), (show (y_X_digest : MethodName).cls ≠ "java/lang/invoke/MethodHandle" ∧ (y_X_digest : MethodName).cls ≠ "java/lang/invoke/VarHandle" ∧ (parseMethodDescriptor (y_X_digest : MethodName).desc).map (fun d => d.parameters.length) = some 0 by decide +kernel), Or.inr ⟨(show 0 < (9 : Nat) by decide), tg_in 842 (by decide +kernel) (by decide +kernel), tg_in 843 (by decide +kernel) (by decide +kernel), TX8, 12, rfl⟩⟩
theorem m_X_isWithin {l : Launch} {own : String} {R : Room} {S : Spec} {lv x : Nat} (h : Sat l y_X_isWithin b_X_isWithin 3 (some .boolean) lv S) (hR : lv + 1 ≤ R.frames ∧ 8 + (3 + 11) + 36 * lv ≤ R.locals) (hl : Jvm.Cond.methodLink own x y_X_isWithin ∈ TG) : CalleeOK l own R (x, 0, 3, S) :=
  Or.inr ⟨(show (0 : Nat) ≠ 1000 by decide), y_X_isWithin, b_X_isWithin, 3, (some .boolean), lv, h, hR, hl, tg_in 286 (by decide +kernel) (by decide +kernel), tg_in 46 (by decide +kernel) (by decide +kernel), (show (y_X_isWithin : MethodName).cls ≠ "java/lang/invoke/MethodHandle" ∧ (y_X_isWithin : MethodName).cls ≠ "java/lang/invoke/VarHandle" ∧ (parseMethodDescriptor (y_X_isWithin : MethodName).desc).map (fun d => d.parameters.length) = some 3 by decide +kernel), Or.inl ⟨rfl, tg_in 285 (by decide +kernel) (by decide +kernel)⟩⟩
theorem m_X_isRow {l : Launch} {own : String} {R : Room} {S : Spec} {lv x : Nat} (h : Sat l y_X_isRow b_X_isRow 3 (some .boolean) lv S) (hR : lv + 1 ≤ R.frames ∧ 8 + (3 + 11) + 36 * lv ≤ R.locals) (hl : Jvm.Cond.methodLink own x y_X_isRow ∈ TG) : CalleeOK l own R (x, 0, 2, S) :=
  Or.inr ⟨(show (0 : Nat) ≠ 1000 by decide), y_X_isRow, b_X_isRow, 3, (some .boolean), lv, h, hR, hl, tg_in 297 (by decide +kernel) (by decide +kernel), tg_in 46 (by decide +kernel) (by decide +kernel), (show (y_X_isRow : MethodName).cls ≠ "java/lang/invoke/MethodHandle" ∧ (y_X_isRow : MethodName).cls ≠ "java/lang/invoke/VarHandle" ∧ (parseMethodDescriptor (y_X_isRow : MethodName).desc).map (fun d => d.parameters.length) = some 2 by decide +kernel), Or.inl ⟨rfl, tg_in 296 (by decide +kernel) (by decide +kernel)⟩⟩
theorem m_X_isShowable {l : Launch} {own : String} {R : Room} {S : Spec} {lv x : Nat} (h : Sat l y_X_isShowable b_X_isShowable 2 (some .boolean) lv S) (hR : lv + 1 ≤ R.frames ∧ 8 + (2 + 11) + 36 * lv ≤ R.locals) (hl : Jvm.Cond.methodLink own x y_X_isShowable ∈ TG) : CalleeOK l own R (x, 0, 2, S) :=
  Or.inr ⟨(show (0 : Nat) ≠ 1000 by decide), y_X_isShowable, b_X_isShowable, 2, (some .boolean), lv, h, hR, hl, tg_in 607 (by decide +kernel) (by decide +kernel), tg_in 46 (by decide +kernel) (by decide +kernel), (show (y_X_isShowable : MethodName).cls ≠ "java/lang/invoke/MethodHandle" ∧ (y_X_isShowable : MethodName).cls ≠ "java/lang/invoke/VarHandle" ∧ (parseMethodDescriptor (y_X_isShowable : MethodName).desc).map (fun d => d.parameters.length) = some 2 by decide +kernel), Or.inl ⟨rfl, tg_in 606 (by decide +kernel) (by decide +kernel)⟩⟩
theorem m_X_append {l : Launch} {own : String} {R : Room} {S : Spec} {lv x : Nat} (h : Sat l y_X_append b_X_append 5 (some .int) lv S) (hR : lv + 1 ≤ R.frames ∧ 8 + (5 + 11) + 36 * lv ≤ R.locals) (hl : Jvm.Cond.methodLink own x y_X_append ∈ TG) : CalleeOK l own R (x, 0, 4, S) :=
  Or.inr ⟨(show (0 : Nat) ≠ 1000 by decide), y_X_append, b_X_append, 5, (some .int), lv, h, hR, hl, tg_in 719 (by decide +kernel) (by decide +kernel), tg_in 46 (by decide +kernel) (by decide +kernel), (show (y_X_append : MethodName).cls ≠ "java/lang/invoke/MethodHandle" ∧ (y_X_append : MethodName).cls ≠ "java/lang/invoke/VarHandle" ∧ (parseMethodDescriptor (y_X_append : MethodName).desc).map (fun d => d.parameters.length) = some 4 by decide +kernel), Or.inl ⟨rfl, tg_in 718 (by decide +kernel) (by decide +kernel)⟩⟩
theorem m_M_in {l : Launch} {own : String} {R : Room} {S : Spec} {lv x : Nat} (h : Sat l y_M_in b_M_in 6 (some .boolean) lv S) (hR : lv + 1 ≤ R.frames ∧ 8 + (6 + 11) + 36 * lv ≤ R.locals) (hl : Jvm.Cond.methodLink own x y_M_in ∈ TG) : CalleeOK l own R (x, 0, 3, S) :=
  Or.inr ⟨(show (0 : Nat) ≠ 1000 by decide), y_M_in, b_M_in, 6, (some .boolean), lv, h, hR, hl, tg_in 994 (by decide +kernel) (by decide +kernel), tg_in 55 (by decide +kernel) (by decide +kernel), (show (y_M_in : MethodName).cls ≠ "java/lang/invoke/MethodHandle" ∧ (y_M_in : MethodName).cls ≠ "java/lang/invoke/VarHandle" ∧ (parseMethodDescriptor (y_M_in : MethodName).desc).map (fun d => d.parameters.length) = some 3 by decide +kernel), Or.inl ⟨rfl, tg_in 993 (by decide +kernel) (by decide +kernel)⟩⟩
theorem m_M_runs {l : Launch} {own : String} {R : Room} {S : Spec} {lv x : Nat} (h : Sat l y_M_runs b_M_runs 4 (some .int) lv S) (hR : lv + 1 ≤ R.frames ∧ 8 + (4 + 11) + 36 * lv ≤ R.locals) (hl : Jvm.Cond.methodLink own x y_M_runs ∈ TG) : CalleeOK l own R (x, 10, 2, S) :=
  Or.inr ⟨(show (10 : Nat) ≠ 1000 by decide), y_M_runs, b_M_runs, 4, (some .int), lv, h, hR, hl, tg_in 990 (by decide +kernel) (by decide +kernel), tg_in 55 (by decide +kernel) (by decide +kernel), (show (y_M_runs : MethodName).cls ≠ "java/lang/invoke/MethodHandle" ∧ (y_M_runs : MethodName).cls ≠ "java/lang/invoke/VarHandle" ∧ (parseMethodDescriptor (y_M_runs : MethodName).desc).map (fun d => d.parameters.length) = some 2 by decide +kernel), Or.inr ⟨(show 0 < (10 : Nat) by decide), tg_in 988 (by decide +kernel) (by decide +kernel), tg_in 989 (by decide +kernel) (by decide +kernel), TX9, 42, rfl⟩⟩
theorem m_M_word {l : Launch} {own : String} {R : Room} {S : Spec} {lv x : Nat} (h : Sat l y_M_word b_M_word 3 (some .int) lv S) (hR : lv + 1 ≤ R.frames ∧ 8 + (3 + 11) + 36 * lv ≤ R.locals) (hl : Jvm.Cond.methodLink own x y_M_word ∈ TG) : CalleeOK l own R (x, 10, 2, S) :=
  Or.inr ⟨(show (10 : Nat) ≠ 1000 by decide), y_M_word, b_M_word, 3, (some .int), lv, h, hR, hl, tg_in 998 (by decide +kernel) (by decide +kernel), tg_in 55 (by decide +kernel) (by decide +kernel), (show (y_M_word : MethodName).cls ≠ "java/lang/invoke/MethodHandle" ∧ (y_M_word : MethodName).cls ≠ "java/lang/invoke/VarHandle" ∧ (parseMethodDescriptor (y_M_word : MethodName).desc).map (fun d => d.parameters.length) = some 2 by decide +kernel), Or.inr ⟨(show 0 < (10 : Nat) by decide), tg_in 996 (by decide +kernel) (by decide +kernel), tg_in 997 (by decide +kernel) (by decide +kernel), TX9, 42, rfl⟩⟩
theorem m_M_clearWords {l : Launch} {own : String} {R : Room} {S : Spec} {lv x : Nat} (h : Sat l y_M_clearWords b_M_clearWords 2 (some .int) lv S) (hR : lv + 1 ≤ R.frames ∧ 8 + (2 + 11) + 36 * lv ≤ R.locals) (hl : Jvm.Cond.methodLink own x y_M_clearWords ∈ TG) : CalleeOK l own R (x, 10, 0, S) :=
  Or.inr ⟨(show (10 : Nat) ≠ 1000 by decide), y_M_clearWords, b_M_clearWords, 2, (some .int), lv, h, hR, hl, tg_in 1003 (by decide +kernel) (by decide +kernel), tg_in 55 (by decide +kernel) (by decide +kernel), (show (y_M_clearWords : MethodName).cls ≠ "java/lang/invoke/MethodHandle" ∧ (y_M_clearWords : MethodName).cls ≠ "java/lang/invoke/VarHandle" ∧ (parseMethodDescriptor (y_M_clearWords : MethodName).desc).map (fun d => d.parameters.length) = some 0 by decide +kernel), Or.inr ⟨(show 0 < (10 : Nat) by decide), tg_in 1001 (by decide +kernel) (by decide +kernel), tg_in 1002 (by decide +kernel) (by decide +kernel), TX9, 42, rfl⟩⟩
theorem m_M_lean {l : Launch} {own : String} {R : Room} {S : Spec} {lv x : Nat} (h : Sat l y_M_lean b_M_lean 2 (some .int) lv S) (hR : lv + 1 ≤ R.frames ∧ 8 + (2 + 11) + 36 * lv ≤ R.locals) (hl : Jvm.Cond.methodLink own x y_M_lean ∈ TG) : CalleeOK l own R (x, 10, 1, S) :=
  Or.inr ⟨(show (10 : Nat) ≠ 1000 by decide), y_M_lean, b_M_lean, 2, (some .int), lv, h, hR, hl, tg_in 1007 (by decide +kernel) (by decide +kernel), tg_in 55 (by decide +kernel) (by decide +kernel), (show (y_M_lean : MethodName).cls ≠ "java/lang/invoke/MethodHandle" ∧ (y_M_lean : MethodName).cls ≠ "java/lang/invoke/VarHandle" ∧ (parseMethodDescriptor (y_M_lean : MethodName).desc).map (fun d => d.parameters.length) = some 1 by decide +kernel), Or.inr ⟨(show 0 < (10 : Nat) by decide), tg_in 1005 (by decide +kernel) (by decide +kernel), tg_in 1006 (by decide +kernel) (by decide +kernel), TX9, 42, rfl⟩⟩
theorem m_M_ban {l : Launch} {own : String} {R : Room} {S : Spec} {lv x : Nat} (h : Sat l y_M_ban b_M_ban 2 (some .int) lv S) (hR : lv + 1 ≤ R.frames ∧ 8 + (2 + 11) + 36 * lv ≤ R.locals) (hl : Jvm.Cond.methodLink own x y_M_ban ∈ TG) : CalleeOK l own R (x, 10, 1, S) :=
  Or.inr ⟨(show (10 : Nat) ≠ 1000 by decide), y_M_ban, b_M_ban, 2, (some .int), lv, h, hR, hl, tg_in 1013 (by decide +kernel) (by decide +kernel), tg_in 55 (by decide +kernel) (by decide +kernel), (show (y_M_ban : MethodName).cls ≠ "java/lang/invoke/MethodHandle" ∧ (y_M_ban : MethodName).cls ≠ "java/lang/invoke/VarHandle" ∧ (parseMethodDescriptor (y_M_ban : MethodName).desc).map (fun d => d.parameters.length) = some 1 by decide +kernel), Or.inr ⟨(show 0 < (10 : Nat) by decide), tg_in 1011 (by decide +kernel) (by decide +kernel), tg_in 1012 (by decide +kernel) (by decide +kernel), TX9, 42, rfl⟩⟩
theorem m_M_codeOf {l : Launch} {own : String} {R : Room} {S : Spec} {lv x : Nat} (h : Sat l y_M_codeOf b_M_codeOf 4 (some .int) lv S) (hR : lv + 1 ≤ R.frames ∧ 8 + (4 + 11) + 36 * lv ≤ R.locals) (hl : Jvm.Cond.methodLink own x y_M_codeOf ∈ TG) : CalleeOK l own R (x, 0, 4, S) :=
  Or.inr ⟨(show (0 : Nat) ≠ 1000 by decide), y_M_codeOf, b_M_codeOf, 4, (some .int), lv, h, hR, hl, tg_in 1026 (by decide +kernel) (by decide +kernel), tg_in 55 (by decide +kernel) (by decide +kernel), (show (y_M_codeOf : MethodName).cls ≠ "java/lang/invoke/MethodHandle" ∧ (y_M_codeOf : MethodName).cls ≠ "java/lang/invoke/VarHandle" ∧ (parseMethodDescriptor (y_M_codeOf : MethodName).desc).map (fun d => d.parameters.length) = some 4 by decide +kernel), Or.inl ⟨rfl, tg_in 1025 (by decide +kernel) (by decide +kernel)⟩⟩
theorem m_M_longest {l : Launch} {own : String} {R : Room} {S : Spec} {lv x : Nat} (h : Sat l y_M_longest b_M_longest 3 (some .int) lv S) (hR : lv + 1 ≤ R.frames ∧ 8 + (3 + 11) + 36 * lv ≤ R.locals) (hl : Jvm.Cond.methodLink own x y_M_longest ∈ TG) : CalleeOK l own R (x, 10, 0, S) :=
  Or.inr ⟨(show (10 : Nat) ≠ 1000 by decide), y_M_longest, b_M_longest, 3, (some .int), lv, h, hR, hl, tg_in 1042 (by decide +kernel) (by decide +kernel), tg_in 55 (by decide +kernel) (by decide +kernel), (show (y_M_longest : MethodName).cls ≠ "java/lang/invoke/MethodHandle" ∧ (y_M_longest : MethodName).cls ≠ "java/lang/invoke/VarHandle" ∧ (parseMethodDescriptor (y_M_longest : MethodName).desc).map (fun d => d.parameters.length) = some 0 by decide +kernel), Or.inr ⟨(show 0 < (10 : Nat) by decide), tg_in 1041 (by decide +kernel) (by decide +kernel), tg_in 24 (by decide +kernel) (by decide +kernel), TX9, 42, rfl⟩⟩
theorem m_M_endsBanned {l : Launch} {own : String} {R : Room} {S : Spec} {lv x : Nat} (h : Sat l y_M_endsBanned b_M_endsBanned 4 (some .boolean) lv S) (hR : lv + 1 ≤ R.frames ∧ 8 + (4 + 11) + 36 * lv ≤ R.locals) (hl : Jvm.Cond.methodLink own x y_M_endsBanned ∈ TG) : CalleeOK l own R (x, 10, 1, S) :=
  Or.inr ⟨(show (10 : Nat) ≠ 1000 by decide), y_M_endsBanned, b_M_endsBanned, 4, (some .boolean), lv, h, hR, hl, tg_in 1038 (by decide +kernel) (by decide +kernel), tg_in 55 (by decide +kernel) (by decide +kernel), (show (y_M_endsBanned : MethodName).cls ≠ "java/lang/invoke/MethodHandle" ∧ (y_M_endsBanned : MethodName).cls ≠ "java/lang/invoke/VarHandle" ∧ (parseMethodDescriptor (y_M_endsBanned : MethodName).desc).map (fun d => d.parameters.length) = some 1 by decide +kernel), Or.inr ⟨(show 0 < (10 : Nat) by decide), tg_in 1037 (by decide +kernel) (by decide +kernel), tg_in 23 (by decide +kernel) (by decide +kernel), TX9, 42, rfl⟩⟩
theorem m_M_behind {l : Launch} {own : String} {R : Room} {S : Spec} {lv x : Nat} (h : Sat l y_M_behind b_M_behind 10 (some .int) lv S) (hR : lv + 1 ≤ R.frames ∧ 8 + (10 + 11) + 36 * lv ≤ R.locals) (hl : Jvm.Cond.methodLink own x y_M_behind ∈ TG) : CalleeOK l own R (x, 10, 2, S) :=
  Or.inr ⟨(show (10 : Nat) ≠ 1000 by decide), y_M_behind, b_M_behind, 10, (some .int), lv, h, hR, hl, tg_in 1034 (by decide +kernel) (by decide +kernel), tg_in 55 (by decide +kernel) (by decide +kernel), (show (y_M_behind : MethodName).cls ≠ "java/lang/invoke/MethodHandle" ∧ (y_M_behind : MethodName).cls ≠ "java/lang/invoke/VarHandle" ∧ (parseMethodDescriptor (y_M_behind : MethodName).desc).map (fun d => d.parameters.length) = some 2 by decide +kernel), Or.inr ⟨(show 0 < (10 : Nat) by decide), tg_in 1033 (by decide +kernel) (by decide +kernel), tg_in 22 (by decide +kernel) (by decide +kernel), TX9, 42, rfl⟩⟩
theorem m_M_rawOf {l : Launch} {own : String} {R : Room} {S : Spec} {lv x : Nat} (h : Sat l y_M_rawOf b_M_rawOf 2 (some .int) lv S) (hR : lv + 1 ≤ R.frames ∧ 8 + (2 + 11) + 36 * lv ≤ R.locals) (hl : Jvm.Cond.methodLink own x y_M_rawOf ∈ TG) : CalleeOK l own R (x, 10, 1, S) :=
  Or.inr ⟨(show (10 : Nat) ≠ 1000 by decide), y_M_rawOf, b_M_rawOf, 2, (some .int), lv, h, hR, hl, tg_in 1030 (by decide +kernel) (by decide +kernel), tg_in 55 (by decide +kernel) (by decide +kernel), (show (y_M_rawOf : MethodName).cls ≠ "java/lang/invoke/MethodHandle" ∧ (y_M_rawOf : MethodName).cls ≠ "java/lang/invoke/VarHandle" ∧ (parseMethodDescriptor (y_M_rawOf : MethodName).desc).map (fun d => d.parameters.length) = some 1 by decide +kernel), Or.inr ⟨(show 0 < (10 : Nat) by decide), tg_in 1029 (by decide +kernel) (by decide +kernel), tg_in 21 (by decide +kernel) (by decide +kernel), TX9, 42, rfl⟩⟩
theorem m_M_findRaws {l : Launch} {own : String} {R : Room} {S : Spec} {lv x : Nat} (h : Sat l y_M_findRaws b_M_findRaws 3 none lv S) (hR : lv + 1 ≤ R.frames ∧ 8 + (3 + 11) + 36 * lv ≤ R.locals) (hl : Jvm.Cond.methodLink own x y_M_findRaws ∈ TG) : CalleeOK l own R (x, 10, 0, S) :=
  Or.inr ⟨(show (10 : Nat) ≠ 1000 by decide), y_M_findRaws, b_M_findRaws, 3, none, lv, h, hR, hl, tg_in 1023 (by decide +kernel) (by decide +kernel), tg_in 55 (by decide +kernel) (by decide +kernel), (show (y_M_findRaws : MethodName).cls ≠ "java/lang/invoke/MethodHandle" ∧ (y_M_findRaws : MethodName).cls ≠ "java/lang/invoke/VarHandle" ∧ (parseMethodDescriptor (y_M_findRaws : MethodName).desc).map (fun d => d.parameters.length) = some 0 by decide +kernel), Or.inr ⟨(show 0 < (10 : Nat) by decide), tg_in 1022 (by decide +kernel) (by decide +kernel), tg_in 20 (by decide +kernel) (by decide +kernel), TX9, 42, rfl⟩⟩
theorem m_M_isAliveAt {l : Launch} {own : String} {R : Room} {S : Spec} {lv x : Nat} (h : Sat l y_M_isAliveAt b_M_isAliveAt 2 (some .boolean) lv S) (hR : lv + 1 ≤ R.frames ∧ 8 + (2 + 11) + 36 * lv ≤ R.locals) (hl : Jvm.Cond.methodLink own x y_M_isAliveAt ∈ TG) : CalleeOK l own R (x, 10, 1, S) :=
  Or.inr ⟨(show (10 : Nat) ≠ 1000 by decide), y_M_isAliveAt, b_M_isAliveAt, 2, (some .boolean), lv, h, hR, hl, tg_in 1050 (by decide +kernel) (by decide +kernel), tg_in 55 (by decide +kernel) (by decide +kernel), (show (y_M_isAliveAt : MethodName).cls ≠ "java/lang/invoke/MethodHandle" ∧ (y_M_isAliveAt : MethodName).cls ≠ "java/lang/invoke/VarHandle" ∧ (parseMethodDescriptor (y_M_isAliveAt : MethodName).desc).map (fun d => d.parameters.length) = some 1 by decide +kernel), Or.inr ⟨(show 0 < (10 : Nat) by decide), tg_in 1049 (by decide +kernel) (by decide +kernel), tg_in 26 (by decide +kernel) (by decide +kernel), TX9, 42, rfl⟩⟩
theorem m_M_prune {l : Launch} {own : String} {R : Room} {S : Spec} {lv x : Nat} (h : Sat l y_M_prune b_M_prune 3 none lv S) (hR : lv + 1 ≤ R.frames ∧ 8 + (3 + 11) + 36 * lv ≤ R.locals) (hl : Jvm.Cond.methodLink own x y_M_prune ∈ TG) : CalleeOK l own R (x, 10, 0, S) :=
  Or.inr ⟨(show (10 : Nat) ≠ 1000 by decide), y_M_prune, b_M_prune, 3, none, lv, h, hR, hl, tg_in 1046 (by decide +kernel) (by decide +kernel), tg_in 55 (by decide +kernel) (by decide +kernel), (show (y_M_prune : MethodName).cls ≠ "java/lang/invoke/MethodHandle" ∧ (y_M_prune : MethodName).cls ≠ "java/lang/invoke/VarHandle" ∧ (parseMethodDescriptor (y_M_prune : MethodName).desc).map (fun d => d.parameters.length) = some 0 by decide +kernel), Or.inr ⟨(show 0 < (10 : Nat) by decide), tg_in 1045 (by decide +kernel) (by decide +kernel), tg_in 25 (by decide +kernel) (by decide +kernel), TX9, 42, rfl⟩⟩
theorem m_M_classAt {l : Launch} {own : String} {R : Room} {S : Spec} {lv x : Nat} (h : Sat l y_M_classAt b_M_classAt 2 (some .int) lv S) (hR : lv + 1 ≤ R.frames ∧ 8 + (2 + 11) + 36 * lv ≤ R.locals) (hl : Jvm.Cond.methodLink own x y_M_classAt ∈ TG) : CalleeOK l own R (x, 10, 1, S) :=
  Or.inr ⟨(show (10 : Nat) ≠ 1000 by decide), y_M_classAt, b_M_classAt, 2, (some .int), lv, h, hR, hl, tg_in 1062 (by decide +kernel) (by decide +kernel), tg_in 55 (by decide +kernel) (by decide +kernel), (show (y_M_classAt : MethodName).cls ≠ "java/lang/invoke/MethodHandle" ∧ (y_M_classAt : MethodName).cls ≠ "java/lang/invoke/VarHandle" ∧ (parseMethodDescriptor (y_M_classAt : MethodName).desc).map (fun d => d.parameters.length) = some 1 by decide +kernel), Or.inr ⟨(show 0 < (10 : Nat) by decide), tg_in 1061 (by decide +kernel) (by decide +kernel), tg_in 29 (by decide +kernel) (by decide +kernel), TX9, 42, rfl⟩⟩
theorem m_M_signOf {l : Launch} {own : String} {R : Room} {S : Spec} {lv x : Nat} (h : Sat l y_M_signOf b_M_signOf 7 (some .int) lv S) (hR : lv + 1 ≤ R.frames ∧ 8 + (7 + 11) + 36 * lv ≤ R.locals) (hl : Jvm.Cond.methodLink own x y_M_signOf ∈ TG) : CalleeOK l own R (x, 10, 2, S) :=
  Or.inr ⟨(show (10 : Nat) ≠ 1000 by decide), y_M_signOf, b_M_signOf, 7, (some .int), lv, h, hR, hl, tg_in 1058 (by decide +kernel) (by decide +kernel), tg_in 55 (by decide +kernel) (by decide +kernel), (show (y_M_signOf : MethodName).cls ≠ "java/lang/invoke/MethodHandle" ∧ (y_M_signOf : MethodName).cls ≠ "java/lang/invoke/VarHandle" ∧ (parseMethodDescriptor (y_M_signOf : MethodName).desc).map (fun d => d.parameters.length) = some 2 by decide +kernel), Or.inr ⟨(show 0 < (10 : Nat) by decide), tg_in 1057 (by decide +kernel) (by decide +kernel), tg_in 28 (by decide +kernel) (by decide +kernel), TX9, 42, rfl⟩⟩
theorem m_M_refine {l : Launch} {own : String} {R : Room} {S : Spec} {lv x : Nat} (h : Sat l y_M_refine b_M_refine 4 (some .int) lv S) (hR : lv + 1 ≤ R.frames ∧ 8 + (4 + 11) + 36 * lv ≤ R.locals) (hl : Jvm.Cond.methodLink own x y_M_refine ∈ TG) : CalleeOK l own R (x, 10, 0, S) :=
  Or.inr ⟨(show (10 : Nat) ≠ 1000 by decide), y_M_refine, b_M_refine, 4, (some .int), lv, h, hR, hl, tg_in 1054 (by decide +kernel) (by decide +kernel), tg_in 55 (by decide +kernel) (by decide +kernel), (show (y_M_refine : MethodName).cls ≠ "java/lang/invoke/MethodHandle" ∧ (y_M_refine : MethodName).cls ≠ "java/lang/invoke/VarHandle" ∧ (parseMethodDescriptor (y_M_refine : MethodName).desc).map (fun d => d.parameters.length) = some 0 by decide +kernel), Or.inr ⟨(show 0 < (10 : Nat) by decide), tg_in 1053 (by decide +kernel) (by decide +kernel), tg_in 27 (by decide +kernel) (by decide +kernel), TX9, 42, rfl⟩⟩
theorem m_M_stateOf {l : Launch} {own : String} {R : Room} {S : Spec} {lv x : Nat} (h : Sat l y_M_stateOf b_M_stateOf 5 (some .int) lv S) (hR : lv + 1 ≤ R.frames ∧ 8 + (5 + 11) + 36 * lv ≤ R.locals) (hl : Jvm.Cond.methodLink own x y_M_stateOf ∈ TG) : CalleeOK l own R (x, 10, 3, S) :=
  Or.inr ⟨(show (10 : Nat) ≠ 1000 by decide), y_M_stateOf, b_M_stateOf, 5, (some .int), lv, h, hR, hl, tg_in 1066 (by decide +kernel) (by decide +kernel), tg_in 55 (by decide +kernel) (by decide +kernel), (show (y_M_stateOf : MethodName).cls ≠ "java/lang/invoke/MethodHandle" ∧ (y_M_stateOf : MethodName).cls ≠ "java/lang/invoke/VarHandle" ∧ (parseMethodDescriptor (y_M_stateOf : MethodName).desc).map (fun d => d.parameters.length) = some 3 by decide +kernel), Or.inr ⟨(show 0 < (10 : Nat) by decide), tg_in 1065 (by decide +kernel) (by decide +kernel), tg_in 30 (by decide +kernel) (by decide +kernel), TX9, 42, rfl⟩⟩
theorem m_M_build {l : Launch} {own : String} {R : Room} {S : Spec} {lv x : Nat} (h : Sat l y_M_build b_M_build 3 (some .int) lv S) (hR : lv + 1 ≤ R.frames ∧ 8 + (3 + 11) + 36 * lv ≤ R.locals) (hl : Jvm.Cond.methodLink own x y_M_build ∈ TG) : CalleeOK l own R (x, 10, 0, S) :=
  Or.inr ⟨(show (10 : Nat) ≠ 1000 by decide), y_M_build, b_M_build, 3, (some .int), lv, h, hR, hl, tg_in 1019 (by decide +kernel) (by decide +kernel), tg_in 55 (by decide +kernel) (by decide +kernel), (show (y_M_build : MethodName).cls ≠ "java/lang/invoke/MethodHandle" ∧ (y_M_build : MethodName).cls ≠ "java/lang/invoke/VarHandle" ∧ (parseMethodDescriptor (y_M_build : MethodName).desc).map (fun d => d.parameters.length) = some 0 by decide +kernel), Or.inr ⟨(show 0 < (10 : Nat) by decide), tg_in 1017 (by decide +kernel) (by decide +kernel), tg_in 1018 (by decide +kernel) (by decide +kernel), TX9, 42, rfl⟩⟩
theorem m_M_states {l : Launch} {own : String} {R : Room} {S : Spec} {lv x : Nat} (h : Sat l y_M_states b_M_states 1 (some .int) lv S) (hR : lv + 1 ≤ R.frames ∧ 8 + (1 + 11) + 36 * lv ≤ R.locals) (hl : Jvm.Cond.methodLink own x y_M_states ∈ TG) : CalleeOK l own R (x, 10, 0, S) :=
  Or.inr ⟨(show (10 : Nat) ≠ 1000 by decide), y_M_states, b_M_states, 1, (some .int), lv, h, hR, hl, tg_in 1070 (by decide +kernel) (by decide +kernel), tg_in 55 (by decide +kernel) (by decide +kernel), (show (y_M_states : MethodName).cls ≠ "java/lang/invoke/MethodHandle" ∧ (y_M_states : MethodName).cls ≠ "java/lang/invoke/VarHandle" ∧ (parseMethodDescriptor (y_M_states : MethodName).desc).map (fun d => d.parameters.length) = some 0 by decide +kernel), Or.inr ⟨(show 0 < (10 : Nat) by decide), tg_in 1068 (by decide +kernel) (by decide +kernel), tg_in 1069 (by decide +kernel) (by decide +kernel), TX9, 42, rfl⟩⟩
theorem m_M_isState {l : Launch} {own : String} {R : Room} {S : Spec} {lv x : Nat} (h : Sat l y_M_isState b_M_isState 2 (some .boolean) lv S) (hR : lv + 1 ≤ R.frames ∧ 8 + (2 + 11) + 36 * lv ≤ R.locals) (hl : Jvm.Cond.methodLink own x y_M_isState ∈ TG) : CalleeOK l own R (x, 10, 1, S) :=
  Or.inr ⟨(show (10 : Nat) ≠ 1000 by decide), y_M_isState, b_M_isState, 2, (some .boolean), lv, h, hR, hl, tg_in 1078 (by decide +kernel) (by decide +kernel), tg_in 55 (by decide +kernel) (by decide +kernel), (show (y_M_isState : MethodName).cls ≠ "java/lang/invoke/MethodHandle" ∧ (y_M_isState : MethodName).cls ≠ "java/lang/invoke/VarHandle" ∧ (parseMethodDescriptor (y_M_isState : MethodName).desc).map (fun d => d.parameters.length) = some 1 by decide +kernel), Or.inr ⟨(show 0 < (10 : Nat) by decide), tg_in 1077 (by decide +kernel) (by decide +kernel), tg_in 31 (by decide +kernel) (by decide +kernel), TX9, 42, rfl⟩⟩
theorem m_M_goes {l : Launch} {own : String} {R : Room} {S : Spec} {lv x : Nat} (h : Sat l y_M_goes b_M_goes 3 (some .int) lv S) (hR : lv + 1 ≤ R.frames ∧ 8 + (3 + 11) + 36 * lv ≤ R.locals) (hl : Jvm.Cond.methodLink own x y_M_goes ∈ TG) : CalleeOK l own R (x, 10, 2, S) :=
  Or.inr ⟨(show (10 : Nat) ≠ 1000 by decide), y_M_goes, b_M_goes, 3, (some .int), lv, h, hR, hl, tg_in 1082 (by decide +kernel) (by decide +kernel), tg_in 55 (by decide +kernel) (by decide +kernel), (show (y_M_goes : MethodName).cls ≠ "java/lang/invoke/MethodHandle" ∧ (y_M_goes : MethodName).cls ≠ "java/lang/invoke/VarHandle" ∧ (parseMethodDescriptor (y_M_goes : MethodName).desc).map (fun d => d.parameters.length) = some 2 by decide +kernel), Or.inr ⟨(show 0 < (10 : Nat) by decide), tg_in 1081 (by decide +kernel) (by decide +kernel), tg_in 32 (by decide +kernel) (by decide +kernel), TX9, 42, rfl⟩⟩
theorem m_M_go {l : Launch} {own : String} {R : Room} {S : Spec} {lv x : Nat} (h : Sat l y_M_go b_M_go 3 (some .int) lv S) (hR : lv + 1 ≤ R.frames ∧ 8 + (3 + 11) + 36 * lv ≤ R.locals) (hl : Jvm.Cond.methodLink own x y_M_go ∈ TG) : CalleeOK l own R (x, 10, 2, S) :=
  Or.inr ⟨(show (10 : Nat) ≠ 1000 by decide), y_M_go, b_M_go, 3, (some .int), lv, h, hR, hl, tg_in 1074 (by decide +kernel) (by decide +kernel), tg_in 55 (by decide +kernel) (by decide +kernel), (show (y_M_go : MethodName).cls ≠ "java/lang/invoke/MethodHandle" ∧ (y_M_go : MethodName).cls ≠ "java/lang/invoke/VarHandle" ∧ (parseMethodDescriptor (y_M_go : MethodName).desc).map (fun d => d.parameters.length) = some 2 by decide +kernel), Or.inr ⟨(show 0 < (10 : Nat) by decide), tg_in 1072 (by decide +kernel) (by decide +kernel), tg_in 1073 (by decide +kernel) (by decide +kernel), TX9, 42, rfl⟩⟩
theorem m_M_isRow {l : Launch} {own : String} {R : Room} {S : Spec} {lv x : Nat} (h : Sat l y_M_isRow b_M_isRow 3 (some .boolean) lv S) (hR : lv + 1 ≤ R.frames ∧ 8 + (3 + 11) + 36 * lv ≤ R.locals) (hl : Jvm.Cond.methodLink own x y_M_isRow ∈ TG) : CalleeOK l own R (x, 0, 2, S) :=
  Or.inr ⟨(show (0 : Nat) ≠ 1000 by decide), y_M_isRow, b_M_isRow, 3, (some .boolean), lv, h, hR, hl, tg_in 1089 (by decide +kernel) (by decide +kernel), tg_in 55 (by decide +kernel) (by decide +kernel), (show (y_M_isRow : MethodName).cls ≠ "java/lang/invoke/MethodHandle" ∧ (y_M_isRow : MethodName).cls ≠ "java/lang/invoke/VarHandle" ∧ (parseMethodDescriptor (y_M_isRow : MethodName).desc).map (fun d => d.parameters.length) = some 2 by decide +kernel), Or.inl ⟨rfl, tg_in 1088 (by decide +kernel) (by decide +kernel)⟩⟩
theorem m_M_walks {l : Launch} {own : String} {R : Room} {S : Spec} {lv x : Nat} (h : Sat l y_M_walks b_M_walks 7 (some .int) lv S) (hR : lv + 1 ≤ R.frames ∧ 8 + (7 + 11) + 36 * lv ≤ R.locals) (hl : Jvm.Cond.methodLink own x y_M_walks ∈ TG) : CalleeOK l own R (x, 10, 3, S) :=
  Or.inr ⟨(show (10 : Nat) ≠ 1000 by decide), y_M_walks, b_M_walks, 7, (some .int), lv, h, hR, hl, tg_in 1094 (by decide +kernel) (by decide +kernel), tg_in 55 (by decide +kernel) (by decide +kernel), (show (y_M_walks : MethodName).cls ≠ "java/lang/invoke/MethodHandle" ∧ (y_M_walks : MethodName).cls ≠ "java/lang/invoke/VarHandle" ∧ (parseMethodDescriptor (y_M_walks : MethodName).desc).map (fun d => d.parameters.length) = some 3 by decide +kernel), Or.inr ⟨(show 0 < (10 : Nat) by decide), tg_in 1093 (by decide +kernel) (by decide +kernel), tg_in 33 (by decide +kernel) (by decide +kernel), TX9, 42, rfl⟩⟩
theorem m_M_walk {l : Launch} {own : String} {R : Room} {S : Spec} {lv x : Nat} (h : Sat l y_M_walk b_M_walk 5 (some .int) lv S) (hR : lv + 1 ≤ R.frames ∧ 8 + (5 + 11) + 36 * lv ≤ R.locals) (hl : Jvm.Cond.methodLink own x y_M_walk ∈ TG) : CalleeOK l own R (x, 10, 3, S) :=
  Or.inr ⟨(show (10 : Nat) ≠ 1000 by decide), y_M_walk, b_M_walk, 5, (some .int), lv, h, hR, hl, tg_in 1086 (by decide +kernel) (by decide +kernel), tg_in 55 (by decide +kernel) (by decide +kernel), (show (y_M_walk : MethodName).cls ≠ "java/lang/invoke/MethodHandle" ∧ (y_M_walk : MethodName).cls ≠ "java/lang/invoke/VarHandle" ∧ (parseMethodDescriptor (y_M_walk : MethodName).desc).map (fun d => d.parameters.length) = some 3 by decide +kernel), Or.inr ⟨(show 0 < (10 : Nat) by decide), tg_in 1084 (by decide +kernel) (by decide +kernel), tg_in 1085 (by decide +kernel) (by decide +kernel), TX9, 42, rfl⟩⟩
theorem m_M_first {l : Launch} {own : String} {R : Room} {S : Spec} {lv x : Nat} (h : Sat l y_M_first b_M_first 7 (some .long) lv S) (hR : lv + 1 ≤ R.frames ∧ 8 + (7 + 11) + 36 * lv ≤ R.locals) (hl : Jvm.Cond.methodLink own x y_M_first ∈ TG) : CalleeOK l own R (x, 10, 2, S) :=
  Or.inr ⟨(show (10 : Nat) ≠ 1000 by decide), y_M_first, b_M_first, 7, (some .long), lv, h, hR, hl, tg_in 1098 (by decide +kernel) (by decide +kernel), tg_in 55 (by decide +kernel) (by decide +kernel), (show (y_M_first : MethodName).cls ≠ "java/lang/invoke/MethodHandle" ∧ (y_M_first : MethodName).cls ≠ "java/lang/invoke/VarHandle" ∧ (parseMethodDescriptor (y_M_first : MethodName).desc).map (fun d => d.parameters.length) = some 2 by decide +kernel), Or.inr ⟨(show 0 < (10 : Nat) by decide), tg_in 1096 (by decide +kernel) (by decide +kernel), tg_in 1097 (by decide +kernel) (by decide +kernel), TX9, 42, rfl⟩⟩
theorem m_M_tellMany {l : Launch} {own : String} {R : Room} {S : Spec} {lv x : Nat} (h : Sat l y_M_tellMany b_M_tellMany 4 none lv S) (hR : lv + 1 ≤ R.frames ∧ 8 + (4 + 11) + 36 * lv ≤ R.locals) (hl : Jvm.Cond.methodLink own x y_M_tellMany ∈ TG) : CalleeOK l own R (x, 10, 1, S) :=
  Or.inr ⟨(show (10 : Nat) ≠ 1000 by decide), y_M_tellMany, b_M_tellMany, 4, none, lv, h, hR, hl, tg_in 1107 (by decide +kernel) (by decide +kernel), tg_in 55 (by decide +kernel) (by decide +kernel), (show (y_M_tellMany : MethodName).cls ≠ "java/lang/invoke/MethodHandle" ∧ (y_M_tellMany : MethodName).cls ≠ "java/lang/invoke/VarHandle" ∧ (parseMethodDescriptor (y_M_tellMany : MethodName).desc).map (fun d => d.parameters.length) = some 1 by decide +kernel), Or.inr ⟨(show 0 < (10 : Nat) by decide), tg_in 1106 (by decide +kernel) (by decide +kernel), tg_in 34 (by decide +kernel) (by decide +kernel), TX9, 42, rfl⟩⟩
theorem m_M_count {l : Launch} {own : String} {R : Room} {S : Spec} {lv x : Nat} (h : Sat l y_M_count b_M_count 3 (some .long) lv S) (hR : lv + 1 ≤ R.frames ∧ 8 + (3 + 11) + 36 * lv ≤ R.locals) (hl : Jvm.Cond.methodLink own x y_M_count ∈ TG) : CalleeOK l own R (x, 10, 2, S) :=
  Or.inr ⟨(show (10 : Nat) ≠ 1000 by decide), y_M_count, b_M_count, 3, (some .long), lv, h, hR, hl, tg_in 1103 (by decide +kernel) (by decide +kernel), tg_in 55 (by decide +kernel) (by decide +kernel), (show (y_M_count : MethodName).cls ≠ "java/lang/invoke/MethodHandle" ∧ (y_M_count : MethodName).cls ≠ "java/lang/invoke/VarHandle" ∧ (parseMethodDescriptor (y_M_count : MethodName).desc).map (fun d => d.parameters.length) = some 2 by decide +kernel), Or.inr ⟨(show 0 < (10 : Nat) by decide), tg_in 1101 (by decide +kernel) (by decide +kernel), tg_in 1102 (by decide +kernel) (by decide +kernel), TX9, 42, rfl⟩⟩
theorem m_M_number {l : Launch} {own : String} {R : Room} {S : Spec} {lv x : Nat} (h : Sat l y_M_number b_M_number 10 (some .long) lv S) (hR : lv + 1 ≤ R.frames ∧ 8 + (10 + 11) + 36 * lv ≤ R.locals) (hl : Jvm.Cond.methodLink own x y_M_number ∈ TG) : CalleeOK l own R (x, 10, 3, S) :=
  Or.inr ⟨(show (10 : Nat) ≠ 1000 by decide), y_M_number, b_M_number, 10, (some .long), lv, h, hR, hl, tg_in 1111 (by decide +kernel) (by decide +kernel), tg_in 55 (by decide +kernel) (by decide +kernel), (show (y_M_number : MethodName).cls ≠ "java/lang/invoke/MethodHandle" ∧ (y_M_number : MethodName).cls ≠ "java/lang/invoke/VarHandle" ∧ (parseMethodDescriptor (y_M_number : MethodName).desc).map (fun d => d.parameters.length) = some 3 by decide +kernel), Or.inr ⟨(show 0 < (10 : Nat) by decide), tg_in 1109 (by decide +kernel) (by decide +kernel), tg_in 1110 (by decide +kernel) (by decide +kernel), TX9, 42, rfl⟩⟩
theorem m_M_row {l : Launch} {own : String} {R : Room} {S : Spec} {lv x : Nat} (h : Sat l y_M_row b_M_row 14 (some .long) lv S) (hR : lv + 1 ≤ R.frames ∧ 8 + (14 + 11) + 36 * lv ≤ R.locals) (hl : Jvm.Cond.methodLink own x y_M_row ∈ TG) : CalleeOK l own R (x, 10, 3, S) :=
  Or.inr ⟨(show (10 : Nat) ≠ 1000 by decide), y_M_row, b_M_row, 14, (some .long), lv, h, hR, hl, tg_in 1115 (by decide +kernel) (by decide +kernel), tg_in 55 (by decide +kernel) (by decide +kernel), (show (y_M_row : MethodName).cls ≠ "java/lang/invoke/MethodHandle" ∧ (y_M_row : MethodName).cls ≠ "java/lang/invoke/VarHandle" ∧ (parseMethodDescriptor (y_M_row : MethodName).desc).map (fun d => d.parameters.length) = some 3 by decide +kernel), Or.inr ⟨(show 0 < (10 : Nat) by decide), tg_in 1113 (by decide +kernel) (by decide +kernel), tg_in 1114 (by decide +kernel) (by decide +kernel), TX9, 42, rfl⟩⟩
theorem m_M_reachFrom {l : Launch} {own : String} {R : Room} {S : Spec} {lv x : Nat} (h : Sat l y_M_reachFrom b_M_reachFrom 5 none lv S) (hR : lv + 1 ≤ R.frames ∧ 8 + (5 + 11) + 36 * lv ≤ R.locals) (hl : Jvm.Cond.methodLink own x y_M_reachFrom ∈ TG) : CalleeOK l own R (x, 10, 2, S) :=
  Or.inr ⟨(show (10 : Nat) ≠ 1000 by decide), y_M_reachFrom, b_M_reachFrom, 5, none, lv, h, hR, hl, tg_in 1125 (by decide +kernel) (by decide +kernel), tg_in 55 (by decide +kernel) (by decide +kernel), (show (y_M_reachFrom : MethodName).cls ≠ "java/lang/invoke/MethodHandle" ∧ (y_M_reachFrom : MethodName).cls ≠ "java/lang/invoke/VarHandle" ∧ (parseMethodDescriptor (y_M_reachFrom : MethodName).desc).map (fun d => d.parameters.length) = some 2 by decide +kernel), Or.inr ⟨(show 0 < (10 : Nat) by decide), tg_in 1124 (by decide +kernel) (by decide +kernel), tg_in 35 (by decide +kernel) (by decide +kernel), TX9, 42, rfl⟩⟩
theorem m_M_ways {l : Launch} {own : String} {R : Room} {S : Spec} {lv x : Nat} (h : Sat l y_M_ways b_M_ways 4 (some .int) lv S) (hR : lv + 1 ≤ R.frames ∧ 8 + (4 + 11) + 36 * lv ≤ R.locals) (hl : Jvm.Cond.methodLink own x y_M_ways ∈ TG) : CalleeOK l own R (x, 10, 3, S) :=
  Or.inr ⟨(show (10 : Nat) ≠ 1000 by decide), y_M_ways, b_M_ways, 4, (some .int), lv, h, hR, hl, tg_in 1120 (by decide +kernel) (by decide +kernel), tg_in 55 (by decide +kernel) (by decide +kernel), (show (y_M_ways : MethodName).cls ≠ "java/lang/invoke/MethodHandle" ∧ (y_M_ways : MethodName).cls ≠ "java/lang/invoke/VarHandle" ∧ (parseMethodDescriptor (y_M_ways : MethodName).desc).map (fun d => d.parameters.length) = some 3 by decide +kernel), Or.inr ⟨(show 0 < (10 : Nat) by decide), tg_in 1118 (by decide +kernel) (by decide +kernel), tg_in 1119 (by decide +kernel) (by decide +kernel), TX9, 42, rfl⟩⟩
theorem m_M_comes {l : Launch} {own : String} {R : Room} {S : Spec} {lv x : Nat} (h : Sat l y_M_comes b_M_comes 4 (some .boolean) lv S) (hR : lv + 1 ≤ R.frames ∧ 8 + (4 + 11) + 36 * lv ≤ R.locals) (hl : Jvm.Cond.methodLink own x y_M_comes ∈ TG) : CalleeOK l own R (x, 10, 2, S) :=
  Or.inr ⟨(show (10 : Nat) ≠ 1000 by decide), y_M_comes, b_M_comes, 4, (some .boolean), lv, h, hR, hl, tg_in 1133 (by decide +kernel) (by decide +kernel), tg_in 55 (by decide +kernel) (by decide +kernel), (show (y_M_comes : MethodName).cls ≠ "java/lang/invoke/MethodHandle" ∧ (y_M_comes : MethodName).cls ≠ "java/lang/invoke/VarHandle" ∧ (parseMethodDescriptor (y_M_comes : MethodName).desc).map (fun d => d.parameters.length) = some 2 by decide +kernel), Or.inr ⟨(show 0 < (10 : Nat) by decide), tg_in 1132 (by decide +kernel) (by decide +kernel), tg_in 36 (by decide +kernel) (by decide +kernel), TX9, 42, rfl⟩⟩
theorem m_M_mark {l : Launch} {own : String} {R : Room} {S : Spec} {lv x : Nat} (h : Sat l y_M_mark b_M_mark 4 (some .int) lv S) (hR : lv + 1 ≤ R.frames ∧ 8 + (4 + 11) + 36 * lv ≤ R.locals) (hl : Jvm.Cond.methodLink own x y_M_mark ∈ TG) : CalleeOK l own R (x, 10, 1, S) :=
  Or.inr ⟨(show (10 : Nat) ≠ 1000 by decide), y_M_mark, b_M_mark, 4, (some .int), lv, h, hR, hl, tg_in 1129 (by decide +kernel) (by decide +kernel), tg_in 55 (by decide +kernel) (by decide +kernel), (show (y_M_mark : MethodName).cls ≠ "java/lang/invoke/MethodHandle" ∧ (y_M_mark : MethodName).cls ≠ "java/lang/invoke/VarHandle" ∧ (parseMethodDescriptor (y_M_mark : MethodName).desc).map (fun d => d.parameters.length) = some 1 by decide +kernel), Or.inr ⟨(show 0 < (10 : Nat) by decide), tg_in 1127 (by decide +kernel) (by decide +kernel), tg_in 1128 (by decide +kernel) (by decide +kernel), TX9, 42, rfl⟩⟩
theorem m_M_marked {l : Launch} {own : String} {R : Room} {S : Spec} {lv x : Nat} (h : Sat l y_M_marked b_M_marked 1 (some .int) lv S) (hR : lv + 1 ≤ R.frames ∧ 8 + (1 + 11) + 36 * lv ≤ R.locals) (hl : Jvm.Cond.methodLink own x y_M_marked ∈ TG) : CalleeOK l own R (x, 10, 0, S) :=
  Or.inr ⟨(show (10 : Nat) ≠ 1000 by decide), y_M_marked, b_M_marked, 1, (some .int), lv, h, hR, hl, tg_in 1137 (by decide +kernel) (by decide +kernel), tg_in 55 (by decide +kernel) (by decide +kernel), (show (y_M_marked : MethodName).cls ≠ "java/lang/invoke/MethodHandle" ∧ (y_M_marked : MethodName).cls ≠ "java/lang/invoke/VarHandle" ∧ (parseMethodDescriptor (y_M_marked : MethodName).desc).map (fun d => d.parameters.length) = some 0 by decide +kernel), Or.inr ⟨(show 0 < (10 : Nat) by decide), tg_in 1135 (by decide +kernel) (by decide +kernel), tg_in 1136 (by decide +kernel) (by decide +kernel), TX9, 42, rfl⟩⟩
theorem m_M_weigh {l : Launch} {own : String} {R : Room} {S : Spec} {lv x : Nat} (h : Sat l y_M_weigh b_M_weigh 4 (some .int) lv S) (hR : lv + 1 ≤ R.frames ∧ 8 + (4 + 11) + 36 * lv ≤ R.locals) (hl : Jvm.Cond.methodLink own x y_M_weigh ∈ TG) : CalleeOK l own R (x, 10, 2, S) :=
  Or.inr ⟨(show (10 : Nat) ≠ 1000 by decide), y_M_weigh, b_M_weigh, 4, (some .int), lv, h, hR, hl, tg_in 1141 (by decide +kernel) (by decide +kernel), tg_in 55 (by decide +kernel) (by decide +kernel), (show (y_M_weigh : MethodName).cls ≠ "java/lang/invoke/MethodHandle" ∧ (y_M_weigh : MethodName).cls ≠ "java/lang/invoke/VarHandle" ∧ (parseMethodDescriptor (y_M_weigh : MethodName).desc).map (fun d => d.parameters.length) = some 2 by decide +kernel), Or.inr ⟨(show 0 < (10 : Nat) by decide), tg_in 1139 (by decide +kernel) (by decide +kernel), tg_in 1140 (by decide +kernel) (by decide +kernel), TX9, 42, rfl⟩⟩
theorem m_M_weight {l : Launch} {own : String} {R : Room} {S : Spec} {lv x : Nat} (h : Sat l y_M_weight b_M_weight 2 (some .int) lv S) (hR : lv + 1 ≤ R.frames ∧ 8 + (2 + 11) + 36 * lv ≤ R.locals) (hl : Jvm.Cond.methodLink own x y_M_weight ∈ TG) : CalleeOK l own R (x, 10, 1, S) :=
  Or.inr ⟨(show (10 : Nat) ≠ 1000 by decide), y_M_weight, b_M_weight, 2, (some .int), lv, h, hR, hl, tg_in 1146 (by decide +kernel) (by decide +kernel), tg_in 55 (by decide +kernel) (by decide +kernel), (show (y_M_weight : MethodName).cls ≠ "java/lang/invoke/MethodHandle" ∧ (y_M_weight : MethodName).cls ≠ "java/lang/invoke/VarHandle" ∧ (parseMethodDescriptor (y_M_weight : MethodName).desc).map (fun d => d.parameters.length) = some 1 by decide +kernel), Or.inr ⟨(show 0 < (10 : Nat) by decide), tg_in 1144 (by decide +kernel) (by decide +kernel), tg_in 1145 (by decide +kernel) (by decide +kernel), TX9, 42, rfl⟩⟩
theorem m_M_weighed {l : Launch} {own : String} {R : Room} {S : Spec} {lv x : Nat} (h : Sat l y_M_weighed b_M_weighed 6 (some .long) lv S) (hR : lv + 1 ≤ R.frames ∧ 8 + (6 + 11) + 36 * lv ≤ R.locals) (hl : Jvm.Cond.methodLink own x y_M_weighed ∈ TG) : CalleeOK l own R (x, 10, 2, S) :=
  Or.inr ⟨(show (10 : Nat) ≠ 1000 by decide), y_M_weighed, b_M_weighed, 6, (some .long), lv, h, hR, hl, tg_in 1158 (by decide +kernel) (by decide +kernel), tg_in 55 (by decide +kernel) (by decide +kernel), (show (y_M_weighed : MethodName).cls ≠ "java/lang/invoke/MethodHandle" ∧ (y_M_weighed : MethodName).cls ≠ "java/lang/invoke/VarHandle" ∧ (parseMethodDescriptor (y_M_weighed : MethodName).desc).map (fun d => d.parameters.length) = some 2 by decide +kernel), Or.inr ⟨(show 0 < (10 : Nat) by decide), tg_in 1157 (by decide +kernel) (by decide +kernel), tg_in 38 (by decide +kernel) (by decide +kernel), TX9, 42, rfl⟩⟩
theorem m_M_allWeights {l : Launch} {own : String} {R : Room} {S : Spec} {lv x : Nat} (h : Sat l y_M_allWeights b_M_allWeights 3 (some .int) lv S) (hR : lv + 1 ≤ R.frames ∧ 8 + (3 + 11) + 36 * lv ≤ R.locals) (hl : Jvm.Cond.methodLink own x y_M_allWeights ∈ TG) : CalleeOK l own R (x, 10, 0, S) :=
  Or.inr ⟨(show (10 : Nat) ≠ 1000 by decide), y_M_allWeights, b_M_allWeights, 3, (some .int), lv, h, hR, hl, tg_in 1154 (by decide +kernel) (by decide +kernel), tg_in 55 (by decide +kernel) (by decide +kernel), (show (y_M_allWeights : MethodName).cls ≠ "java/lang/invoke/MethodHandle" ∧ (y_M_allWeights : MethodName).cls ≠ "java/lang/invoke/VarHandle" ∧ (parseMethodDescriptor (y_M_allWeights : MethodName).desc).map (fun d => d.parameters.length) = some 0 by decide +kernel), Or.inr ⟨(show 0 < (10 : Nat) by decide), tg_in 1153 (by decide +kernel) (by decide +kernel), tg_in 37 (by decide +kernel) (by decide +kernel), TX9, 42, rfl⟩⟩
theorem m_M_judge {l : Launch} {own : String} {R : Room} {S : Spec} {lv x : Nat} (h : Sat l y_M_judge b_M_judge 4 (some .int) lv S) (hR : lv + 1 ≤ R.frames ∧ 8 + (4 + 11) + 36 * lv ≤ R.locals) (hl : Jvm.Cond.methodLink own x y_M_judge ∈ TG) : CalleeOK l own R (x, 10, 2, S) :=
  Or.inr ⟨(show (10 : Nat) ≠ 1000 by decide), y_M_judge, b_M_judge, 4, (some .int), lv, h, hR, hl, tg_in 1150 (by decide +kernel) (by decide +kernel), tg_in 55 (by decide +kernel) (by decide +kernel), (show (y_M_judge : MethodName).cls ≠ "java/lang/invoke/MethodHandle" ∧ (y_M_judge : MethodName).cls ≠ "java/lang/invoke/VarHandle" ∧ (parseMethodDescriptor (y_M_judge : MethodName).desc).map (fun d => d.parameters.length) = some 2 by decide +kernel), Or.inr ⟨(show 0 < (10 : Nat) by decide), tg_in 1148 (by decide +kernel) (by decide +kernel), tg_in 1149 (by decide +kernel) (by decide +kernel), TX9, 42, rfl⟩⟩
theorem m_M_best {l : Launch} {own : String} {R : Room} {S : Spec} {lv x : Nat} (h : Sat l y_M_best b_M_best 9 (some .int) lv S) (hR : lv + 1 ≤ R.frames ∧ 8 + (9 + 11) + 36 * lv ≤ R.locals) (hl : Jvm.Cond.methodLink own x y_M_best ∈ TG) : CalleeOK l own R (x, 10, 3, S) :=
  Or.inr ⟨(show (10 : Nat) ≠ 1000 by decide), y_M_best, b_M_best, 9, (some .int), lv, h, hR, hl, tg_in 1162 (by decide +kernel) (by decide +kernel), tg_in 55 (by decide +kernel) (by decide +kernel), (show (y_M_best : MethodName).cls ≠ "java/lang/invoke/MethodHandle" ∧ (y_M_best : MethodName).cls ≠ "java/lang/invoke/VarHandle" ∧ (parseMethodDescriptor (y_M_best : MethodName).desc).map (fun d => d.parameters.length) = some 3 by decide +kernel), Or.inr ⟨(show 0 < (10 : Nat) by decide), tg_in 1160 (by decide +kernel) (by decide +kernel), tg_in 1161 (by decide +kernel) (by decide +kernel), TX9, 42, rfl⟩⟩
theorem m_M_leading {l : Launch} {own : String} {R : Room} {S : Spec} {lv x : Nat} (h : Sat l y_M_leading b_M_leading 4 (some .int) lv S) (hR : lv + 1 ≤ R.frames ∧ 8 + (4 + 11) + 36 * lv ≤ R.locals) (hl : Jvm.Cond.methodLink own x y_M_leading ∈ TG) : CalleeOK l own R (x, 10, 1, S) :=
  Or.inr ⟨(show (10 : Nat) ≠ 1000 by decide), y_M_leading, b_M_leading, 4, (some .int), lv, h, hR, hl, tg_in 1172 (by decide +kernel) (by decide +kernel), tg_in 55 (by decide +kernel) (by decide +kernel), (show (y_M_leading : MethodName).cls ≠ "java/lang/invoke/MethodHandle" ∧ (y_M_leading : MethodName).cls ≠ "java/lang/invoke/VarHandle" ∧ (parseMethodDescriptor (y_M_leading : MethodName).desc).map (fun d => d.parameters.length) = some 1 by decide +kernel), Or.inr ⟨(show 0 < (10 : Nat) by decide), tg_in 1171 (by decide +kernel) (by decide +kernel), tg_in 39 (by decide +kernel) (by decide +kernel), TX9, 42, rfl⟩⟩
theorem m_M_code {l : Launch} {own : String} {R : Room} {S : Spec} {lv x : Nat} (h : Sat l y_M_code b_M_code 5 (some .int) lv S) (hR : lv + 1 ≤ R.frames ∧ 8 + (5 + 11) + 36 * lv ≤ R.locals) (hl : Jvm.Cond.methodLink own x y_M_code ∈ TG) : CalleeOK l own R (x, 10, 2, S) :=
  Or.inr ⟨(show (10 : Nat) ≠ 1000 by decide), y_M_code, b_M_code, 5, (some .int), lv, h, hR, hl, tg_in 1167 (by decide +kernel) (by decide +kernel), tg_in 55 (by decide +kernel) (by decide +kernel), (show (y_M_code : MethodName).cls ≠ "java/lang/invoke/MethodHandle" ∧ (y_M_code : MethodName).cls ≠ "java/lang/invoke/VarHandle" ∧ (parseMethodDescriptor (y_M_code : MethodName).desc).map (fun d => d.parameters.length) = some 2 by decide +kernel), Or.inr ⟨(show 0 < (10 : Nat) by decide), tg_in 1165 (by decide +kernel) (by decide +kernel), tg_in 1166 (by decide +kernel) (by decide +kernel), TX9, 42, rfl⟩⟩
theorem m_M_home {l : Launch} {own : String} {R : Room} {S : Spec} {lv x : Nat} (h : Sat l y_M_home b_M_home 2 (some .int) lv S) (hR : lv + 1 ≤ R.frames ∧ 8 + (2 + 11) + 36 * lv ≤ R.locals) (hl : Jvm.Cond.methodLink own x y_M_home ∈ TG) : CalleeOK l own R (x, 10, 0, S) :=
  Or.inr ⟨(show (10 : Nat) ≠ 1000 by decide), y_M_home, b_M_home, 2, (some .int), lv, h, hR, hl, tg_in 1220 (by decide +kernel) (by decide +kernel), tg_in 55 (by decide +kernel) (by decide +kernel), (show (y_M_home : MethodName).cls ≠ "java/lang/invoke/MethodHandle" ∧ (y_M_home : MethodName).cls ≠ "java/lang/invoke/VarHandle" ∧ (parseMethodDescriptor (y_M_home : MethodName).desc).map (fun d => d.parameters.length) = some 0 by decide +kernel), Or.inr ⟨(show 0 < (10 : Nat) by decide), tg_in 1219 (by decide +kernel) (by decide +kernel), tg_in 44 (by decide +kernel) (by decide +kernel), TX9, 42, rfl⟩⟩
theorem m_M_member {l : Launch} {own : String} {R : Room} {S : Spec} {lv x : Nat} (h : Sat l y_M_member b_M_member 2 (some .int) lv S) (hR : lv + 1 ≤ R.frames ∧ 8 + (2 + 11) + 36 * lv ≤ R.locals) (hl : Jvm.Cond.methodLink own x y_M_member ∈ TG) : CalleeOK l own R (x, 10, 1, S) :=
  Or.inr ⟨(show (10 : Nat) ≠ 1000 by decide), y_M_member, b_M_member, 2, (some .int), lv, h, hR, hl, tg_in 1176 (by decide +kernel) (by decide +kernel), tg_in 55 (by decide +kernel) (by decide +kernel), (show (y_M_member : MethodName).cls ≠ "java/lang/invoke/MethodHandle" ∧ (y_M_member : MethodName).cls ≠ "java/lang/invoke/VarHandle" ∧ (parseMethodDescriptor (y_M_member : MethodName).desc).map (fun d => d.parameters.length) = some 1 by decide +kernel), Or.inr ⟨(show 0 < (10 : Nat) by decide), tg_in 1174 (by decide +kernel) (by decide +kernel), tg_in 1175 (by decide +kernel) (by decide +kernel), TX9, 42, rfl⟩⟩
theorem m_M_isMemberAt {l : Launch} {own : String} {R : Room} {S : Spec} {lv x : Nat} (h : Sat l y_M_isMemberAt b_M_isMemberAt 2 (some .boolean) lv S) (hR : lv + 1 ≤ R.frames ∧ 8 + (2 + 11) + 36 * lv ≤ R.locals) (hl : Jvm.Cond.methodLink own x y_M_isMemberAt ∈ TG) : CalleeOK l own R (x, 10, 1, S) :=
  Or.inr ⟨(show (10 : Nat) ≠ 1000 by decide), y_M_isMemberAt, b_M_isMemberAt, 2, (some .boolean), lv, h, hR, hl, tg_in 1188 (by decide +kernel) (by decide +kernel), tg_in 55 (by decide +kernel) (by decide +kernel), (show (y_M_isMemberAt : MethodName).cls ≠ "java/lang/invoke/MethodHandle" ∧ (y_M_isMemberAt : MethodName).cls ≠ "java/lang/invoke/VarHandle" ∧ (parseMethodDescriptor (y_M_isMemberAt : MethodName).desc).map (fun d => d.parameters.length) = some 1 by decide +kernel), Or.inr ⟨(show 0 < (10 : Nat) by decide), tg_in 1187 (by decide +kernel) (by decide +kernel), tg_in 41 (by decide +kernel) (by decide +kernel), TX9, 42, rfl⟩⟩
theorem m_M_wordAt {l : Launch} {own : String} {R : Room} {S : Spec} {lv x : Nat} (h : Sat l y_M_wordAt b_M_wordAt 5 (some .int) lv S) (hR : lv + 1 ≤ R.frames ∧ 8 + (5 + 11) + 36 * lv ≤ R.locals) (hl : Jvm.Cond.methodLink own x y_M_wordAt ∈ TG) : CalleeOK l own R (x, 10, 2, S) :=
  Or.inr ⟨(show (10 : Nat) ≠ 1000 by decide), y_M_wordAt, b_M_wordAt, 5, (some .int), lv, h, hR, hl, tg_in 1184 (by decide +kernel) (by decide +kernel), tg_in 55 (by decide +kernel) (by decide +kernel), (show (y_M_wordAt : MethodName).cls ≠ "java/lang/invoke/MethodHandle" ∧ (y_M_wordAt : MethodName).cls ≠ "java/lang/invoke/VarHandle" ∧ (parseMethodDescriptor (y_M_wordAt : MethodName).desc).map (fun d => d.parameters.length) = some 2 by decide +kernel), Or.inr ⟨(show 0 < (10 : Nat) by decide), tg_in 1183 (by decide +kernel) (by decide +kernel), tg_in 40 (by decide +kernel) (by decide +kernel), TX9, 42, rfl⟩⟩
theorem m_M_wordOf {l : Launch} {own : String} {R : Room} {S : Spec} {lv x : Nat} (h : Sat l y_M_wordOf b_M_wordOf 3 (some .int) lv S) (hR : lv + 1 ≤ R.frames ∧ 8 + (3 + 11) + 36 * lv ≤ R.locals) (hl : Jvm.Cond.methodLink own x y_M_wordOf ∈ TG) : CalleeOK l own R (x, 10, 2, S) :=
  Or.inr ⟨(show (10 : Nat) ≠ 1000 by decide), y_M_wordOf, b_M_wordOf, 3, (some .int), lv, h, hR, hl, tg_in 1180 (by decide +kernel) (by decide +kernel), tg_in 55 (by decide +kernel) (by decide +kernel), (show (y_M_wordOf : MethodName).cls ≠ "java/lang/invoke/MethodHandle" ∧ (y_M_wordOf : MethodName).cls ≠ "java/lang/invoke/VarHandle" ∧ (parseMethodDescriptor (y_M_wordOf : MethodName).desc).map (fun d => d.parameters.length) = some 2 by decide +kernel), Or.inr ⟨(show 0 < (10 : Nat) by decide), tg_in 1178 (by decide +kernel) (by decide +kernel), tg_in 1179 (by decide +kernel) (by decide +kernel), TX9, 42, rfl⟩⟩
theorem m_M_readAt {l : Launch} {own : String} {R : Room} {S : Spec} {lv x : Nat} (h : Sat l y_M_readAt b_M_readAt 5 (some .int) lv S) (hR : lv + 1 ≤ R.frames ∧ 8 + (5 + 11) + 36 * lv ≤ R.locals) (hl : Jvm.Cond.methodLink own x y_M_readAt ∈ TG) : CalleeOK l own R (x, 10, 2, S) :=
  Or.inr ⟨(show (10 : Nat) ≠ 1000 by decide), y_M_readAt, b_M_readAt, 5, (some .int), lv, h, hR, hl, tg_in 1196 (by decide +kernel) (by decide +kernel), tg_in 55 (by decide +kernel) (by decide +kernel), (show (y_M_readAt : MethodName).cls ≠ "java/lang/invoke/MethodHandle" ∧ (y_M_readAt : MethodName).cls ≠ "java/lang/invoke/VarHandle" ∧ (parseMethodDescriptor (y_M_readAt : MethodName).desc).map (fun d => d.parameters.length) = some 2 by decide +kernel), Or.inr ⟨(show 0 < (10 : Nat) by decide), tg_in 1195 (by decide +kernel) (by decide +kernel), tg_in 42 (by decide +kernel) (by decide +kernel), TX9, 42, rfl⟩⟩
theorem m_M_read {l : Launch} {own : String} {R : Room} {S : Spec} {lv x : Nat} (h : Sat l y_M_read b_M_read 3 (some .int) lv S) (hR : lv + 1 ≤ R.frames ∧ 8 + (3 + 11) + 36 * lv ≤ R.locals) (hl : Jvm.Cond.methodLink own x y_M_read ∈ TG) : CalleeOK l own R (x, 10, 2, S) :=
  Or.inr ⟨(show (10 : Nat) ≠ 1000 by decide), y_M_read, b_M_read, 3, (some .int), lv, h, hR, hl, tg_in 1192 (by decide +kernel) (by decide +kernel), tg_in 55 (by decide +kernel) (by decide +kernel), (show (y_M_read : MethodName).cls ≠ "java/lang/invoke/MethodHandle" ∧ (y_M_read : MethodName).cls ≠ "java/lang/invoke/VarHandle" ∧ (parseMethodDescriptor (y_M_read : MethodName).desc).map (fun d => d.parameters.length) = some 2 by decide +kernel), Or.inr ⟨(show 0 < (10 : Nat) by decide), tg_in 1190 (by decide +kernel) (by decide +kernel), tg_in 1191 (by decide +kernel) (by decide +kernel), TX9, 42, rfl⟩⟩
theorem m_M_say {l : Launch} {own : String} {R : Room} {S : Spec} {lv x : Nat} (h : Sat l y_M_say b_M_say 5 (some .int) lv S) (hR : lv + 1 ≤ R.frames ∧ 8 + (5 + 11) + 36 * lv ≤ R.locals) (hl : Jvm.Cond.methodLink own x y_M_say ∈ TG) : CalleeOK l own R (x, 10, 2, S) :=
  Or.inr ⟨(show (10 : Nat) ≠ 1000 by decide), y_M_say, b_M_say, 5, (some .int), lv, h, hR, hl, tg_in 1200 (by decide +kernel) (by decide +kernel), tg_in 55 (by decide +kernel) (by decide +kernel), (show (y_M_say : MethodName).cls ≠ "java/lang/invoke/MethodHandle" ∧ (y_M_say : MethodName).cls ≠ "java/lang/invoke/VarHandle" ∧ (parseMethodDescriptor (y_M_say : MethodName).desc).map (fun d => d.parameters.length) = some 2 by decide +kernel), Or.inr ⟨(show 0 < (10 : Nat) by decide), tg_in 1198 (by decide +kernel) (by decide +kernel), tg_in 1199 (by decide +kernel) (by decide +kernel), TX9, 42, rfl⟩⟩
theorem m_M_hush {l : Launch} {own : String} {R : Room} {S : Spec} {lv x : Nat} (h : Sat l y_M_hush b_M_hush 2 (some .int) lv S) (hR : lv + 1 ≤ R.frames ∧ 8 + (2 + 11) + 36 * lv ≤ R.locals) (hl : Jvm.Cond.methodLink own x y_M_hush ∈ TG) : CalleeOK l own R (x, 10, 0, S) :=
  Or.inr ⟨(show (10 : Nat) ≠ 1000 by decide), y_M_hush, b_M_hush, 2, (some .int), lv, h, hR, hl, tg_in 1204 (by decide +kernel) (by decide +kernel), tg_in 55 (by decide +kernel) (by decide +kernel), (show (y_M_hush : MethodName).cls ≠ "java/lang/invoke/MethodHandle" ∧ (y_M_hush : MethodName).cls ≠ "java/lang/invoke/VarHandle" ∧ (parseMethodDescriptor (y_M_hush : MethodName).desc).map (fun d => d.parameters.length) = some 0 by decide +kernel), Or.inr ⟨(show 0 < (10 : Nat) by decide), tg_in 1202 (by decide +kernel) (by decide +kernel), tg_in 1203 (by decide +kernel) (by decide +kernel), TX9, 42, rfl⟩⟩
theorem m_M_message {l : Launch} {own : String} {R : Room} {S : Spec} {lv x : Nat} (h : Sat l y_M_message b_M_message 2 (some .int) lv S) (hR : lv + 1 ≤ R.frames ∧ 8 + (2 + 11) + 36 * lv ≤ R.locals) (hl : Jvm.Cond.methodLink own x y_M_message ∈ TG) : CalleeOK l own R (x, 10, 1, S) :=
  Or.inr ⟨(show (10 : Nat) ≠ 1000 by decide), y_M_message, b_M_message, 2, (some .int), lv, h, hR, hl, tg_in 1208 (by decide +kernel) (by decide +kernel), tg_in 55 (by decide +kernel) (by decide +kernel), (show (y_M_message : MethodName).cls ≠ "java/lang/invoke/MethodHandle" ∧ (y_M_message : MethodName).cls ≠ "java/lang/invoke/VarHandle" ∧ (parseMethodDescriptor (y_M_message : MethodName).desc).map (fun d => d.parameters.length) = some 1 by decide +kernel), Or.inr ⟨(show 0 < (10 : Nat) by decide), tg_in 1206 (by decide +kernel) (by decide +kernel), tg_in 1207 (by decide +kernel) (by decide +kernel), TX9, 42, rfl⟩⟩
theorem m_M_tellLead {l : Launch} {own : String} {R : Room} {S : Spec} {lv x : Nat} (h : Sat l y_M_tellLead b_M_tellLead 4 (some .int) lv S) (hR : lv + 1 ≤ R.frames ∧ 8 + (4 + 11) + 36 * lv ≤ R.locals) (hl : Jvm.Cond.methodLink own x y_M_tellLead ∈ TG) : CalleeOK l own R (x, 10, 0, S) :=
  Or.inr ⟨(show (10 : Nat) ≠ 1000 by decide), y_M_tellLead, b_M_tellLead, 4, (some .int), lv, h, hR, hl, tg_in 1216 (by decide +kernel) (by decide +kernel), tg_in 55 (by decide +kernel) (by decide +kernel), (show (y_M_tellLead : MethodName).cls ≠ "java/lang/invoke/MethodHandle" ∧ (y_M_tellLead : MethodName).cls ≠ "java/lang/invoke/VarHandle" ∧ (parseMethodDescriptor (y_M_tellLead : MethodName).desc).map (fun d => d.parameters.length) = some 0 by decide +kernel), Or.inr ⟨(show 0 < (10 : Nat) by decide), tg_in 1215 (by decide +kernel) (by decide +kernel), tg_in 43 (by decide +kernel) (by decide +kernel), TX9, 42, rfl⟩⟩
theorem m_M_write {l : Launch} {own : String} {R : Room} {S : Spec} {lv x : Nat} (h : Sat l y_M_write b_M_write 8 (some .int) lv S) (hR : lv + 1 ≤ R.frames ∧ 8 + (8 + 11) + 36 * lv ≤ R.locals) (hl : Jvm.Cond.methodLink own x y_M_write ∈ TG) : CalleeOK l own R (x, 10, 0, S) :=
  Or.inr ⟨(show (10 : Nat) ≠ 1000 by decide), y_M_write, b_M_write, 8, (some .int), lv, h, hR, hl, tg_in 1212 (by decide +kernel) (by decide +kernel), tg_in 55 (by decide +kernel) (by decide +kernel), (show (y_M_write : MethodName).cls ≠ "java/lang/invoke/MethodHandle" ∧ (y_M_write : MethodName).cls ≠ "java/lang/invoke/VarHandle" ∧ (parseMethodDescriptor (y_M_write : MethodName).desc).map (fun d => d.parameters.length) = some 0 by decide +kernel), Or.inr ⟨(show 0 < (10 : Nat) by decide), tg_in 1210 (by decide +kernel) (by decide +kernel), tg_in 1211 (by decide +kernel) (by decide +kernel), TX9, 42, rfl⟩⟩
theorem m_M_tell {l : Launch} {own : String} {R : Room} {S : Spec} {lv x : Nat} (h : Sat l y_M_tell b_M_tell 8 (some .int) lv S) (hR : lv + 1 ≤ R.frames ∧ 8 + (8 + 11) + 36 * lv ≤ R.locals) (hl : Jvm.Cond.methodLink own x y_M_tell ∈ TG) : CalleeOK l own R (x, 10, 0, S) :=
  Or.inr ⟨(show (10 : Nat) ≠ 1000 by decide), y_M_tell, b_M_tell, 8, (some .int), lv, h, hR, hl, tg_in 1224 (by decide +kernel) (by decide +kernel), tg_in 55 (by decide +kernel) (by decide +kernel), (show (y_M_tell : MethodName).cls ≠ "java/lang/invoke/MethodHandle" ∧ (y_M_tell : MethodName).cls ≠ "java/lang/invoke/VarHandle" ∧ (parseMethodDescriptor (y_M_tell : MethodName).desc).map (fun d => d.parameters.length) = some 0 by decide +kernel), Or.inr ⟨(show 0 < (10 : Nat) by decide), tg_in 1222 (by decide +kernel) (by decide +kernel), tg_in 1223 (by decide +kernel) (by decide +kernel), TX9, 42, rfl⟩⟩
theorem m_M_put {l : Launch} {own : String} {R : Room} {S : Spec} {lv x : Nat} (h : Sat l y_M_put b_M_put 5 (some .int) lv S) (hR : lv + 1 ≤ R.frames ∧ 8 + (5 + 11) + 36 * lv ≤ R.locals) (hl : Jvm.Cond.methodLink own x y_M_put ∈ TG) : CalleeOK l own R (x, 10, 2, S) :=
  Or.inr ⟨(show (10 : Nat) ≠ 1000 by decide), y_M_put, b_M_put, 5, (some .int), lv, h, hR, hl, tg_in 1228 (by decide +kernel) (by decide +kernel), tg_in 55 (by decide +kernel) (by decide +kernel), (show (y_M_put : MethodName).cls ≠ "java/lang/invoke/MethodHandle" ∧ (y_M_put : MethodName).cls ≠ "java/lang/invoke/VarHandle" ∧ (parseMethodDescriptor (y_M_put : MethodName).desc).map (fun d => d.parameters.length) = some 2 by decide +kernel), Or.inr ⟨(show 0 < (10 : Nat) by decide), tg_in 1226 (by decide +kernel) (by decide +kernel), tg_in 1227 (by decide +kernel) (by decide +kernel), TX9, 42, rfl⟩⟩
theorem m_M_cut {l : Launch} {own : String} {R : Room} {S : Spec} {lv x : Nat} (h : Sat l y_M_cut b_M_cut 3 (some .int) lv S) (hR : lv + 1 ≤ R.frames ∧ 8 + (3 + 11) + 36 * lv ≤ R.locals) (hl : Jvm.Cond.methodLink own x y_M_cut ∈ TG) : CalleeOK l own R (x, 10, 1, S) :=
  Or.inr ⟨(show (10 : Nat) ≠ 1000 by decide), y_M_cut, b_M_cut, 3, (some .int), lv, h, hR, hl, tg_in 1232 (by decide +kernel) (by decide +kernel), tg_in 55 (by decide +kernel) (by decide +kernel), (show (y_M_cut : MethodName).cls ≠ "java/lang/invoke/MethodHandle" ∧ (y_M_cut : MethodName).cls ≠ "java/lang/invoke/VarHandle" ∧ (parseMethodDescriptor (y_M_cut : MethodName).desc).map (fun d => d.parameters.length) = some 1 by decide +kernel), Or.inr ⟨(show 0 < (10 : Nat) by decide), tg_in 1230 (by decide +kernel) (by decide +kernel), tg_in 1231 (by decide +kernel) (by decide +kernel), TX9, 42, rfl⟩⟩
theorem m_M_spoil {l : Launch} {own : String} {R : Room} {S : Spec} {lv x : Nat} (h : Sat l y_M_spoil b_M_spoil 2 (some .int) lv S) (hR : lv + 1 ≤ R.frames ∧ 8 + (2 + 11) + 36 * lv ≤ R.locals) (hl : Jvm.Cond.methodLink own x y_M_spoil ∈ TG) : CalleeOK l own R (x, 10, 1, S) :=
  Or.inr ⟨(show (10 : Nat) ≠ 1000 by decide), y_M_spoil, b_M_spoil, 2, (some .int), lv, h, hR, hl, tg_in 1236 (by decide +kernel) (by decide +kernel), tg_in 55 (by decide +kernel) (by decide +kernel), (show (y_M_spoil : MethodName).cls ≠ "java/lang/invoke/MethodHandle" ∧ (y_M_spoil : MethodName).cls ≠ "java/lang/invoke/VarHandle" ∧ (parseMethodDescriptor (y_M_spoil : MethodName).desc).map (fun d => d.parameters.length) = some 1 by decide +kernel), Or.inr ⟨(show 0 < (10 : Nat) by decide), tg_in 1234 (by decide +kernel) (by decide +kernel), tg_in 1235 (by decide +kernel) (by decide +kernel), TX9, 42, rfl⟩⟩
theorem m_M_plate {l : Launch} {own : String} {R : Room} {S : Spec} {lv x : Nat} (h : Sat l y_M_plate b_M_plate 2 (some .int) lv S) (hR : lv + 1 ≤ R.frames ∧ 8 + (2 + 11) + 36 * lv ≤ R.locals) (hl : Jvm.Cond.methodLink own x y_M_plate ∈ TG) : CalleeOK l own R (x, 10, 1, S) :=
  Or.inr ⟨(show (10 : Nat) ≠ 1000 by decide), y_M_plate, b_M_plate, 2, (some .int), lv, h, hR, hl, tg_in 1240 (by decide +kernel) (by decide +kernel), tg_in 55 (by decide +kernel) (by decide +kernel), (show (y_M_plate : MethodName).cls ≠ "java/lang/invoke/MethodHandle" ∧ (y_M_plate : MethodName).cls ≠ "java/lang/invoke/VarHandle" ∧ (parseMethodDescriptor (y_M_plate : MethodName).desc).map (fun d => d.parameters.length) = some 1 by decide +kernel), Or.inr ⟨(show 0 < (10 : Nat) by decide), tg_in 1238 (by decide +kernel) (by decide +kernel), tg_in 1239 (by decide +kernel) (by decide +kernel), TX9, 42, rfl⟩⟩
theorem m_M_check {l : Launch} {own : String} {R : Room} {S : Spec} {lv x : Nat} (h : Sat l y_M_check b_M_check 3 (some .int) lv S) (hR : lv + 1 ≤ R.frames ∧ 8 + (3 + 11) + 36 * lv ≤ R.locals) (hl : Jvm.Cond.methodLink own x y_M_check ∈ TG) : CalleeOK l own R (x, 10, 0, S) :=
  Or.inr ⟨(show (10 : Nat) ≠ 1000 by decide), y_M_check, b_M_check, 3, (some .int), lv, h, hR, hl, tg_in 1244 (by decide +kernel) (by decide +kernel), tg_in 55 (by decide +kernel) (by decide +kernel), (show (y_M_check : MethodName).cls ≠ "java/lang/invoke/MethodHandle" ∧ (y_M_check : MethodName).cls ≠ "java/lang/invoke/VarHandle" ∧ (parseMethodDescriptor (y_M_check : MethodName).desc).map (fun d => d.parameters.length) = some 0 by decide +kernel), Or.inr ⟨(show 0 < (10 : Nat) by decide), tg_in 1242 (by decide +kernel) (by decide +kernel), tg_in 1243 (by decide +kernel) (by decide +kernel), TX9, 42, rfl⟩⟩
theorem m_M_shape {l : Launch} {own : String} {R : Room} {S : Spec} {lv x : Nat} (h : Sat l y_M_shape b_M_shape 11 (some .int) lv S) (hR : lv + 1 ≤ R.frames ∧ 8 + (11 + 11) + 36 * lv ≤ R.locals) (hl : Jvm.Cond.methodLink own x y_M_shape ∈ TG) : CalleeOK l own R (x, 10, 1, S) :=
  Or.inr ⟨(show (10 : Nat) ≠ 1000 by decide), y_M_shape, b_M_shape, 11, (some .int), lv, h, hR, hl, tg_in 1248 (by decide +kernel) (by decide +kernel), tg_in 55 (by decide +kernel) (by decide +kernel), (show (y_M_shape : MethodName).cls ≠ "java/lang/invoke/MethodHandle" ∧ (y_M_shape : MethodName).cls ≠ "java/lang/invoke/VarHandle" ∧ (parseMethodDescriptor (y_M_shape : MethodName).desc).map (fun d => d.parameters.length) = some 1 by decide +kernel), Or.inr ⟨(show 0 < (10 : Nat) by decide), tg_in 1246 (by decide +kernel) (by decide +kernel), tg_in 1247 (by decide +kernel) (by decide +kernel), TX9, 42, rfl⟩⟩
theorem m_M_count1 {l : Launch} {own : String} {R : Room} {S : Spec} {lv x : Nat} (h : Sat l y_M_count1 b_M_count1 2 (some .int) lv S) (hR : lv + 1 ≤ R.frames ∧ 8 + (2 + 11) + 36 * lv ≤ R.locals) (hl : Jvm.Cond.methodLink own x y_M_count1 ∈ TG) : CalleeOK l own R (x, 10, 1, S) :=
  Or.inr ⟨(show (10 : Nat) ≠ 1000 by decide), y_M_count1, b_M_count1, 2, (some .int), lv, h, hR, hl, tg_in 1253 (by decide +kernel) (by decide +kernel), tg_in 55 (by decide +kernel) (by decide +kernel), (show (y_M_count1 : MethodName).cls ≠ "java/lang/invoke/MethodHandle" ∧ (y_M_count1 : MethodName).cls ≠ "java/lang/invoke/VarHandle" ∧ (parseMethodDescriptor (y_M_count1 : MethodName).desc).map (fun d => d.parameters.length) = some 1 by decide +kernel), Or.inr ⟨(show 0 < (10 : Nat) by decide), tg_in 1251 (by decide +kernel) (by decide +kernel), tg_in 1252 (by decide +kernel) (by decide +kernel), TX9, 42, rfl⟩⟩
theorem m_M_digest {l : Launch} {own : String} {R : Room} {S : Spec} {lv x : Nat} (h : Sat l y_M_digest b_M_digest 4 (some .long) lv S) (hR : lv + 1 ≤ R.frames ∧ 8 + (4 + 11) + 36 * lv ≤ R.locals) (hl : Jvm.Cond.methodLink own x y_M_digest ∈ TG) : CalleeOK l own R (x, 10, 0, S) :=
  Or.inr ⟨(show (10 : Nat) ≠ 1000 by decide), y_M_digest, b_M_digest, 4, (some .long), lv, h, hR, hl, tg_in 1257 (by decide +kernel) (by decide +kernel), tg_in 55 (by decide +kernel) (by decide +kernel), (show (y_M_digest : MethodName).cls ≠ "java/lang/invoke/MethodHandle" ∧ (y_M_digest : MethodName).cls ≠ "java/lang/invoke/VarHandle" ∧ (parseMethodDescriptor (y_M_digest : MethodName).desc).map (fun d => d.parameters.length) = some 0 by decide +kernel), Or.inr ⟨(show 0 < (10 : Nat) by decide), tg_in 1255 (by decide +kernel) (by decide +kernel), tg_in 1256 (by decide +kernel) (by decide +kernel), TX9, 42, rfl⟩⟩
theorem m_JI_numberOfTrailingZeros {l : Launch} {own : String} {R : Room} {S : Spec} {lv x : Nat} (h : Sat l y_JI_numberOfTrailingZeros b_JI_numberOfTrailingZeros 2 (some .int) lv S) (hR : lv + 1 ≤ R.frames ∧ 8 + (2 + 11) + 36 * lv ≤ R.locals) (hl : Jvm.Cond.methodLink own x y_JI_numberOfTrailingZeros ∈ TG) : CalleeOK l own R (x, 0, 1, S) :=
  Or.inr ⟨(show (0 : Nat) ≠ 1000 by decide), y_JI_numberOfTrailingZeros, b_JI_numberOfTrailingZeros, 2, (some .int), lv, h, hR, hl, tg_in 370 (by decide +kernel) (by decide +kernel), tg_in 59 (by decide +kernel) (by decide +kernel), (show (y_JI_numberOfTrailingZeros : MethodName).cls ≠ "java/lang/invoke/MethodHandle" ∧ (y_JI_numberOfTrailingZeros : MethodName).cls ≠ "java/lang/invoke/VarHandle" ∧ (parseMethodDescriptor (y_JI_numberOfTrailingZeros : MethodName).desc).map (fun d => d.parameters.length) = some 1 by decide +kernel), Or.inl ⟨rfl, tg_in 369 (by decide +kernel) (by decide +kernel)⟩⟩
theorem m_JL_numberOfTrailingZeros {l : Launch} {own : String} {R : Room} {S : Spec} {lv x : Nat} (h : Sat l y_JL_numberOfTrailingZeros b_JL_numberOfTrailingZeros 3 (some .int) lv S) (hR : lv + 1 ≤ R.frames ∧ 8 + (3 + 11) + 36 * lv ≤ R.locals) (hl : Jvm.Cond.methodLink own x y_JL_numberOfTrailingZeros ∈ TG) : CalleeOK l own R (x, 0, 1, S) :=
  Or.inr ⟨(show (0 : Nat) ≠ 1000 by decide), y_JL_numberOfTrailingZeros, b_JL_numberOfTrailingZeros, 3, (some .int), lv, h, hR, hl, tg_in 573 (by decide +kernel) (by decide +kernel), tg_in 61 (by decide +kernel) (by decide +kernel), (show (y_JL_numberOfTrailingZeros : MethodName).cls ≠ "java/lang/invoke/MethodHandle" ∧ (y_JL_numberOfTrailingZeros : MethodName).cls ≠ "java/lang/invoke/VarHandle" ∧ (parseMethodDescriptor (y_JL_numberOfTrailingZeros : MethodName).desc).map (fun d => d.parameters.length) = some 1 by decide +kernel), Or.inl ⟨rfl, tg_in 572 (by decide +kernel) (by decide +kernel)⟩⟩
theorem m_JM_max {l : Launch} {own : String} {R : Room} {S : Spec} {lv x : Nat} (h : Sat l y_JM_max b_JM_max 2 (some .int) lv S) (hR : lv + 1 ≤ R.frames ∧ 8 + (2 + 11) + 36 * lv ≤ R.locals) (hl : Jvm.Cond.methodLink own x y_JM_max ∈ TG) : CalleeOK l own R (x, 0, 2, S) :=
  Or.inr ⟨(show (0 : Nat) ≠ 1000 by decide), y_JM_max, b_JM_max, 2, (some .int), lv, h, hR, hl, tg_in 348 (by decide +kernel) (by decide +kernel), tg_in 56 (by decide +kernel) (by decide +kernel), (show (y_JM_max : MethodName).cls ≠ "java/lang/invoke/MethodHandle" ∧ (y_JM_max : MethodName).cls ≠ "java/lang/invoke/VarHandle" ∧ (parseMethodDescriptor (y_JM_max : MethodName).desc).map (fun d => d.parameters.length) = some 2 by decide +kernel), Or.inl ⟨rfl, tg_in 347 (by decide +kernel) (by decide +kernel)⟩⟩
theorem m_JM_min {l : Launch} {own : String} {R : Room} {S : Spec} {lv x : Nat} (h : Sat l y_JM_min b_JM_min 2 (some .int) lv S) (hR : lv + 1 ≤ R.frames ∧ 8 + (2 + 11) + 36 * lv ≤ R.locals) (hl : Jvm.Cond.methodLink own x y_JM_min ∈ TG) : CalleeOK l own R (x, 0, 2, S) :=
  Or.inr ⟨(show (0 : Nat) ≠ 1000 by decide), y_JM_min, b_JM_min, 2, (some .int), lv, h, hR, hl, tg_in 412 (by decide +kernel) (by decide +kernel), tg_in 56 (by decide +kernel) (by decide +kernel), (show (y_JM_min : MethodName).cls ≠ "java/lang/invoke/MethodHandle" ∧ (y_JM_min : MethodName).cls ≠ "java/lang/invoke/VarHandle" ∧ (parseMethodDescriptor (y_JM_min : MethodName).desc).map (fun d => d.parameters.length) = some 2 by decide +kernel), Or.inl ⟨rfl, tg_in 411 (by decide +kernel) (by decide +kernel)⟩⟩
theorem m_JA_rangeCheck {l : Launch} {own : String} {R : Room} {S : Spec} {lv x : Nat} (h : Sat l y_JA_rangeCheck b_JA_rangeCheck 3 none lv S) (hR : lv + 1 ≤ R.frames ∧ 8 + (3 + 11) + 36 * lv ≤ R.locals) (hl : Jvm.Cond.methodLink own x y_JA_rangeCheck ∈ TG) : CalleeOK l own R (x, 0, 3, S) :=
  Or.inr ⟨(show (0 : Nat) ≠ 1000 by decide), y_JA_rangeCheck, b_JA_rangeCheck, 3, none, lv, h, hR, hl, tg_in 439 (by decide +kernel) (by decide +kernel), tg_in 57 (by decide +kernel) (by decide +kernel), (show (y_JA_rangeCheck : MethodName).cls ≠ "java/lang/invoke/MethodHandle" ∧ (y_JA_rangeCheck : MethodName).cls ≠ "java/lang/invoke/VarHandle" ∧ (parseMethodDescriptor (y_JA_rangeCheck : MethodName).desc).map (fun d => d.parameters.length) = some 3 by decide +kernel), Or.inl ⟨rfl, tg_in 438 (by decide +kernel) (by decide +kernel)⟩⟩
theorem m_JA_fillL {l : Launch} {own : String} {R : Room} {S : Spec} {lv x : Nat} (h : Sat l y_JA_fillL b_JA_fillL 6 none lv S) (hR : lv + 1 ≤ R.frames ∧ 8 + (6 + 11) + 36 * lv ≤ R.locals) (hl : Jvm.Cond.methodLink own x y_JA_fillL ∈ TG) : CalleeOK l own R (x, 0, 4, S) :=
  Or.inr ⟨(show (0 : Nat) ≠ 1000 by decide), y_JA_fillL, b_JA_fillL, 6, none, lv, h, hR, hl, tg_in 436 (by decide +kernel) (by decide +kernel), tg_in 57 (by decide +kernel) (by decide +kernel), (show (y_JA_fillL : MethodName).cls ≠ "java/lang/invoke/MethodHandle" ∧ (y_JA_fillL : MethodName).cls ≠ "java/lang/invoke/VarHandle" ∧ (parseMethodDescriptor (y_JA_fillL : MethodName).desc).map (fun d => d.parameters.length) = some 4 by decide +kernel), Or.inl ⟨rfl, tg_in 435 (by decide +kernel) (by decide +kernel)⟩⟩
theorem m_JA_fillI {l : Launch} {own : String} {R : Room} {S : Spec} {lv x : Nat} (h : Sat l y_JA_fillI b_JA_fillI 4 none lv S) (hR : lv + 1 ≤ R.frames ∧ 8 + (4 + 11) + 36 * lv ≤ R.locals) (hl : Jvm.Cond.methodLink own x y_JA_fillI ∈ TG) : CalleeOK l own R (x, 0, 2, S) :=
  Or.inr ⟨(show (0 : Nat) ≠ 1000 by decide), y_JA_fillI, b_JA_fillI, 4, none, lv, h, hR, hl, tg_in 351 (by decide +kernel) (by decide +kernel), tg_in 57 (by decide +kernel) (by decide +kernel), (show (y_JA_fillI : MethodName).cls ≠ "java/lang/invoke/MethodHandle" ∧ (y_JA_fillI : MethodName).cls ≠ "java/lang/invoke/VarHandle" ∧ (parseMethodDescriptor (y_JA_fillI : MethodName).desc).map (fun d => d.parameters.length) = some 2 by decide +kernel), Or.inl ⟨rfl, tg_in 350 (by decide +kernel) (by decide +kernel)⟩⟩
theorem l_V_13 : Jvm.Cond.methodLink R_lawV 13 y_X_runs ∈ TG := tg_in 280 (by decide +kernel) (by decide +kernel)
theorem l_X_74 : Jvm.Cond.methodLink RX8 74 y_X_isWithin ∈ TG := tg_in 284 (by decide +kernel) (by decide +kernel)
theorem l_X_78 : Jvm.Cond.methodLink RX8 78 y_B_tellRuns ∈ TG := tg_in 287 (by decide +kernel) (by decide +kernel)
theorem l_V_18 : Jvm.Cond.methodLink R_lawV 18 y_X_word ∈ TG := tg_in 291 (by decide +kernel) (by decide +kernel)
theorem l_X_82 : Jvm.Cond.methodLink RX8 82 y_X_isRow ∈ TG := tg_in 295 (by decide +kernel) (by decide +kernel)
theorem l_X_86 : Jvm.Cond.methodLink RX8 86 y_B_addWord ∈ TG := tg_in 298 (by decide +kernel) (by decide +kernel)
theorem l_V_22 : Jvm.Cond.methodLink R_lawV 22 y_X_clearWords ∈ TG := tg_in 302 (by decide +kernel) (by decide +kernel)
theorem l_X_90 : Jvm.Cond.methodLink RX8 90 y_B_dropWords ∈ TG := tg_in 306 (by decide +kernel) (by decide +kernel)
theorem l_V_27 : Jvm.Cond.methodLink R_lawV 27 y_X_lean ∈ TG := tg_in 310 (by decide +kernel) (by decide +kernel)
theorem l_X_94 : Jvm.Cond.methodLink RX8 94 y_B_tellLean ∈ TG := tg_in 314 (by decide +kernel) (by decide +kernel)
theorem l_V_32 : Jvm.Cond.methodLink R_lawV 32 y_X_ban ∈ TG := tg_in 318 (by decide +kernel) (by decide +kernel)
theorem l_X_98 : Jvm.Cond.methodLink RX8 98 y_B_told ∈ TG := tg_in 322 (by decide +kernel) (by decide +kernel)
theorem l_B_31 : Jvm.Cond.methodLink RX0 31 y_B_toldOfWord ∈ TG := tg_in 326 (by decide +kernel) (by decide +kernel)
theorem l_V_36 : Jvm.Cond.methodLink R_lawV 36 y_X_build ∈ TG := tg_in 330 (by decide +kernel) (by decide +kernel)
theorem l_X_106 : Jvm.Cond.methodLink RX8 106 y_K_make ∈ TG := tg_in 334 (by decide +kernel) (by decide +kernel)
theorem l_K_42 : Jvm.Cond.methodLink RX4 42 y_K_explore ∈ TG := tg_in 338 (by decide +kernel) (by decide +kernel)
theorem l_K_53 : Jvm.Cond.methodLink RX4 53 y_B_memory ∈ TG := tg_in 342 (by decide +kernel) (by decide +kernel)
theorem l_B_35 : Jvm.Cond.methodLink RX0 35 y_JM_max ∈ TG := tg_in 346 (by decide +kernel) (by decide +kernel)
theorem l_K_57 : Jvm.Cond.methodLink RX4 57 y_JA_fillI ∈ TG := tg_in 349 (by decide +kernel) (by decide +kernel)
theorem l_K_63 : Jvm.Cond.methodLink RX4 63 y_B_emptyKey ∈ TG := tg_in 352 (by decide +kernel) (by decide +kernel)
theorem l_K_66 : Jvm.Cond.methodLink RX4 66 y_K_placeFor ∈ TG := tg_in 356 (by decide +kernel) (by decide +kernel)
theorem l_K_70 : Jvm.Cond.methodLink RX4 70 y_B_keyAfter ∈ TG := tg_in 360 (by decide +kernel) (by decide +kernel)
theorem l_B_41 : Jvm.Cond.methodLink RX0 41 y_B_breaksRuns ∈ TG := tg_in 364 (by decide +kernel) (by decide +kernel)
theorem l_B_52 : Jvm.Cond.methodLink RX0 52 y_JI_numberOfTrailingZeros ∈ TG := tg_in 368 (by decide +kernel) (by decide +kernel)
theorem l_B_45 : Jvm.Cond.methodLink RX0 45 y_B_endsInWord ∈ TG := tg_in 372 (by decide +kernel) (by decide +kernel)
theorem l_B_49 : Jvm.Cond.methodLink RX0 49 y_B_shortened ∈ TG := tg_in 376 (by decide +kernel) (by decide +kernel)
theorem l_K_46 : Jvm.Cond.methodLink RX4 46 y_K_dropDead ∈ TG := tg_in 379 (by decide +kernel) (by decide +kernel)
theorem l_K_74 : Jvm.Cond.methodLink RX4 74 y_K_dropDeadOnce ∈ TG := tg_in 383 (by decide +kernel) (by decide +kernel)
theorem l_K_77 : Jvm.Cond.methodLink RX4 77 y_K_groupAfter ∈ TG := tg_in 387 (by decide +kernel) (by decide +kernel)
theorem l_K_49 : Jvm.Cond.methodLink RX4 49 y_K_refine ∈ TG := tg_in 391 (by decide +kernel) (by decide +kernel)
theorem l_K_81 : Jvm.Cond.methodLink RX4 81 y_K_split ∈ TG := tg_in 395 (by decide +kernel) (by decide +kernel)
theorem l_X_110 : Jvm.Cond.methodLink RX8 110 y_W_take ∈ TG := tg_in 402 (by decide +kernel) (by decide +kernel)
theorem l_W_28 : Jvm.Cond.methodLink RX7 28 y_K_made ∈ TG := tg_in 406 (by decide +kernel) (by decide +kernel)
theorem l_W_34 : Jvm.Cond.methodLink RX7 34 y_JM_min ∈ TG := tg_in 410 (by decide +kernel) (by decide +kernel)
theorem l_W_40 : Jvm.Cond.methodLink RX7 40 y_K_fill ∈ TG := tg_in 413 (by decide +kernel) (by decide +kernel)
theorem l_W_44 : Jvm.Cond.methodLink RX7 44 y_JA_fillI ∈ TG := tg_in 417 (by decide +kernel) (by decide +kernel)
theorem l_W_49 : Jvm.Cond.methodLink RX7 49 y_W_adopt ∈ TG := tg_in 418 (by decide +kernel) (by decide +kernel)
theorem l_W_53 : Jvm.Cond.methodLink RX7 53 y_W_step ∈ TG := tg_in 422 (by decide +kernel) (by decide +kernel)
theorem l_W_56 : Jvm.Cond.methodLink RX7 56 y_W_has ∈ TG := tg_in 426 (by decide +kernel) (by decide +kernel)
theorem l_X_114 : Jvm.Cond.methodLink RX8 114 y_L_setAll ∈ TG := tg_in 430 (by decide +kernel) (by decide +kernel)
theorem l_L_15 : Jvm.Cond.methodLink RX3 15 y_JA_fillL ∈ TG := tg_in 434 (by decide +kernel) (by decide +kernel)
theorem l_JA_13 : Jvm.Cond.methodLink R_JA 13 y_JA_rangeCheck ∈ TG := tg_in 437 (by decide +kernel) (by decide +kernel)
theorem l_X_118 : Jvm.Cond.methodLink RX8 118 y_L_climb ∈ TG := tg_in 440 (by decide +kernel) (by decide +kernel)
theorem l_L_21 : Jvm.Cond.methodLink RX3 21 y_W_size ∈ TG := tg_in 444 (by decide +kernel) (by decide +kernel)
theorem l_L_27 : Jvm.Cond.methodLink RX3 27 y_W_step ∈ TG := tg_in 448 (by decide +kernel) (by decide +kernel)
theorem l_L_31 : Jvm.Cond.methodLink RX3 31 y_L_at ∈ TG := tg_in 449 (by decide +kernel) (by decide +kernel)
theorem l_X_122 : Jvm.Cond.methodLink RX8 122 y_S_forget ∈ TG := tg_in 453 (by decide +kernel) (by decide +kernel)
theorem l_X_125 : Jvm.Cond.methodLink RX8 125 y_G_setAll ∈ TG := tg_in 457 (by decide +kernel) (by decide +kernel)
theorem l_G_15 : Jvm.Cond.methodLink RX6 15 y_JA_fillI ∈ TG := tg_in 461 (by decide +kernel) (by decide +kernel)
theorem l_X_127 : Jvm.Cond.methodLink RX8 127 y_C_drop ∈ TG := tg_in 462 (by decide +kernel) (by decide +kernel)
theorem l_C_42 : Jvm.Cond.methodLink RX2 42 y_JA_fillI ∈ TG := tg_in 466 (by decide +kernel) (by decide +kernel)
theorem l_C_48 : Jvm.Cond.methodLink RX2 48 y_T_keep ∈ TG := tg_in 467 (by decide +kernel) (by decide +kernel)
theorem l_T_19 : Jvm.Cond.methodLink RX1 19 y_JM_min ∈ TG := tg_in 471 (by decide +kernel) (by decide +kernel)
theorem l_T_25 : Jvm.Cond.methodLink RX1 25 y_JM_max ∈ TG := tg_in 472 (by decide +kernel) (by decide +kernel)
theorem l_X_130 : Jvm.Cond.methodLink RX8 130 y_W_size ∈ TG := tg_in 473 (by decide +kernel) (by decide +kernel)
theorem l_V_40 : Jvm.Cond.methodLink R_lawV 40 y_X_states ∈ TG := tg_in 474 (by decide +kernel) (by decide +kernel)
theorem l_V_44 : Jvm.Cond.methodLink R_lawV 44 y_X_go ∈ TG := tg_in 478 (by decide +kernel) (by decide +kernel)
theorem l_X_133 : Jvm.Cond.methodLink RX8 133 y_W_has ∈ TG := tg_in 482 (by decide +kernel) (by decide +kernel)
theorem l_X_137 : Jvm.Cond.methodLink RX8 137 y_W_step ∈ TG := tg_in 483 (by decide +kernel) (by decide +kernel)
theorem l_V_50 : Jvm.Cond.methodLink R_lawV 50 y_X_walk ∈ TG := tg_in 484 (by decide +kernel) (by decide +kernel)
theorem l_X_140 : Jvm.Cond.methodLink RX8 140 y_W_follow ∈ TG := tg_in 488 (by decide +kernel) (by decide +kernel)
theorem l_V_55 : Jvm.Cond.methodLink R_lawV 55 y_X_first ∈ TG := tg_in 492 (by decide +kernel) (by decide +kernel)
theorem l_X_146 : Jvm.Cond.methodLink RX8 146 y_W_depthOf ∈ TG := tg_in 497 (by decide +kernel) (by decide +kernel)
theorem l_X_149 : Jvm.Cond.methodLink RX8 149 y_W_shortestRow ∈ TG := tg_in 501 (by decide +kernel) (by decide +kernel)
theorem l_W_60 : Jvm.Cond.methodLink RX7 60 y_W_depthOf ∈ TG := tg_in 505 (by decide +kernel) (by decide +kernel)
theorem l_W_66 : Jvm.Cond.methodLink RX7 66 y_W_lastBitOf ∈ TG := tg_in 507 (by decide +kernel) (by decide +kernel)
theorem l_W_69 : Jvm.Cond.methodLink RX7 69 y_W_parentOf ∈ TG := tg_in 511 (by decide +kernel) (by decide +kernel)
theorem l_V_60 : Jvm.Cond.methodLink R_lawV 60 y_X_count ∈ TG := tg_in 515 (by decide +kernel) (by decide +kernel)
theorem l_X_153 : Jvm.Cond.methodLink RX8 153 y_L_at ∈ TG := tg_in 519 (by decide +kernel) (by decide +kernel)
theorem l_V_64 : Jvm.Cond.methodLink R_lawV 64 y_X_number ∈ TG := tg_in 520 (by decide +kernel) (by decide +kernel)
theorem l_X_157 : Jvm.Cond.methodLink RX8 157 y_L_rank ∈ TG := tg_in 524 (by decide +kernel) (by decide +kernel)
theorem l_V_69 : Jvm.Cond.methodLink R_lawV 69 y_X_row ∈ TG := tg_in 529 (by decide +kernel) (by decide +kernel)
theorem l_X_161 : Jvm.Cond.methodLink RX8 161 y_L_pick ∈ TG := tg_in 533 (by decide +kernel) (by decide +kernel)
theorem l_V_73 : Jvm.Cond.methodLink R_lawV 73 y_X_ways ∈ TG := tg_in 538 (by decide +kernel) (by decide +kernel)
theorem l_X_164 : Jvm.Cond.methodLink RX8 164 y_L_set ∈ TG := tg_in 542 (by decide +kernel) (by decide +kernel)
theorem l_V_78 : Jvm.Cond.methodLink R_lawV 78 y_X_mark ∈ TG := tg_in 546 (by decide +kernel) (by decide +kernel)
theorem l_X_168 : Jvm.Cond.methodLink RX8 168 y_S_find ∈ TG := tg_in 550 (by decide +kernel) (by decide +kernel)
theorem l_S_31 : Jvm.Cond.methodLink RX5 31 y_S_startAnywhere ∈ TG := tg_in 554 (by decide +kernel) (by decide +kernel)
theorem l_S_39 : Jvm.Cond.methodLink RX5 39 y_W_size ∈ TG := tg_in 558 (by decide +kernel) (by decide +kernel)
theorem l_S_45 : Jvm.Cond.methodLink RX5 45 y_S_addEnd ∈ TG := tg_in 559 (by decide +kernel) (by decide +kernel)
theorem l_S_35 : Jvm.Cond.methodLink RX5 35 y_S_searchLength ∈ TG := tg_in 563 (by decide +kernel) (by decide +kernel)
theorem l_S_49 : Jvm.Cond.methodLink RX5 49 y_S_goOn ∈ TG := tg_in 567 (by decide +kernel) (by decide +kernel)
theorem l_S_53 : Jvm.Cond.methodLink RX5 53 y_JL_numberOfTrailingZeros ∈ TG := tg_in 571 (by decide +kernel) (by decide +kernel)
theorem l_JL_311 : Jvm.Cond.methodLink R_JL 311 y_JI_numberOfTrailingZeros ∈ TG := tg_in 574 (by decide +kernel) (by decide +kernel)
theorem l_S_59 : Jvm.Cond.methodLink RX5 59 y_W_step ∈ TG := tg_in 575 (by decide +kernel) (by decide +kernel)
theorem l_V_82 : Jvm.Cond.methodLink R_lawV 82 y_X_marked ∈ TG := tg_in 576 (by decide +kernel) (by decide +kernel)
theorem l_X_172 : Jvm.Cond.methodLink RX8 172 y_S_lastFound ∈ TG := tg_in 580 (by decide +kernel) (by decide +kernel)
theorem l_V_86 : Jvm.Cond.methodLink R_lawV 86 y_X_weigh ∈ TG := tg_in 584 (by decide +kernel) (by decide +kernel)
theorem l_X_176 : Jvm.Cond.methodLink RX8 176 y_G_of ∈ TG := tg_in 589 (by decide +kernel) (by decide +kernel)
theorem l_X_179 : Jvm.Cond.methodLink RX8 179 y_G_set ∈ TG := tg_in 593 (by decide +kernel) (by decide +kernel)
theorem l_V_90 : Jvm.Cond.methodLink R_lawV 90 y_X_weight ∈ TG := tg_in 597 (by decide +kernel) (by decide +kernel)
theorem l_V_94 : Jvm.Cond.methodLink R_lawV 94 y_X_judge ∈ TG := tg_in 601 (by decide +kernel) (by decide +kernel)
theorem l_X_181 : Jvm.Cond.methodLink RX8 181 y_X_isShowable ∈ TG := tg_in 605 (by decide +kernel) (by decide +kernel)
theorem l_X_185 : Jvm.Cond.methodLink RX8 185 y_G_firstTooGreat ∈ TG := tg_in 608 (by decide +kernel) (by decide +kernel)
theorem l_G_31 : Jvm.Cond.methodLink RX6 31 y_G_sum ∈ TG := tg_in 612 (by decide +kernel) (by decide +kernel)
theorem l_G_34 : Jvm.Cond.methodLink RX6 34 y_G_weighEnds ∈ TG := tg_in 616 (by decide +kernel) (by decide +kernel)
theorem l_G_21 : Jvm.Cond.methodLink RX6 21 y_W_size ∈ TG := tg_in 620 (by decide +kernel) (by decide +kernel)
theorem l_G_44 : Jvm.Cond.methodLink RX6 44 y_G_of ∈ TG := tg_in 621 (by decide +kernel) (by decide +kernel)
theorem l_G_52 : Jvm.Cond.methodLink RX6 52 y_L_set ∈ TG := tg_in 622 (by decide +kernel) (by decide +kernel)
theorem l_G_55 : Jvm.Cond.methodLink RX6 55 y_L_climb ∈ TG := tg_in 623 (by decide +kernel) (by decide +kernel)
theorem l_G_38 : Jvm.Cond.methodLink RX6 38 y_L_at ∈ TG := tg_in 624 (by decide +kernel) (by decide +kernel)
theorem l_V_98 : Jvm.Cond.methodLink R_lawV 98 y_X_best ∈ TG := tg_in 625 (by decide +kernel) (by decide +kernel)
theorem l_X_189 : Jvm.Cond.methodLink RX8 189 y_G_raise ∈ TG := tg_in 629 (by decide +kernel) (by decide +kernel)
theorem l_G_27 : Jvm.Cond.methodLink RX6 27 y_G_set ∈ TG := tg_in 633 (by decide +kernel) (by decide +kernel)
theorem l_X_192 : Jvm.Cond.methodLink RX8 192 y_G_settle ∈ TG := tg_in 634 (by decide +kernel) (by decide +kernel)
theorem l_G_48 : Jvm.Cond.methodLink RX6 48 y_G_lower ∈ TG := tg_in 638 (by decide +kernel) (by decide +kernel)
theorem l_X_196 : Jvm.Cond.methodLink RX8 196 y_G_sum ∈ TG := tg_in 642 (by decide +kernel) (by decide +kernel)
theorem l_V_102 : Jvm.Cond.methodLink R_lawV 102 y_X_code ∈ TG := tg_in 643 (by decide +kernel) (by decide +kernel)
theorem l_X_199 : Jvm.Cond.methodLink RX8 199 y_C_find ∈ TG := tg_in 647 (by decide +kernel) (by decide +kernel)
theorem l_C_52 : Jvm.Cond.methodLink RX2 52 y_C_drop ∈ TG := tg_in 651 (by decide +kernel) (by decide +kernel)
theorem l_C_55 : Jvm.Cond.methodLink RX2 55 y_W_size ∈ TG := tg_in 652 (by decide +kernel) (by decide +kernel)
theorem l_C_60 : Jvm.Cond.methodLink RX2 60 y_C_dropPoor ∈ TG := tg_in 653 (by decide +kernel) (by decide +kernel)
theorem l_C_68 : Jvm.Cond.methodLink RX2 68 y_L_set ∈ TG := tg_in 657 (by decide +kernel) (by decide +kernel)
theorem l_C_72 : Jvm.Cond.methodLink RX2 72 y_L_climb ∈ TG := tg_in 658 (by decide +kernel) (by decide +kernel)
theorem l_C_76 : Jvm.Cond.methodLink RX2 76 y_L_at ∈ TG := tg_in 659 (by decide +kernel) (by decide +kernel)
theorem l_C_64 : Jvm.Cond.methodLink RX2 64 y_C_enroll ∈ TG := tg_in 660 (by decide +kernel) (by decide +kernel)
theorem l_C_80 : Jvm.Cond.methodLink RX2 80 y_T_setPath ∈ TG := tg_in 664 (by decide +kernel) (by decide +kernel)
theorem l_T_38 : Jvm.Cond.methodLink RX1 38 y_W_depthOf ∈ TG := tg_in 668 (by decide +kernel) (by decide +kernel)
theorem l_T_43 : Jvm.Cond.methodLink RX1 43 y_W_lastBitOf ∈ TG := tg_in 669 (by decide +kernel) (by decide +kernel)
theorem l_T_46 : Jvm.Cond.methodLink RX1 46 y_W_parentOf ∈ TG := tg_in 670 (by decide +kernel) (by decide +kernel)
theorem l_X_202 : Jvm.Cond.methodLink RX8 202 y_C_size ∈ TG := tg_in 671 (by decide +kernel) (by decide +kernel)
theorem l_V_106 : Jvm.Cond.methodLink R_lawV 106 y_X_member ∈ TG := tg_in 675 (by decide +kernel) (by decide +kernel)
theorem l_X_203 : Jvm.Cond.methodLink RX8 203 y_C_exists ∈ TG := tg_in 679 (by decide +kernel) (by decide +kernel)
theorem l_X_207 : Jvm.Cond.methodLink RX8 207 y_C_holds ∈ TG := tg_in 683 (by decide +kernel) (by decide +kernel)
theorem l_V_110 : Jvm.Cond.methodLink R_lawV 110 y_X_wordOf ∈ TG := tg_in 687 (by decide +kernel) (by decide +kernel)
theorem l_X_210 : Jvm.Cond.methodLink RX8 210 y_C_pieceLength ∈ TG := tg_in 691 (by decide +kernel) (by decide +kernel)
theorem l_X_213 : Jvm.Cond.methodLink RX8 213 y_C_wordFor ∈ TG := tg_in 695 (by decide +kernel) (by decide +kernel)
theorem l_C_83 : Jvm.Cond.methodLink RX2 83 y_L_pick ∈ TG := tg_in 699 (by decide +kernel) (by decide +kernel)
theorem l_V_114 : Jvm.Cond.methodLink R_lawV 114 y_X_read ∈ TG := tg_in 700 (by decide +kernel) (by decide +kernel)
theorem l_X_217 : Jvm.Cond.methodLink RX8 217 y_C_wordLength ∈ TG := tg_in 704 (by decide +kernel) (by decide +kernel)
theorem l_X_220 : Jvm.Cond.methodLink RX8 220 y_C_pieceFor ∈ TG := tg_in 708 (by decide +kernel) (by decide +kernel)
theorem l_C_87 : Jvm.Cond.methodLink RX2 87 y_L_rank ∈ TG := tg_in 712 (by decide +kernel) (by decide +kernel)
theorem l_V_118 : Jvm.Cond.methodLink R_lawV 118 y_X_say ∈ TG := tg_in 713 (by decide +kernel) (by decide +kernel)
theorem l_X_223 : Jvm.Cond.methodLink RX8 223 y_X_append ∈ TG := tg_in 717 (by decide +kernel) (by decide +kernel)
theorem l_X_240 : Jvm.Cond.methodLink RX8 240 y_T_size ∈ TG := tg_in 720 (by decide +kernel) (by decide +kernel)
theorem l_X_281 : Jvm.Cond.methodLink RX8 281 y_T_add ∈ TG := tg_in 724 (by decide +kernel) (by decide +kernel)
theorem l_V_123 : Jvm.Cond.methodLink R_lawV 123 y_X_hush ∈ TG := tg_in 728 (by decide +kernel) (by decide +kernel)
theorem l_X_227 : Jvm.Cond.methodLink RX8 227 y_T_keep ∈ TG := tg_in 732 (by decide +kernel) (by decide +kernel)
theorem l_V_127 : Jvm.Cond.methodLink R_lawV 127 y_X_message ∈ TG := tg_in 733 (by decide +kernel) (by decide +kernel)
theorem l_X_230 : Jvm.Cond.methodLink RX8 230 y_T_at ∈ TG := tg_in 737 (by decide +kernel) (by decide +kernel)
theorem l_V_131 : Jvm.Cond.methodLink R_lawV 131 y_X_write ∈ TG := tg_in 741 (by decide +kernel) (by decide +kernel)
theorem l_X_232 : Jvm.Cond.methodLink RX8 232 y_C_lengthWritten ∈ TG := tg_in 745 (by decide +kernel) (by decide +kernel)
theorem l_C_90 : Jvm.Cond.methodLink RX2 90 y_T_size ∈ TG := tg_in 749 (by decide +kernel) (by decide +kernel)
theorem l_C_91 : Jvm.Cond.methodLink RX2 91 y_C_pieces ∈ TG := tg_in 750 (by decide +kernel) (by decide +kernel)
theorem l_X_236 : Jvm.Cond.methodLink RX8 236 y_C_encode ∈ TG := tg_in 754 (by decide +kernel) (by decide +kernel)
theorem l_C_95 : Jvm.Cond.methodLink RX2 95 y_T_copy ∈ TG := tg_in 758 (by decide +kernel) (by decide +kernel)
theorem l_C_99 : Jvm.Cond.methodLink RX2 99 y_T_part ∈ TG := tg_in 763 (by decide +kernel) (by decide +kernel)
theorem l_T_28 : Jvm.Cond.methodLink RX1 28 y_T_at ∈ TG := tg_in 767 (by decide +kernel) (by decide +kernel)
theorem l_C_103 : Jvm.Cond.methodLink RX2 103 y_C_wordFor ∈ TG := tg_in 768 (by decide +kernel) (by decide +kernel)
theorem l_C_107 : Jvm.Cond.methodLink RX2 107 y_T_add ∈ TG := tg_in 769 (by decide +kernel) (by decide +kernel)
theorem l_C_111 : Jvm.Cond.methodLink RX2 111 y_W_follow ∈ TG := tg_in 770 (by decide +kernel) (by decide +kernel)
theorem l_V_135 : Jvm.Cond.methodLink R_lawV 135 y_X_tell ∈ TG := tg_in 771 (by decide +kernel) (by decide +kernel)
theorem l_X_241 : Jvm.Cond.methodLink RX8 241 y_C_decode ∈ TG := tg_in 775 (by decide +kernel) (by decide +kernel)
theorem l_C_115 : Jvm.Cond.methodLink RX2 115 y_T_firstUnlike ∈ TG := tg_in 779 (by decide +kernel) (by decide +kernel)
theorem l_C_118 : Jvm.Cond.methodLink RX2 118 y_C_pieceFor ∈ TG := tg_in 783 (by decide +kernel) (by decide +kernel)
theorem l_X_245 : Jvm.Cond.methodLink RX8 245 y_T_copy ∈ TG := tg_in 784 (by decide +kernel) (by decide +kernel)
theorem l_V_139 : Jvm.Cond.methodLink R_lawV 139 y_X_put ∈ TG := tg_in 785 (by decide +kernel) (by decide +kernel)
theorem l_V_143 : Jvm.Cond.methodLink R_lawV 143 y_X_cut ∈ TG := tg_in 789 (by decide +kernel) (by decide +kernel)
theorem l_V_147 : Jvm.Cond.methodLink R_lawV 147 y_X_spoil ∈ TG := tg_in 793 (by decide +kernel) (by decide +kernel)
theorem l_X_249 : Jvm.Cond.methodLink RX8 249 y_T_flip ∈ TG := tg_in 797 (by decide +kernel) (by decide +kernel)
theorem l_V_151 : Jvm.Cond.methodLink R_lawV 151 y_X_plate ∈ TG := tg_in 801 (by decide +kernel) (by decide +kernel)
theorem l_V_155 : Jvm.Cond.methodLink R_lawV 155 y_X_check ∈ TG := tg_in 805 (by decide +kernel) (by decide +kernel)
theorem l_V_159 : Jvm.Cond.methodLink R_lawV 159 y_X_shape ∈ TG := tg_in 809 (by decide +kernel) (by decide +kernel)
theorem l_X_252 : Jvm.Cond.methodLink RX8 252 y_T_leastLean ∈ TG := tg_in 813 (by decide +kernel) (by decide +kernel)
theorem l_X_255 : Jvm.Cond.methodLink RX8 255 y_T_greatestLean ∈ TG := tg_in 817 (by decide +kernel) (by decide +kernel)
theorem l_X_258 : Jvm.Cond.methodLink RX8 258 y_T_leanSquares ∈ TG := tg_in 821 (by decide +kernel) (by decide +kernel)
theorem l_X_261 : Jvm.Cond.methodLink RX8 261 y_T_longestRun ∈ TG := tg_in 825 (by decide +kernel) (by decide +kernel)
theorem l_X_264 : Jvm.Cond.methodLink RX8 264 y_T_turns ∈ TG := tg_in 829 (by decide +kernel) (by decide +kernel)
theorem l_V_163 : Jvm.Cond.methodLink R_lawV 163 y_X_count1 ∈ TG := tg_in 833 (by decide +kernel) (by decide +kernel)
theorem l_X_267 : Jvm.Cond.methodLink RX8 267 y_C_home ∈ TG := tg_in 837 (by decide +kernel) (by decide +kernel)
theorem l_V_166 : Jvm.Cond.methodLink R_lawV 166 y_X_digest ∈ TG := tg_in 841 (by decide +kernel) (by decide +kernel)
theorem l_X_274 : Jvm.Cond.methodLink RX8 274 y_X_count1 ∈ TG := tg_in 847 (by decide +kernel) (by decide +kernel)
theorem l_X_277 : Jvm.Cond.methodLink RX8 277 y_T_digestBehind ∈ TG := tg_in 848 (by decide +kernel) (by decide +kernel)
theorem l_V_17 : Jvm.Cond.methodLink R_lawV 17 y_M_runs ∈ TG := tg_in 987 (by decide +kernel) (by decide +kernel)
theorem l_M_108 : Jvm.Cond.methodLink RX9 108 y_M_in ∈ TG := tg_in 992 (by decide +kernel) (by decide +kernel)
theorem l_V_21 : Jvm.Cond.methodLink R_lawV 21 y_M_word ∈ TG := tg_in 995 (by decide +kernel) (by decide +kernel)
theorem l_V_26 : Jvm.Cond.methodLink R_lawV 26 y_M_clearWords ∈ TG := tg_in 1000 (by decide +kernel) (by decide +kernel)
theorem l_V_31 : Jvm.Cond.methodLink R_lawV 31 y_M_lean ∈ TG := tg_in 1004 (by decide +kernel) (by decide +kernel)
theorem l_V_35 : Jvm.Cond.methodLink R_lawV 35 y_M_ban ∈ TG := tg_in 1010 (by decide +kernel) (by decide +kernel)
theorem l_V_39 : Jvm.Cond.methodLink R_lawV 39 y_M_build ∈ TG := tg_in 1016 (by decide +kernel) (by decide +kernel)
theorem l_M_166 : Jvm.Cond.methodLink RX9 166 y_M_findRaws ∈ TG := tg_in 1020 (by decide +kernel) (by decide +kernel)
theorem l_M_136 : Jvm.Cond.methodLink RX9 136 y_M_codeOf ∈ TG := tg_in 1024 (by decide +kernel) (by decide +kernel)
theorem l_M_143 : Jvm.Cond.methodLink RX9 143 y_M_rawOf ∈ TG := tg_in 1027 (by decide +kernel) (by decide +kernel)
theorem l_M_147 : Jvm.Cond.methodLink RX9 147 y_M_behind ∈ TG := tg_in 1031 (by decide +kernel) (by decide +kernel)
theorem l_M_128 : Jvm.Cond.methodLink RX9 128 y_M_endsBanned ∈ TG := tg_in 1035 (by decide +kernel) (by decide +kernel)
theorem l_M_132 : Jvm.Cond.methodLink RX9 132 y_M_longest ∈ TG := tg_in 1039 (by decide +kernel) (by decide +kernel)
theorem l_M_169 : Jvm.Cond.methodLink RX9 169 y_M_prune ∈ TG := tg_in 1043 (by decide +kernel) (by decide +kernel)
theorem l_M_151 : Jvm.Cond.methodLink RX9 151 y_M_isAliveAt ∈ TG := tg_in 1047 (by decide +kernel) (by decide +kernel)
theorem l_M_172 : Jvm.Cond.methodLink RX9 172 y_M_refine ∈ TG := tg_in 1051 (by decide +kernel) (by decide +kernel)
theorem l_M_157 : Jvm.Cond.methodLink RX9 157 y_M_signOf ∈ TG := tg_in 1055 (by decide +kernel) (by decide +kernel)
theorem l_M_154 : Jvm.Cond.methodLink RX9 154 y_M_classAt ∈ TG := tg_in 1059 (by decide +kernel) (by decide +kernel)
theorem l_M_175 : Jvm.Cond.methodLink RX9 175 y_M_stateOf ∈ TG := tg_in 1063 (by decide +kernel) (by decide +kernel)
theorem l_V_43 : Jvm.Cond.methodLink R_lawV 43 y_M_states ∈ TG := tg_in 1067 (by decide +kernel) (by decide +kernel)
theorem l_V_47 : Jvm.Cond.methodLink R_lawV 47 y_M_go ∈ TG := tg_in 1071 (by decide +kernel) (by decide +kernel)
theorem l_M_185 : Jvm.Cond.methodLink RX9 185 y_M_isState ∈ TG := tg_in 1075 (by decide +kernel) (by decide +kernel)
theorem l_M_188 : Jvm.Cond.methodLink RX9 188 y_M_goes ∈ TG := tg_in 1079 (by decide +kernel) (by decide +kernel)
theorem l_V_54 : Jvm.Cond.methodLink R_lawV 54 y_M_walk ∈ TG := tg_in 1083 (by decide +kernel) (by decide +kernel)
theorem l_M_193 : Jvm.Cond.methodLink RX9 193 y_M_isRow ∈ TG := tg_in 1087 (by decide +kernel) (by decide +kernel)
theorem l_M_197 : Jvm.Cond.methodLink RX9 197 y_M_walks ∈ TG := tg_in 1091 (by decide +kernel) (by decide +kernel)
theorem l_V_59 : Jvm.Cond.methodLink R_lawV 59 y_M_first ∈ TG := tg_in 1095 (by decide +kernel) (by decide +kernel)
theorem l_V_63 : Jvm.Cond.methodLink R_lawV 63 y_M_count ∈ TG := tg_in 1100 (by decide +kernel) (by decide +kernel)
theorem l_M_203 : Jvm.Cond.methodLink RX9 203 y_M_tellMany ∈ TG := tg_in 1104 (by decide +kernel) (by decide +kernel)
theorem l_V_68 : Jvm.Cond.methodLink R_lawV 68 y_M_number ∈ TG := tg_in 1108 (by decide +kernel) (by decide +kernel)
theorem l_V_72 : Jvm.Cond.methodLink R_lawV 72 y_M_row ∈ TG := tg_in 1112 (by decide +kernel) (by decide +kernel)
theorem l_V_77 : Jvm.Cond.methodLink R_lawV 77 y_M_ways ∈ TG := tg_in 1117 (by decide +kernel) (by decide +kernel)
theorem l_M_211 : Jvm.Cond.methodLink RX9 211 y_M_reachFrom ∈ TG := tg_in 1122 (by decide +kernel) (by decide +kernel)
theorem l_V_81 : Jvm.Cond.methodLink R_lawV 81 y_M_mark ∈ TG := tg_in 1126 (by decide +kernel) (by decide +kernel)
theorem l_M_215 : Jvm.Cond.methodLink RX9 215 y_M_comes ∈ TG := tg_in 1130 (by decide +kernel) (by decide +kernel)
theorem l_V_85 : Jvm.Cond.methodLink R_lawV 85 y_M_marked ∈ TG := tg_in 1134 (by decide +kernel) (by decide +kernel)
theorem l_V_89 : Jvm.Cond.methodLink R_lawV 89 y_M_weigh ∈ TG := tg_in 1138 (by decide +kernel) (by decide +kernel)
theorem l_V_93 : Jvm.Cond.methodLink R_lawV 93 y_M_weight ∈ TG := tg_in 1143 (by decide +kernel) (by decide +kernel)
theorem l_V_97 : Jvm.Cond.methodLink R_lawV 97 y_M_judge ∈ TG := tg_in 1147 (by decide +kernel) (by decide +kernel)
theorem l_M_221 : Jvm.Cond.methodLink RX9 221 y_M_allWeights ∈ TG := tg_in 1151 (by decide +kernel) (by decide +kernel)
theorem l_M_224 : Jvm.Cond.methodLink RX9 224 y_M_weighed ∈ TG := tg_in 1155 (by decide +kernel) (by decide +kernel)
theorem l_V_101 : Jvm.Cond.methodLink R_lawV 101 y_M_best ∈ TG := tg_in 1159 (by decide +kernel) (by decide +kernel)
theorem l_V_105 : Jvm.Cond.methodLink R_lawV 105 y_M_code ∈ TG := tg_in 1164 (by decide +kernel) (by decide +kernel)
theorem l_M_238 : Jvm.Cond.methodLink RX9 238 y_M_leading ∈ TG := tg_in 1169 (by decide +kernel) (by decide +kernel)
theorem l_V_109 : Jvm.Cond.methodLink R_lawV 109 y_M_member ∈ TG := tg_in 1173 (by decide +kernel) (by decide +kernel)
theorem l_V_113 : Jvm.Cond.methodLink R_lawV 113 y_M_wordOf ∈ TG := tg_in 1177 (by decide +kernel) (by decide +kernel)
theorem l_M_244 : Jvm.Cond.methodLink RX9 244 y_M_wordAt ∈ TG := tg_in 1181 (by decide +kernel) (by decide +kernel)
theorem l_M_241 : Jvm.Cond.methodLink RX9 241 y_M_isMemberAt ∈ TG := tg_in 1185 (by decide +kernel) (by decide +kernel)
theorem l_V_117 : Jvm.Cond.methodLink R_lawV 117 y_M_read ∈ TG := tg_in 1189 (by decide +kernel) (by decide +kernel)
theorem l_M_247 : Jvm.Cond.methodLink RX9 247 y_M_readAt ∈ TG := tg_in 1193 (by decide +kernel) (by decide +kernel)
theorem l_V_122 : Jvm.Cond.methodLink R_lawV 122 y_M_say ∈ TG := tg_in 1197 (by decide +kernel) (by decide +kernel)
theorem l_V_126 : Jvm.Cond.methodLink R_lawV 126 y_M_hush ∈ TG := tg_in 1201 (by decide +kernel) (by decide +kernel)
theorem l_V_130 : Jvm.Cond.methodLink R_lawV 130 y_M_message ∈ TG := tg_in 1205 (by decide +kernel) (by decide +kernel)
theorem l_V_134 : Jvm.Cond.methodLink R_lawV 134 y_M_write ∈ TG := tg_in 1209 (by decide +kernel) (by decide +kernel)
theorem l_M_256 : Jvm.Cond.methodLink RX9 256 y_M_tellLead ∈ TG := tg_in 1213 (by decide +kernel) (by decide +kernel)
theorem l_M_253 : Jvm.Cond.methodLink RX9 253 y_M_home ∈ TG := tg_in 1217 (by decide +kernel) (by decide +kernel)
theorem l_V_138 : Jvm.Cond.methodLink R_lawV 138 y_M_tell ∈ TG := tg_in 1221 (by decide +kernel) (by decide +kernel)
theorem l_V_142 : Jvm.Cond.methodLink R_lawV 142 y_M_put ∈ TG := tg_in 1225 (by decide +kernel) (by decide +kernel)
theorem l_V_146 : Jvm.Cond.methodLink R_lawV 146 y_M_cut ∈ TG := tg_in 1229 (by decide +kernel) (by decide +kernel)
theorem l_V_150 : Jvm.Cond.methodLink R_lawV 150 y_M_spoil ∈ TG := tg_in 1233 (by decide +kernel) (by decide +kernel)
theorem l_V_154 : Jvm.Cond.methodLink R_lawV 154 y_M_plate ∈ TG := tg_in 1237 (by decide +kernel) (by decide +kernel)
theorem l_V_158 : Jvm.Cond.methodLink R_lawV 158 y_M_check ∈ TG := tg_in 1241 (by decide +kernel) (by decide +kernel)
theorem l_V_162 : Jvm.Cond.methodLink R_lawV 162 y_M_shape ∈ TG := tg_in 1245 (by decide +kernel) (by decide +kernel)
theorem l_V_165 : Jvm.Cond.methodLink R_lawV 165 y_M_count1 ∈ TG := tg_in 1250 (by decide +kernel) (by decide +kernel)
theorem l_V_170 : Jvm.Cond.methodLink R_lawV 170 y_M_digest ∈ TG := tg_in 1254 (by decide +kernel) (by decide +kernel)
theorem l_M_268 : Jvm.Cond.methodLink RX9 268 y_M_count1 ∈ TG := tg_in 1260 (by decide +kernel) (by decide +kernel)
theorem l_K_85 : Jvm.Cond.methodLink RX4 85 arraycopyName ∈ TG := tg_in 399 (by decide +kernel) (by decide +kernel)
theorem l_T_32 : Jvm.Cond.methodLink RX1 32 arraycopyName ∈ TG := tg_in 762 (by decide +kernel) (by decide +kernel)
end
section
/-! the small machine's steps as equations, for simp -/
section EQS
variable {sc : Prop} {Φ : List (Nat × Nat × Nat)} {κ : List (Nat × Int)} {Γ : List (Nat × Nat × Nat × Spec)} {rt : Nat} {Q : Option AV → St → Prop} {J : Nat → List AV → List AV → St → Prop} {pc i : Nat} {k : Fin 4} {b : Fin 2} {r : List Instr} {L st : List AV} {σ : St} {x y z off : Int} {u v w u2 : AV} {j q d : Nat}
theorem wp_iload : wpB sc Φ κ Γ rt Q J pc (.iload i :: r) L st σ = (ldI L i fun z => wpB sc Φ κ Γ rt Q J (pc + 2) r L (.inl z :: st) σ) := (rfl)
theorem wp_iload_n : wpB sc Φ κ Γ rt Q J pc (.iload_n k :: r) L st σ = (ldI L k.val fun z => wpB sc Φ κ Γ rt Q J (pc + 1) r L (.inl z :: st) σ) := (rfl)
theorem wp_lload : wpB sc Φ κ Γ rt Q J pc (.lload i :: r) L st σ = (ldL L i fun z => wpB sc Φ κ Γ rt Q J (pc + 2) r L (.inr (.inl z) :: st) σ) := (rfl)
theorem wp_lload_n : wpB sc Φ κ Γ rt Q J pc (.lload_n k :: r) L st σ = (ldL L k.val fun z => wpB sc Φ κ Γ rt Q J (pc + 1) r L (.inr (.inl z) :: st) σ) := (rfl)
theorem wp_aload : wpB sc Φ κ Γ rt Q J pc (.aload i :: r) L st σ = (ldR L i fun z => wpB sc Φ κ Γ rt Q J (pc + 2) r L (.inr (.inr (some z)) :: st) σ) := (rfl)
theorem wp_aload_n : wpB sc Φ κ Γ rt Q J pc (.aload_n k :: r) L st σ = (ldR L k.val fun z => wpB sc Φ κ Γ rt Q J (pc + 1) r L (.inr (.inr (some z)) :: st) σ) := (rfl)
theorem wp_istore : wpB sc Φ κ Γ rt Q J pc (.istore i :: r) L (.inl z :: st) σ = (i < L.length ∧ wpB sc Φ κ Γ rt Q J (pc + 2) r (sto1 L i (.inl z)) st σ) := (rfl)
theorem wp_istore_n : wpB sc Φ κ Γ rt Q J pc (.istore_n k :: r) L (.inl z :: st) σ = (k.val < L.length ∧ wpB sc Φ κ Γ rt Q J (pc + 1) r (sto1 L k.val (.inl z)) st σ) := (rfl)
theorem wp_lstore : wpB sc Φ κ Γ rt Q J pc (.lstore i :: r) L (.inr (.inl z) :: st) σ = (i + 1 < L.length ∧ wpB sc Φ κ Γ rt Q J (pc + 2) r (sto2 L i (.inr (.inl z))) st σ) := (rfl)
theorem wp_lstore_n : wpB sc Φ κ Γ rt Q J pc (.lstore_n k :: r) L (.inr (.inl z) :: st) σ = (k.val + 1 < L.length ∧ wpB sc Φ κ Γ rt Q J (pc + 1) r (sto2 L k.val (.inr (.inl z))) st σ) := (rfl)
theorem wp_astore : wpB sc Φ κ Γ rt Q J pc (.astore i :: r) L (.inr (.inr (some j)) :: st) σ = (i < L.length ∧ wpB sc Φ κ Γ rt Q J (pc + 2) r (sto1 L i (.inr (.inr (some j)))) st σ) := (rfl)
theorem wp_astore_n : wpB sc Φ κ Γ rt Q J pc (.astore_n k :: r) L (.inr (.inr (some j)) :: st) σ = (k.val < L.length ∧ wpB sc Φ κ Γ rt Q J (pc + 1) r (sto1 L k.val (.inr (.inr (some j)))) st σ) := (rfl)
theorem wp_iload_n0 : wpB sc Φ κ Γ rt Q J pc (.iload_n 0 :: r) ((.inl z) :: L) st σ = wpB sc Φ κ Γ rt Q J (pc + 1) r ((.inl z) :: L) (.inl z :: st) σ := (rfl)
theorem wp_lload_n0 : wpB sc Φ κ Γ rt Q J pc (.lload_n 0 :: r) ((.inr (.inl z)) :: L) st σ = wpB sc Φ κ Γ rt Q J (pc + 1) r ((.inr (.inl z)) :: L) (.inr (.inl z) :: st) σ := (rfl)
theorem wp_aload_n0 : wpB sc Φ κ Γ rt Q J pc (.aload_n 0 :: r) ((.inr (.inr (some j))) :: L) st σ = wpB sc Φ κ Γ rt Q J (pc + 1) r ((.inr (.inr (some j))) :: L) (.inr (.inr (some j)) :: st) σ := (rfl)
theorem wp_istore_n0 : wpB sc Φ κ Γ rt Q J pc (.istore_n 0 :: r) L (.inl z :: st) σ = (0 < L.length ∧ wpB sc Φ κ Γ rt Q J (pc + 1) r (sto1 L 0 (.inl z)) st σ) := (rfl)
theorem wp_lstore_n0 : wpB sc Φ κ Γ rt Q J pc (.lstore_n 0 :: r) L (.inr (.inl z) :: st) σ = (0 + 1 < L.length ∧ wpB sc Φ κ Γ rt Q J (pc + 1) r (sto2 L 0 (.inr (.inl z))) st σ) := (rfl)
theorem wp_astore_n0 : wpB sc Φ κ Γ rt Q J pc (.astore_n 0 :: r) L (.inr (.inr (some j)) :: st) σ = (0 < L.length ∧ wpB sc Φ κ Γ rt Q J (pc + 1) r (sto1 L 0 (.inr (.inr (some j)))) st σ) := (rfl)
theorem wp_iload_n1 : wpB sc Φ κ Γ rt Q J pc (.iload_n 1 :: r) (u :: (.inl z) :: L) st σ = wpB sc Φ κ Γ rt Q J (pc + 1) r (u :: (.inl z) :: L) (.inl z :: st) σ := (rfl)
theorem wp_lload_n1 : wpB sc Φ κ Γ rt Q J pc (.lload_n 1 :: r) (u :: (.inr (.inl z)) :: L) st σ = wpB sc Φ κ Γ rt Q J (pc + 1) r (u :: (.inr (.inl z)) :: L) (.inr (.inl z) :: st) σ := (rfl)
theorem wp_aload_n1 : wpB sc Φ κ Γ rt Q J pc (.aload_n 1 :: r) (u :: (.inr (.inr (some j))) :: L) st σ = wpB sc Φ κ Γ rt Q J (pc + 1) r (u :: (.inr (.inr (some j))) :: L) (.inr (.inr (some j)) :: st) σ := (rfl)
theorem wp_istore_n1 : wpB sc Φ κ Γ rt Q J pc (.istore_n 1 :: r) L (.inl z :: st) σ = (1 < L.length ∧ wpB sc Φ κ Γ rt Q J (pc + 1) r (sto1 L 1 (.inl z)) st σ) := (rfl)
theorem wp_lstore_n1 : wpB sc Φ κ Γ rt Q J pc (.lstore_n 1 :: r) L (.inr (.inl z) :: st) σ = (1 + 1 < L.length ∧ wpB sc Φ κ Γ rt Q J (pc + 1) r (sto2 L 1 (.inr (.inl z))) st σ) := (rfl)
theorem wp_astore_n1 : wpB sc Φ κ Γ rt Q J pc (.astore_n 1 :: r) L (.inr (.inr (some j)) :: st) σ = (1 < L.length ∧ wpB sc Φ κ Γ rt Q J (pc + 1) r (sto1 L 1 (.inr (.inr (some j)))) st σ) := (rfl)
theorem wp_iload_n2 : wpB sc Φ κ Γ rt Q J pc (.iload_n 2 :: r) (u :: v :: (.inl z) :: L) st σ = wpB sc Φ κ Γ rt Q J (pc + 1) r (u :: v :: (.inl z) :: L) (.inl z :: st) σ := (rfl)
theorem wp_lload_n2 : wpB sc Φ κ Γ rt Q J pc (.lload_n 2 :: r) (u :: v :: (.inr (.inl z)) :: L) st σ = wpB sc Φ κ Γ rt Q J (pc + 1) r (u :: v :: (.inr (.inl z)) :: L) (.inr (.inl z) :: st) σ := (rfl)
theorem wp_aload_n2 : wpB sc Φ κ Γ rt Q J pc (.aload_n 2 :: r) (u :: v :: (.inr (.inr (some j))) :: L) st σ = wpB sc Φ κ Γ rt Q J (pc + 1) r (u :: v :: (.inr (.inr (some j))) :: L) (.inr (.inr (some j)) :: st) σ := (rfl)
theorem wp_istore_n2 : wpB sc Φ κ Γ rt Q J pc (.istore_n 2 :: r) L (.inl z :: st) σ = (2 < L.length ∧ wpB sc Φ κ Γ rt Q J (pc + 1) r (sto1 L 2 (.inl z)) st σ) := (rfl)
theorem wp_lstore_n2 : wpB sc Φ κ Γ rt Q J pc (.lstore_n 2 :: r) L (.inr (.inl z) :: st) σ = (2 + 1 < L.length ∧ wpB sc Φ κ Γ rt Q J (pc + 1) r (sto2 L 2 (.inr (.inl z))) st σ) := (rfl)
theorem wp_astore_n2 : wpB sc Φ κ Γ rt Q J pc (.astore_n 2 :: r) L (.inr (.inr (some j)) :: st) σ = (2 < L.length ∧ wpB sc Φ κ Γ rt Q J (pc + 1) r (sto1 L 2 (.inr (.inr (some j)))) st σ) := (rfl)
theorem wp_iload_n3 : wpB sc Φ κ Γ rt Q J pc (.iload_n 3 :: r) (u :: v :: w :: (.inl z) :: L) st σ = wpB sc Φ κ Γ rt Q J (pc + 1) r (u :: v :: w :: (.inl z) :: L) (.inl z :: st) σ := (rfl)
theorem wp_lload_n3 : wpB sc Φ κ Γ rt Q J pc (.lload_n 3 :: r) (u :: v :: w :: (.inr (.inl z)) :: L) st σ = wpB sc Φ κ Γ rt Q J (pc + 1) r (u :: v :: w :: (.inr (.inl z)) :: L) (.inr (.inl z) :: st) σ := (rfl)
theorem wp_aload_n3 : wpB sc Φ κ Γ rt Q J pc (.aload_n 3 :: r) (u :: v :: w :: (.inr (.inr (some j))) :: L) st σ = wpB sc Φ κ Γ rt Q J (pc + 1) r (u :: v :: w :: (.inr (.inr (some j))) :: L) (.inr (.inr (some j)) :: st) σ := (rfl)
theorem wp_istore_n3 : wpB sc Φ κ Γ rt Q J pc (.istore_n 3 :: r) L (.inl z :: st) σ = (3 < L.length ∧ wpB sc Φ κ Γ rt Q J (pc + 1) r (sto1 L 3 (.inl z)) st σ) := (rfl)
theorem wp_lstore_n3 : wpB sc Φ κ Γ rt Q J pc (.lstore_n 3 :: r) L (.inr (.inl z) :: st) σ = (3 + 1 < L.length ∧ wpB sc Φ κ Γ rt Q J (pc + 1) r (sto2 L 3 (.inr (.inl z))) st σ) := (rfl)
theorem wp_astore_n3 : wpB sc Φ κ Γ rt Q J pc (.astore_n 3 :: r) L (.inr (.inr (some j)) :: st) σ = (3 < L.length ∧ wpB sc Φ κ Γ rt Q J (pc + 1) r (sto1 L 3 (.inr (.inr (some j)))) st σ) := (rfl)
theorem wp_iconst : wpB sc Φ κ Γ rt Q J pc (.iconst z :: r) L st σ = (wpB sc Φ κ Γ rt Q J (pc + 1) r L (.inl z :: st) σ) := (rfl)
theorem wp_bipush : wpB sc Φ κ Γ rt Q J pc (.bipush z :: r) L st σ = (-128 ≤ z ∧ z < 128 ∧ wpB sc Φ κ Γ rt Q J (pc + 2) r L (.inl z :: st) σ) := (rfl)
theorem wp_sipush : wpB sc Φ κ Γ rt Q J pc (.sipush z :: r) L st σ = (-32768 ≤ z ∧ z < 32768 ∧ wpB sc Φ κ Γ rt Q J (pc + 3) r L (.inl z :: st) σ) := (rfl)
theorem wp_lconst0 : wpB sc Φ κ Γ rt Q J pc (.lconst 0 :: r) L st σ = wpB sc Φ κ Γ rt Q J (pc + 1) r L (.inr (.inl 0) :: st) σ := (rfl)
theorem wp_lconst1 : wpB sc Φ κ Γ rt Q J pc (.lconst 1 :: r) L st σ = wpB sc Φ κ Γ rt Q J (pc + 1) r L (.inr (.inl 1) :: st) σ := (rfl)
theorem wp_ldc : wpB sc Φ κ Γ rt Q J pc (.ldc i :: r) L st σ = (i < 100000 ∧ lk1 κ i fun z => wpB sc Φ κ Γ rt Q J (pc + 2) r L (.inl z :: st) σ) := (rfl)
theorem wp_ldc_w : wpB sc Φ κ Γ rt Q J pc (.ldc_w i :: r) L st σ = (i < 100000 ∧ lk1 κ i fun z => wpB sc Φ κ Γ rt Q J (pc + 3) r L (.inl z :: st) σ) := (rfl)
theorem wp_ldc2_w : wpB sc Φ κ Γ rt Q J pc (.ldc2_w i :: r) L st σ = (lk1 κ (i + 100000) fun z => wpB sc Φ κ Γ rt Q J (pc + 3) r L (.inr (.inl z) :: st) σ) := (rfl)
theorem wp_iinc : wpB sc Φ κ Γ rt Q J pc (.iinc i z :: r) L st σ = (ldI L i fun x => wpB sc Φ κ Γ rt Q J (pc + 3) r (sto1 L i (.inl (x + z))) st σ) := (rfl)
theorem wp_iadd : wpB sc Φ κ Γ rt Q J pc (.iadd :: r) L (.inl y :: .inl x :: st) σ = (wpB sc Φ κ Γ rt Q J (pc + 1) r L (.inl (x + y) :: st) σ) := (rfl)
theorem wp_isub : wpB sc Φ κ Γ rt Q J pc (.isub :: r) L (.inl y :: .inl x :: st) σ = (wpB sc Φ κ Γ rt Q J (pc + 1) r L (.inl (x - y) :: st) σ) := (rfl)
theorem wp_imul : wpB sc Φ κ Γ rt Q J pc (.imul :: r) L (.inl y :: .inl x :: st) σ = (wpB sc Φ κ Γ rt Q J (pc + 1) r L (.inl (x * y) :: st) σ) := (rfl)
theorem wp_iand : wpB sc Φ κ Γ rt Q J pc (.iand :: r) L (.inl y :: .inl x :: st) σ = (wpB sc Φ κ Γ rt Q J (pc + 1) r L (.inl (iandZ x y) :: st) σ) := (rfl)
theorem wp_ior : wpB sc Φ κ Γ rt Q J pc (.ior :: r) L (.inl y :: .inl x :: st) σ = (wpB sc Φ κ Γ rt Q J (pc + 1) r L (.inl (iorZ x y) :: st) σ) := (rfl)
theorem wp_ixor : wpB sc Φ κ Γ rt Q J pc (.ixor :: r) L (.inl y :: .inl x :: st) σ = (wpB sc Φ κ Γ rt Q J (pc + 1) r L (.inl (ixorZ x y) :: st) σ) := (rfl)
theorem wp_ladd : wpB sc Φ κ Γ rt Q J pc (.ladd :: r) L (.inr (.inl y) :: .inr (.inl x) :: st) σ = (wpB sc Φ κ Γ rt Q J (pc + 1) r L (.inr (.inl (x + y)) :: st) σ) := (rfl)
theorem wp_lsub : wpB sc Φ κ Γ rt Q J pc (.lsub :: r) L (.inr (.inl y) :: .inr (.inl x) :: st) σ = (wpB sc Φ κ Γ rt Q J (pc + 1) r L (.inr (.inl (x - y)) :: st) σ) := (rfl)
theorem wp_lmul : wpB sc Φ κ Γ rt Q J pc (.lmul :: r) L (.inr (.inl y) :: .inr (.inl x) :: st) σ = (wpB sc Φ κ Γ rt Q J (pc + 1) r L (.inr (.inl (x * y)) :: st) σ) := (rfl)
theorem wp_land : wpB sc Φ κ Γ rt Q J pc (.land :: r) L (.inr (.inl y) :: .inr (.inl x) :: st) σ = (wpB sc Φ κ Γ rt Q J (pc + 1) r L (.inr (.inl (landZ x y)) :: st) σ) := (rfl)
theorem wp_lor : wpB sc Φ κ Γ rt Q J pc (.lor :: r) L (.inr (.inl y) :: .inr (.inl x) :: st) σ = (wpB sc Φ κ Γ rt Q J (pc + 1) r L (.inr (.inl (lorZ x y)) :: st) σ) := (rfl)
theorem wp_idiv : wpB sc Φ κ Γ rt Q J pc (.idiv :: r) L (.inl y :: .inl x :: st) σ = (0 ≤ x ∧ x < 2147483648 ∧ 0 < y ∧ y < 2147483648 ∧ wpB sc Φ κ Γ rt Q J (pc + 1) r L (.inl (x / y) :: st) σ) := (rfl)
theorem wp_irem : wpB sc Φ κ Γ rt Q J pc (.irem :: r) L (.inl y :: .inl x :: st) σ = (0 ≤ x ∧ x < 2147483648 ∧ 0 < y ∧ y < 2147483648 ∧ wpB sc Φ κ Γ rt Q J (pc + 1) r L (.inl (x % y) :: st) σ) := (rfl)
theorem wp_ishl : wpB sc Φ κ Γ rt Q J pc (.ishl :: r) L (.inl y :: .inl x :: st) σ = (0 ≤ y ∧ y < 32 ∧ wpB sc Φ κ Γ rt Q J (pc + 1) r L (.inl (x * 2 ^ y.toNat) :: st) σ) := (rfl)
theorem wp_ishr : wpB sc Φ κ Γ rt Q J pc (.ishr :: r) L (.inl y :: .inl x :: st) σ = (rI x ∧ 0 ≤ y ∧ y < 32 ∧ wpB sc Φ κ Γ rt Q J (pc + 1) r L (.inl (x / 2 ^ y.toNat) :: st) σ) := (rfl)
theorem wp_iushr : wpB sc Φ κ Γ rt Q J pc (.iushr :: r) L (.inl y :: .inl x :: st) σ = (0 ≤ y ∧ y < 32 ∧ wpB sc Φ κ Γ rt Q J (pc + 1) r L (.inl (x % 4294967296 / 2 ^ y.toNat) :: st) σ) := (rfl)
theorem wp_lshl : wpB sc Φ κ Γ rt Q J pc (.lshl :: r) L (.inl y :: .inr (.inl x) :: st) σ = (0 ≤ y ∧ y < 64 ∧ wpB sc Φ κ Γ rt Q J (pc + 1) r L (.inr (.inl (x * 2 ^ y.toNat)) :: st) σ) := (rfl)
theorem wp_lshr : wpB sc Φ κ Γ rt Q J pc (.lshr :: r) L (.inl y :: .inr (.inl x) :: st) σ = (rL x ∧ 0 ≤ y ∧ y < 64 ∧ wpB sc Φ κ Γ rt Q J (pc + 1) r L (.inr (.inl (x / 2 ^ y.toNat)) :: st) σ) := (rfl)
theorem wp_lushr : wpB sc Φ κ Γ rt Q J pc (.lushr :: r) L (.inl y :: .inr (.inl x) :: st) σ = (0 ≤ y ∧ y < 64 ∧ wpB sc Φ κ Γ rt Q J (pc + 1) r L (.inr (.inl (x % 18446744073709551616 / 2 ^ y.toNat)) :: st) σ) := (rfl)
theorem wp_ineg : wpB sc Φ κ Γ rt Q J pc (.ineg :: r) L (.inl x :: st) σ = (wpB sc Φ κ Γ rt Q J (pc + 1) r L (.inl (-x) :: st) σ) := (rfl)
theorem wp_lcmp : wpB sc Φ κ Γ rt Q J pc (.lcmp :: r) L (.inr (.inl y) :: .inr (.inl x) :: st) σ = (rL x ∧ rL y ∧ wpB sc Φ κ Γ rt Q J (pc + 1) r L (.inl (cmpZ x y) :: st) σ) := (rfl)
theorem wp_i2l : wpB sc Φ κ Γ rt Q J pc (.i2l :: r) L (.inl x :: st) σ = (rI x ∧ wpB sc Φ κ Γ rt Q J (pc + 1) r L (.inr (.inl x) :: st) σ) := (rfl)
theorem wp_l2i : wpB sc Φ κ Γ rt Q J pc (.l2i :: r) L (.inr (.inl x) :: st) σ = (wpB sc Φ κ Γ rt Q J (pc + 1) r L (.inl x :: st) σ) := (rfl)
theorem wp_dup : wpB sc Φ κ Γ rt Q J pc (.dup :: r) L (v :: st) σ = (isLong v = false ∧ wpB sc Φ κ Γ rt Q J (pc + 1) r L (v :: v :: st) σ) := (rfl)
theorem wp_dup2 : wpB sc Φ κ Γ rt Q J pc (.dup2 :: r) L (v :: w :: st) σ = (isLong v = false ∧ isLong w = false ∧ wpB sc Φ κ Γ rt Q J (pc + 1) r L (v :: w :: v :: w :: st) σ) := (rfl)
theorem wp_pop : wpB sc Φ κ Γ rt Q J pc (.pop :: r) L (v :: st) σ = (isLong v = false ∧ wpB sc Φ κ Γ rt Q J (pc + 1) r L st σ) := (rfl)
theorem wp_getfield : wpB sc Φ κ Γ rt Q J pc (.getfield i :: r) L (.inr (.inr (some j)) :: st) σ = (lk1 Φ i fun q => oF j q.1 q.2 fun t => wpB sc Φ κ Γ rt Q J (pc + 3) r L (fldV t (σ j q.2) :: st) σ) := (rfl)
theorem wp_putfield : wpB sc Φ κ Γ rt Q J pc (.putfield i :: r) L (.inl z :: .inr (.inr (some j)) :: st) σ = (lk1 Φ i fun q => oF j q.1 q.2 fun t => t = none ∧ wpB sc Φ κ Γ rt Q J (pc + 3) r L st (updR σ j (up1 (σ j) q.2 z))) := (rfl)
theorem wp_iaload_s : wpB sc Φ κ Γ rt Q J pc (.iaload :: r) L (.inl x :: .inr (.inr (some j)) :: st) σ = (if j = 1000 then sc ∧ 0 ≤ x ∧ x < σ 1001 0 ∧ wpB sc Φ κ Γ rt Q J (pc + 1) r L (.inl (σ 1000 x.toNat) :: st) σ else aF j 0 fun n => 0 ≤ x ∧ x < (n : Int) ∧ wpB sc Φ κ Γ rt Q J (pc + 1) r L (.inl (σ j x.toNat) :: st) σ) := (rfl)
theorem wp_iaload : wpB False Φ κ Γ rt Q J pc (.iaload :: r) L (.inl x :: .inr (.inr (some j)) :: st) σ = (aF j 0 fun n => 0 ≤ x ∧ x < (n : Int) ∧ wpB False Φ κ Γ rt Q J (pc + 1) r L (.inl (σ j x.toNat) :: st) σ) := by
  rw [wp_iaload_s]
  by_cases h : j = 1000
  · subst h
    rw [if_pos rfl]
    exact propext ⟨fun h => h.1.elim, fun h => h.elim⟩
  · rw [if_neg h]
theorem wp_laload : wpB sc Φ κ Γ rt Q J pc (.laload :: r) L (.inl x :: .inr (.inr (some j)) :: st) σ = (aF j 1 fun n => 0 ≤ x ∧ x < (n : Int) ∧ wpB sc Φ κ Γ rt Q J (pc + 1) r L (.inr (.inl (σ j x.toNat)) :: st) σ) := (rfl)
theorem wp_baload : wpB sc Φ κ Γ rt Q J pc (.baload :: r) L (.inl x :: .inr (.inr (some j)) :: st) σ = (aF j 2 fun n => 0 ≤ x ∧ x < (n : Int) ∧ wpB sc Φ κ Γ rt Q J (pc + 1) r L (.inl (σ j x.toNat) :: st) σ) := (rfl)
theorem wp_iastore : wpB sc Φ κ Γ rt Q J pc (.iastore :: r) L (.inl z :: .inl x :: .inr (.inr (some j)) :: st) σ = (aF j 0 fun n => 0 ≤ x ∧ x < (n : Int) ∧ wpB sc Φ κ Γ rt Q J (pc + 1) r L st (updR σ j (up1 (σ j) x.toNat z))) := (rfl)
theorem wp_lastore : wpB sc Φ κ Γ rt Q J pc (.lastore :: r) L (.inr (.inl z) :: .inl x :: .inr (.inr (some j)) :: st) σ = (aF j 1 fun n => 0 ≤ x ∧ x < (n : Int) ∧ wpB sc Φ κ Γ rt Q J (pc + 1) r L st (updR σ j (up1 (σ j) x.toNat z))) := (rfl)
theorem wp_bastore : wpB sc Φ κ Γ rt Q J pc (.bastore :: r) L (.inl z :: .inl x :: .inr (.inr (some j)) :: st) σ = (aF j 2 fun n => 0 ≤ x ∧ x < (n : Int) ∧ (z = 0 ∨ z = 1) ∧ wpB sc Φ κ Γ rt Q J (pc + 1) r L st (updR σ j (up1 (σ j) x.toNat z))) := (rfl)
theorem wp_arraylength : wpB False Φ κ Γ rt Q J pc (.arraylength :: r) L (.inr (.inr (some j)) :: st) σ = (aN j fun n => wpB False Φ κ Γ rt Q J (pc + 1) r L (.inl (n : Int) :: st) σ) := by
  show (if j = 1000 then _ else _) = _
  by_cases h : j = 1000
  · subst h
    rw [if_pos rfl]
    exact propext ⟨fun h => h.1.elim, fun h => h.elim⟩
  · rw [if_neg h]
    rfl
theorem wp_arraylength_s : wpB sc Φ κ Γ rt Q J pc (.arraylength :: r) L (.inr (.inr (some j)) :: st) σ = (if j = 1000 then sc ∧ wpB sc Φ κ Γ rt Q J (pc + 1) r L (.inl (σ 1001 0) :: st) σ else aN j fun n => wpB sc Φ κ Γ rt Q J (pc + 1) r L (.inl (n : Int) :: st) σ) := (rfl)
theorem wp_goto : wpB sc Φ κ Γ rt Q J pc (.goto off :: r) L st σ = (tgt pc off fun t => J t L st σ) := (rfl)
theorem wp_if_eq : wpB sc Φ κ Γ rt Q J pc (.ifCond .eq off :: r) L (.inl z :: st) σ = (tgt pc off fun t => rI z ∧ (z = 0 → J t L st σ) ∧ (¬ z = 0 → wpB sc Φ κ Γ rt Q J (pc + 3) r L st σ)) := (rfl)
theorem wp_icmp_eq : wpB sc Φ κ Γ rt Q J pc (.if_icmp .eq off :: r) L (.inl y :: .inl x :: st) σ = (tgt pc off fun t => rI x ∧ rI y ∧ (x = y → J t L st σ) ∧ (¬ x = y → wpB sc Φ κ Γ rt Q J (pc + 3) r L st σ)) := (rfl)
theorem wp_if_ne : wpB sc Φ κ Γ rt Q J pc (.ifCond .ne off :: r) L (.inl z :: st) σ = (tgt pc off fun t => rI z ∧ (¬ z = 0 → J t L st σ) ∧ (z = 0 → wpB sc Φ κ Γ rt Q J (pc + 3) r L st σ)) := (rfl)
theorem wp_icmp_ne : wpB sc Φ κ Γ rt Q J pc (.if_icmp .ne off :: r) L (.inl y :: .inl x :: st) σ = (tgt pc off fun t => rI x ∧ rI y ∧ (¬ x = y → J t L st σ) ∧ (x = y → wpB sc Φ κ Γ rt Q J (pc + 3) r L st σ)) := (rfl)
theorem wp_if_lt : wpB sc Φ κ Γ rt Q J pc (.ifCond .lt off :: r) L (.inl z :: st) σ = (tgt pc off fun t => rI z ∧ (z < 0 → J t L st σ) ∧ (0 ≤ z → wpB sc Φ κ Γ rt Q J (pc + 3) r L st σ)) := (rfl)
theorem wp_icmp_lt : wpB sc Φ κ Γ rt Q J pc (.if_icmp .lt off :: r) L (.inl y :: .inl x :: st) σ = (tgt pc off fun t => rI x ∧ rI y ∧ (x < y → J t L st σ) ∧ (y ≤ x → wpB sc Φ κ Γ rt Q J (pc + 3) r L st σ)) := (rfl)
theorem wp_if_ge : wpB sc Φ κ Γ rt Q J pc (.ifCond .ge off :: r) L (.inl z :: st) σ = (tgt pc off fun t => rI z ∧ (0 ≤ z → J t L st σ) ∧ (z < 0 → wpB sc Φ κ Γ rt Q J (pc + 3) r L st σ)) := (rfl)
theorem wp_icmp_ge : wpB sc Φ κ Γ rt Q J pc (.if_icmp .ge off :: r) L (.inl y :: .inl x :: st) σ = (tgt pc off fun t => rI x ∧ rI y ∧ (y ≤ x → J t L st σ) ∧ (x < y → wpB sc Φ κ Γ rt Q J (pc + 3) r L st σ)) := (rfl)
theorem wp_if_gt : wpB sc Φ κ Γ rt Q J pc (.ifCond .gt off :: r) L (.inl z :: st) σ = (tgt pc off fun t => rI z ∧ (0 < z → J t L st σ) ∧ (z ≤ 0 → wpB sc Φ κ Γ rt Q J (pc + 3) r L st σ)) := (rfl)
theorem wp_icmp_gt : wpB sc Φ κ Γ rt Q J pc (.if_icmp .gt off :: r) L (.inl y :: .inl x :: st) σ = (tgt pc off fun t => rI x ∧ rI y ∧ (y < x → J t L st σ) ∧ (x ≤ y → wpB sc Φ κ Γ rt Q J (pc + 3) r L st σ)) := (rfl)
theorem wp_if_le : wpB sc Φ κ Γ rt Q J pc (.ifCond .le off :: r) L (.inl z :: st) σ = (tgt pc off fun t => rI z ∧ (z ≤ 0 → J t L st σ) ∧ (0 < z → wpB sc Φ κ Γ rt Q J (pc + 3) r L st σ)) := (rfl)
theorem wp_icmp_le : wpB sc Φ κ Γ rt Q J pc (.if_icmp .le off :: r) L (.inl y :: .inl x :: st) σ = (tgt pc off fun t => rI x ∧ rI y ∧ (x ≤ y → J t L st σ) ∧ (y < x → wpB sc Φ κ Γ rt Q J (pc + 3) r L st σ)) := (rfl)
theorem wp_tableswitch {lo hi : Int} {offs : Array Int} : wpB sc Φ κ Γ rt Q J pc (.tableswitch off lo hi offs :: r) L (.inl z :: st) σ = (rI z ∧ hi + 1 = lo + offs.size ∧ ((z < lo ∨ hi < z) → tgt pc off fun t => J t L st σ) ∧ sw pc z (fun t => J t L st σ) offs.toList lo) := (rfl)
theorem wp_ireturn1 : wpB sc Φ κ Γ 1 Q J pc (.ireturn :: r) L [.inl z] σ = Q (some (.inl z)) σ := by
  show (([] : List AV) = [] ∧ _ ∧ _) = _
  simp
theorem wp_ireturn3 : wpB sc Φ κ Γ 3 Q J pc (.ireturn :: r) L [.inl z] σ = ((z = 0 ∨ z = 1) ∧ Q (some (.inl z)) σ) := by
  show (([] : List AV) = [] ∧ _ ∧ _) = _
  simp
theorem wp_lreturn2 : wpB sc Φ κ Γ 2 Q J pc (.lreturn :: r) L [.inr (.inl z)] σ = Q (some (.inr (.inl z))) σ := by
  show (([] : List AV) = [] ∧ _ ∧ _) = _
  simp
theorem wp_return0 : wpB sc Φ κ Γ 0 Q J pc (.return_ :: r) L [] σ = Q none σ := by
  show (([] : List AV) = [] ∧ _ ∧ _) = _
  simp
theorem wp_invokevirtual : wpB sc Φ κ Γ rt Q J pc (.invokevirtual i :: r) L st σ = (lk1 Γ i fun g => popN g.2.1 [] st fun as r' => popR r' fun j r' => 0 < g.1 ∧ oC j (g.1 - 1) ∧ catS r' ≤ 8 ∧ g.2.2 (.inr (.inr (some j)) :: as) σ (fun v σ' => (sc → σ' 1000 = σ 1000 ∧ σ' 1001 = σ 1001) ∧ wpB sc Φ κ Γ rt Q J (pc + 3) r L (psh v r') σ')) := (rfl)
theorem wp_invokestatic : wpB sc Φ κ Γ rt Q J pc (.invokestatic i :: r) L st σ = (lk1 Γ i fun g => if g.1 = 1000 then popI st fun n r' => popI r' fun dp r' => popR r' fun d r' => popI r' fun sp r' => popR r' fun q r' => aF q 0 fun nq => aF d 0 fun nd => catS r' ≤ 8 ∧ 0 ≤ n ∧ 0 ≤ dp ∧ 0 ≤ sp ∧ sp + n ≤ (nq : Int) ∧ dp + n ≤ (nd : Int) ∧ wpB sc Φ κ Γ rt Q J (pc + 3) r L r' (updR σ d (va_cpy (σ q) (σ d) sp.toNat dp.toNat n.toNat))
    else popN g.2.1 [] st fun as r' => g.1 = 0 ∧ catS r' ≤ 8 ∧ g.2.2 as σ (fun v σ' => (sc → σ' 1000 = σ 1000 ∧ σ' 1001 = σ 1001) ∧ wpB sc Φ κ Γ rt Q J (pc + 3) r L (psh v r') σ')) := (rfl)
theorem wp_nil : wpB sc Φ κ Γ rt Q J pc [] L st σ = J pc L st σ := (rfl)
theorem jmp_e {prog : List (Nat × List Instr)} {cuts : Cuts} {μ : Option M3} {n : Nat} : jmp sc Φ κ Γ rt Q prog cuts μ n pc L st σ = atC cuts μ pc L st σ (wpN sc Φ κ Γ rt Q prog cuts μ n pc L st σ) := (rfl)
theorem popI_c {f : Int → List AV → Prop} : popI (.inl z :: st) f = f z st := (rfl)
theorem popL_c {f : Int → List AV → Prop} : popL (.inr (.inl z) :: st) f = f z st := (rfl)
theorem popR_c {f : Nat → List AV → Prop} : popR (.inr (.inr (some j)) :: st) f = f j st := (rfl)
theorem popN_0 {as : List AV} {f : List AV → List AV → Prop} : popN 0 as st f = f as st := (rfl)
theorem popN_s {as : List AV} {f : List AV → List AV → Prop} {n : Nat} : popN (n + 1) as (v :: st) f = popN n (v :: as) st f := (rfl)
theorem ldI_0 {f : Int → Prop} : ldI (.inl z :: L) 0 f = f z := (rfl)
theorem ldI_s {f : Int → Prop} : ldI (v :: L) (i + 1) f = ldI L i f := by unfold ldI; rw [List.getElem?_cons_succ]
theorem ldL_0 {f : Int → Prop} : ldL (.inr (.inl z) :: L) 0 f = f z := (rfl)
theorem ldL_s {f : Int → Prop} : ldL (v :: L) (i + 1) f = ldL L i f := by unfold ldL; rw [List.getElem?_cons_succ]
theorem ldR_0 {f : Nat → Prop} : ldR (.inr (.inr (some j)) :: L) 0 f = f j := (rfl)
theorem ldR_s {f : Nat → Prop} : ldR (v :: L) (i + 1) f = ldR L i f := by unfold ldR; rw [List.getElem?_cons_succ]
theorem sto1_0 : sto1 (v :: L) 0 w = w :: L := (rfl)
theorem sto1_1 : sto1 (v :: L) 1 w = (if isLong v then .inr (.inr none) else v) :: sto1 L 0 w := (rfl)
theorem sto1_s : sto1 (v :: L) (i + 2) w = v :: sto1 L (i + 1) w := (rfl)
theorem sto2_0 : sto2 (v :: u :: L) 0 w = w :: .inr (.inr none) :: L := (rfl)
theorem sto2_1 : sto2 (v :: L) 1 w = (if isLong v then .inr (.inr none) else v) :: sto2 L 0 w := (rfl)
theorem sto2_s : sto2 (v :: L) (i + 2) w = v :: sto2 L (i + 1) w := (rfl)
theorem isLong_i : isLong (.inl z) = false := (rfl)
theorem isLong_l : isLong (.inr (.inl z)) = true := (rfl)
theorem isLong_r {t : Option Nat} : isLong (.inr (.inr t)) = false := (rfl)
theorem catS_n : catS [] = 0 := (rfl)
theorem catS_c : catS (v :: st) = (if isLong v then 2 else 1) + catS st := (rfl)
theorem psh_s : psh (some v) st = v :: st := (rfl)
theorem psh_n : psh none st = st := (rfl)
theorem fldV_n : fldV none z = .inl z := (rfl)
theorem fldV_s : fldV (some j) z = .inr (.inr (some j)) := (rfl)
theorem tgt_e {f : Nat → Prop} : tgt pc off f = (0 ≤ (pc : Int) + off ∧ f ((pc : Int) + off).toNat) := (rfl)
theorem sw_n {f : Nat → Prop} : sw pc z f [] x = True := (rfl)
theorem sw_c {f : Nat → Prop} {os : List Int} : sw pc z f (y :: os) x = ((z = x → tgt pc y f) ∧ sw pc z f os (x + 1)) := (rfl)
theorem lk1_h {β : Type} {l : List (Nat × β)} {t : β} {f : β → Prop} : lk1 ((i, t) :: l) i f = f t := by unfold lk1 lk; rw [if_pos rfl]
theorem lk1_m {β : Type} {l : List (Nat × β)} {t : β} {f : β → Prop} (h : j ≠ i) : lk1 ((i, t) :: l) j f = lk1 l j f := by
  unfold lk1
  rw [lk, if_neg h]
theorem oF_of {f : Option Nat → Prop} {ci kf : Nat} {fs : List (Option Nat)} {t : Option Nat} (h : SH[j]? = some (.inl (ci, fs))) (hk : fs[kf]? = some t) : oF j ci kf f = f t := by
  unfold oF
  rw [h]
  simp only [hk, true_and]
theorem oC_of {ci : Nat} {fs : List (Option Nat)} (h : SH[j]? = some (.inl (ci, fs))) : oC j ci = True := by
  unfold oC
  rw [h]
  simp
theorem aF_of {f : Nat → Prop} {kd n : Nat} (h : SH[j]? = some (.inr (kd, n))) : aF j kd f = f n := by
  unfold aF
  rw [h]
  simp
theorem aN_of {f : Nat → Prop} {kd n : Nat} (h : SH[j]? = some (.inr (kd, n))) (hk : kd = 0 ∨ kd = 1 ∨ kd = 2) : aN j f = f n := by
  unfold aN
  rw [h]
  simp [hk]
theorem atC_m {cuts : Cuts} {μ : Option M3} {I : List AV → List AV → St → M3 → Prop} {P : Prop} (h : j ≠ i) : atC ((i, I) :: cuts) μ j L st σ P = atC cuts μ j L st σ P := by
  unfold atC
  rw [lk, if_neg h]
theorem atC_n {μ : Option M3} {P : Prop} : atC [] μ j L st σ P = P := (rfl)
def mkC (I : List AV → List AV → St → Prop) (m : List AV → List AV → St → M3) : List AV → List AV → St → M3 → Prop := fun L st σ ν => I L st σ ∧ ν = m L st σ
theorem atC_h {cuts : Cuts} {μ : Option M3} {I : List AV → List AV → St → Prop} {m : List AV → List AV → St → M3} {P : Prop} : atC ((i, mkC I m) :: cuts) μ i L st σ P = (ltO (m L st σ) μ ∧ I L st σ) := by
  unfold atC lk mkC
  rw [if_pos rfl]
  exact propext ⟨fun ⟨ν, h1, h2, h3⟩ => ⟨h3 ▸ h1, h2⟩, fun ⟨h1, h2⟩ => ⟨_, h1, h2, rfl⟩⟩
theorem ltO_n {μ : M3} : ltO μ none = True := (rfl)
theorem ltO_s {μ ν : M3} : ltO μ (some ν) = ltM μ ν := (rfl)
end EQS
/-- a local as a number -/
def gI (L : List AV) (i : Nat) : Int := match L[i]? with
  | some (.inl z) => z
  | some (.inr (.inl z)) => z
  | _ => 0
theorem gI_0i {L : List AV} {z : Int} : gI (.inl z :: L) 0 = z := (rfl)
theorem gI_0l {L : List AV} {z : Int} : gI (.inr (.inl z) :: L) 0 = z := (rfl)
theorem gI_s {L : List AV} {v : AV} {i : Nat} : gI (v :: L) (i + 1) = gI L i := by unfold gI; rw [List.getElem?_cons_succ]
theorem ltM_iff (a b c x y z : Nat) : ltM (a, b, c) (x, y, z) = (a < x ∨ (a = x ∧ (b < y ∨ (b = y ∧ c < z)))) := (rfl)
theorem rI_iff (z : Int) : rI z ↔ -2147483648 ≤ z ∧ z < 2147483648 := Iff.rfl
theorem rL_iff (z : Int) : rL z ↔ -9223372036854775808 ≤ z ∧ z < 9223372036854775808 := Iff.rfl
theorem Q_eq {Q : Option AV → St → Prop} {v v' : Option AV} {σ σ' : St} (h : Q v σ) (e : v' = v) (e2 : σ' = σ) : Q v' σ' := by rw [e, e2]; exact h
theorem cuts1 {sc : Prop} {Φ : List (Nat × Nat × Nat)} {κ : List (Nat × Int)} {Γ : List (Nat × Nat × Nat × Spec)} {rt n i : Nat} {Q : Option AV → St → Prop} {prog : List (Nat × List Instr)} {cs r : Cuts} {I : List AV → List AV → St → Prop} {m : List AV → List AV → St → M3} (h : ∀ L st σ, I L st σ → wpN sc Φ κ Γ rt Q prog cs (some (m L st σ)) n i L st σ) (h2 : ∀ q ∈ r, ∀ L st σ ν, q.2 L st σ ν → wpN sc Φ κ Γ rt Q prog cs (some ν) n q.1 L st σ) : ∀ q ∈ (i, mkC I m) :: r, ∀ L st σ ν, q.2 L st σ ν → wpN sc Φ κ Γ rt Q prog cs (some ν) n q.1 L st σ := by
  intro q hq
  rcases List.mem_cons.mp hq with rfl | hq
  · intro L st σ ν hI
    obtain ⟨h1, rfl⟩ := hI
    exact h L st σ h1
  · exact h2 q hq
theorem cuts0 {sc : Prop} {Φ : List (Nat × Nat × Nat)} {κ : List (Nat × Int)} {Γ : List (Nat × Nat × Nat × Spec)} {rt n : Nat} {Q : Option AV → St → Prop} {prog : List (Nat × List Instr)} {cs : Cuts} : ∀ q ∈ ([] : Cuts), ∀ L st σ ν, q.2 L st σ ν → wpN sc Φ κ Γ rt Q prog cs (some ν) n q.1 L st σ := fun _ h => absurd h List.not_mem_nil
theorem oC_0 : oC 0 8 = True := by simp [oC, SH]
theorem oF_0_0 (f : Option Nat → Prop) : oF 0 8 0 f = f (some 1) := by simp only [oF, SH]; simp
theorem oF_0_1 (f : Option Nat → Prop) : oF 0 8 1 f = f (some 4) := by simp only [oF, SH]; simp
theorem oF_0_2 (f : Option Nat → Prop) : oF 0 8 2 f = f (some 11) := by simp only [oF, SH]; simp
theorem oF_0_3 (f : Option Nat → Prop) : oF 0 8 3 f = f (some 16) := by simp only [oF, SH]; simp
theorem oF_0_4 (f : Option Nat → Prop) : oF 0 8 4 f = f (some 18) := by simp only [oF, SH]; simp
theorem oF_0_5 (f : Option Nat → Prop) : oF 0 8 5 f = f (some 20) := by simp only [oF, SH]; simp
theorem oF_0_6 (f : Option Nat → Prop) : oF 0 8 6 f = f (some 23) := by simp only [oF, SH]; simp
theorem oF_0_7 (f : Option Nat → Prop) : oF 0 8 7 f = f (some 25) := by simp only [oF, SH]; simp
theorem oF_0_8 (f : Option Nat → Prop) : oF 0 8 8 f = f (some 31) := by simp only [oF, SH]; simp
theorem oF_0_9 (f : Option Nat → Prop) : oF 0 8 9 f = f (some 33) := by simp only [oF, SH]; simp
theorem oF_0_10 (f : Option Nat → Prop) : oF 0 8 10 f = f (some 35) := by simp only [oF, SH]; simp
theorem oF_0_11 (f : Option Nat → Prop) : oF 0 8 11 f = f (none) := by simp only [oF, SH]; simp
theorem oC_1 : oC 1 0 = True := by simp [oC, SH]
theorem oF_1_0 (f : Option Nat → Prop) : oF 1 0 0 f = f (some 2) := by simp only [oF, SH]; simp
theorem oF_1_1 (f : Option Nat → Prop) : oF 1 0 1 f = f (some 3) := by simp only [oF, SH]; simp
theorem oF_1_2 (f : Option Nat → Prop) : oF 1 0 2 f = f (none) := by simp only [oF, SH]; simp
theorem oF_1_3 (f : Option Nat → Prop) : oF 1 0 3 f = f (none) := by simp only [oF, SH]; simp
theorem oF_1_4 (f : Option Nat → Prop) : oF 1 0 4 f = f (none) := by simp only [oF, SH]; simp
theorem oF_1_5 (f : Option Nat → Prop) : oF 1 0 5 f = f (none) := by simp only [oF, SH]; simp
theorem aF_2 (f : Nat → Prop) : aF 2 0 f = f 4 := aF_of (by rfl)
theorem aF_3 (f : Nat → Prop) : aF 3 0 f = f 4 := aF_of (by rfl)
theorem oC_4 : oC 4 4 = True := by simp [oC, SH]
theorem oF_4_0 (f : Option Nat → Prop) : oF 4 4 0 f = f (some 5) := by simp only [oF, SH]; simp
theorem oF_4_1 (f : Option Nat → Prop) : oF 4 4 1 f = f (some 6) := by simp only [oF, SH]; simp
theorem oF_4_2 (f : Option Nat → Prop) : oF 4 4 2 f = f (some 7) := by simp only [oF, SH]; simp
theorem oF_4_3 (f : Option Nat → Prop) : oF 4 4 3 f = f (some 8) := by simp only [oF, SH]; simp
theorem oF_4_4 (f : Option Nat → Prop) : oF 4 4 4 f = f (some 9) := by simp only [oF, SH]; simp
theorem oF_4_5 (f : Option Nat → Prop) : oF 4 4 5 f = f (some 10) := by simp only [oF, SH]; simp
theorem oF_4_6 (f : Option Nat → Prop) : oF 4 4 6 f = f (none) := by simp only [oF, SH]; simp
theorem oF_4_7 (f : Option Nat → Prop) : oF 4 4 7 f = f (none) := by simp only [oF, SH]; simp
theorem oF_4_8 (f : Option Nat → Prop) : oF 4 4 8 f = f (none) := by simp only [oF, SH]; simp
theorem aF_5 (f : Nat → Prop) : aF 5 0 f = f 2816 := aF_of (by rfl)
theorem aF_6 (f : Nat → Prop) : aF 6 0 f = f 2816 := aF_of (by rfl)
theorem aF_7 (f : Nat → Prop) : aF 7 0 f = f 5632 := aF_of (by rfl)
theorem aF_8 (f : Nat → Prop) : aF 8 0 f = f 2816 := aF_of (by rfl)
theorem aF_9 (f : Nat → Prop) : aF 9 0 f = f 2816 := aF_of (by rfl)
theorem aF_10 (f : Nat → Prop) : aF 10 0 f = f 10201 := aF_of (by rfl)
theorem oC_11 : oC 11 7 = True := by simp [oC, SH]
theorem oF_11_0 (f : Option Nat → Prop) : oF 11 7 0 f = f (some 12) := by simp only [oF, SH]; simp
theorem oF_11_1 (f : Option Nat → Prop) : oF 11 7 1 f = f (some 13) := by simp only [oF, SH]; simp
theorem oF_11_2 (f : Option Nat → Prop) : oF 11 7 2 f = f (some 14) := by simp only [oF, SH]; simp
theorem oF_11_3 (f : Option Nat → Prop) : oF 11 7 3 f = f (some 15) := by simp only [oF, SH]; simp
theorem oF_11_4 (f : Option Nat → Prop) : oF 11 7 4 f = f (none) := by simp only [oF, SH]; simp
theorem aF_12 (f : Nat → Prop) : aF 12 0 f = f 200 := aF_of (by rfl)
theorem aF_13 (f : Nat → Prop) : aF 13 0 f = f 100 := aF_of (by rfl)
theorem aF_14 (f : Nat → Prop) : aF 14 0 f = f 100 := aF_of (by rfl)
theorem aF_15 (f : Nat → Prop) : aF 15 0 f = f 100 := aF_of (by rfl)
theorem oC_16 : oC 16 3 = True := by simp [oC, SH]
theorem oF_16_0 (f : Option Nat → Prop) : oF 16 3 0 f = f (some 17) := by simp only [oF, SH]; simp
theorem aF_17 (f : Nat → Prop) : aF 17 1 f = f 6100 := aF_of (by rfl)
theorem oC_18 : oC 18 3 = True := by simp [oC, SH]
theorem oF_18_0 (f : Option Nat → Prop) : oF 18 3 0 f = f (some 19) := by simp only [oF, SH]; simp
theorem aF_19 (f : Nat → Prop) : aF 19 1 f = f 6100 := aF_of (by rfl)
theorem oC_20 : oC 20 5 = True := by simp [oC, SH]
theorem oF_20_0 (f : Option Nat → Prop) : oF 20 5 0 f = f (some 21) := by simp only [oF, SH]; simp
theorem oF_20_1 (f : Option Nat → Prop) : oF 20 5 1 f = f (some 22) := by simp only [oF, SH]; simp
theorem oF_20_2 (f : Option Nat → Prop) : oF 20 5 2 f = f (none) := by simp only [oF, SH]; simp
theorem oF_20_3 (f : Option Nat → Prop) : oF 20 5 3 f = f (none) := by simp only [oF, SH]; simp
theorem oF_20_4 (f : Option Nat → Prop) : oF 20 5 4 f = f (none) := by simp only [oF, SH]; simp
theorem oF_20_5 (f : Option Nat → Prop) : oF 20 5 5 f = f (none) := by simp only [oF, SH]; simp
theorem aF_21 (f : Nat → Prop) : aF 21 1 f = f 8192 := aF_of (by rfl)
theorem aF_22 (f : Nat → Prop) : aF 22 1 f = f 8192 := aF_of (by rfl)
theorem oC_23 : oC 23 6 = True := by simp [oC, SH]
theorem oF_23_0 (f : Option Nat → Prop) : oF 23 6 0 f = f (some 24) := by simp only [oF, SH]; simp
theorem aF_24 (f : Nat → Prop) : aF 24 0 f = f 100 := aF_of (by rfl)
theorem oC_25 : oC 25 2 = True := by simp [oC, SH]
theorem oF_25_0 (f : Option Nat → Prop) : oF 25 2 0 f = f (some 26) := by simp only [oF, SH]; simp
theorem oF_25_1 (f : Option Nat → Prop) : oF 25 2 1 f = f (some 28) := by simp only [oF, SH]; simp
theorem oF_25_2 (f : Option Nat → Prop) : oF 25 2 2 f = f (some 29) := by simp only [oF, SH]; simp
theorem oF_25_3 (f : Option Nat → Prop) : oF 25 2 3 f = f (none) := by simp only [oF, SH]; simp
theorem oF_25_4 (f : Option Nat → Prop) : oF 25 2 4 f = f (none) := by simp only [oF, SH]; simp
theorem oF_25_5 (f : Option Nat → Prop) : oF 25 2 5 f = f (none) := by simp only [oF, SH]; simp
theorem oF_25_6 (f : Option Nat → Prop) : oF 25 2 6 f = f (none) := by simp only [oF, SH]; simp
theorem oC_26 : oC 26 3 = True := by simp [oC, SH]
theorem oF_26_0 (f : Option Nat → Prop) : oF 26 3 0 f = f (some 27) := by simp only [oF, SH]; simp
theorem aF_27 (f : Nat → Prop) : aF 27 1 f = f 6100 := aF_of (by rfl)
theorem aF_28 (f : Nat → Prop) : aF 28 0 f = f 100 := aF_of (by rfl)
theorem oC_29 : oC 29 1 = True := by simp [oC, SH]
theorem oF_29_0 (f : Option Nat → Prop) : oF 29 1 0 f = f (some 30) := by simp only [oF, SH]; simp
theorem oF_29_1 (f : Option Nat → Prop) : oF 29 1 1 f = f (none) := by simp only [oF, SH]; simp
theorem aF_30 (f : Nat → Prop) : aF 30 0 f = f 600 := aF_of (by rfl)
theorem oC_31 : oC 31 1 = True := by simp [oC, SH]
theorem oF_31_0 (f : Option Nat → Prop) : oF 31 1 0 f = f (some 32) := by simp only [oF, SH]; simp
theorem oF_31_1 (f : Option Nat → Prop) : oF 31 1 1 f = f (none) := by simp only [oF, SH]; simp
theorem aF_32 (f : Nat → Prop) : aF 32 0 f = f 600 := aF_of (by rfl)
theorem oC_33 : oC 33 1 = True := by simp [oC, SH]
theorem oF_33_0 (f : Option Nat → Prop) : oF 33 1 0 f = f (some 34) := by simp only [oF, SH]; simp
theorem oF_33_1 (f : Option Nat → Prop) : oF 33 1 1 f = f (none) := by simp only [oF, SH]; simp
theorem aF_34 (f : Nat → Prop) : aF 34 0 f = f 600 := aF_of (by rfl)
theorem oC_35 : oC 35 1 = True := by simp [oC, SH]
theorem oF_35_0 (f : Option Nat → Prop) : oF 35 1 0 f = f (some 36) := by simp only [oF, SH]; simp
theorem oF_35_1 (f : Option Nat → Prop) : oF 35 1 1 f = f (none) := by simp only [oF, SH]; simp
theorem aF_36 (f : Nat → Prop) : aF 36 0 f = f 600 := aF_of (by rfl)
theorem oC_37 : oC 37 9 = True := by simp [oC, SH]
theorem oF_37_0 (f : Option Nat → Prop) : oF 37 9 0 f = f (none) := by simp only [oF, SH]; simp
theorem oF_37_1 (f : Option Nat → Prop) : oF 37 9 1 f = f (none) := by simp only [oF, SH]; simp
theorem oF_37_2 (f : Option Nat → Prop) : oF 37 9 2 f = f (none) := by simp only [oF, SH]; simp
theorem oF_37_3 (f : Option Nat → Prop) : oF 37 9 3 f = f (some 38) := by simp only [oF, SH]; simp
theorem oF_37_4 (f : Option Nat → Prop) : oF 37 9 4 f = f (some 39) := by simp only [oF, SH]; simp
theorem oF_37_5 (f : Option Nat → Prop) : oF 37 9 5 f = f (none) := by simp only [oF, SH]; simp
theorem oF_37_6 (f : Option Nat → Prop) : oF 37 9 6 f = f (some 40) := by simp only [oF, SH]; simp
theorem oF_37_7 (f : Option Nat → Prop) : oF 37 9 7 f = f (none) := by simp only [oF, SH]; simp
theorem oF_37_8 (f : Option Nat → Prop) : oF 37 9 8 f = f (some 41) := by simp only [oF, SH]; simp
theorem oF_37_9 (f : Option Nat → Prop) : oF 37 9 9 f = f (some 42) := by simp only [oF, SH]; simp
theorem oF_37_10 (f : Option Nat → Prop) : oF 37 9 10 f = f (some 43) := by simp only [oF, SH]; simp
theorem oF_37_11 (f : Option Nat → Prop) : oF 37 9 11 f = f (some 44) := by simp only [oF, SH]; simp
theorem oF_37_12 (f : Option Nat → Prop) : oF 37 9 12 f = f (some 45) := by simp only [oF, SH]; simp
theorem oF_37_13 (f : Option Nat → Prop) : oF 37 9 13 f = f (some 46) := by simp only [oF, SH]; simp
theorem oF_37_14 (f : Option Nat → Prop) : oF 37 9 14 f = f (some 47) := by simp only [oF, SH]; simp
theorem oF_37_15 (f : Option Nat → Prop) : oF 37 9 15 f = f (some 48) := by simp only [oF, SH]; simp
theorem oF_37_16 (f : Option Nat → Prop) : oF 37 9 16 f = f (some 49) := by simp only [oF, SH]; simp
theorem oF_37_17 (f : Option Nat → Prop) : oF 37 9 17 f = f (none) := by simp only [oF, SH]; simp
theorem oF_37_18 (f : Option Nat → Prop) : oF 37 9 18 f = f (some 50) := by simp only [oF, SH]; simp
theorem oF_37_19 (f : Option Nat → Prop) : oF 37 9 19 f = f (some 51) := by simp only [oF, SH]; simp
theorem oF_37_20 (f : Option Nat → Prop) : oF 37 9 20 f = f (some 52) := by simp only [oF, SH]; simp
theorem oF_37_21 (f : Option Nat → Prop) : oF 37 9 21 f = f (some 53) := by simp only [oF, SH]; simp
theorem oF_37_22 (f : Option Nat → Prop) : oF 37 9 22 f = f (some 54) := by simp only [oF, SH]; simp
theorem oF_37_23 (f : Option Nat → Prop) : oF 37 9 23 f = f (some 55) := by simp only [oF, SH]; simp
theorem oF_37_24 (f : Option Nat → Prop) : oF 37 9 24 f = f (some 56) := by simp only [oF, SH]; simp
theorem oF_37_25 (f : Option Nat → Prop) : oF 37 9 25 f = f (some 57) := by simp only [oF, SH]; simp
theorem oF_37_26 (f : Option Nat → Prop) : oF 37 9 26 f = f (none) := by simp only [oF, SH]; simp
theorem oF_37_27 (f : Option Nat → Prop) : oF 37 9 27 f = f (none) := by simp only [oF, SH]; simp
theorem oF_37_28 (f : Option Nat → Prop) : oF 37 9 28 f = f (some 58) := by simp only [oF, SH]; simp
theorem oF_37_29 (f : Option Nat → Prop) : oF 37 9 29 f = f (some 59) := by simp only [oF, SH]; simp
theorem oF_37_30 (f : Option Nat → Prop) : oF 37 9 30 f = f (some 60) := by simp only [oF, SH]; simp
theorem oF_37_31 (f : Option Nat → Prop) : oF 37 9 31 f = f (some 61) := by simp only [oF, SH]; simp
theorem oF_37_32 (f : Option Nat → Prop) : oF 37 9 32 f = f (none) := by simp only [oF, SH]; simp
theorem oF_37_33 (f : Option Nat → Prop) : oF 37 9 33 f = f (none) := by simp only [oF, SH]; simp
theorem oF_37_34 (f : Option Nat → Prop) : oF 37 9 34 f = f (none) := by simp only [oF, SH]; simp
theorem oF_37_35 (f : Option Nat → Prop) : oF 37 9 35 f = f (some 62) := by simp only [oF, SH]; simp
theorem oF_37_36 (f : Option Nat → Prop) : oF 37 9 36 f = f (none) := by simp only [oF, SH]; simp
theorem oF_37_37 (f : Option Nat → Prop) : oF 37 9 37 f = f (some 63) := by simp only [oF, SH]; simp
theorem oF_37_38 (f : Option Nat → Prop) : oF 37 9 38 f = f (none) := by simp only [oF, SH]; simp
theorem oF_37_39 (f : Option Nat → Prop) : oF 37 9 39 f = f (some 64) := by simp only [oF, SH]; simp
theorem oF_37_40 (f : Option Nat → Prop) : oF 37 9 40 f = f (some 65) := by simp only [oF, SH]; simp
theorem oF_37_41 (f : Option Nat → Prop) : oF 37 9 41 f = f (some 66) := by simp only [oF, SH]; simp
theorem aF_38 (f : Nat → Prop) : aF 38 0 f = f 4 := aF_of (by rfl)
theorem aF_39 (f : Nat → Prop) : aF 39 0 f = f 4 := aF_of (by rfl)
theorem aF_40 (f : Nat → Prop) : aF 40 0 f = f 11264 := aF_of (by rfl)
theorem aF_41 (f : Nat → Prop) : aF 41 0 f = f 11264 := aF_of (by rfl)
theorem aF_42 (f : Nat → Prop) : aF 42 0 f = f 11264 := aF_of (by rfl)
theorem aF_43 (f : Nat → Prop) : aF 43 0 f = f 11264 := aF_of (by rfl)
theorem aF_44 (f : Nat → Prop) : aF 44 2 f = f 11264 := aF_of (by rfl)
theorem aF_45 (f : Nat → Prop) : aF 45 0 f = f 11264 := aF_of (by rfl)
theorem aF_46 (f : Nat → Prop) : aF 46 0 f = f 11264 := aF_of (by rfl)
theorem aF_47 (f : Nat → Prop) : aF 47 0 f = f 101 := aF_of (by rfl)
theorem aF_48 (f : Nat → Prop) : aF 48 0 f = f 101 := aF_of (by rfl)
theorem aF_49 (f : Nat → Prop) : aF 49 0 f = f 101 := aF_of (by rfl)
theorem aF_50 (f : Nat → Prop) : aF 50 0 f = f 100 := aF_of (by rfl)
theorem aF_51 (f : Nat → Prop) : aF 51 0 f = f 100 := aF_of (by rfl)
theorem aF_52 (f : Nat → Prop) : aF 52 0 f = f 100 := aF_of (by rfl)
theorem aF_53 (f : Nat → Prop) : aF 53 0 f = f 100 := aF_of (by rfl)
theorem aF_54 (f : Nat → Prop) : aF 54 0 f = f 100 := aF_of (by rfl)
theorem aF_55 (f : Nat → Prop) : aF 55 0 f = f 101 := aF_of (by rfl)
theorem aF_56 (f : Nat → Prop) : aF 56 0 f = f 100 := aF_of (by rfl)
theorem aF_57 (f : Nat → Prop) : aF 57 0 f = f 100 := aF_of (by rfl)
theorem aF_58 (f : Nat → Prop) : aF 58 1 f = f 6100 := aF_of (by rfl)
theorem aF_59 (f : Nat → Prop) : aF 59 0 f = f 100 := aF_of (by rfl)
theorem aF_60 (f : Nat → Prop) : aF 60 0 f = f 100 := aF_of (by rfl)
theorem aF_61 (f : Nat → Prop) : aF 61 0 f = f 10000 := aF_of (by rfl)
theorem aF_62 (f : Nat → Prop) : aF 62 2 f = f 100 := aF_of (by rfl)
theorem aF_63 (f : Nat → Prop) : aF 63 0 f = f 240 := aF_of (by rfl)
theorem aF_64 (f : Nat → Prop) : aF 64 0 f = f 600 := aF_of (by rfl)
theorem aF_65 (f : Nat → Prop) : aF 65 0 f = f 600 := aF_of (by rfl)
theorem aF_66 (f : Nat → Prop) : aF 66 0 f = f 100 := aF_of (by rfl)
end
section
/-! plain functions that the methods compute -/
def b2i (c : Prop) [Decidable c] : Int := if c then 1 else 0
theorem b2i_0 (c : Prop) [Decidable c] : (b2i c = 0) = ¬ c := by unfold b2i; split <;> simp_all
theorem b2i_1 (c : Prop) [Decidable c] : (b2i c = 1) = c := by unfold b2i; split <;> simp_all
theorem b2i_01 (c : Prop) [Decidable c] : (b2i c = 0 ∨ b2i c = 1) = True := by unfold b2i; split <;> simp
theorem b2i_r (c : Prop) [Decidable c] : rI (b2i c) = True := by unfold b2i rI; split <;> simp
theorem b2i_t {c : Prop} [Decidable c] (h : c) : b2i c = 1 := if_pos h
theorem b2i_f {c : Prop} [Decidable c] (h : ¬ c) : b2i c = 0 := if_neg h
theorem rI_lit0 : rI 0 = True := by simp [rI]
theorem rI_lit1 : rI 1 = True := by simp [rI]
theorem cmpZ_r (x y : Int) : rI (cmpZ x y) = True := by unfold cmpZ rI; split <;> (try split) <;> simp
theorem cmpZ_lt (x y : Int) : (cmpZ x y < 0) = (x < y) := by unfold cmpZ; split <;> (try split) <;> simp <;> omega
theorem cmpZ_le (x y : Int) : (cmpZ x y ≤ 0) = (x ≤ y) := by unfold cmpZ; split <;> (try split) <;> simp <;> omega
theorem cmpZ_gt (x y : Int) : (0 < cmpZ x y) = (y < x) := by unfold cmpZ; split <;> (try split) <;> simp <;> omega
theorem cmpZ_ge (x y : Int) : (0 ≤ cmpZ x y) = (y ≤ x) := by unfold cmpZ; split <;> (try split) <;> simp <;> omega
theorem cmpZ_eq (x y : Int) : (cmpZ x y = 0) = (x = y) := by unfold cmpZ; split <;> (try split) <;> simp <;> omega
theorem zI_natE (x : Int) : (Int32.ofInt x).toBitVec.toNat = (x % 4294967296).toNat := by have := zI_nat x; omega
theorem zL_natE (x : Int) : (Int64.ofInt x).toBitVec.toNat = (x % 18446744073709551616).toNat := by have := zL_nat x; omega
theorem iandZ_mask (x : Int) (k : Nat) (hk : k ≤ 31) : iandZ x (2 ^ k - 1) = x % 2 ^ k := by
  unfold iandZ
  have hp : (1 : Int) ≤ 2 ^ k := Int.pow_pos (by omega)
  have hp2 : (2 : Int) ^ k ≤ 2147483648 := by
    have : (2 : Nat) ^ k ≤ 2 ^ 31 := Nat.pow_le_pow_right (by omega) hk
    have e : ((2 ^ k : Nat) : Int) = 2 ^ k := by rw [Int.natCast_pow]; rfl
    omega
  have hm : (Int32.ofInt (2 ^ k - 1)).toBitVec.toNat = 2 ^ k - 1 := by
    rw [zI_natE, Int.emod_eq_of_lt (by omega) (by omega)]
    have e : ((2 ^ k : Nat) : Int) = 2 ^ k := by rw [Int.natCast_pow]; rfl
    omega
  rw [pk_and _ k hm, zI_natE]
  unfold nI
  rw [← Int32.ofInt_eq_ofNat]
  have e2 : (((x % 4294967296).toNat % 2 ^ k : Nat) : Int) = x % 2 ^ k := by
    rw [Int.natCast_emod, Int.toNat_of_nonneg (Int.emod_nonneg _ (by omega)), Int.natCast_pow]
    show x % 4294967296 % 2 ^ k = _
    apply Int.emod_emod_of_dvd
    have : (2 : Int) ^ k ∣ 2 ^ 32 := ⟨2 ^ (32 - k), by rw [← Int.pow_add, show k + (32 - k) = 32 by omega]⟩
    simpa using this
  rw [e2]
  have h1 := Int.emod_nonneg x (b := 2 ^ k) (by omega)
  have h2 := Int.emod_lt_of_pos x (b := 2 ^ k) (by omega)
  exact zI_toInt (by unfold rI; omega)
theorem iandZ_1 (x : Int) : iandZ x 1 = x % 2 := iandZ_mask x 1 (by omega)
theorem landZ_1 (x : Int) : landZ x 1 = x % 2 := by
  unfold landZ
  apply (Int64.toInt_inj.mpr (_ : _ = Int64.ofInt (x % 2))).trans
  · exact zL_toInt (by unfold rL; omega)
  · apply zL_ext
    have e : (Int64.ofInt x &&& Int64.ofInt 1).toBitVec.toNat = (Int64.ofInt x).toBitVec.toNat % 2 := by
      rw [Int64.toBitVec_and, BitVec.toNat_and]
      show _ &&& 1 = _
      exact Nat.and_one_is_mod _
    rw [e, Int.natCast_emod, zL_nat, zL_nat]
    omega
def bitZ (row : Int) (i : Nat) : Int := row / 2 ^ i % 2
theorem bitZ_01 (row : Int) (i : Nat) : bitZ row i = 0 ∨ bitZ row i = 1 := by unfold bitZ; omega
def stepZ (N : Int) (f : Nat → Int) (s b : Int) : Int := if 0 ≤ s ∧ s < N ∧ 0 ≤ b ∧ b ≤ 1 then f (2 * s + b).toNat else -1
def Wire (N : Int) (f : Nat → Int) : Prop := ∀ π : Nat, (π : Int) < 2 * N → -1 ≤ f π ∧ f π < N
def AllI (w : Nat → Int) (k : Nat) : Prop := ∀ s : Nat, s < k → rI (w s)
def AllB (w : Nat → Int) (N B : Int) : Prop := ∀ s : Nat, (s : Int) < N → 0 ≤ w s ∧ w s ≤ B
def folZ (N : Int) (f : Nat → Int) (row : Int) : Nat → Int → Int
  | 0, s => s
  | n + 1, s => folZ N f row n (stepZ N f s (bitZ row n))
def ladI (N : Int) (f : Nat → Int) (w : Nat → Int) : Nat → Int → Int
  | 0, s => if 0 ≤ s ∧ s < N then w s.toNat else 0
  | r + 1, s => if 0 ≤ s ∧ s < N then ladI N f w r (stepZ N f s 0) + ladI N f w r (stepZ N f s 1) else 0
def LadB (N : Int) (f w : Nat → Int) (n : Int) : Prop := ∀ (r : Nat) (t : Int), (r : Int) ≤ n → 0 ≤ ladI N f w r t ∧ ladI N f w r t < 9223372036854775808
def rnkZ (N : Int) (f w : Nat → Int) (row : Int) : Nat → Int → Int
  | 0, _ => 0
  | n + 1, s => (if bitZ row n = 1 then ladI N f w n (stepZ N f s 0) else 0) + rnkZ N f w row n (stepZ N f s (bitZ row n))
def pckZ (N : Int) (f w : Nat → Int) : Nat → Int → Int → Int
  | 0, _, _ => 0
  | n + 1, s, num => if num < ladI N f w n (stepZ N f s 0) then pckZ N f w n (stepZ N f s 0) num else 2 ^ n + pckZ N f w n (stepZ N f s 1) (num - ladI N f w n (stepZ N f s 0))
def leanF (f : Nat → Int) : Nat → Int
  | 0 => 0
  | n + 1 => leanF f n + (2 * f n - 1)
def sqF (f : Nat → Int) : Nat → Int
  | 0 => 0
  | n + 1 => sqF f n + leanF f (n + 1) * leanF f (n + 1)
def leastF (f : Nat → Int) : Nat → Int
  | 0 => 0
  | n + 1 => min (leastF f n) (leanF f (n + 1))
def greatF (f : Nat → Int) : Nat → Int
  | 0 => 0
  | n + 1 => max (greatF f n) (leanF f (n + 1))
def runF (f : Nat → Int) : Nat → Int
  | 0 => 0
  | n + 1 => if 0 < n ∧ f n = f (n - 1) then runF f n + 1 else 1
def longF (f : Nat → Int) : Nat → Int
  | 0 => 0
  | n + 1 => max (longF f n) (runF f (n + 1))
def turnF (f : Nat → Int) : Nat → Int
  | 0 => 0
  | n + 1 => turnF f n + (if 0 < n ∧ f n ≠ f (n - 1) then 1 else 0)
def digF (f : Nat → Int) (h : Int) : Nat → Int
  | 0 => h
  | n + 1 => 31 * digF f h n + f n
def partF (f : Nat → Int) (sz from_ : Int) : Nat → Int
  | 0 => 0
  | n + 1 => 2 * partF f sz from_ n + (if from_ + n < sz ∧ f (from_ + n).toNat = 1 then 1 else 0)
def unlikeF (f g : Nat → Int) (gs : Int) : Nat → Int
  | 0 => -1
  | n + 1 => if unlikeF f g gs n = -1 then (if n < gs ∧ g n = f n then -1 else n) else unlikeF f g gs n
theorem unlikeF_on (f g : Nat → Int) (gs : Int) (n : Nat) (h : unlikeF f g gs n ≠ -1) : ∀ m, n ≤ m → unlikeF f g gs m = unlikeF f g gs n := by
  intro m hm
  obtain ⟨k, rfl⟩ := Nat.le.dest hm
  induction k with
  | zero => rfl
  | succ k ih =>
    have ih := ih (by omega)
    show unlikeF f g gs (n + k + 1) = _
    rw [unlikeF, ih, if_neg h]
def sumF (f : Nat → Int) : Nat → Int
  | 0 => 0
  | n + 1 => sumF f n + f n
def addF (f : Nat → Int) (row : Int) (sz n c : Int) : Nat → Int := fun j => if sz ≤ j ∧ (j : Int) < sz + c ∧ j < 600 then bitZ row (n - 1 - (j - sz)).toNat else f j
def fillF (f : Nat → Int) (lo hi v : Int) : Nat → Int := fun j => if lo ≤ j ∧ (j : Int) < hi then v else f j
theorem st_ext {σ τ : St} (h : ∀ k j, σ k j = τ k j) : σ = τ := funext fun k => funext fun j => h k j
theorem updR_app (σ : St) (i k : Nat) (f : Nat → Int) (j : Nat) : updR σ i f k j = if k = i then f j else σ k j := by
  unfold updR
  split <;> rfl
theorem up1_app (f : Nat → Int) (j k : Nat) (z : Int) : up1 f j z k = if k = j then z else f k := (rfl)
theorem addF_app (f : Nat → Int) (row sz n c : Int) (j : Nat) : addF f row sz n c j = if sz ≤ j ∧ (j : Int) < sz + c ∧ j < 600 then bitZ row (n - 1 - (j - sz)).toNat else f j := (rfl)
theorem fillF_app (f : Nat → Int) (lo hi v : Int) (j : Nat) : fillF f lo hi v j = if lo ≤ j ∧ (j : Int) < hi then v else f j := (rfl)
def isBits (f : Nat → Int) : Prop := ∀ j, f j = 0 ∨ f j = 1
/-- objects of which there are some: rows of bits, ladders -/
def isT (j : Nat) : Prop := SH[j]? = some (.inl (1, [some (j + 1), none])) ∧ SH[j + 1]? = some (.inr (0, 600))
theorem isT.f0 {j : Nat} (h : isT j) (f : Option Nat → Prop) : oF j 1 0 f = f (some (j + 1)) := oF_of h.1 rfl
theorem isT.f1 {j : Nat} (h : isT j) (f : Option Nat → Prop) : oF j 1 1 f = f none := oF_of h.1 rfl
theorem isT.c {j : Nat} (h : isT j) : oC j 1 = True := oC_of h.1
theorem isT.a {j : Nat} (h : isT j) (f : Nat → Prop) : aF (j + 1) 0 f = f 600 := aF_of h.2
def isL (j : Nat) : Prop := SH[j]? = some (.inl (3, [some (j + 1)])) ∧ SH[j + 1]? = some (.inr (1, 6100))
theorem isL.f0 {j : Nat} (h : isL j) (f : Option Nat → Prop) : oF j 3 0 f = f (some (j + 1)) := oF_of h.1 rfl
theorem isL.c {j : Nat} (h : isL j) : oC j 3 = True := oC_of h.1
theorem isL.a {j : Nat} (h : isL j) (f : Nat → Prop) : aF (j + 1) 1 f = f 6100 := aF_of h.2
theorem updR_o1 (σ : St) (j : Nat) (f : Nat → Int) : updR σ j f (j + 1) = σ (j + 1) := updR_ne _ _ _ _ (by omega)
theorem updR_o2 (σ : St) (j : Nat) (f : Nat → Int) : updR σ (j + 1) f j = σ j := updR_ne _ _ _ _ (by omega)
theorem isT_29 : isT 29 = True := eq_true ⟨rfl, rfl⟩
theorem isT_31 : isT 31 = True := eq_true ⟨rfl, rfl⟩
theorem isT_33 : isT 33 = True := eq_true ⟨rfl, rfl⟩
theorem isT_35 : isT 35 = True := eq_true ⟨rfl, rfl⟩
theorem isL_16 : isL 16 = True := eq_true ⟨rfl, rfl⟩
theorem isL_18 : isL 18 = True := eq_true ⟨rfl, rfl⟩
theorem isL_26 : isL 26 = True := eq_true ⟨rfl, rfl⟩
theorem updR_twice (σ : St) (i : Nat) (f g : Nat → Int) : updR (updR σ i f) i g = updR σ i g := by
  funext k
  unfold updR
  split <;> rfl
theorem updR_self (σ : St) (i : Nat) : updR σ i (σ i) = σ := by
  funext k
  unfold updR
  split
  · next h => rw [h]
  · rfl
theorem updR_swap (σ : St) (i j : Nat) (f g : Nat → Int) (h : i ≠ j) : updR (updR σ i f) j g = updR (updR σ j g) i f := by
  funext k
  unfold updR
  split
  · next h1 => rw [if_neg (by omega)]
  · rfl
end
section
/-! the library's methods; rows of bits -/
theorem up1_fill {f : Nat → Int} {lo i v : Int} (h : lo ≤ i) (h0 : 0 ≤ i) : up1 (fillF f lo i v) i.toNat v = fillF f lo (i + 1) v := by
  funext k
  unfold up1 fillF
  grind
theorem fill_0 {f : Nat → Int} {lo v : Int} : fillF f lo lo v = f := by
  funext k
  unfold fillF
  grind
theorem toNat_s {i : Int} (h : 0 ≤ i) : (i + 1).toNat = i.toNat + 1 := by omega
def s_JM_max : Spec := fun as σ Q => popI as fun x r0 => popI r0 fun y r1 => r1 = [] ∧ (rI x) ∧ (rI y) ∧ Q (some (.inl (max x y))) σ
theorem e_JM_max (x : Int) (y : Int) (σ : St) (Q : Option AV → St → Prop) : s_JM_max [.inl x, .inl y] σ Q = ((rI x) ∧ (rI y) ∧ Q (some (.inl (max x y))) σ) := by
  show ([] = [] ∧ _) = _
  simp only [true_and]
set_option maxHeartbeats 4000000 in
set_option maxRecDepth 20000 in
theorem S_JM_max {l : Launch} : Sat l y_JM_max b_JM_max 2 (some .int) 0 s_JM_max := by
  refine sat_of (Φ := P_JM) (κ := Q_JM) (Γ := []) (rt := 1) (by decide +kernel) (fun _ h => absurd h List.not_mem_nil) Q_JM_ok (fun g hg => absurd hg List.not_mem_nil) (by simp) o_JM_max ?_
  intro as σ Q hh0
  obtain ⟨x, rr0, rfl, hh1⟩ := popI_inv hh0
  obtain ⟨y, rr1, rfl, hh2⟩ := popI_inv hh1
  obtain ⟨hrE, hx, hy, hQ⟩ := hh2
  subst hrE
  clear hh0 hh1
  refine ⟨Nat.le_of_ble_eq_true rfl, [], 14, ?_, cuts0⟩
  · rw [show entL 2 [.inl x, .inl y] = [.inl x, .inl y] from rfl]
    simp only [↓wpN_go, jmp_e, ↓wp_goto, ↓wp_icmp_lt, ↓wp_iload_n0, ↓wp_iload_n1, ↓wp_ireturn1, wp_nil, ↓ldI_0, ↓ldI_s, ↓ldL_0, ↓ldL_s, ↓ldR_0, ↓ldR_s, sto1_0, sto1_1, sto1_s, sto2_0, sto2_1, sto2_s, isLong_i, isLong_l, isLong_r, ↓popI_c, ↓popL_c, ↓popR_c, ↓popN_0, ↓popN_s, catS_n, catS_c, psh_s, psh_n, fldV_n, fldV_s, ↓tgt_e, sw_n, ↓sw_c, ↓lk1_h, ↓lk1_m, ↓atC_h, ↓atC_m, ↓atC_n, ltO_n, ltO_s, updR_eq, updR_ne, gI_0i, gI_0l, gI_s, ltM_iff, List.cons.injEq, Sum.inl.injEq, Sum.inr.injEq, Option.some.injEq, exists_eq_left, exists_eq_left', exists_eq_right, exists_eq_right', exists_and_left, exists_and_right, exists_eq, exists_const, and_assoc, ↓j_JM_max_0, ↓j_JM_max_9, ↓j_JM_max_10, List.length_cons, List.length_nil, Nat.zero_add, Nat.reduceAdd, Int.reduceAdd, Int.reduceNeg, Int.reduceToNat, Int.reduceLE, Int.reduceLT, true_and, and_true, Nat.reduceLT, reduceIte, Nat.reduceEqDiff, ne_eq, not_false_eq_true, false_implies, true_implies, Bool.false_eq_true, reduceCtorEq, List.cons_append, List.nil_append, Nat.reduceSub, Nat.reduceLeDiff, Fin.isValue, Int.reduceNatCast', Int.zero_add, Int.add_zero, decide_true, decide_false, implies_true, forall_const, true_or, or_true, or_false, false_or, false_and, and_false, Int.toNat_natCast, oC_0, oC_1, oC_4, oC_11, oC_16, oC_18, oC_20, oC_23, oC_25, oC_26, oC_29, oC_31, oC_33, oC_35, oC_37, isT_29, isT_31, isT_33, isT_35, isL_16, isL_18, isL_26]
    grind
def s_JM_min : Spec := fun as σ Q => popI as fun x r0 => popI r0 fun y r1 => r1 = [] ∧ (rI x) ∧ (rI y) ∧ Q (some (.inl (min x y))) σ
theorem e_JM_min (x : Int) (y : Int) (σ : St) (Q : Option AV → St → Prop) : s_JM_min [.inl x, .inl y] σ Q = ((rI x) ∧ (rI y) ∧ Q (some (.inl (min x y))) σ) := by
  show ([] = [] ∧ _) = _
  simp only [true_and]
set_option maxHeartbeats 4000000 in
set_option maxRecDepth 20000 in
theorem S_JM_min {l : Launch} : Sat l y_JM_min b_JM_min 2 (some .int) 0 s_JM_min := by
  refine sat_of (Φ := P_JM) (κ := Q_JM) (Γ := []) (rt := 1) (by decide +kernel) (fun _ h => absurd h List.not_mem_nil) Q_JM_ok (fun g hg => absurd hg List.not_mem_nil) (by simp) o_JM_min ?_
  intro as σ Q hh0
  obtain ⟨x, rr0, rfl, hh1⟩ := popI_inv hh0
  obtain ⟨y, rr1, rfl, hh2⟩ := popI_inv hh1
  obtain ⟨hrE, hx, hy, hQ⟩ := hh2
  subst hrE
  clear hh0 hh1
  refine ⟨Nat.le_of_ble_eq_true rfl, [], 14, ?_, cuts0⟩
  · rw [show entL 2 [.inl x, .inl y] = [.inl x, .inl y] from rfl]
    simp only [↓wpN_go, jmp_e, ↓wp_goto, ↓wp_icmp_gt, ↓wp_iload_n0, ↓wp_iload_n1, ↓wp_ireturn1, wp_nil, ↓ldI_0, ↓ldI_s, ↓ldL_0, ↓ldL_s, ↓ldR_0, ↓ldR_s, sto1_0, sto1_1, sto1_s, sto2_0, sto2_1, sto2_s, isLong_i, isLong_l, isLong_r, ↓popI_c, ↓popL_c, ↓popR_c, ↓popN_0, ↓popN_s, catS_n, catS_c, psh_s, psh_n, fldV_n, fldV_s, ↓tgt_e, sw_n, ↓sw_c, ↓lk1_h, ↓lk1_m, ↓atC_h, ↓atC_m, ↓atC_n, ltO_n, ltO_s, updR_eq, updR_ne, gI_0i, gI_0l, gI_s, ltM_iff, List.cons.injEq, Sum.inl.injEq, Sum.inr.injEq, Option.some.injEq, exists_eq_left, exists_eq_left', exists_eq_right, exists_eq_right', exists_and_left, exists_and_right, exists_eq, exists_const, and_assoc, ↓j_JM_min_0, ↓j_JM_min_9, ↓j_JM_min_10, List.length_cons, List.length_nil, Nat.zero_add, Nat.reduceAdd, Int.reduceAdd, Int.reduceNeg, Int.reduceToNat, Int.reduceLE, Int.reduceLT, true_and, and_true, Nat.reduceLT, reduceIte, Nat.reduceEqDiff, ne_eq, not_false_eq_true, false_implies, true_implies, Bool.false_eq_true, reduceCtorEq, List.cons_append, List.nil_append, Nat.reduceSub, Nat.reduceLeDiff, Fin.isValue, Int.reduceNatCast', Int.zero_add, Int.add_zero, decide_true, decide_false, implies_true, forall_const, true_or, or_true, or_false, false_or, false_and, and_false, Int.toNat_natCast, oC_0, oC_1, oC_4, oC_11, oC_16, oC_18, oC_20, oC_23, oC_25, oC_26, oC_29, oC_31, oC_33, oC_35, oC_37, isT_29, isT_31, isT_33, isT_35, isL_16, isL_18, isL_26]
    grind
def s_JA_fillI : Spec := fun as σ Q => popR as fun a r0 => popI r0 fun v r1 => r1 = [] ∧ aF a 0 fun n => Q none (updR σ a (fillF (σ a) 0 n v))
theorem e_JA_fillI (a : Nat) (v : Int) (σ : St) (Q : Option AV → St → Prop) : s_JA_fillI [.inr (.inr (some a)), .inl v] σ Q = (aF a 0 fun n => Q none (updR σ a (fillF (σ a) 0 n v))) := by
  show ([] = [] ∧ _) = _
  simp only [true_and]
set_option maxHeartbeats 4000000 in
set_option maxRecDepth 20000 in
theorem S_JA_fillI {l : Launch} : Sat l y_JA_fillI b_JA_fillI 4 none 0 s_JA_fillI := by
  refine sat_of (Φ := P_JA) (κ := Q_JA) (Γ := []) (rt := 0) (by decide +kernel) (fun _ h => absurd h List.not_mem_nil) Q_JA_ok (fun g hg => absurd hg List.not_mem_nil) (by simp) o_JA_fillI ?_
  intro as σ Q hh0
  obtain ⟨a, rr0, rfl, hh1⟩ := popR_inv hh0
  obtain ⟨v, rr1, rfl, hh2⟩ := popI_inv hh1
  obtain ⟨hrE, hQ⟩ := hh2
  subst hrE
  clear hh0 hh1
  obtain ⟨n, hn, hQ⟩ := aF_inv hQ
  have hle := SH_le hn
  refine ⟨Nat.le_of_ble_eq_true rfl, [(5, mkC (fun L st u => ∃ (i n2 : Int), L = [.inr (.inr (some a)), .inl v, .inl i, .inl n2] ∧ st = [] ∧ (0 ≤ i ∧ i ≤ n) ∧ (n2 = n) ∧ (u = updR σ a (fillF (σ a) 0 i v))) (fun L st u => ((n - gI L 2).toNat, 0, 0)))], 14, ?_, cuts1 ?_ (cuts0)⟩
  · rw [show entL 4 [.inr (.inr (some a)), .inl v] = [.inr (.inr (some a)), .inl v, .inr (.inr none), .inr (.inr none)] from rfl]
    simp only [↓wpN_go, jmp_e, ↓wp_aload_n0, ↓wp_arraylength, ↓wp_goto, ↓wp_iastore, ↓wp_icmp_ge, ↓wp_iconst, ↓wp_iinc, ↓wp_iload_n1, ↓wp_iload_n2, ↓wp_iload_n3, ↓wp_istore_n2, ↓wp_istore_n3, ↓wp_return0, wp_nil, ↓ldI_0, ↓ldI_s, ↓ldL_0, ↓ldL_s, ↓ldR_0, ↓ldR_s, sto1_0, sto1_1, sto1_s, sto2_0, sto2_1, sto2_s, isLong_i, isLong_l, isLong_r, ↓popI_c, ↓popL_c, ↓popR_c, ↓popN_0, ↓popN_s, catS_n, catS_c, psh_s, psh_n, fldV_n, fldV_s, ↓tgt_e, sw_n, ↓sw_c, ↓lk1_h, ↓lk1_m, ↓atC_h, ↓atC_m, ↓atC_n, ltO_n, ltO_s, updR_eq, updR_ne, gI_0i, gI_0l, gI_s, ltM_iff, List.cons.injEq, Sum.inl.injEq, Sum.inr.injEq, Option.some.injEq, exists_eq_left, exists_eq_left', exists_eq_right, exists_eq_right', exists_and_left, exists_and_right, exists_eq, exists_const, and_assoc, ↓j_JA_fillI_0, ↓j_JA_fillI_5, ↓j_JA_fillI_20, List.length_cons, List.length_nil, Nat.zero_add, Nat.reduceAdd, Int.reduceAdd, Int.reduceNeg, Int.reduceToNat, Int.reduceLE, Int.reduceLT, true_and, and_true, Nat.reduceLT, reduceIte, Nat.reduceEqDiff, ne_eq, not_false_eq_true, false_implies, true_implies, Bool.false_eq_true, reduceCtorEq, List.cons_append, List.nil_append, Nat.reduceSub, Nat.reduceLeDiff, Fin.isValue, Int.reduceNatCast', Int.zero_add, Int.add_zero, decide_true, decide_false, implies_true, forall_const, true_or, or_true, or_false, false_or, false_and, and_false, Int.toNat_natCast, oC_0, oC_1, oC_4, oC_11, oC_16, oC_18, oC_20, oC_23, oC_25, oC_26, oC_29, oC_31, oC_33, oC_35, oC_37, isT_29, isT_31, isT_33, isT_35, isL_16, isL_18, isL_26, ↓aF_of hn, ↓aN_of hn (Or.inl rfl)]
    rw [fill_0, updR_self]
    grind
  · intro L st u hI
    obtain ⟨i, n2, rfl, rfl, hi, h2, hu⟩ := hI
    simp only [↓wpN_go, jmp_e, ↓wp_aload_n0, ↓wp_arraylength, ↓wp_goto, ↓wp_iastore, ↓wp_icmp_ge, ↓wp_iconst, ↓wp_iinc, ↓wp_iload_n1, ↓wp_iload_n2, ↓wp_iload_n3, ↓wp_istore_n2, ↓wp_istore_n3, ↓wp_return0, wp_nil, ↓ldI_0, ↓ldI_s, ↓ldL_0, ↓ldL_s, ↓ldR_0, ↓ldR_s, sto1_0, sto1_1, sto1_s, sto2_0, sto2_1, sto2_s, isLong_i, isLong_l, isLong_r, ↓popI_c, ↓popL_c, ↓popR_c, ↓popN_0, ↓popN_s, catS_n, catS_c, psh_s, psh_n, fldV_n, fldV_s, ↓tgt_e, sw_n, ↓sw_c, ↓lk1_h, ↓lk1_m, ↓atC_h, ↓atC_m, ↓atC_n, ltO_n, ltO_s, updR_eq, updR_ne, gI_0i, gI_0l, gI_s, ltM_iff, List.cons.injEq, Sum.inl.injEq, Sum.inr.injEq, Option.some.injEq, exists_eq_left, exists_eq_left', exists_eq_right, exists_eq_right', exists_and_left, exists_and_right, exists_eq, exists_const, and_assoc, ↓j_JA_fillI_0, ↓j_JA_fillI_5, ↓j_JA_fillI_20, List.length_cons, List.length_nil, Nat.zero_add, Nat.reduceAdd, Int.reduceAdd, Int.reduceNeg, Int.reduceToNat, Int.reduceLE, Int.reduceLT, true_and, and_true, Nat.reduceLT, reduceIte, Nat.reduceEqDiff, ne_eq, not_false_eq_true, false_implies, true_implies, Bool.false_eq_true, reduceCtorEq, List.cons_append, List.nil_append, Nat.reduceSub, Nat.reduceLeDiff, Fin.isValue, Int.reduceNatCast', Int.zero_add, Int.add_zero, decide_true, decide_false, implies_true, forall_const, true_or, or_true, or_false, false_or, false_and, and_false, Int.toNat_natCast, oC_0, oC_1, oC_4, oC_11, oC_16, oC_18, oC_20, oC_23, oC_25, oC_26, oC_29, oC_31, oC_33, oC_35, oC_37, isT_29, isT_31, isT_33, isT_35, isL_16, isL_18, isL_26, ↓aF_of hn, ↓aN_of hn (Or.inl rfl)]
    subst hu h2
    simp only [updR_eq, updR_twice, up1_fill hi.1 hi.1]
    grind [rI_iff]
def s_JA_rangeCheck : Spec := fun as σ Q => popI as fun n r0 => popI r0 fun x r1 => popI r1 fun y r2 => r2 = [] ∧ (0 ≤ x) ∧ (x ≤ y) ∧ (y ≤ n) ∧ (n ≤ 2147483647) ∧ Q none σ
theorem e_JA_rangeCheck (n : Int) (x : Int) (y : Int) (σ : St) (Q : Option AV → St → Prop) : s_JA_rangeCheck [.inl n, .inl x, .inl y] σ Q = ((0 ≤ x) ∧ (x ≤ y) ∧ (y ≤ n) ∧ (n ≤ 2147483647) ∧ Q none σ) := by
  show ([] = [] ∧ _) = _
  simp only [true_and]
set_option maxHeartbeats 4000000 in
set_option maxRecDepth 20000 in
theorem S_JA_rangeCheck {l : Launch} : Sat l y_JA_rangeCheck b_JA_rangeCheck 3 none 0 s_JA_rangeCheck := by
  refine sat_of (Φ := P_JA) (κ := Q_JA) (Γ := []) (rt := 0) (by decide +kernel) (fun _ h => absurd h List.not_mem_nil) Q_JA_ok (fun g hg => absurd hg List.not_mem_nil) (by simp) o_JA_rangeCheck ?_
  intro as σ Q hh0
  obtain ⟨n, rr0, rfl, hh1⟩ := popI_inv hh0
  obtain ⟨x, rr1, rfl, hh2⟩ := popI_inv hh1
  obtain ⟨y, rr2, rfl, hh3⟩ := popI_inv hh2
  obtain ⟨hrE, h1, h2, h3, h4, hQ⟩ := hh3
  subst hrE
  clear hh0 hh1 hh2
  refine ⟨Nat.le_of_ble_eq_true rfl, [], 14, ?_, cuts0⟩
  · rw [show entL 3 [.inl n, .inl x, .inl y] = [.inl n, .inl x, .inl y] from rfl]
    simp only [↓wpN_go, jmp_e, ↓wp_dup, ↓wp_icmp_le, ↓wp_if_ge, ↓wp_iload_n0, ↓wp_iload_n1, ↓wp_iload_n2, ↓wp_invokevirtual, ↓wp_ldc, ↓wp_return0, wp_nil, ↓ldI_0, ↓ldI_s, ↓ldL_0, ↓ldL_s, ↓ldR_0, ↓ldR_s, sto1_0, sto1_1, sto1_s, sto2_0, sto2_1, sto2_s, isLong_i, isLong_l, isLong_r, ↓popI_c, ↓popL_c, ↓popR_c, ↓popN_0, ↓popN_s, catS_n, catS_c, psh_s, psh_n, fldV_n, fldV_s, ↓tgt_e, sw_n, ↓sw_c, ↓lk1_h, ↓lk1_m, ↓atC_h, ↓atC_m, ↓atC_n, ltO_n, ltO_s, updR_eq, updR_ne, gI_0i, gI_0l, gI_s, ltM_iff, List.cons.injEq, Sum.inl.injEq, Sum.inr.injEq, Option.some.injEq, exists_eq_left, exists_eq_left', exists_eq_right, exists_eq_right', exists_and_left, exists_and_right, exists_eq, exists_const, and_assoc, ↓j_JA_rangeCheck_0, ↓j_JA_rangeCheck_46, ↓j_JA_rangeCheck_59, ↓j_JA_rangeCheck_73, List.length_cons, List.length_nil, Nat.zero_add, Nat.reduceAdd, Int.reduceAdd, Int.reduceNeg, Int.reduceToNat, Int.reduceLE, Int.reduceLT, true_and, and_true, Nat.reduceLT, reduceIte, Nat.reduceEqDiff, ne_eq, not_false_eq_true, false_implies, true_implies, Bool.false_eq_true, reduceCtorEq, List.cons_append, List.nil_append, Nat.reduceSub, Nat.reduceLeDiff, Fin.isValue, Int.reduceNatCast', Int.zero_add, Int.add_zero, decide_true, decide_false, implies_true, forall_const, true_or, or_true, or_false, false_or, false_and, and_false, Int.toNat_natCast, oC_0, oC_1, oC_4, oC_11, oC_16, oC_18, oC_20, oC_23, oC_25, oC_26, oC_29, oC_31, oC_33, oC_35, oC_37, isT_29, isT_31, isT_33, isT_35, isL_16, isL_18, isL_26]
    grind [rI_iff]
def s_JA_fillL : Spec := fun as σ Q => popR as fun a r0 => popI r0 fun lo r1 => popI r1 fun hi r2 => popL r2 fun v r3 => r3 = [] ∧ (0 ≤ lo) ∧ (lo ≤ hi) ∧ aF a 1 fun n => hi ≤ (n : Int) ∧ Q none (updR σ a (fillF (σ a) lo hi v))
theorem e_JA_fillL (a : Nat) (lo : Int) (hi : Int) (v : Int) (σ : St) (Q : Option AV → St → Prop) : s_JA_fillL [.inr (.inr (some a)), .inl lo, .inl hi, .inr (.inl v)] σ Q = ((0 ≤ lo) ∧ (lo ≤ hi) ∧ aF a 1 fun n => hi ≤ (n : Int) ∧ Q none (updR σ a (fillF (σ a) lo hi v))) := by
  show ([] = [] ∧ _) = _
  simp only [true_and]
set_option maxHeartbeats 4000000 in
set_option maxRecDepth 20000 in
theorem S_JA_fillL {l : Launch} : Sat l y_JA_fillL b_JA_fillL 6 none 1 s_JA_fillL := by
  refine sat_of (Φ := P_JA) (κ := Q_JA) (Γ := [(13, 0, 3, s_JA_rangeCheck)]) (rt := 0) (by decide +kernel) (fun _ h => absurd h List.not_mem_nil) Q_JA_ok (by
    refine List.forall_mem_cons.mpr ⟨?_, fun _ h => absurd h List.not_mem_nil⟩
    · exact m_JA_rangeCheck S_JA_rangeCheck (by decide) l_JA_13) (by simp) o_JA_fillL ?_
  intro as σ Q hh0
  obtain ⟨a, rr0, rfl, hh1⟩ := popR_inv hh0
  obtain ⟨lo, rr1, rfl, hh2⟩ := popI_inv hh1
  obtain ⟨hi, rr2, rfl, hh3⟩ := popI_inv hh2
  obtain ⟨v, rr3, rfl, hh4⟩ := popL_inv hh3
  obtain ⟨hrE, h1, h2, hQ⟩ := hh4
  subst hrE
  clear hh0 hh1 hh2 hh3
  obtain ⟨n, hn, h3, hQ⟩ := aF_inv hQ
  have hle := SH_le hn
  refine ⟨Nat.le_of_ble_eq_true rfl, [(10, mkC (fun L st u => ∃ (i : Int), L = [.inr (.inr (some a)), .inl lo, .inl hi, .inr (.inl v), .inr (.inr none), .inl i] ∧ st = [] ∧ (lo ≤ i ∧ i ≤ hi) ∧ (u = updR σ a (fillF (σ a) lo i v))) (fun L st u => ((hi - gI L 5).toNat, 0, 0)))], 14, ?_, cuts1 ?_ (cuts0)⟩
  · rw [show entL 6 [.inr (.inr (some a)), .inl lo, .inl hi, .inr (.inl v)] = [.inr (.inr (some a)), .inl lo, .inl hi, .inr (.inl v), .inr (.inr none), .inr (.inr none)] from rfl]
    simp only [↓wpN_go, jmp_e, ↓wp_aload_n0, ↓wp_arraylength, ↓wp_goto, ↓wp_icmp_ge, ↓wp_iinc, ↓wp_iload, ↓wp_iload_n1, ↓wp_iload_n2, ↓wp_invokestatic, ↓wp_istore, ↓wp_lastore, ↓wp_lload_n3, ↓wp_return0, wp_nil, ↓ldI_0, ↓ldI_s, ↓ldL_0, ↓ldL_s, ↓ldR_0, ↓ldR_s, sto1_0, sto1_1, sto1_s, sto2_0, sto2_1, sto2_s, isLong_i, isLong_l, isLong_r, ↓popI_c, ↓popL_c, ↓popR_c, ↓popN_0, ↓popN_s, catS_n, catS_c, psh_s, psh_n, fldV_n, fldV_s, ↓tgt_e, sw_n, ↓sw_c, ↓lk1_h, ↓lk1_m, ↓atC_h, ↓atC_m, ↓atC_n, ltO_n, ltO_s, updR_eq, updR_ne, gI_0i, gI_0l, gI_s, ltM_iff, List.cons.injEq, Sum.inl.injEq, Sum.inr.injEq, Option.some.injEq, exists_eq_left, exists_eq_left', exists_eq_right, exists_eq_right', exists_and_left, exists_and_right, exists_eq, exists_const, and_assoc, ↓j_JA_fillL_0, ↓j_JA_fillL_10, ↓j_JA_fillL_27, List.length_cons, List.length_nil, Nat.zero_add, Nat.reduceAdd, Int.reduceAdd, Int.reduceNeg, Int.reduceToNat, Int.reduceLE, Int.reduceLT, true_and, and_true, Nat.reduceLT, reduceIte, Nat.reduceEqDiff, ne_eq, not_false_eq_true, false_implies, true_implies, Bool.false_eq_true, reduceCtorEq, List.cons_append, List.nil_append, Nat.reduceSub, Nat.reduceLeDiff, Fin.isValue, Int.reduceNatCast', Int.zero_add, Int.add_zero, decide_true, decide_false, implies_true, forall_const, true_or, or_true, or_false, false_or, false_and, and_false, Int.toNat_natCast, oC_0, oC_1, oC_4, oC_11, oC_16, oC_18, oC_20, oC_23, oC_25, oC_26, oC_29, oC_31, oC_33, oC_35, oC_37, isT_29, isT_31, isT_33, isT_35, isL_16, isL_18, isL_26, ↓aF_of hn, ↓aN_of hn (Or.inr (Or.inl rfl)), ↓e_JA_rangeCheck]
    rw [fill_0, updR_self]
    grind
  · intro L st u hI
    obtain ⟨i, rfl, rfl, hi, hu⟩ := hI
    simp only [↓wpN_go, jmp_e, ↓wp_aload_n0, ↓wp_arraylength, ↓wp_goto, ↓wp_icmp_ge, ↓wp_iinc, ↓wp_iload, ↓wp_iload_n1, ↓wp_iload_n2, ↓wp_invokestatic, ↓wp_istore, ↓wp_lastore, ↓wp_lload_n3, ↓wp_return0, wp_nil, ↓ldI_0, ↓ldI_s, ↓ldL_0, ↓ldL_s, ↓ldR_0, ↓ldR_s, sto1_0, sto1_1, sto1_s, sto2_0, sto2_1, sto2_s, isLong_i, isLong_l, isLong_r, ↓popI_c, ↓popL_c, ↓popR_c, ↓popN_0, ↓popN_s, catS_n, catS_c, psh_s, psh_n, fldV_n, fldV_s, ↓tgt_e, sw_n, ↓sw_c, ↓lk1_h, ↓lk1_m, ↓atC_h, ↓atC_m, ↓atC_n, ltO_n, ltO_s, updR_eq, updR_ne, gI_0i, gI_0l, gI_s, ltM_iff, List.cons.injEq, Sum.inl.injEq, Sum.inr.injEq, Option.some.injEq, exists_eq_left, exists_eq_left', exists_eq_right, exists_eq_right', exists_and_left, exists_and_right, exists_eq, exists_const, and_assoc, ↓j_JA_fillL_0, ↓j_JA_fillL_10, ↓j_JA_fillL_27, List.length_cons, List.length_nil, Nat.zero_add, Nat.reduceAdd, Int.reduceAdd, Int.reduceNeg, Int.reduceToNat, Int.reduceLE, Int.reduceLT, true_and, and_true, Nat.reduceLT, reduceIte, Nat.reduceEqDiff, ne_eq, not_false_eq_true, false_implies, true_implies, Bool.false_eq_true, reduceCtorEq, List.cons_append, List.nil_append, Nat.reduceSub, Nat.reduceLeDiff, Fin.isValue, Int.reduceNatCast', Int.zero_add, Int.add_zero, decide_true, decide_false, implies_true, forall_const, true_or, or_true, or_false, false_or, false_and, and_false, Int.toNat_natCast, oC_0, oC_1, oC_4, oC_11, oC_16, oC_18, oC_20, oC_23, oC_25, oC_26, oC_29, oC_31, oC_33, oC_35, oC_37, isT_29, isT_31, isT_33, isT_35, isL_16, isL_18, isL_26, ↓aF_of hn, ↓aN_of hn (Or.inr (Or.inl rfl)), ↓e_JA_rangeCheck]
    subst hu
    have h0 : 0 ≤ i := by omega
    simp only [updR_eq, updR_twice, up1_fill hi.1 h0]
    grind [rI_iff]
end
section
/-! rows of bits -/
def s_T_size : Spec := fun as σ Q => popR as fun o r0 => r0 = [] ∧ (isT o) ∧ Q (some (.inl (σ o 1))) σ
theorem e_T_size (o : Nat) (σ : St) (Q : Option AV → St → Prop) : s_T_size [.inr (.inr (some o))] σ Q = ((isT o) ∧ Q (some (.inl (σ o 1))) σ) := by
  show ([] = [] ∧ _) = _
  simp only [true_and]
set_option maxHeartbeats 4000000 in
set_option maxRecDepth 20000 in
theorem S_T_size {l : Launch} : Sat l y_T_size b_T_size 1 (some .int) 0 s_T_size := by
  refine sat_of (Φ := P_T) (κ := Q_T) (Γ := []) (rt := 1) (by decide +kernel) P_T_ok Q_T_ok (fun g hg => absurd hg List.not_mem_nil) (by simp) o_T_size ?_
  intro as σ Q hh0
  obtain ⟨o, rr0, rfl, hh1⟩ := popR_inv hh0
  obtain ⟨hrE, hT, hQ⟩ := hh1
  subst hrE
  clear hh0
  refine ⟨Nat.le_of_ble_eq_true rfl, [], 14, ?_, cuts0⟩
  · rw [show entL 1 [.inr (.inr (some o))] = [.inr (.inr (some o))] from rfl]
    simp only [↓wpN_go, jmp_e, ↓wp_aload_n0, ↓wp_getfield, ↓wp_ireturn1, wp_nil, ↓ldI_0, ↓ldI_s, ↓ldL_0, ↓ldL_s, ↓ldR_0, ↓ldR_s, sto1_0, sto1_1, sto1_s, sto2_0, sto2_1, sto2_s, isLong_i, isLong_l, isLong_r, ↓popI_c, ↓popL_c, ↓popR_c, ↓popN_0, ↓popN_s, catS_n, catS_c, psh_s, psh_n, fldV_n, fldV_s, ↓tgt_e, sw_n, ↓sw_c, ↓lk1_h, ↓lk1_m, ↓atC_h, ↓atC_m, ↓atC_n, ltO_n, ltO_s, updR_eq, updR_ne, gI_0i, gI_0l, gI_s, ltM_iff, List.cons.injEq, Sum.inl.injEq, Sum.inr.injEq, Option.some.injEq, exists_eq_left, exists_eq_left', exists_eq_right, exists_eq_right', exists_and_left, exists_and_right, exists_eq, exists_const, and_assoc, ↓j_T_size_0, ↓f_T_15, List.length_cons, List.length_nil, Nat.zero_add, Nat.reduceAdd, Int.reduceAdd, Int.reduceNeg, Int.reduceToNat, Int.reduceLE, Int.reduceLT, true_and, and_true, Nat.reduceLT, reduceIte, Nat.reduceEqDiff, ne_eq, not_false_eq_true, false_implies, true_implies, Bool.false_eq_true, reduceCtorEq, List.cons_append, List.nil_append, Nat.reduceSub, Nat.reduceLeDiff, Fin.isValue, Int.reduceNatCast', Int.zero_add, Int.add_zero, decide_true, decide_false, implies_true, forall_const, true_or, or_true, or_false, false_or, false_and, and_false, Int.toNat_natCast, oC_0, oC_1, oC_4, oC_11, oC_16, oC_18, oC_20, oC_23, oC_25, oC_26, oC_29, oC_31, oC_33, oC_35, oC_37, isT_29, isT_31, isT_33, isT_35, isL_16, isL_18, isL_26, ↓hT.f0, ↓hT.f1, ↓hT.a, hT.c, updR_o1, updR_o2, iandZ_1, eq_true hT]
    (try simp only [rI_iff, rL_iff] at *)
    repeat' (first | assumption | apply And.intro | intro _)
    all_goals first
      | omega
      | (refine st_ext fun k j => ?_; grind [updR_app, up1_app])
      | (refine Q_eq hQ ?_ ?_ <;> first | rfl | (refine st_ext fun k j => ?_; grind [updR_app, up1_app]) | grind [updR_app, up1_app])
      | grind [updR_app, up1_app]
def s_T_at : Spec := fun as σ Q => popR as fun o r0 => popI r0 fun i r1 => r1 = [] ∧ (isT o) ∧ (rI i) ∧ (0 ≤ σ o 1 ∧ σ o 1 ≤ 600) ∧ Q (some (.inl (if 0 ≤ i ∧ i < σ o 1 then σ (o + 1) i.toNat else -2))) σ
theorem e_T_at (o : Nat) (i : Int) (σ : St) (Q : Option AV → St → Prop) : s_T_at [.inr (.inr (some o)), .inl i] σ Q = ((isT o) ∧ (rI i) ∧ (0 ≤ σ o 1 ∧ σ o 1 ≤ 600) ∧ Q (some (.inl (if 0 ≤ i ∧ i < σ o 1 then σ (o + 1) i.toNat else -2))) σ) := by
  show ([] = [] ∧ _) = _
  simp only [true_and]
set_option maxHeartbeats 4000000 in
set_option maxRecDepth 20000 in
theorem S_T_at {l : Launch} : Sat l y_T_at b_T_at 2 (some .int) 0 s_T_at := by
  refine sat_of (Φ := P_T) (κ := Q_T) (Γ := []) (rt := 1) (by decide +kernel) P_T_ok Q_T_ok (fun g hg => absurd hg List.not_mem_nil) (by simp) o_T_at ?_
  intro as σ Q hh0
  obtain ⟨o, rr0, rfl, hh1⟩ := popR_inv hh0
  obtain ⟨i, rr1, rfl, hh2⟩ := popI_inv hh1
  obtain ⟨hrE, hT, hi, hs, hQ⟩ := hh2
  subst hrE
  clear hh0 hh1
  refine ⟨Nat.le_of_ble_eq_true rfl, [], 14, ?_, cuts0⟩
  · rw [show entL 2 [.inr (.inr (some o)), .inl i] = [.inr (.inr (some o)), .inl i] from rfl]
    simp only [↓wpN_go, jmp_e, ↓wp_aload_n0, ↓wp_bipush, ↓wp_getfield, ↓wp_goto, ↓wp_iaload, ↓wp_icmp_ge, ↓wp_if_lt, ↓wp_iload_n1, ↓wp_ireturn1, wp_nil, ↓ldI_0, ↓ldI_s, ↓ldL_0, ↓ldL_s, ↓ldR_0, ↓ldR_s, sto1_0, sto1_1, sto1_s, sto2_0, sto2_1, sto2_s, isLong_i, isLong_l, isLong_r, ↓popI_c, ↓popL_c, ↓popR_c, ↓popN_0, ↓popN_s, catS_n, catS_c, psh_s, psh_n, fldV_n, fldV_s, ↓tgt_e, sw_n, ↓sw_c, ↓lk1_h, ↓lk1_m, ↓atC_h, ↓atC_m, ↓atC_n, ltO_n, ltO_s, updR_eq, updR_ne, gI_0i, gI_0l, gI_s, ltM_iff, List.cons.injEq, Sum.inl.injEq, Sum.inr.injEq, Option.some.injEq, exists_eq_left, exists_eq_left', exists_eq_right, exists_eq_right', exists_and_left, exists_and_right, exists_eq, exists_const, and_assoc, ↓j_T_at_0, ↓j_T_at_21, ↓j_T_at_23, ↓f_T_15, ↓f_T_9, List.length_cons, List.length_nil, Nat.zero_add, Nat.reduceAdd, Int.reduceAdd, Int.reduceNeg, Int.reduceToNat, Int.reduceLE, Int.reduceLT, true_and, and_true, Nat.reduceLT, reduceIte, Nat.reduceEqDiff, ne_eq, not_false_eq_true, false_implies, true_implies, Bool.false_eq_true, reduceCtorEq, List.cons_append, List.nil_append, Nat.reduceSub, Nat.reduceLeDiff, Fin.isValue, Int.reduceNatCast', Int.zero_add, Int.add_zero, decide_true, decide_false, implies_true, forall_const, true_or, or_true, or_false, false_or, false_and, and_false, Int.toNat_natCast, oC_0, oC_1, oC_4, oC_11, oC_16, oC_18, oC_20, oC_23, oC_25, oC_26, oC_29, oC_31, oC_33, oC_35, oC_37, isT_29, isT_31, isT_33, isT_35, isL_16, isL_18, isL_26, ↓hT.f0, ↓hT.f1, ↓hT.a, hT.c, updR_o1, updR_o2, iandZ_1, eq_true hT]
    (try simp only [rI_iff, rL_iff] at *)
    repeat' (first | assumption | apply And.intro | intro _)
    all_goals first
      | omega
      | (refine st_ext fun k j => ?_; grind [updR_app, up1_app])
      | (refine Q_eq hQ ?_ ?_ <;> first | rfl | (refine st_ext fun k j => ?_; grind [updR_app, up1_app]) | grind [updR_app, up1_app])
      | grind [updR_app, up1_app]
def s_T_add : Spec := fun as σ Q => popR as fun o r0 => popL r0 fun row r1 => popI r1 fun n r2 => r2 = [] ∧ (isT o) ∧ (0 ≤ n ∧ n ≤ 60) ∧ (rL row) ∧ (0 ≤ σ o 1 ∧ σ o 1 ≤ 600) ∧ Q none (updR (updR σ (o + 1) (addF (σ (o + 1)) row (σ o 1) n n)) o (up1 (σ o) 1 (min 600 (σ o 1 + n))))
theorem e_T_add (o : Nat) (row : Int) (n : Int) (σ : St) (Q : Option AV → St → Prop) : s_T_add [.inr (.inr (some o)), .inr (.inl row), .inl n] σ Q = ((isT o) ∧ (0 ≤ n ∧ n ≤ 60) ∧ (rL row) ∧ (0 ≤ σ o 1 ∧ σ o 1 ≤ 600) ∧ Q none (updR (updR σ (o + 1) (addF (σ (o + 1)) row (σ o 1) n n)) o (up1 (σ o) 1 (min 600 (σ o 1 + n))))) := by
  show ([] = [] ∧ _) = _
  simp only [true_and]
set_option maxHeartbeats 4000000 in
set_option maxRecDepth 20000 in
theorem S_T_add {l : Launch} : Sat l y_T_add b_T_add 5 none 0 s_T_add := by
  refine sat_of (Φ := P_T) (κ := Q_T) (Γ := []) (rt := 0) (by decide +kernel) P_T_ok Q_T_ok (fun g hg => absurd hg List.not_mem_nil) (by simp) o_T_add ?_
  intro as σ Q hh0
  obtain ⟨o, rr0, rfl, hh1⟩ := popR_inv hh0
  obtain ⟨row, rr1, rfl, hh2⟩ := popL_inv hh1
  obtain ⟨n, rr2, rfl, hh3⟩ := popI_inv hh2
  obtain ⟨hrE, hT, hn, hrow, hs, hQ⟩ := hh3
  subst hrE
  clear hh0 hh1 hh2
  refine ⟨Nat.le_of_ble_eq_true rfl, [(5, mkC (fun L st u => ∃ (i : Int), L = [.inr (.inr (some o)), .inr (.inl row), .inr (.inr none), .inl n, .inl i] ∧ st = [] ∧ (-1 ≤ i ∧ i < n) ∧ (u = updR (updR σ (o + 1) (addF (σ (o + 1)) row (σ o 1) n (n - 1 - i))) o (up1 (σ o) 1 (min 600 (σ o 1 + (n - 1 - i)))))) (fun L st u => ((gI L 4 + 1).toNat, 0, 0)))], 14, ?_, cuts1 ?_ (cuts0)⟩
  · rw [show entL 5 [.inr (.inr (some o)), .inr (.inl row), .inl n] = [.inr (.inr (some o)), .inr (.inl row), .inr (.inr none), .inl n, .inr (.inr none)] from rfl]
    simp only [↓wpN_go, jmp_e, ↓wp_aload_n0, ↓wp_dup, ↓wp_getfield, ↓wp_goto, ↓wp_iadd, ↓wp_iand, ↓wp_iastore, ↓wp_icmp_ge, ↓wp_iconst, ↓wp_if_lt, ↓wp_iinc, ↓wp_iload, ↓wp_iload_n3, ↓wp_istore, ↓wp_isub, ↓wp_l2i, ↓wp_lload_n1, ↓wp_lshr, ↓wp_putfield, ↓wp_return0, ↓wp_sipush, wp_nil, ↓ldI_0, ↓ldI_s, ↓ldL_0, ↓ldL_s, ↓ldR_0, ↓ldR_s, sto1_0, sto1_1, sto1_s, sto2_0, sto2_1, sto2_s, isLong_i, isLong_l, isLong_r, ↓popI_c, ↓popL_c, ↓popR_c, ↓popN_0, ↓popN_s, catS_n, catS_c, psh_s, psh_n, fldV_n, fldV_s, ↓tgt_e, sw_n, ↓sw_c, ↓lk1_h, ↓lk1_m, ↓atC_h, ↓atC_m, ↓atC_n, ltO_n, ltO_s, updR_eq, updR_ne, gI_0i, gI_0l, gI_s, ltM_iff, List.cons.injEq, Sum.inl.injEq, Sum.inr.injEq, Option.some.injEq, exists_eq_left, exists_eq_left', exists_eq_right, exists_eq_right', exists_and_left, exists_and_right, exists_eq, exists_const, and_assoc, ↓j_T_add_0, ↓j_T_add_5, ↓j_T_add_52, ↓f_T_15, ↓f_T_9, List.length_cons, List.length_nil, Nat.zero_add, Nat.reduceAdd, Int.reduceAdd, Int.reduceNeg, Int.reduceToNat, Int.reduceLE, Int.reduceLT, true_and, and_true, Nat.reduceLT, reduceIte, Nat.reduceEqDiff, ne_eq, not_false_eq_true, false_implies, true_implies, Bool.false_eq_true, reduceCtorEq, List.cons_append, List.nil_append, Nat.reduceSub, Nat.reduceLeDiff, Fin.isValue, Int.reduceNatCast', Int.zero_add, Int.add_zero, decide_true, decide_false, implies_true, forall_const, true_or, or_true, or_false, false_or, false_and, and_false, Int.toNat_natCast, oC_0, oC_1, oC_4, oC_11, oC_16, oC_18, oC_20, oC_23, oC_25, oC_26, oC_29, oC_31, oC_33, oC_35, oC_37, isT_29, isT_31, isT_33, isT_35, isL_16, isL_18, isL_26, ↓hT.f0, ↓hT.f1, ↓hT.a, hT.c, updR_o1, updR_o2, iandZ_1, eq_true hT]
    (try simp only [rI_iff, rL_iff] at *)
    repeat' (first | assumption | apply And.intro | intro _)
    all_goals first
      | omega
      | (refine st_ext fun k j => ?_; grind [updR_app, up1_app, addF_app])
      | (refine Q_eq hQ ?_ ?_ <;> first | rfl | (refine st_ext fun k j => ?_; grind [updR_app, up1_app, addF_app]) | grind [updR_app, up1_app, addF_app])
      | grind [updR_app, up1_app, addF_app]
  · intro L st u hI
    obtain ⟨i, rfl, rfl, hi, hu⟩ := hI
    simp only [↓wpN_go, jmp_e, ↓wp_aload_n0, ↓wp_dup, ↓wp_getfield, ↓wp_goto, ↓wp_iadd, ↓wp_iand, ↓wp_iastore, ↓wp_icmp_ge, ↓wp_iconst, ↓wp_if_lt, ↓wp_iinc, ↓wp_iload, ↓wp_iload_n3, ↓wp_istore, ↓wp_isub, ↓wp_l2i, ↓wp_lload_n1, ↓wp_lshr, ↓wp_putfield, ↓wp_return0, ↓wp_sipush, wp_nil, ↓ldI_0, ↓ldI_s, ↓ldL_0, ↓ldL_s, ↓ldR_0, ↓ldR_s, sto1_0, sto1_1, sto1_s, sto2_0, sto2_1, sto2_s, isLong_i, isLong_l, isLong_r, ↓popI_c, ↓popL_c, ↓popR_c, ↓popN_0, ↓popN_s, catS_n, catS_c, psh_s, psh_n, fldV_n, fldV_s, ↓tgt_e, sw_n, ↓sw_c, ↓lk1_h, ↓lk1_m, ↓atC_h, ↓atC_m, ↓atC_n, ltO_n, ltO_s, updR_eq, updR_ne, gI_0i, gI_0l, gI_s, ltM_iff, List.cons.injEq, Sum.inl.injEq, Sum.inr.injEq, Option.some.injEq, exists_eq_left, exists_eq_left', exists_eq_right, exists_eq_right', exists_and_left, exists_and_right, exists_eq, exists_const, and_assoc, ↓j_T_add_0, ↓j_T_add_5, ↓j_T_add_52, ↓f_T_15, ↓f_T_9, List.length_cons, List.length_nil, Nat.zero_add, Nat.reduceAdd, Int.reduceAdd, Int.reduceNeg, Int.reduceToNat, Int.reduceLE, Int.reduceLT, true_and, and_true, Nat.reduceLT, reduceIte, Nat.reduceEqDiff, ne_eq, not_false_eq_true, false_implies, true_implies, Bool.false_eq_true, reduceCtorEq, List.cons_append, List.nil_append, Nat.reduceSub, Nat.reduceLeDiff, Fin.isValue, Int.reduceNatCast', Int.zero_add, Int.add_zero, decide_true, decide_false, implies_true, forall_const, true_or, or_true, or_false, false_or, false_and, and_false, Int.toNat_natCast, oC_0, oC_1, oC_4, oC_11, oC_16, oC_18, oC_20, oC_23, oC_25, oC_26, oC_29, oC_31, oC_33, oC_35, oC_37, isT_29, isT_31, isT_33, isT_35, isL_16, isL_18, isL_26, ↓hT.f0, ↓hT.f1, ↓hT.a, hT.c, updR_o1, updR_o2, iandZ_1, eq_true hT]
    subst hu
    simp only [updR_eq, updR_o1, updR_o2, up1_eq]
    (try simp only [rI_iff, rL_iff] at *)
    repeat' (first | assumption | apply And.intro | intro _)
    all_goals first
      | omega
      | (refine st_ext fun k j => ?_; grind [updR_app, up1_app, addF_app, bitZ])
      | (refine Q_eq hQ ?_ ?_ <;> first | rfl | (refine st_ext fun k j => ?_; grind [updR_app, up1_app, addF_app, bitZ]) | grind [updR_app, up1_app, addF_app, bitZ])
      | grind [updR_app, up1_app, addF_app, bitZ]
def s_T_keep : Spec := fun as σ Q => popR as fun o r0 => popI r0 fun n r1 => r1 = [] ∧ (isT o) ∧ (rI n) ∧ (0 ≤ σ o 1 ∧ σ o 1 ≤ 600) ∧ Q (some (.inl (σ o 1 - max 0 (min (σ o 1) n)))) (updR σ o (up1 (σ o) 1 (max 0 (min (σ o 1) n))))
theorem e_T_keep (o : Nat) (n : Int) (σ : St) (Q : Option AV → St → Prop) : s_T_keep [.inr (.inr (some o)), .inl n] σ Q = ((isT o) ∧ (rI n) ∧ (0 ≤ σ o 1 ∧ σ o 1 ≤ 600) ∧ Q (some (.inl (σ o 1 - max 0 (min (σ o 1) n)))) (updR σ o (up1 (σ o) 1 (max 0 (min (σ o 1) n))))) := by
  show ([] = [] ∧ _) = _
  simp only [true_and]
set_option maxHeartbeats 4000000 in
set_option maxRecDepth 20000 in
theorem S_T_keep {l : Launch} : Sat l y_T_keep b_T_keep 3 (some .int) 1 s_T_keep := by
  refine sat_of (Φ := P_T) (κ := Q_T) (Γ := [(19, 0, 2, s_JM_min), (25, 0, 2, s_JM_max)]) (rt := 1) (by decide +kernel) P_T_ok Q_T_ok (by
    refine List.forall_mem_cons.mpr ⟨?_, List.forall_mem_cons.mpr ⟨?_, fun _ h => absurd h List.not_mem_nil⟩⟩
    · exact m_JM_min S_JM_min (by decide) l_T_19
    · exact m_JM_max S_JM_max (by decide) l_T_25) (by simp) o_T_keep ?_
  intro as σ Q hh0
  obtain ⟨o, rr0, rfl, hh1⟩ := popR_inv hh0
  obtain ⟨n, rr1, rfl, hh2⟩ := popI_inv hh1
  obtain ⟨hrE, hT, hn, hs, hQ⟩ := hh2
  subst hrE
  clear hh0 hh1
  refine ⟨Nat.le_of_ble_eq_true rfl, [], 14, ?_, cuts0⟩
  · rw [show entL 3 [.inr (.inr (some o)), .inl n] = [.inr (.inr (some o)), .inl n, .inr (.inr none)] from rfl]
    simp only [↓wpN_go, jmp_e, ↓wp_aload_n0, ↓wp_getfield, ↓wp_iconst, ↓wp_iload_n1, ↓wp_iload_n2, ↓wp_invokestatic, ↓wp_ireturn1, ↓wp_istore_n2, ↓wp_isub, ↓wp_putfield, wp_nil, ↓ldI_0, ↓ldI_s, ↓ldL_0, ↓ldL_s, ↓ldR_0, ↓ldR_s, sto1_0, sto1_1, sto1_s, sto2_0, sto2_1, sto2_s, isLong_i, isLong_l, isLong_r, ↓popI_c, ↓popL_c, ↓popR_c, ↓popN_0, ↓popN_s, catS_n, catS_c, psh_s, psh_n, fldV_n, fldV_s, ↓tgt_e, sw_n, ↓sw_c, ↓lk1_h, ↓lk1_m, ↓atC_h, ↓atC_m, ↓atC_n, ltO_n, ltO_s, updR_eq, updR_ne, gI_0i, gI_0l, gI_s, ltM_iff, List.cons.injEq, Sum.inl.injEq, Sum.inr.injEq, Option.some.injEq, exists_eq_left, exists_eq_left', exists_eq_right, exists_eq_right', exists_and_left, exists_and_right, exists_eq, exists_const, and_assoc, ↓j_T_keep_0, ↓f_T_15, List.length_cons, List.length_nil, Nat.zero_add, Nat.reduceAdd, Int.reduceAdd, Int.reduceNeg, Int.reduceToNat, Int.reduceLE, Int.reduceLT, true_and, and_true, Nat.reduceLT, reduceIte, Nat.reduceEqDiff, ne_eq, not_false_eq_true, false_implies, true_implies, Bool.false_eq_true, reduceCtorEq, List.cons_append, List.nil_append, Nat.reduceSub, Nat.reduceLeDiff, Fin.isValue, Int.reduceNatCast', Int.zero_add, Int.add_zero, decide_true, decide_false, implies_true, forall_const, true_or, or_true, or_false, false_or, false_and, and_false, Int.toNat_natCast, oC_0, oC_1, oC_4, oC_11, oC_16, oC_18, oC_20, oC_23, oC_25, oC_26, oC_29, oC_31, oC_33, oC_35, oC_37, isT_29, isT_31, isT_33, isT_35, isL_16, isL_18, isL_26, ↓hT.f0, ↓hT.f1, ↓hT.a, hT.c, updR_o1, updR_o2, iandZ_1, eq_true hT, ↓e_JM_min, ↓e_JM_max]
    (try simp only [rI_iff, rL_iff] at *)
    repeat' (first | assumption | apply And.intro | intro _)
    all_goals first
      | omega
      | (refine st_ext fun k j => ?_; grind [updR_app, up1_app])
      | (refine Q_eq hQ ?_ ?_ <;> first | rfl | (refine st_ext fun k j => ?_; grind [updR_app, up1_app]) | grind [updR_app, up1_app])
      | grind [updR_app, up1_app]
def s_T_flip : Spec := fun as σ Q => popR as fun o r0 => popI r0 fun i r1 => r1 = [] ∧ (isT o) ∧ (rI i) ∧ (0 ≤ σ o 1 ∧ σ o 1 ≤ 600) ∧ (isBits (σ (o + 1))) ∧ Q (some (.inl (if 0 ≤ i ∧ i < σ o 1 then σ (o + 1) i.toNat else -2))) (if 0 ≤ i ∧ i < σ o 1 then updR σ (o + 1) (up1 (σ (o + 1)) i.toNat (1 - σ (o + 1) i.toNat)) else σ)
theorem e_T_flip (o : Nat) (i : Int) (σ : St) (Q : Option AV → St → Prop) : s_T_flip [.inr (.inr (some o)), .inl i] σ Q = ((isT o) ∧ (rI i) ∧ (0 ≤ σ o 1 ∧ σ o 1 ≤ 600) ∧ (isBits (σ (o + 1))) ∧ Q (some (.inl (if 0 ≤ i ∧ i < σ o 1 then σ (o + 1) i.toNat else -2))) (if 0 ≤ i ∧ i < σ o 1 then updR σ (o + 1) (up1 (σ (o + 1)) i.toNat (1 - σ (o + 1) i.toNat)) else σ)) := by
  show ([] = [] ∧ _) = _
  simp only [true_and]
set_option maxHeartbeats 4000000 in
set_option maxRecDepth 20000 in
theorem S_T_flip {l : Launch} : Sat l y_T_flip b_T_flip 3 (some .int) 1 s_T_flip := by
  refine sat_of (Φ := P_T) (κ := Q_T) (Γ := [(28, 2, 1, s_T_at)]) (rt := 1) (by decide +kernel) P_T_ok Q_T_ok (by
    refine List.forall_mem_cons.mpr ⟨?_, fun _ h => absurd h List.not_mem_nil⟩
    · exact m_T_at S_T_at (by decide) l_T_28) (by simp) o_T_flip ?_
  intro as σ Q hh0
  obtain ⟨o, rr0, rfl, hh1⟩ := popR_inv hh0
  obtain ⟨i, rr1, rfl, hh2⟩ := popI_inv hh1
  obtain ⟨hrE, hT, hi, hs, hb, hQ⟩ := hh2
  subst hrE
  clear hh0 hh1
  refine ⟨Nat.le_of_ble_eq_true rfl, [], 14, ?_, cuts0⟩
  · rw [show entL 3 [.inr (.inr (some o)), .inl i] = [.inr (.inr (some o)), .inl i, .inr (.inr none)] from rfl]
    simp only [↓wpN_go, jmp_e, ↓wp_aload_n0, ↓wp_bipush, ↓wp_getfield, ↓wp_iastore, ↓wp_icmp_eq, ↓wp_iconst, ↓wp_iload_n1, ↓wp_iload_n2, ↓wp_invokevirtual, ↓wp_ireturn1, ↓wp_istore_n2, ↓wp_isub, wp_nil, ↓ldI_0, ↓ldI_s, ↓ldL_0, ↓ldL_s, ↓ldR_0, ↓ldR_s, sto1_0, sto1_1, sto1_s, sto2_0, sto2_1, sto2_s, isLong_i, isLong_l, isLong_r, ↓popI_c, ↓popL_c, ↓popR_c, ↓popN_0, ↓popN_s, catS_n, catS_c, psh_s, psh_n, fldV_n, fldV_s, ↓tgt_e, sw_n, ↓sw_c, ↓lk1_h, ↓lk1_m, ↓atC_h, ↓atC_m, ↓atC_n, ltO_n, ltO_s, updR_eq, updR_ne, gI_0i, gI_0l, gI_s, ltM_iff, List.cons.injEq, Sum.inl.injEq, Sum.inr.injEq, Option.some.injEq, exists_eq_left, exists_eq_left', exists_eq_right, exists_eq_right', exists_and_left, exists_and_right, exists_eq, exists_const, and_assoc, ↓j_T_flip_0, ↓j_T_flip_21, ↓f_T_9, List.length_cons, List.length_nil, Nat.zero_add, Nat.reduceAdd, Int.reduceAdd, Int.reduceNeg, Int.reduceToNat, Int.reduceLE, Int.reduceLT, true_and, and_true, Nat.reduceLT, reduceIte, Nat.reduceEqDiff, ne_eq, not_false_eq_true, false_implies, true_implies, Bool.false_eq_true, reduceCtorEq, List.cons_append, List.nil_append, Nat.reduceSub, Nat.reduceLeDiff, Fin.isValue, Int.reduceNatCast', Int.zero_add, Int.add_zero, decide_true, decide_false, implies_true, forall_const, true_or, or_true, or_false, false_or, false_and, and_false, Int.toNat_natCast, oC_0, oC_1, oC_4, oC_11, oC_16, oC_18, oC_20, oC_23, oC_25, oC_26, oC_29, oC_31, oC_33, oC_35, oC_37, isT_29, isT_31, isT_33, isT_35, isL_16, isL_18, isL_26, ↓hT.f0, ↓hT.f1, ↓hT.a, hT.c, updR_o1, updR_o2, iandZ_1, eq_true hT, ↓e_T_at]
    have hb1 := hb i.toNat
    (try simp only [rI_iff, rL_iff] at *)
    repeat' (first | assumption | apply And.intro | intro _)
    all_goals first
      | omega
      | (refine st_ext fun k j => ?_; grind [updR_app, up1_app, isBits])
      | (refine Q_eq hQ ?_ ?_ <;> first | rfl | (refine st_ext fun k j => ?_; grind [updR_app, up1_app, isBits]) | grind [updR_app, up1_app, isBits])
      | grind [updR_app, up1_app, isBits]
def s_T_copy : Spec := fun as σ Q => popR as fun o r0 => popR r0 fun p r1 => r1 = [] ∧ (isT o) ∧ (isT p) ∧ (o ≠ p ∧ o ≠ p + 1 ∧ p ≠ o + 1) ∧ (0 ≤ σ p 1 ∧ σ p 1 ≤ 600) ∧ Q none (updR (updR σ (o + 1) (va_cpy (σ (p + 1)) (σ (o + 1)) 0 0 (σ p 1).toNat)) o (up1 (σ o) 1 (σ p 1)))
theorem e_T_copy (o : Nat) (p : Nat) (σ : St) (Q : Option AV → St → Prop) : s_T_copy [.inr (.inr (some o)), .inr (.inr (some p))] σ Q = ((isT o) ∧ (isT p) ∧ (o ≠ p ∧ o ≠ p + 1 ∧ p ≠ o + 1) ∧ (0 ≤ σ p 1 ∧ σ p 1 ≤ 600) ∧ Q none (updR (updR σ (o + 1) (va_cpy (σ (p + 1)) (σ (o + 1)) 0 0 (σ p 1).toNat)) o (up1 (σ o) 1 (σ p 1)))) := by
  show ([] = [] ∧ _) = _
  simp only [true_and]
set_option maxHeartbeats 4000000 in
set_option maxRecDepth 20000 in
theorem S_T_copy {l : Launch} : Sat l y_T_copy b_T_copy 2 none 1 s_T_copy := by
  refine sat_of (Φ := P_T) (κ := Q_T) (Γ := [(32, 1000, 0, fun _ _ _ => False)]) (rt := 0) (by decide +kernel) P_T_ok Q_T_ok (by
    refine List.forall_mem_cons.mpr ⟨?_, fun _ h => absurd h List.not_mem_nil⟩
    · exact Or.inl ⟨rfl, l_T_32, by decide, by decide⟩) (by simp) o_T_copy ?_
  intro as σ Q hh0
  obtain ⟨o, rr0, rfl, hh1⟩ := popR_inv hh0
  obtain ⟨p, rr1, rfl, hh2⟩ := popR_inv hh1
  obtain ⟨hrE, hT, hp, hne, hs, hQ⟩ := hh2
  subst hrE
  clear hh0 hh1
  refine ⟨Nat.le_of_ble_eq_true rfl, [], 14, ?_, cuts0⟩
  · rw [show entL 2 [.inr (.inr (some o)), .inr (.inr (some p))] = [.inr (.inr (some o)), .inr (.inr (some p))] from rfl]
    simp only [↓wpN_go, jmp_e, ↓wp_aload_n0, ↓wp_aload_n1, ↓wp_getfield, ↓wp_iconst, ↓wp_invokestatic, ↓wp_putfield, ↓wp_return0, wp_nil, ↓ldI_0, ↓ldI_s, ↓ldL_0, ↓ldL_s, ↓ldR_0, ↓ldR_s, sto1_0, sto1_1, sto1_s, sto2_0, sto2_1, sto2_s, isLong_i, isLong_l, isLong_r, ↓popI_c, ↓popL_c, ↓popR_c, ↓popN_0, ↓popN_s, catS_n, catS_c, psh_s, psh_n, fldV_n, fldV_s, ↓tgt_e, sw_n, ↓sw_c, ↓lk1_h, ↓lk1_m, ↓atC_h, ↓atC_m, ↓atC_n, ltO_n, ltO_s, updR_eq, updR_ne, gI_0i, gI_0l, gI_s, ltM_iff, List.cons.injEq, Sum.inl.injEq, Sum.inr.injEq, Option.some.injEq, exists_eq_left, exists_eq_left', exists_eq_right, exists_eq_right', exists_and_left, exists_and_right, exists_eq, exists_const, and_assoc, ↓j_T_copy_0, ↓f_T_15, ↓f_T_9, List.length_cons, List.length_nil, Nat.zero_add, Nat.reduceAdd, Int.reduceAdd, Int.reduceNeg, Int.reduceToNat, Int.reduceLE, Int.reduceLT, true_and, and_true, Nat.reduceLT, reduceIte, Nat.reduceEqDiff, ne_eq, not_false_eq_true, false_implies, true_implies, Bool.false_eq_true, reduceCtorEq, List.cons_append, List.nil_append, Nat.reduceSub, Nat.reduceLeDiff, Fin.isValue, Int.reduceNatCast', Int.zero_add, Int.add_zero, decide_true, decide_false, implies_true, forall_const, true_or, or_true, or_false, false_or, false_and, and_false, Int.toNat_natCast, oC_0, oC_1, oC_4, oC_11, oC_16, oC_18, oC_20, oC_23, oC_25, oC_26, oC_29, oC_31, oC_33, oC_35, oC_37, isT_29, isT_31, isT_33, isT_35, isL_16, isL_18, isL_26, ↓hT.f0, ↓hT.f1, ↓hT.a, hT.c, updR_o1, updR_o2, iandZ_1, eq_true hT, ↓hp.f0, ↓hp.f1, ↓hp.a, hp.c, Int.toNat_zero, updR_ne _ _ _ _ hne.2.2, updR_ne _ _ _ _ (Ne.symm hne.1)]
    (try simp only [rI_iff, rL_iff] at *)
    repeat' (first | assumption | apply And.intro | intro _)
    all_goals first
      | omega
      | (refine st_ext fun k j => ?_; grind [updR_app, up1_app])
      | (refine Q_eq hQ ?_ ?_ <;> first | rfl | (refine st_ext fun k j => ?_; grind [updR_app, up1_app]) | grind [updR_app, up1_app])
      | grind [updR_app, up1_app]
def s_T_part : Spec := fun as σ Q => popR as fun o r0 => popI r0 fun b r1 => popI r1 fun n r2 => r2 = [] ∧ (isT o) ∧ (0 ≤ σ o 1 ∧ σ o 1 ≤ 600) ∧ (0 ≤ b ∧ b ≤ 1000 ∧ 0 ≤ n ∧ n ≤ 31) ∧ (isBits (σ (o + 1))) ∧ Q (some (.inl (partF (σ (o + 1)) (σ o 1) b n.toNat))) σ
theorem e_T_part (o : Nat) (b : Int) (n : Int) (σ : St) (Q : Option AV → St → Prop) : s_T_part [.inr (.inr (some o)), .inl b, .inl n] σ Q = ((isT o) ∧ (0 ≤ σ o 1 ∧ σ o 1 ≤ 600) ∧ (0 ≤ b ∧ b ≤ 1000 ∧ 0 ≤ n ∧ n ≤ 31) ∧ (isBits (σ (o + 1))) ∧ Q (some (.inl (partF (σ (o + 1)) (σ o 1) b n.toNat))) σ) := by
  show ([] = [] ∧ _) = _
  simp only [true_and]
set_option maxHeartbeats 4000000 in
set_option maxRecDepth 20000 in
theorem S_T_part {l : Launch} : Sat l y_T_part b_T_part 5 (some .int) 1 s_T_part := by
  refine sat_of (Φ := P_T) (κ := Q_T) (Γ := [(28, 2, 1, s_T_at)]) (rt := 1) (by decide +kernel) P_T_ok Q_T_ok (by
    refine List.forall_mem_cons.mpr ⟨?_, fun _ h => absurd h List.not_mem_nil⟩
    · exact m_T_at S_T_at (by decide) l_T_28) (by simp) o_T_part ?_
  intro as σ Q hh0
  obtain ⟨o, rr0, rfl, hh1⟩ := popR_inv hh0
  obtain ⟨b, rr1, rfl, hh2⟩ := popI_inv hh1
  obtain ⟨n, rr2, rfl, hh3⟩ := popI_inv hh2
  obtain ⟨hrE, hT, hs, hn, hb, hQ⟩ := hh3
  subst hrE
  clear hh0 hh1 hh2
  refine ⟨Nat.le_of_ble_eq_true rfl, [(5, mkC (fun L st u => ∃ (x i : Int), L = [.inr (.inr (some o)), .inl b, .inl n, .inl x, .inl i] ∧ st = [] ∧ (b ≤ i ∧ i ≤ b + n) ∧ (x = partF (σ (o + 1)) (σ o 1) b (i - b).toNat) ∧ (u = σ)) (fun L st u => ((b + n - gI L 4).toNat, 0, 0)))], 14, ?_, cuts1 ?_ (cuts0)⟩
  · rw [show entL 5 [.inr (.inr (some o)), .inl b, .inl n] = [.inr (.inr (some o)), .inl b, .inl n, .inr (.inr none), .inr (.inr none)] from rfl]
    simp only [↓wpN_go, jmp_e, ↓wp_aload_n0, ↓wp_goto, ↓wp_iadd, ↓wp_icmp_ge, ↓wp_icmp_ne, ↓wp_iconst, ↓wp_iinc, ↓wp_iload, ↓wp_iload_n1, ↓wp_iload_n2, ↓wp_iload_n3, ↓wp_imul, ↓wp_invokevirtual, ↓wp_ireturn1, ↓wp_istore, ↓wp_istore_n3, wp_nil, ↓ldI_0, ↓ldI_s, ↓ldL_0, ↓ldL_s, ↓ldR_0, ↓ldR_s, sto1_0, sto1_1, sto1_s, sto2_0, sto2_1, sto2_s, isLong_i, isLong_l, isLong_r, ↓popI_c, ↓popL_c, ↓popR_c, ↓popN_0, ↓popN_s, catS_n, catS_c, psh_s, psh_n, fldV_n, fldV_s, ↓tgt_e, sw_n, ↓sw_c, ↓lk1_h, ↓lk1_m, ↓atC_h, ↓atC_m, ↓atC_n, ltO_n, ltO_s, updR_eq, updR_ne, gI_0i, gI_0l, gI_s, ltM_iff, List.cons.injEq, Sum.inl.injEq, Sum.inr.injEq, Option.some.injEq, exists_eq_left, exists_eq_left', exists_eq_right, exists_eq_right', exists_and_left, exists_and_right, exists_eq, exists_const, and_assoc, ↓j_T_part_0, ↓j_T_part_5, ↓j_T_part_30, ↓j_T_part_31, ↓j_T_part_39, List.length_cons, List.length_nil, Nat.zero_add, Nat.reduceAdd, Int.reduceAdd, Int.reduceNeg, Int.reduceToNat, Int.reduceLE, Int.reduceLT, true_and, and_true, Nat.reduceLT, reduceIte, Nat.reduceEqDiff, ne_eq, not_false_eq_true, false_implies, true_implies, Bool.false_eq_true, reduceCtorEq, List.cons_append, List.nil_append, Nat.reduceSub, Nat.reduceLeDiff, Fin.isValue, Int.reduceNatCast', Int.zero_add, Int.add_zero, decide_true, decide_false, implies_true, forall_const, true_or, or_true, or_false, false_or, false_and, and_false, Int.toNat_natCast, oC_0, oC_1, oC_4, oC_11, oC_16, oC_18, oC_20, oC_23, oC_25, oC_26, oC_29, oC_31, oC_33, oC_35, oC_37, isT_29, isT_31, isT_33, isT_35, isL_16, isL_18, isL_26, ↓hT.f0, ↓hT.f1, ↓hT.a, hT.c, updR_o1, updR_o2, iandZ_1, eq_true hT, ↓e_T_at]
    (try simp only [rI_iff, rL_iff] at *)
    repeat' (first | assumption | apply And.intro | intro _)
    all_goals first
      | omega
      | (refine st_ext fun k j => ?_; grind [updR_app, up1_app, partF])
      | (refine Q_eq hQ ?_ ?_ <;> first | rfl | (refine st_ext fun k j => ?_; grind [updR_app, up1_app, partF]) | grind [updR_app, up1_app, partF])
      | grind [updR_app, up1_app, partF]
  · intro L st u hI
    obtain ⟨x, i, rfl, rfl, hi, hx, hu⟩ := hI
    simp only [↓wpN_go, jmp_e, ↓wp_aload_n0, ↓wp_goto, ↓wp_iadd, ↓wp_icmp_ge, ↓wp_icmp_ne, ↓wp_iconst, ↓wp_iinc, ↓wp_iload, ↓wp_iload_n1, ↓wp_iload_n2, ↓wp_iload_n3, ↓wp_imul, ↓wp_invokevirtual, ↓wp_ireturn1, ↓wp_istore, ↓wp_istore_n3, wp_nil, ↓ldI_0, ↓ldI_s, ↓ldL_0, ↓ldL_s, ↓ldR_0, ↓ldR_s, sto1_0, sto1_1, sto1_s, sto2_0, sto2_1, sto2_s, isLong_i, isLong_l, isLong_r, ↓popI_c, ↓popL_c, ↓popR_c, ↓popN_0, ↓popN_s, catS_n, catS_c, psh_s, psh_n, fldV_n, fldV_s, ↓tgt_e, sw_n, ↓sw_c, ↓lk1_h, ↓lk1_m, ↓atC_h, ↓atC_m, ↓atC_n, ltO_n, ltO_s, updR_eq, updR_ne, gI_0i, gI_0l, gI_s, ltM_iff, List.cons.injEq, Sum.inl.injEq, Sum.inr.injEq, Option.some.injEq, exists_eq_left, exists_eq_left', exists_eq_right, exists_eq_right', exists_and_left, exists_and_right, exists_eq, exists_const, and_assoc, ↓j_T_part_0, ↓j_T_part_5, ↓j_T_part_30, ↓j_T_part_31, ↓j_T_part_39, List.length_cons, List.length_nil, Nat.zero_add, Nat.reduceAdd, Int.reduceAdd, Int.reduceNeg, Int.reduceToNat, Int.reduceLE, Int.reduceLT, true_and, and_true, Nat.reduceLT, reduceIte, Nat.reduceEqDiff, ne_eq, not_false_eq_true, false_implies, true_implies, Bool.false_eq_true, reduceCtorEq, List.cons_append, List.nil_append, Nat.reduceSub, Nat.reduceLeDiff, Fin.isValue, Int.reduceNatCast', Int.zero_add, Int.add_zero, decide_true, decide_false, implies_true, forall_const, true_or, or_true, or_false, false_or, false_and, and_false, Int.toNat_natCast, oC_0, oC_1, oC_4, oC_11, oC_16, oC_18, oC_20, oC_23, oC_25, oC_26, oC_29, oC_31, oC_33, oC_35, oC_37, isT_29, isT_31, isT_33, isT_35, isL_16, isL_18, isL_26, ↓hT.f0, ↓hT.f1, ↓hT.a, hT.c, updR_o1, updR_o2, iandZ_1, eq_true hT, ↓e_T_at]
    subst hu
    have e : (i + 1 - b).toNat = (i - b).toNat + 1 := by omega
    have e2 : b + ((i - b).toNat : Int) = i := by omega
    have e3 := hb i.toNat
    simp only [e, partF, e2, ← hx]
    (try simp only [rI_iff, rL_iff] at *)
    repeat' (first | assumption | apply And.intro | intro _)
    all_goals first
      | omega
      | (refine st_ext fun k j => ?_; grind [updR_app, up1_app, partF, isBits])
      | (refine Q_eq hQ ?_ ?_ <;> first | rfl | (refine st_ext fun k j => ?_; grind [updR_app, up1_app, partF, isBits]) | grind [updR_app, up1_app, partF, isBits])
      | grind [updR_app, up1_app, partF, isBits]
def s_T_firstUnlike : Spec := fun as σ Q => popR as fun o r0 => popR r0 fun p r1 => r1 = [] ∧ (isT o) ∧ (isT p) ∧ (0 ≤ σ o 1 ∧ σ o 1 ≤ 600) ∧ (0 ≤ σ p 1 ∧ σ p 1 ≤ 600) ∧ (isBits (σ (o + 1))) ∧ (isBits (σ (p + 1))) ∧ Q (some (.inl (unlikeF (σ (o + 1)) (σ (p + 1)) (σ p 1) (σ o 1).toNat))) σ
theorem e_T_firstUnlike (o : Nat) (p : Nat) (σ : St) (Q : Option AV → St → Prop) : s_T_firstUnlike [.inr (.inr (some o)), .inr (.inr (some p))] σ Q = ((isT o) ∧ (isT p) ∧ (0 ≤ σ o 1 ∧ σ o 1 ≤ 600) ∧ (0 ≤ σ p 1 ∧ σ p 1 ≤ 600) ∧ (isBits (σ (o + 1))) ∧ (isBits (σ (p + 1))) ∧ Q (some (.inl (unlikeF (σ (o + 1)) (σ (p + 1)) (σ p 1) (σ o 1).toNat))) σ) := by
  show ([] = [] ∧ _) = _
  simp only [true_and]
set_option maxHeartbeats 4000000 in
set_option maxRecDepth 20000 in
theorem S_T_firstUnlike {l : Launch} : Sat l y_T_firstUnlike b_T_firstUnlike 3 (some .int) 1 s_T_firstUnlike := by
  refine sat_of (Φ := P_T) (κ := Q_T) (Γ := [(28, 2, 1, s_T_at)]) (rt := 1) (by decide +kernel) P_T_ok Q_T_ok (by
    refine List.forall_mem_cons.mpr ⟨?_, fun _ h => absurd h List.not_mem_nil⟩
    · exact m_T_at S_T_at (by decide) l_T_28) (by simp) o_T_firstUnlike ?_
  intro as σ Q hh0
  obtain ⟨o, rr0, rfl, hh1⟩ := popR_inv hh0
  obtain ⟨p, rr1, rfl, hh2⟩ := popR_inv hh1
  obtain ⟨hrE, hT, hp, hs, hs2, hb, hb2, hQ⟩ := hh2
  subst hrE
  clear hh0 hh1
  refine ⟨Nat.le_of_ble_eq_true rfl, [(2, mkC (fun L st u => ∃ (i : Int), L = [.inr (.inr (some o)), .inr (.inr (some p)), .inl i] ∧ st = [] ∧ (0 ≤ i ∧ i ≤ σ o 1) ∧ (unlikeF (σ (o + 1)) (σ (p + 1)) (σ p 1) i.toNat = -1) ∧ (u = σ)) (fun L st u => ((σ o 1 - gI L 2).toNat, 0, 0)))], 14, ?_, cuts1 ?_ (cuts0)⟩
  · rw [show entL 3 [.inr (.inr (some o)), .inr (.inr (some p))] = [.inr (.inr (some o)), .inr (.inr (some p)), .inr (.inr none)] from rfl]
    simp only [↓wpN_go, jmp_e, ↓wp_aload_n0, ↓wp_aload_n1, ↓wp_getfield, ↓wp_goto, ↓wp_iaload, ↓wp_icmp_eq, ↓wp_icmp_ge, ↓wp_iconst, ↓wp_iinc, ↓wp_iload_n2, ↓wp_invokevirtual, ↓wp_ireturn1, ↓wp_istore_n2, wp_nil, ↓ldI_0, ↓ldI_s, ↓ldL_0, ↓ldL_s, ↓ldR_0, ↓ldR_s, sto1_0, sto1_1, sto1_s, sto2_0, sto2_1, sto2_s, isLong_i, isLong_l, isLong_r, ↓popI_c, ↓popL_c, ↓popR_c, ↓popN_0, ↓popN_s, catS_n, catS_c, psh_s, psh_n, fldV_n, fldV_s, ↓tgt_e, sw_n, ↓sw_c, ↓lk1_h, ↓lk1_m, ↓atC_h, ↓atC_m, ↓atC_n, ltO_n, ltO_s, updR_eq, updR_ne, gI_0i, gI_0l, gI_s, ltM_iff, List.cons.injEq, Sum.inl.injEq, Sum.inr.injEq, Option.some.injEq, exists_eq_left, exists_eq_left', exists_eq_right, exists_eq_right', exists_and_left, exists_and_right, exists_eq, exists_const, and_assoc, ↓j_T_firstUnlike_0, ↓j_T_firstUnlike_2, ↓j_T_firstUnlike_26, ↓j_T_firstUnlike_32, ↓f_T_15, ↓f_T_9, List.length_cons, List.length_nil, Nat.zero_add, Nat.reduceAdd, Int.reduceAdd, Int.reduceNeg, Int.reduceToNat, Int.reduceLE, Int.reduceLT, true_and, and_true, Nat.reduceLT, reduceIte, Nat.reduceEqDiff, ne_eq, not_false_eq_true, false_implies, true_implies, Bool.false_eq_true, reduceCtorEq, List.cons_append, List.nil_append, Nat.reduceSub, Nat.reduceLeDiff, Fin.isValue, Int.reduceNatCast', Int.zero_add, Int.add_zero, decide_true, decide_false, implies_true, forall_const, true_or, or_true, or_false, false_or, false_and, and_false, Int.toNat_natCast, oC_0, oC_1, oC_4, oC_11, oC_16, oC_18, oC_20, oC_23, oC_25, oC_26, oC_29, oC_31, oC_33, oC_35, oC_37, isT_29, isT_31, isT_33, isT_35, isL_16, isL_18, isL_26, ↓hT.f0, ↓hT.f1, ↓hT.a, hT.c, updR_o1, updR_o2, iandZ_1, eq_true hT, eq_true hp, hp.c, ↓e_T_at]
    (try simp only [rI_iff, rL_iff] at *)
    repeat' (first | assumption | apply And.intro | intro _)
    all_goals first
      | omega
      | (refine st_ext fun k j => ?_; grind [updR_app, up1_app, unlikeF])
      | (refine Q_eq hQ ?_ ?_ <;> first | rfl | (refine st_ext fun k j => ?_; grind [updR_app, up1_app, unlikeF]) | grind [updR_app, up1_app, unlikeF])
      | grind [updR_app, up1_app, unlikeF]
  · intro L st u hI
    obtain ⟨i, rfl, rfl, hi, hx, hu⟩ := hI
    simp only [↓wpN_go, jmp_e, ↓wp_aload_n0, ↓wp_aload_n1, ↓wp_getfield, ↓wp_goto, ↓wp_iaload, ↓wp_icmp_eq, ↓wp_icmp_ge, ↓wp_iconst, ↓wp_iinc, ↓wp_iload_n2, ↓wp_invokevirtual, ↓wp_ireturn1, ↓wp_istore_n2, wp_nil, ↓ldI_0, ↓ldI_s, ↓ldL_0, ↓ldL_s, ↓ldR_0, ↓ldR_s, sto1_0, sto1_1, sto1_s, sto2_0, sto2_1, sto2_s, isLong_i, isLong_l, isLong_r, ↓popI_c, ↓popL_c, ↓popR_c, ↓popN_0, ↓popN_s, catS_n, catS_c, psh_s, psh_n, fldV_n, fldV_s, ↓tgt_e, sw_n, ↓sw_c, ↓lk1_h, ↓lk1_m, ↓atC_h, ↓atC_m, ↓atC_n, ltO_n, ltO_s, updR_eq, updR_ne, gI_0i, gI_0l, gI_s, ltM_iff, List.cons.injEq, Sum.inl.injEq, Sum.inr.injEq, Option.some.injEq, exists_eq_left, exists_eq_left', exists_eq_right, exists_eq_right', exists_and_left, exists_and_right, exists_eq, exists_const, and_assoc, ↓j_T_firstUnlike_0, ↓j_T_firstUnlike_2, ↓j_T_firstUnlike_26, ↓j_T_firstUnlike_32, ↓f_T_15, ↓f_T_9, List.length_cons, List.length_nil, Nat.zero_add, Nat.reduceAdd, Int.reduceAdd, Int.reduceNeg, Int.reduceToNat, Int.reduceLE, Int.reduceLT, true_and, and_true, Nat.reduceLT, reduceIte, Nat.reduceEqDiff, ne_eq, not_false_eq_true, false_implies, true_implies, Bool.false_eq_true, reduceCtorEq, List.cons_append, List.nil_append, Nat.reduceSub, Nat.reduceLeDiff, Fin.isValue, Int.reduceNatCast', Int.zero_add, Int.add_zero, decide_true, decide_false, implies_true, forall_const, true_or, or_true, or_false, false_or, false_and, and_false, Int.toNat_natCast, oC_0, oC_1, oC_4, oC_11, oC_16, oC_18, oC_20, oC_23, oC_25, oC_26, oC_29, oC_31, oC_33, oC_35, oC_37, isT_29, isT_31, isT_33, isT_35, isL_16, isL_18, isL_26, ↓hT.f0, ↓hT.f1, ↓hT.a, hT.c, updR_o1, updR_o2, iandZ_1, eq_true hT, eq_true hp, hp.c, ↓e_T_at]
    subst hu
    have e : (i + 1).toNat = i.toNat + 1 := by omega
    have e3 := hb i.toNat
    have e4 := hb2 i.toNat
    have e5 := unlikeF_on (u (o + 1)) (u (p + 1)) (u p 1) (i.toNat + 1)
    have e6 : unlikeF (u (o + 1)) (u (p + 1)) (u p 1) (i.toNat + 1) = if (i.toNat : Int) < u p 1 ∧ u (p + 1) i.toNat = u (o + 1) i.toNat then -1 else (i.toNat : Int) := by rw [unlikeF, hx, if_pos rfl]
    have e7 : ∀ h : i < u o 1, i.toNat + 1 ≤ (u o 1).toNat := fun h => by omega
    (try simp only [rI_iff, rL_iff] at *)
    repeat' (first | assumption | apply And.intro | intro _)
    all_goals first
      | omega
      | (refine st_ext fun k j => ?_; grind [updR_app, up1_app, unlikeF, isBits])
      | (refine Q_eq hQ ?_ ?_ <;> first | rfl | (refine st_ext fun k j => ?_; grind [updR_app, up1_app, unlikeF, isBits]) | grind [updR_app, up1_app, unlikeF, isBits])
      | grind [updR_app, up1_app, unlikeF, isBits]
def s_T_leastLean : Spec := fun as σ Q => popR as fun o r0 => r0 = [] ∧ (isT o) ∧ (0 ≤ σ o 1 ∧ σ o 1 ≤ 600) ∧ (isBits (σ (o + 1))) ∧ Q (some (.inl (leastF (σ (o + 1)) (σ o 1).toNat))) σ
theorem e_T_leastLean (o : Nat) (σ : St) (Q : Option AV → St → Prop) : s_T_leastLean [.inr (.inr (some o))] σ Q = ((isT o) ∧ (0 ≤ σ o 1 ∧ σ o 1 ≤ 600) ∧ (isBits (σ (o + 1))) ∧ Q (some (.inl (leastF (σ (o + 1)) (σ o 1).toNat))) σ) := by
  show ([] = [] ∧ _) = _
  simp only [true_and]
set_option maxHeartbeats 4000000 in
set_option maxRecDepth 20000 in
theorem S_T_leastLean {l : Launch} : Sat l y_T_leastLean b_T_leastLean 4 (some .int) 1 s_T_leastLean := by
  refine sat_of (Φ := P_T) (κ := Q_T) (Γ := [(19, 0, 2, s_JM_min)]) (rt := 1) (by decide +kernel) P_T_ok Q_T_ok (by
    refine List.forall_mem_cons.mpr ⟨?_, fun _ h => absurd h List.not_mem_nil⟩
    · exact m_JM_min S_JM_min (by decide) l_T_19) (by simp) o_T_leastLean ?_
  intro as σ Q hh0
  obtain ⟨o, rr0, rfl, hh1⟩ := popR_inv hh0
  obtain ⟨hrE, hT, hs, hb, hQ⟩ := hh1
  subst hrE
  clear hh0
  refine ⟨Nat.le_of_ble_eq_true rfl, [(6, mkC (fun L st u => ∃ (x y i : Int), L = [.inr (.inr (some o)), .inl x, .inl y, .inl i] ∧ st = [] ∧ (0 ≤ i ∧ i ≤ σ o 1) ∧ (x = leanF (σ (o + 1)) i.toNat) ∧ (y = leastF (σ (o + 1)) i.toNat) ∧ (-i ≤ x ∧ x ≤ i) ∧ (-i ≤ y ∧ y ≤ i) ∧ (u = σ)) (fun L st u => ((σ o 1 - gI L 3).toNat, 0, 0)))], 14, ?_, cuts1 ?_ (cuts0)⟩
  · rw [show entL 4 [.inr (.inr (some o))] = [.inr (.inr (some o)), .inr (.inr none), .inr (.inr none), .inr (.inr none)] from rfl]
    simp only [↓wpN_go, jmp_e, ↓wp_aload_n0, ↓wp_getfield, ↓wp_goto, ↓wp_iadd, ↓wp_iaload, ↓wp_icmp_ge, ↓wp_iconst, ↓wp_iinc, ↓wp_iload_n1, ↓wp_iload_n2, ↓wp_iload_n3, ↓wp_imul, ↓wp_invokestatic, ↓wp_ireturn1, ↓wp_istore_n1, ↓wp_istore_n2, ↓wp_istore_n3, ↓wp_isub, wp_nil, ↓ldI_0, ↓ldI_s, ↓ldL_0, ↓ldL_s, ↓ldR_0, ↓ldR_s, sto1_0, sto1_1, sto1_s, sto2_0, sto2_1, sto2_s, isLong_i, isLong_l, isLong_r, ↓popI_c, ↓popL_c, ↓popR_c, ↓popN_0, ↓popN_s, catS_n, catS_c, psh_s, psh_n, fldV_n, fldV_s, ↓tgt_e, sw_n, ↓sw_c, ↓lk1_h, ↓lk1_m, ↓atC_h, ↓atC_m, ↓atC_n, ltO_n, ltO_s, updR_eq, updR_ne, gI_0i, gI_0l, gI_s, ltM_iff, List.cons.injEq, Sum.inl.injEq, Sum.inr.injEq, Option.some.injEq, exists_eq_left, exists_eq_left', exists_eq_right, exists_eq_right', exists_and_left, exists_and_right, exists_eq, exists_const, and_assoc, ↓j_T_leastLean_0, ↓j_T_leastLean_6, ↓j_T_leastLean_39, ↓f_T_15, ↓f_T_9, List.length_cons, List.length_nil, Nat.zero_add, Nat.reduceAdd, Int.reduceAdd, Int.reduceNeg, Int.reduceToNat, Int.reduceLE, Int.reduceLT, true_and, and_true, Nat.reduceLT, reduceIte, Nat.reduceEqDiff, ne_eq, not_false_eq_true, false_implies, true_implies, Bool.false_eq_true, reduceCtorEq, List.cons_append, List.nil_append, Nat.reduceSub, Nat.reduceLeDiff, Fin.isValue, Int.reduceNatCast', Int.zero_add, Int.add_zero, decide_true, decide_false, implies_true, forall_const, true_or, or_true, or_false, false_or, false_and, and_false, Int.toNat_natCast, oC_0, oC_1, oC_4, oC_11, oC_16, oC_18, oC_20, oC_23, oC_25, oC_26, oC_29, oC_31, oC_33, oC_35, oC_37, isT_29, isT_31, isT_33, isT_35, isL_16, isL_18, isL_26, ↓hT.f0, ↓hT.f1, ↓hT.a, hT.c, updR_o1, updR_o2, iandZ_1, eq_true hT, ↓e_JM_min]
    (try simp only [rI_iff, rL_iff] at *)
    repeat' (first | assumption | apply And.intro | intro _)
    all_goals first
      | omega
      | (refine st_ext fun k j => ?_; grind [updR_app, up1_app, leanF, leastF])
      | (refine Q_eq hQ ?_ ?_ <;> first | rfl | (refine st_ext fun k j => ?_; grind [updR_app, up1_app, leanF, leastF]) | grind [updR_app, up1_app, leanF, leastF])
      | grind [updR_app, up1_app, leanF, leastF]
  · intro L st u hI
    obtain ⟨x, y, i, rfl, rfl, hi, hx, hy, hxr, hyr, hu⟩ := hI
    simp only [↓wpN_go, jmp_e, ↓wp_aload_n0, ↓wp_getfield, ↓wp_goto, ↓wp_iadd, ↓wp_iaload, ↓wp_icmp_ge, ↓wp_iconst, ↓wp_iinc, ↓wp_iload_n1, ↓wp_iload_n2, ↓wp_iload_n3, ↓wp_imul, ↓wp_invokestatic, ↓wp_ireturn1, ↓wp_istore_n1, ↓wp_istore_n2, ↓wp_istore_n3, ↓wp_isub, wp_nil, ↓ldI_0, ↓ldI_s, ↓ldL_0, ↓ldL_s, ↓ldR_0, ↓ldR_s, sto1_0, sto1_1, sto1_s, sto2_0, sto2_1, sto2_s, isLong_i, isLong_l, isLong_r, ↓popI_c, ↓popL_c, ↓popR_c, ↓popN_0, ↓popN_s, catS_n, catS_c, psh_s, psh_n, fldV_n, fldV_s, ↓tgt_e, sw_n, ↓sw_c, ↓lk1_h, ↓lk1_m, ↓atC_h, ↓atC_m, ↓atC_n, ltO_n, ltO_s, updR_eq, updR_ne, gI_0i, gI_0l, gI_s, ltM_iff, List.cons.injEq, Sum.inl.injEq, Sum.inr.injEq, Option.some.injEq, exists_eq_left, exists_eq_left', exists_eq_right, exists_eq_right', exists_and_left, exists_and_right, exists_eq, exists_const, and_assoc, ↓j_T_leastLean_0, ↓j_T_leastLean_6, ↓j_T_leastLean_39, ↓f_T_15, ↓f_T_9, List.length_cons, List.length_nil, Nat.zero_add, Nat.reduceAdd, Int.reduceAdd, Int.reduceNeg, Int.reduceToNat, Int.reduceLE, Int.reduceLT, true_and, and_true, Nat.reduceLT, reduceIte, Nat.reduceEqDiff, ne_eq, not_false_eq_true, false_implies, true_implies, Bool.false_eq_true, reduceCtorEq, List.cons_append, List.nil_append, Nat.reduceSub, Nat.reduceLeDiff, Fin.isValue, Int.reduceNatCast', Int.zero_add, Int.add_zero, decide_true, decide_false, implies_true, forall_const, true_or, or_true, or_false, false_or, false_and, and_false, Int.toNat_natCast, oC_0, oC_1, oC_4, oC_11, oC_16, oC_18, oC_20, oC_23, oC_25, oC_26, oC_29, oC_31, oC_33, oC_35, oC_37, isT_29, isT_31, isT_33, isT_35, isL_16, isL_18, isL_26, ↓hT.f0, ↓hT.f1, ↓hT.a, hT.c, updR_o1, updR_o2, iandZ_1, eq_true hT, ↓e_JM_min]
    subst hu
    have e : (i + 1).toNat = i.toNat + 1 := by omega
    have e3 := hb i.toNat
    simp only [e, leanF, leastF, ← hx, ← hy]
    (try simp only [rI_iff, rL_iff] at *)
    repeat' (first | assumption | apply And.intro | intro _)
    all_goals first
      | omega
      | (refine st_ext fun k j => ?_; grind [updR_app, up1_app, leanF, leastF])
      | (refine Q_eq hQ ?_ ?_ <;> first | rfl | (refine st_ext fun k j => ?_; grind [updR_app, up1_app, leanF, leastF]) | grind [updR_app, up1_app, leanF, leastF])
      | grind [updR_app, up1_app, leanF, leastF]
def s_T_greatestLean : Spec := fun as σ Q => popR as fun o r0 => r0 = [] ∧ (isT o) ∧ (0 ≤ σ o 1 ∧ σ o 1 ≤ 600) ∧ (isBits (σ (o + 1))) ∧ Q (some (.inl (greatF (σ (o + 1)) (σ o 1).toNat))) σ
theorem e_T_greatestLean (o : Nat) (σ : St) (Q : Option AV → St → Prop) : s_T_greatestLean [.inr (.inr (some o))] σ Q = ((isT o) ∧ (0 ≤ σ o 1 ∧ σ o 1 ≤ 600) ∧ (isBits (σ (o + 1))) ∧ Q (some (.inl (greatF (σ (o + 1)) (σ o 1).toNat))) σ) := by
  show ([] = [] ∧ _) = _
  simp only [true_and]
set_option maxHeartbeats 4000000 in
set_option maxRecDepth 20000 in
theorem S_T_greatestLean {l : Launch} : Sat l y_T_greatestLean b_T_greatestLean 4 (some .int) 1 s_T_greatestLean := by
  refine sat_of (Φ := P_T) (κ := Q_T) (Γ := [(25, 0, 2, s_JM_max)]) (rt := 1) (by decide +kernel) P_T_ok Q_T_ok (by
    refine List.forall_mem_cons.mpr ⟨?_, fun _ h => absurd h List.not_mem_nil⟩
    · exact m_JM_max S_JM_max (by decide) l_T_25) (by simp) o_T_greatestLean ?_
  intro as σ Q hh0
  obtain ⟨o, rr0, rfl, hh1⟩ := popR_inv hh0
  obtain ⟨hrE, hT, hs, hb, hQ⟩ := hh1
  subst hrE
  clear hh0
  refine ⟨Nat.le_of_ble_eq_true rfl, [(6, mkC (fun L st u => ∃ (x y i : Int), L = [.inr (.inr (some o)), .inl x, .inl y, .inl i] ∧ st = [] ∧ (0 ≤ i ∧ i ≤ σ o 1) ∧ (x = leanF (σ (o + 1)) i.toNat) ∧ (y = greatF (σ (o + 1)) i.toNat) ∧ (-i ≤ x ∧ x ≤ i) ∧ (-i ≤ y ∧ y ≤ i) ∧ (u = σ)) (fun L st u => ((σ o 1 - gI L 3).toNat, 0, 0)))], 14, ?_, cuts1 ?_ (cuts0)⟩
  · rw [show entL 4 [.inr (.inr (some o))] = [.inr (.inr (some o)), .inr (.inr none), .inr (.inr none), .inr (.inr none)] from rfl]
    simp only [↓wpN_go, jmp_e, ↓wp_aload_n0, ↓wp_getfield, ↓wp_goto, ↓wp_iadd, ↓wp_iaload, ↓wp_icmp_ge, ↓wp_iconst, ↓wp_iinc, ↓wp_iload_n1, ↓wp_iload_n2, ↓wp_iload_n3, ↓wp_imul, ↓wp_invokestatic, ↓wp_ireturn1, ↓wp_istore_n1, ↓wp_istore_n2, ↓wp_istore_n3, ↓wp_isub, wp_nil, ↓ldI_0, ↓ldI_s, ↓ldL_0, ↓ldL_s, ↓ldR_0, ↓ldR_s, sto1_0, sto1_1, sto1_s, sto2_0, sto2_1, sto2_s, isLong_i, isLong_l, isLong_r, ↓popI_c, ↓popL_c, ↓popR_c, ↓popN_0, ↓popN_s, catS_n, catS_c, psh_s, psh_n, fldV_n, fldV_s, ↓tgt_e, sw_n, ↓sw_c, ↓lk1_h, ↓lk1_m, ↓atC_h, ↓atC_m, ↓atC_n, ltO_n, ltO_s, updR_eq, updR_ne, gI_0i, gI_0l, gI_s, ltM_iff, List.cons.injEq, Sum.inl.injEq, Sum.inr.injEq, Option.some.injEq, exists_eq_left, exists_eq_left', exists_eq_right, exists_eq_right', exists_and_left, exists_and_right, exists_eq, exists_const, and_assoc, ↓j_T_greatestLean_0, ↓j_T_greatestLean_6, ↓j_T_greatestLean_39, ↓f_T_15, ↓f_T_9, List.length_cons, List.length_nil, Nat.zero_add, Nat.reduceAdd, Int.reduceAdd, Int.reduceNeg, Int.reduceToNat, Int.reduceLE, Int.reduceLT, true_and, and_true, Nat.reduceLT, reduceIte, Nat.reduceEqDiff, ne_eq, not_false_eq_true, false_implies, true_implies, Bool.false_eq_true, reduceCtorEq, List.cons_append, List.nil_append, Nat.reduceSub, Nat.reduceLeDiff, Fin.isValue, Int.reduceNatCast', Int.zero_add, Int.add_zero, decide_true, decide_false, implies_true, forall_const, true_or, or_true, or_false, false_or, false_and, and_false, Int.toNat_natCast, oC_0, oC_1, oC_4, oC_11, oC_16, oC_18, oC_20, oC_23, oC_25, oC_26, oC_29, oC_31, oC_33, oC_35, oC_37, isT_29, isT_31, isT_33, isT_35, isL_16, isL_18, isL_26, ↓hT.f0, ↓hT.f1, ↓hT.a, hT.c, updR_o1, updR_o2, iandZ_1, eq_true hT, ↓e_JM_max]
    (try simp only [rI_iff, rL_iff] at *)
    repeat' (first | assumption | apply And.intro | intro _)
    all_goals first
      | omega
      | (refine st_ext fun k j => ?_; grind [updR_app, up1_app, leanF, greatF])
      | (refine Q_eq hQ ?_ ?_ <;> first | rfl | (refine st_ext fun k j => ?_; grind [updR_app, up1_app, leanF, greatF]) | grind [updR_app, up1_app, leanF, greatF])
      | grind [updR_app, up1_app, leanF, greatF]
  · intro L st u hI
    obtain ⟨x, y, i, rfl, rfl, hi, hx, hy, hxr, hyr, hu⟩ := hI
    simp only [↓wpN_go, jmp_e, ↓wp_aload_n0, ↓wp_getfield, ↓wp_goto, ↓wp_iadd, ↓wp_iaload, ↓wp_icmp_ge, ↓wp_iconst, ↓wp_iinc, ↓wp_iload_n1, ↓wp_iload_n2, ↓wp_iload_n3, ↓wp_imul, ↓wp_invokestatic, ↓wp_ireturn1, ↓wp_istore_n1, ↓wp_istore_n2, ↓wp_istore_n3, ↓wp_isub, wp_nil, ↓ldI_0, ↓ldI_s, ↓ldL_0, ↓ldL_s, ↓ldR_0, ↓ldR_s, sto1_0, sto1_1, sto1_s, sto2_0, sto2_1, sto2_s, isLong_i, isLong_l, isLong_r, ↓popI_c, ↓popL_c, ↓popR_c, ↓popN_0, ↓popN_s, catS_n, catS_c, psh_s, psh_n, fldV_n, fldV_s, ↓tgt_e, sw_n, ↓sw_c, ↓lk1_h, ↓lk1_m, ↓atC_h, ↓atC_m, ↓atC_n, ltO_n, ltO_s, updR_eq, updR_ne, gI_0i, gI_0l, gI_s, ltM_iff, List.cons.injEq, Sum.inl.injEq, Sum.inr.injEq, Option.some.injEq, exists_eq_left, exists_eq_left', exists_eq_right, exists_eq_right', exists_and_left, exists_and_right, exists_eq, exists_const, and_assoc, ↓j_T_greatestLean_0, ↓j_T_greatestLean_6, ↓j_T_greatestLean_39, ↓f_T_15, ↓f_T_9, List.length_cons, List.length_nil, Nat.zero_add, Nat.reduceAdd, Int.reduceAdd, Int.reduceNeg, Int.reduceToNat, Int.reduceLE, Int.reduceLT, true_and, and_true, Nat.reduceLT, reduceIte, Nat.reduceEqDiff, ne_eq, not_false_eq_true, false_implies, true_implies, Bool.false_eq_true, reduceCtorEq, List.cons_append, List.nil_append, Nat.reduceSub, Nat.reduceLeDiff, Fin.isValue, Int.reduceNatCast', Int.zero_add, Int.add_zero, decide_true, decide_false, implies_true, forall_const, true_or, or_true, or_false, false_or, false_and, and_false, Int.toNat_natCast, oC_0, oC_1, oC_4, oC_11, oC_16, oC_18, oC_20, oC_23, oC_25, oC_26, oC_29, oC_31, oC_33, oC_35, oC_37, isT_29, isT_31, isT_33, isT_35, isL_16, isL_18, isL_26, ↓hT.f0, ↓hT.f1, ↓hT.a, hT.c, updR_o1, updR_o2, iandZ_1, eq_true hT, ↓e_JM_max]
    subst hu
    have e : (i + 1).toNat = i.toNat + 1 := by omega
    have e3 := hb i.toNat
    simp only [e, leanF, greatF, ← hx, ← hy]
    (try simp only [rI_iff, rL_iff] at *)
    repeat' (first | assumption | apply And.intro | intro _)
    all_goals first
      | omega
      | (refine st_ext fun k j => ?_; grind [updR_app, up1_app, leanF, greatF])
      | (refine Q_eq hQ ?_ ?_ <;> first | rfl | (refine st_ext fun k j => ?_; grind [updR_app, up1_app, leanF, greatF]) | grind [updR_app, up1_app, leanF, greatF])
      | grind [updR_app, up1_app, leanF, greatF]
def s_T_leanSquares : Spec := fun as σ Q => popR as fun o r0 => r0 = [] ∧ (isT o) ∧ (0 ≤ σ o 1 ∧ σ o 1 ≤ 600) ∧ Q (some (.inl (sqF (σ (o + 1)) (σ o 1).toNat))) σ
theorem e_T_leanSquares (o : Nat) (σ : St) (Q : Option AV → St → Prop) : s_T_leanSquares [.inr (.inr (some o))] σ Q = ((isT o) ∧ (0 ≤ σ o 1 ∧ σ o 1 ≤ 600) ∧ Q (some (.inl (sqF (σ (o + 1)) (σ o 1).toNat))) σ) := by
  show ([] = [] ∧ _) = _
  simp only [true_and]
set_option maxHeartbeats 4000000 in
set_option maxRecDepth 20000 in
theorem S_T_leanSquares {l : Launch} : Sat l y_T_leanSquares b_T_leanSquares 4 (some .int) 0 s_T_leanSquares := by
  refine sat_of (Φ := P_T) (κ := Q_T) (Γ := []) (rt := 1) (by decide +kernel) P_T_ok Q_T_ok (fun g hg => absurd hg List.not_mem_nil) (by simp) o_T_leanSquares ?_
  intro as σ Q hh0
  obtain ⟨o, rr0, rfl, hh1⟩ := popR_inv hh0
  obtain ⟨hrE, hT, hs, hQ⟩ := hh1
  subst hrE
  clear hh0
  refine ⟨Nat.le_of_ble_eq_true rfl, [(6, mkC (fun L st u => ∃ (x y i : Int), L = [.inr (.inr (some o)), .inl x, .inl y, .inl i] ∧ st = [] ∧ (0 ≤ i ∧ i ≤ σ o 1) ∧ (x = leanF (σ (o + 1)) i.toNat) ∧ (y = sqF (σ (o + 1)) i.toNat) ∧ (u = σ)) (fun L st u => ((σ o 1 - gI L 3).toNat, 0, 0)))], 14, ?_, cuts1 ?_ (cuts0)⟩
  · rw [show entL 4 [.inr (.inr (some o))] = [.inr (.inr (some o)), .inr (.inr none), .inr (.inr none), .inr (.inr none)] from rfl]
    simp only [↓wpN_go, jmp_e, ↓wp_aload_n0, ↓wp_getfield, ↓wp_goto, ↓wp_iadd, ↓wp_iaload, ↓wp_icmp_ge, ↓wp_iconst, ↓wp_iinc, ↓wp_iload_n1, ↓wp_iload_n2, ↓wp_iload_n3, ↓wp_imul, ↓wp_ireturn1, ↓wp_istore_n1, ↓wp_istore_n2, ↓wp_istore_n3, ↓wp_isub, wp_nil, ↓ldI_0, ↓ldI_s, ↓ldL_0, ↓ldL_s, ↓ldR_0, ↓ldR_s, sto1_0, sto1_1, sto1_s, sto2_0, sto2_1, sto2_s, isLong_i, isLong_l, isLong_r, ↓popI_c, ↓popL_c, ↓popR_c, ↓popN_0, ↓popN_s, catS_n, catS_c, psh_s, psh_n, fldV_n, fldV_s, ↓tgt_e, sw_n, ↓sw_c, ↓lk1_h, ↓lk1_m, ↓atC_h, ↓atC_m, ↓atC_n, ltO_n, ltO_s, updR_eq, updR_ne, gI_0i, gI_0l, gI_s, ltM_iff, List.cons.injEq, Sum.inl.injEq, Sum.inr.injEq, Option.some.injEq, exists_eq_left, exists_eq_left', exists_eq_right, exists_eq_right', exists_and_left, exists_and_right, exists_eq, exists_const, and_assoc, ↓j_T_leanSquares_0, ↓j_T_leanSquares_6, ↓j_T_leanSquares_39, ↓f_T_15, ↓f_T_9, List.length_cons, List.length_nil, Nat.zero_add, Nat.reduceAdd, Int.reduceAdd, Int.reduceNeg, Int.reduceToNat, Int.reduceLE, Int.reduceLT, true_and, and_true, Nat.reduceLT, reduceIte, Nat.reduceEqDiff, ne_eq, not_false_eq_true, false_implies, true_implies, Bool.false_eq_true, reduceCtorEq, List.cons_append, List.nil_append, Nat.reduceSub, Nat.reduceLeDiff, Fin.isValue, Int.reduceNatCast', Int.zero_add, Int.add_zero, decide_true, decide_false, implies_true, forall_const, true_or, or_true, or_false, false_or, false_and, and_false, Int.toNat_natCast, oC_0, oC_1, oC_4, oC_11, oC_16, oC_18, oC_20, oC_23, oC_25, oC_26, oC_29, oC_31, oC_33, oC_35, oC_37, isT_29, isT_31, isT_33, isT_35, isL_16, isL_18, isL_26, ↓hT.f0, ↓hT.f1, ↓hT.a, hT.c, updR_o1, updR_o2, iandZ_1, eq_true hT]
    (try simp only [rI_iff, rL_iff] at *)
    repeat' (first | assumption | apply And.intro | intro _)
    all_goals first
      | omega
      | (refine st_ext fun k j => ?_; grind [updR_app, up1_app, leanF, sqF])
      | (refine Q_eq hQ ?_ ?_ <;> first | rfl | (refine st_ext fun k j => ?_; grind [updR_app, up1_app, leanF, sqF]) | grind [updR_app, up1_app, leanF, sqF])
      | grind [updR_app, up1_app, leanF, sqF]
  · intro L st u hI
    obtain ⟨x, y, i, rfl, rfl, hi, hx, hy, hu⟩ := hI
    simp only [↓wpN_go, jmp_e, ↓wp_aload_n0, ↓wp_getfield, ↓wp_goto, ↓wp_iadd, ↓wp_iaload, ↓wp_icmp_ge, ↓wp_iconst, ↓wp_iinc, ↓wp_iload_n1, ↓wp_iload_n2, ↓wp_iload_n3, ↓wp_imul, ↓wp_ireturn1, ↓wp_istore_n1, ↓wp_istore_n2, ↓wp_istore_n3, ↓wp_isub, wp_nil, ↓ldI_0, ↓ldI_s, ↓ldL_0, ↓ldL_s, ↓ldR_0, ↓ldR_s, sto1_0, sto1_1, sto1_s, sto2_0, sto2_1, sto2_s, isLong_i, isLong_l, isLong_r, ↓popI_c, ↓popL_c, ↓popR_c, ↓popN_0, ↓popN_s, catS_n, catS_c, psh_s, psh_n, fldV_n, fldV_s, ↓tgt_e, sw_n, ↓sw_c, ↓lk1_h, ↓lk1_m, ↓atC_h, ↓atC_m, ↓atC_n, ltO_n, ltO_s, updR_eq, updR_ne, gI_0i, gI_0l, gI_s, ltM_iff, List.cons.injEq, Sum.inl.injEq, Sum.inr.injEq, Option.some.injEq, exists_eq_left, exists_eq_left', exists_eq_right, exists_eq_right', exists_and_left, exists_and_right, exists_eq, exists_const, and_assoc, ↓j_T_leanSquares_0, ↓j_T_leanSquares_6, ↓j_T_leanSquares_39, ↓f_T_15, ↓f_T_9, List.length_cons, List.length_nil, Nat.zero_add, Nat.reduceAdd, Int.reduceAdd, Int.reduceNeg, Int.reduceToNat, Int.reduceLE, Int.reduceLT, true_and, and_true, Nat.reduceLT, reduceIte, Nat.reduceEqDiff, ne_eq, not_false_eq_true, false_implies, true_implies, Bool.false_eq_true, reduceCtorEq, List.cons_append, List.nil_append, Nat.reduceSub, Nat.reduceLeDiff, Fin.isValue, Int.reduceNatCast', Int.zero_add, Int.add_zero, decide_true, decide_false, implies_true, forall_const, true_or, or_true, or_false, false_or, false_and, and_false, Int.toNat_natCast, oC_0, oC_1, oC_4, oC_11, oC_16, oC_18, oC_20, oC_23, oC_25, oC_26, oC_29, oC_31, oC_33, oC_35, oC_37, isT_29, isT_31, isT_33, isT_35, isL_16, isL_18, isL_26, ↓hT.f0, ↓hT.f1, ↓hT.a, hT.c, updR_o1, updR_o2, iandZ_1, eq_true hT]
    subst hu
    have e : (i + 1).toNat = i.toNat + 1 := by omega
    simp only [e, leanF, sqF, ← hx, ← hy]
    (try simp only [rI_iff, rL_iff] at *)
    repeat' (first | assumption | apply And.intro | intro _)
    all_goals first
      | omega
      | (refine st_ext fun k j => ?_; grind [updR_app, up1_app, leanF, sqF])
      | (refine Q_eq hQ ?_ ?_ <;> first | rfl | (refine st_ext fun k j => ?_; grind [updR_app, up1_app, leanF, sqF]) | grind [updR_app, up1_app, leanF, sqF])
      | grind [updR_app, up1_app, leanF, sqF]
def s_T_longestRun : Spec := fun as σ Q => popR as fun o r0 => r0 = [] ∧ (isT o) ∧ (0 ≤ σ o 1 ∧ σ o 1 ≤ 600) ∧ (isBits (σ (o + 1))) ∧ Q (some (.inl (longF (σ (o + 1)) (σ o 1).toNat))) σ
theorem e_T_longestRun (o : Nat) (σ : St) (Q : Option AV → St → Prop) : s_T_longestRun [.inr (.inr (some o))] σ Q = ((isT o) ∧ (0 ≤ σ o 1 ∧ σ o 1 ≤ 600) ∧ (isBits (σ (o + 1))) ∧ Q (some (.inl (longF (σ (o + 1)) (σ o 1).toNat))) σ) := by
  show ([] = [] ∧ _) = _
  simp only [true_and]
set_option maxHeartbeats 4000000 in
set_option maxRecDepth 20000 in
theorem S_T_longestRun {l : Launch} : Sat l y_T_longestRun b_T_longestRun 4 (some .int) 1 s_T_longestRun := by
  refine sat_of (Φ := P_T) (κ := Q_T) (Γ := [(25, 0, 2, s_JM_max)]) (rt := 1) (by decide +kernel) P_T_ok Q_T_ok (by
    refine List.forall_mem_cons.mpr ⟨?_, fun _ h => absurd h List.not_mem_nil⟩
    · exact m_JM_max S_JM_max (by decide) l_T_25) (by simp) o_T_longestRun ?_
  intro as σ Q hh0
  obtain ⟨o, rr0, rfl, hh1⟩ := popR_inv hh0
  obtain ⟨hrE, hT, hs, hb, hQ⟩ := hh1
  subst hrE
  clear hh0
  refine ⟨Nat.le_of_ble_eq_true rfl, [(6, mkC (fun L st u => ∃ (x y i : Int), L = [.inr (.inr (some o)), .inl x, .inl y, .inl i] ∧ st = [] ∧ (0 ≤ i ∧ i ≤ σ o 1) ∧ (x = runF (σ (o + 1)) i.toNat) ∧ (y = longF (σ (o + 1)) i.toNat) ∧ (0 ≤ x ∧ x ≤ i) ∧ (0 ≤ y ∧ y ≤ i) ∧ (u = σ)) (fun L st u => ((σ o 1 - gI L 3).toNat, 0, 0)))], 14, ?_, cuts1 ?_ (cuts0)⟩
  · rw [show entL 4 [.inr (.inr (some o))] = [.inr (.inr (some o)), .inr (.inr none), .inr (.inr none), .inr (.inr none)] from rfl]
    simp only [↓wpN_go, jmp_e, ↓wp_aload_n0, ↓wp_getfield, ↓wp_goto, ↓wp_iadd, ↓wp_iaload, ↓wp_icmp_ge, ↓wp_icmp_ne, ↓wp_iconst, ↓wp_if_le, ↓wp_iinc, ↓wp_iload_n1, ↓wp_iload_n2, ↓wp_iload_n3, ↓wp_invokestatic, ↓wp_ireturn1, ↓wp_istore_n1, ↓wp_istore_n2, ↓wp_istore_n3, ↓wp_isub, wp_nil, ↓ldI_0, ↓ldI_s, ↓ldL_0, ↓ldL_s, ↓ldR_0, ↓ldR_s, sto1_0, sto1_1, sto1_s, sto2_0, sto2_1, sto2_s, isLong_i, isLong_l, isLong_r, ↓popI_c, ↓popL_c, ↓popR_c, ↓popN_0, ↓popN_s, catS_n, catS_c, psh_s, psh_n, fldV_n, fldV_s, ↓tgt_e, sw_n, ↓sw_c, ↓lk1_h, ↓lk1_m, ↓atC_h, ↓atC_m, ↓atC_n, ltO_n, ltO_s, updR_eq, updR_ne, gI_0i, gI_0l, gI_s, ltM_iff, List.cons.injEq, Sum.inl.injEq, Sum.inr.injEq, Option.some.injEq, exists_eq_left, exists_eq_left', exists_eq_right, exists_eq_right', exists_and_left, exists_and_right, exists_eq, exists_const, and_assoc, ↓j_T_longestRun_0, ↓j_T_longestRun_6, ↓j_T_longestRun_41, ↓j_T_longestRun_42, ↓j_T_longestRun_55, ↓f_T_15, ↓f_T_9, List.length_cons, List.length_nil, Nat.zero_add, Nat.reduceAdd, Int.reduceAdd, Int.reduceNeg, Int.reduceToNat, Int.reduceLE, Int.reduceLT, true_and, and_true, Nat.reduceLT, reduceIte, Nat.reduceEqDiff, ne_eq, not_false_eq_true, false_implies, true_implies, Bool.false_eq_true, reduceCtorEq, List.cons_append, List.nil_append, Nat.reduceSub, Nat.reduceLeDiff, Fin.isValue, Int.reduceNatCast', Int.zero_add, Int.add_zero, decide_true, decide_false, implies_true, forall_const, true_or, or_true, or_false, false_or, false_and, and_false, Int.toNat_natCast, oC_0, oC_1, oC_4, oC_11, oC_16, oC_18, oC_20, oC_23, oC_25, oC_26, oC_29, oC_31, oC_33, oC_35, oC_37, isT_29, isT_31, isT_33, isT_35, isL_16, isL_18, isL_26, ↓hT.f0, ↓hT.f1, ↓hT.a, hT.c, updR_o1, updR_o2, iandZ_1, eq_true hT, ↓e_JM_max]
    (try simp only [rI_iff, rL_iff] at *)
    repeat' (first | assumption | apply And.intro | intro _)
    all_goals first
      | omega
      | (refine st_ext fun k j => ?_; grind [updR_app, up1_app, runF, longF])
      | (refine Q_eq hQ ?_ ?_ <;> first | rfl | (refine st_ext fun k j => ?_; grind [updR_app, up1_app, runF, longF]) | grind [updR_app, up1_app, runF, longF])
      | grind [updR_app, up1_app, runF, longF]
  · intro L st u hI
    obtain ⟨x, y, i, rfl, rfl, hi, hx, hy, hxr, hyr, hu⟩ := hI
    simp only [↓wpN_go, jmp_e, ↓wp_aload_n0, ↓wp_getfield, ↓wp_goto, ↓wp_iadd, ↓wp_iaload, ↓wp_icmp_ge, ↓wp_icmp_ne, ↓wp_iconst, ↓wp_if_le, ↓wp_iinc, ↓wp_iload_n1, ↓wp_iload_n2, ↓wp_iload_n3, ↓wp_invokestatic, ↓wp_ireturn1, ↓wp_istore_n1, ↓wp_istore_n2, ↓wp_istore_n3, ↓wp_isub, wp_nil, ↓ldI_0, ↓ldI_s, ↓ldL_0, ↓ldL_s, ↓ldR_0, ↓ldR_s, sto1_0, sto1_1, sto1_s, sto2_0, sto2_1, sto2_s, isLong_i, isLong_l, isLong_r, ↓popI_c, ↓popL_c, ↓popR_c, ↓popN_0, ↓popN_s, catS_n, catS_c, psh_s, psh_n, fldV_n, fldV_s, ↓tgt_e, sw_n, ↓sw_c, ↓lk1_h, ↓lk1_m, ↓atC_h, ↓atC_m, ↓atC_n, ltO_n, ltO_s, updR_eq, updR_ne, gI_0i, gI_0l, gI_s, ltM_iff, List.cons.injEq, Sum.inl.injEq, Sum.inr.injEq, Option.some.injEq, exists_eq_left, exists_eq_left', exists_eq_right, exists_eq_right', exists_and_left, exists_and_right, exists_eq, exists_const, and_assoc, ↓j_T_longestRun_0, ↓j_T_longestRun_6, ↓j_T_longestRun_41, ↓j_T_longestRun_42, ↓j_T_longestRun_55, ↓f_T_15, ↓f_T_9, List.length_cons, List.length_nil, Nat.zero_add, Nat.reduceAdd, Int.reduceAdd, Int.reduceNeg, Int.reduceToNat, Int.reduceLE, Int.reduceLT, true_and, and_true, Nat.reduceLT, reduceIte, Nat.reduceEqDiff, ne_eq, not_false_eq_true, false_implies, true_implies, Bool.false_eq_true, reduceCtorEq, List.cons_append, List.nil_append, Nat.reduceSub, Nat.reduceLeDiff, Fin.isValue, Int.reduceNatCast', Int.zero_add, Int.add_zero, decide_true, decide_false, implies_true, forall_const, true_or, or_true, or_false, false_or, false_and, and_false, Int.toNat_natCast, oC_0, oC_1, oC_4, oC_11, oC_16, oC_18, oC_20, oC_23, oC_25, oC_26, oC_29, oC_31, oC_33, oC_35, oC_37, isT_29, isT_31, isT_33, isT_35, isL_16, isL_18, isL_26, ↓hT.f0, ↓hT.f1, ↓hT.a, hT.c, updR_o1, updR_o2, iandZ_1, eq_true hT, ↓e_JM_max]
    subst hu
    have e : (i + 1).toNat = i.toNat + 1 := by omega
    have e3 := hb i.toNat
    have e4 := hb (i.toNat - 1)
    have e5 : (i - 1).toNat = i.toNat - 1 := by omega
    simp only [e, e5, runF, longF, ← hx, ← hy]
    (try simp only [rI_iff, rL_iff] at *)
    repeat' (first | assumption | apply And.intro | intro _)
    all_goals first
      | omega
      | (refine st_ext fun k j => ?_; grind [updR_app, up1_app, runF, longF])
      | (refine Q_eq hQ ?_ ?_ <;> first | rfl | (refine st_ext fun k j => ?_; grind [updR_app, up1_app, runF, longF]) | grind [updR_app, up1_app, runF, longF])
      | grind [updR_app, up1_app, runF, longF]
def s_T_turns : Spec := fun as σ Q => popR as fun o r0 => r0 = [] ∧ (isT o) ∧ (0 ≤ σ o 1 ∧ σ o 1 ≤ 600) ∧ (isBits (σ (o + 1))) ∧ Q (some (.inl (turnF (σ (o + 1)) (σ o 1).toNat))) σ
theorem e_T_turns (o : Nat) (σ : St) (Q : Option AV → St → Prop) : s_T_turns [.inr (.inr (some o))] σ Q = ((isT o) ∧ (0 ≤ σ o 1 ∧ σ o 1 ≤ 600) ∧ (isBits (σ (o + 1))) ∧ Q (some (.inl (turnF (σ (o + 1)) (σ o 1).toNat))) σ) := by
  show ([] = [] ∧ _) = _
  simp only [true_and]
set_option maxHeartbeats 4000000 in
set_option maxRecDepth 20000 in
theorem S_T_turns {l : Launch} : Sat l y_T_turns b_T_turns 3 (some .int) 0 s_T_turns := by
  refine sat_of (Φ := P_T) (κ := Q_T) (Γ := []) (rt := 1) (by decide +kernel) P_T_ok Q_T_ok (fun g hg => absurd hg List.not_mem_nil) (by simp) o_T_turns ?_
  intro as σ Q hh0
  obtain ⟨o, rr0, rfl, hh1⟩ := popR_inv hh0
  obtain ⟨hrE, hT, hs, hb, hQ⟩ := hh1
  subst hrE
  clear hh0
  refine ⟨Nat.le_of_ble_eq_true rfl, [(4, mkC (fun L st u => ∃ (x i : Int), L = [.inr (.inr (some o)), .inl x, .inl i] ∧ st = [] ∧ (1 ≤ i ∧ (i ≤ σ o 1 ∨ i = 1)) ∧ (x = turnF (σ (o + 1)) i.toNat) ∧ (u = σ)) (fun L st u => ((σ o 1 - gI L 2).toNat, 0, 0)))], 14, ?_, cuts1 ?_ (cuts0)⟩
  · rw [show entL 3 [.inr (.inr (some o))] = [.inr (.inr (some o)), .inr (.inr none), .inr (.inr none)] from rfl]
    simp only [↓wpN_go, jmp_e, ↓wp_aload_n0, ↓wp_getfield, ↓wp_goto, ↓wp_iaload, ↓wp_icmp_eq, ↓wp_icmp_ge, ↓wp_iconst, ↓wp_iinc, ↓wp_iload_n1, ↓wp_iload_n2, ↓wp_ireturn1, ↓wp_istore_n1, ↓wp_istore_n2, ↓wp_isub, wp_nil, ↓ldI_0, ↓ldI_s, ↓ldL_0, ↓ldL_s, ↓ldR_0, ↓ldR_s, sto1_0, sto1_1, sto1_s, sto2_0, sto2_1, sto2_s, isLong_i, isLong_l, isLong_r, ↓popI_c, ↓popL_c, ↓popR_c, ↓popN_0, ↓popN_s, catS_n, catS_c, psh_s, psh_n, fldV_n, fldV_s, ↓tgt_e, sw_n, ↓sw_c, ↓lk1_h, ↓lk1_m, ↓atC_h, ↓atC_m, ↓atC_n, ltO_n, ltO_s, updR_eq, updR_ne, gI_0i, gI_0l, gI_s, ltM_iff, List.cons.injEq, Sum.inl.injEq, Sum.inr.injEq, Option.some.injEq, exists_eq_left, exists_eq_left', exists_eq_right, exists_eq_right', exists_and_left, exists_and_right, exists_eq, exists_const, and_assoc, ↓j_T_turns_0, ↓j_T_turns_4, ↓j_T_turns_32, ↓j_T_turns_38, ↓f_T_15, ↓f_T_9, List.length_cons, List.length_nil, Nat.zero_add, Nat.reduceAdd, Int.reduceAdd, Int.reduceNeg, Int.reduceToNat, Int.reduceLE, Int.reduceLT, true_and, and_true, Nat.reduceLT, reduceIte, Nat.reduceEqDiff, ne_eq, not_false_eq_true, false_implies, true_implies, Bool.false_eq_true, reduceCtorEq, List.cons_append, List.nil_append, Nat.reduceSub, Nat.reduceLeDiff, Fin.isValue, Int.reduceNatCast', Int.zero_add, Int.add_zero, decide_true, decide_false, implies_true, forall_const, true_or, or_true, or_false, false_or, false_and, and_false, Int.toNat_natCast, oC_0, oC_1, oC_4, oC_11, oC_16, oC_18, oC_20, oC_23, oC_25, oC_26, oC_29, oC_31, oC_33, oC_35, oC_37, isT_29, isT_31, isT_33, isT_35, isL_16, isL_18, isL_26, ↓hT.f0, ↓hT.f1, ↓hT.a, hT.c, updR_o1, updR_o2, iandZ_1, eq_true hT]
    (try simp only [rI_iff, rL_iff] at *)
    repeat' (first | assumption | apply And.intro | intro _)
    all_goals first
      | omega
      | (refine st_ext fun k j => ?_; grind [updR_app, up1_app, turnF])
      | (refine Q_eq hQ ?_ ?_ <;> first | rfl | (refine st_ext fun k j => ?_; grind [updR_app, up1_app, turnF]) | grind [updR_app, up1_app, turnF])
      | grind [updR_app, up1_app, turnF]
  · intro L st u hI
    obtain ⟨x, i, rfl, rfl, hi, hx, hu⟩ := hI
    simp only [↓wpN_go, jmp_e, ↓wp_aload_n0, ↓wp_getfield, ↓wp_goto, ↓wp_iaload, ↓wp_icmp_eq, ↓wp_icmp_ge, ↓wp_iconst, ↓wp_iinc, ↓wp_iload_n1, ↓wp_iload_n2, ↓wp_ireturn1, ↓wp_istore_n1, ↓wp_istore_n2, ↓wp_isub, wp_nil, ↓ldI_0, ↓ldI_s, ↓ldL_0, ↓ldL_s, ↓ldR_0, ↓ldR_s, sto1_0, sto1_1, sto1_s, sto2_0, sto2_1, sto2_s, isLong_i, isLong_l, isLong_r, ↓popI_c, ↓popL_c, ↓popR_c, ↓popN_0, ↓popN_s, catS_n, catS_c, psh_s, psh_n, fldV_n, fldV_s, ↓tgt_e, sw_n, ↓sw_c, ↓lk1_h, ↓lk1_m, ↓atC_h, ↓atC_m, ↓atC_n, ltO_n, ltO_s, updR_eq, updR_ne, gI_0i, gI_0l, gI_s, ltM_iff, List.cons.injEq, Sum.inl.injEq, Sum.inr.injEq, Option.some.injEq, exists_eq_left, exists_eq_left', exists_eq_right, exists_eq_right', exists_and_left, exists_and_right, exists_eq, exists_const, and_assoc, ↓j_T_turns_0, ↓j_T_turns_4, ↓j_T_turns_32, ↓j_T_turns_38, ↓f_T_15, ↓f_T_9, List.length_cons, List.length_nil, Nat.zero_add, Nat.reduceAdd, Int.reduceAdd, Int.reduceNeg, Int.reduceToNat, Int.reduceLE, Int.reduceLT, true_and, and_true, Nat.reduceLT, reduceIte, Nat.reduceEqDiff, ne_eq, not_false_eq_true, false_implies, true_implies, Bool.false_eq_true, reduceCtorEq, List.cons_append, List.nil_append, Nat.reduceSub, Nat.reduceLeDiff, Fin.isValue, Int.reduceNatCast', Int.zero_add, Int.add_zero, decide_true, decide_false, implies_true, forall_const, true_or, or_true, or_false, false_or, false_and, and_false, Int.toNat_natCast, oC_0, oC_1, oC_4, oC_11, oC_16, oC_18, oC_20, oC_23, oC_25, oC_26, oC_29, oC_31, oC_33, oC_35, oC_37, isT_29, isT_31, isT_33, isT_35, isL_16, isL_18, isL_26, ↓hT.f0, ↓hT.f1, ↓hT.a, hT.c, updR_o1, updR_o2, iandZ_1, eq_true hT]
    subst hu
    have e : (i + 1).toNat = i.toNat + 1 := by omega
    have e3 := hb i.toNat
    have e4 := hb (i.toNat - 1)
    have e5 : (i - 1).toNat = i.toNat - 1 := by omega
    simp only [e, e5, turnF, ← hx]
    (try simp only [rI_iff, rL_iff] at *)
    repeat' (first | assumption | apply And.intro | intro _)
    all_goals first
      | omega
      | (refine st_ext fun k j => ?_; grind [updR_app, up1_app, turnF])
      | (refine Q_eq hQ ?_ ?_ <;> first | rfl | (refine st_ext fun k j => ?_; grind [updR_app, up1_app, turnF]) | grind [updR_app, up1_app, turnF])
      | grind [updR_app, up1_app, turnF]
def s_T_digestBehind : Spec := fun as σ Q => popR as fun o r0 => popL r0 fun h r1 => r1 = [] ∧ (isT o) ∧ (0 ≤ σ o 1 ∧ σ o 1 ≤ 600) ∧ (isBits (σ (o + 1))) ∧ Q (some (.inr (.inl (digF (σ (o + 1)) h (σ o 1).toNat)))) σ
theorem e_T_digestBehind (o : Nat) (h : Int) (σ : St) (Q : Option AV → St → Prop) : s_T_digestBehind [.inr (.inr (some o)), .inr (.inl h)] σ Q = ((isT o) ∧ (0 ≤ σ o 1 ∧ σ o 1 ≤ 600) ∧ (isBits (σ (o + 1))) ∧ Q (some (.inr (.inl (digF (σ (o + 1)) h (σ o 1).toNat)))) σ) := by
  show ([] = [] ∧ _) = _
  simp only [true_and]
set_option maxHeartbeats 4000000 in
set_option maxRecDepth 20000 in
theorem S_T_digestBehind {l : Launch} : Sat l y_T_digestBehind b_T_digestBehind 6 (some .long) 0 s_T_digestBehind := by
  refine sat_of (Φ := P_T) (κ := Q_T) (Γ := []) (rt := 2) (by decide +kernel) P_T_ok Q_T_ok (fun g hg => absurd hg List.not_mem_nil) (by simp) o_T_digestBehind ?_
  intro as σ Q hh0
  obtain ⟨o, rr0, rfl, hh1⟩ := popR_inv hh0
  obtain ⟨h, rr1, rfl, hh2⟩ := popL_inv hh1
  obtain ⟨hrE, hT, hs, hb, hQ⟩ := hh2
  subst hrE
  clear hh0 hh1
  refine ⟨Nat.le_of_ble_eq_true rfl, [(5, mkC (fun L st u => ∃ (x i : Int), L = [.inr (.inr (some o)), .inr (.inl h), .inr (.inr none), .inr (.inl x), .inr (.inr none), .inl i] ∧ st = [] ∧ (0 ≤ i ∧ i ≤ σ o 1) ∧ (x = digF (σ (o + 1)) h i.toNat) ∧ (u = σ)) (fun L st u => ((σ o 1 - gI L 5).toNat, 0, 0)))], 14, ?_, cuts1 ?_ (cuts0)⟩
  · rw [show entL 6 [.inr (.inr (some o)), .inr (.inl h)] = [.inr (.inr (some o)), .inr (.inl h), .inr (.inr none), .inr (.inr none), .inr (.inr none), .inr (.inr none)] from rfl]
    simp only [↓wpN_go, jmp_e, ↓wp_aload_n0, ↓wp_getfield, ↓wp_goto, ↓wp_i2l, ↓wp_iaload, ↓wp_icmp_ge, ↓wp_iconst, ↓wp_iinc, ↓wp_iload, ↓wp_istore, ↓wp_ladd, ↓wp_ldc2_w, ↓wp_lload_n1, ↓wp_lload_n3, ↓wp_lmul, ↓wp_lreturn2, ↓wp_lstore_n3, wp_nil, ↓ldI_0, ↓ldI_s, ↓ldL_0, ↓ldL_s, ↓ldR_0, ↓ldR_s, sto1_0, sto1_1, sto1_s, sto2_0, sto2_1, sto2_s, isLong_i, isLong_l, isLong_r, ↓popI_c, ↓popL_c, ↓popR_c, ↓popN_0, ↓popN_s, catS_n, catS_c, psh_s, psh_n, fldV_n, fldV_s, ↓tgt_e, sw_n, ↓sw_c, ↓lk1_h, ↓lk1_m, ↓atC_h, ↓atC_m, ↓atC_n, ltO_n, ltO_s, updR_eq, updR_ne, gI_0i, gI_0l, gI_s, ltM_iff, List.cons.injEq, Sum.inl.injEq, Sum.inr.injEq, Option.some.injEq, exists_eq_left, exists_eq_left', exists_eq_right, exists_eq_right', exists_and_left, exists_and_right, exists_eq, exists_const, and_assoc, ↓j_T_digestBehind_0, ↓j_T_digestBehind_5, ↓j_T_digestBehind_35, ↓c_T_100049, ↓f_T_15, ↓f_T_9, List.length_cons, List.length_nil, Nat.zero_add, Nat.reduceAdd, Int.reduceAdd, Int.reduceNeg, Int.reduceToNat, Int.reduceLE, Int.reduceLT, true_and, and_true, Nat.reduceLT, reduceIte, Nat.reduceEqDiff, ne_eq, not_false_eq_true, false_implies, true_implies, Bool.false_eq_true, reduceCtorEq, List.cons_append, List.nil_append, Nat.reduceSub, Nat.reduceLeDiff, Fin.isValue, Int.reduceNatCast', Int.zero_add, Int.add_zero, decide_true, decide_false, implies_true, forall_const, true_or, or_true, or_false, false_or, false_and, and_false, Int.toNat_natCast, oC_0, oC_1, oC_4, oC_11, oC_16, oC_18, oC_20, oC_23, oC_25, oC_26, oC_29, oC_31, oC_33, oC_35, oC_37, isT_29, isT_31, isT_33, isT_35, isL_16, isL_18, isL_26, ↓hT.f0, ↓hT.f1, ↓hT.a, hT.c, updR_o1, updR_o2, iandZ_1, eq_true hT]
    (try simp only [rI_iff, rL_iff] at *)
    repeat' (first | assumption | apply And.intro | intro _)
    all_goals first
      | omega
      | (refine st_ext fun k j => ?_; grind [updR_app, up1_app, digF])
      | (refine Q_eq hQ ?_ ?_ <;> first | rfl | (refine st_ext fun k j => ?_; grind [updR_app, up1_app, digF]) | grind [updR_app, up1_app, digF])
      | grind [updR_app, up1_app, digF]
  · intro L st u hI
    obtain ⟨x, i, rfl, rfl, hi, hx, hu⟩ := hI
    simp only [↓wpN_go, jmp_e, ↓wp_aload_n0, ↓wp_getfield, ↓wp_goto, ↓wp_i2l, ↓wp_iaload, ↓wp_icmp_ge, ↓wp_iconst, ↓wp_iinc, ↓wp_iload, ↓wp_istore, ↓wp_ladd, ↓wp_ldc2_w, ↓wp_lload_n1, ↓wp_lload_n3, ↓wp_lmul, ↓wp_lreturn2, ↓wp_lstore_n3, wp_nil, ↓ldI_0, ↓ldI_s, ↓ldL_0, ↓ldL_s, ↓ldR_0, ↓ldR_s, sto1_0, sto1_1, sto1_s, sto2_0, sto2_1, sto2_s, isLong_i, isLong_l, isLong_r, ↓popI_c, ↓popL_c, ↓popR_c, ↓popN_0, ↓popN_s, catS_n, catS_c, psh_s, psh_n, fldV_n, fldV_s, ↓tgt_e, sw_n, ↓sw_c, ↓lk1_h, ↓lk1_m, ↓atC_h, ↓atC_m, ↓atC_n, ltO_n, ltO_s, updR_eq, updR_ne, gI_0i, gI_0l, gI_s, ltM_iff, List.cons.injEq, Sum.inl.injEq, Sum.inr.injEq, Option.some.injEq, exists_eq_left, exists_eq_left', exists_eq_right, exists_eq_right', exists_and_left, exists_and_right, exists_eq, exists_const, and_assoc, ↓j_T_digestBehind_0, ↓j_T_digestBehind_5, ↓j_T_digestBehind_35, ↓c_T_100049, ↓f_T_15, ↓f_T_9, List.length_cons, List.length_nil, Nat.zero_add, Nat.reduceAdd, Int.reduceAdd, Int.reduceNeg, Int.reduceToNat, Int.reduceLE, Int.reduceLT, true_and, and_true, Nat.reduceLT, reduceIte, Nat.reduceEqDiff, ne_eq, not_false_eq_true, false_implies, true_implies, Bool.false_eq_true, reduceCtorEq, List.cons_append, List.nil_append, Nat.reduceSub, Nat.reduceLeDiff, Fin.isValue, Int.reduceNatCast', Int.zero_add, Int.add_zero, decide_true, decide_false, implies_true, forall_const, true_or, or_true, or_false, false_or, false_and, and_false, Int.toNat_natCast, oC_0, oC_1, oC_4, oC_11, oC_16, oC_18, oC_20, oC_23, oC_25, oC_26, oC_29, oC_31, oC_33, oC_35, oC_37, isT_29, isT_31, isT_33, isT_35, isL_16, isL_18, isL_26, ↓hT.f0, ↓hT.f1, ↓hT.a, hT.c, updR_o1, updR_o2, iandZ_1, eq_true hT]
    subst hu
    have e : (i + 1).toNat = i.toNat + 1 := by omega
    have e3 := hb i.toNat
    simp only [e, digF, ← hx]
    (try simp only [rI_iff, rL_iff] at *)
    repeat' (first | assumption | apply And.intro | intro _)
    all_goals first
      | omega
      | (refine st_ext fun k j => ?_; grind [updR_app, up1_app, digF])
      | (refine Q_eq hQ ?_ ?_ <;> first | rfl | (refine st_ext fun k j => ?_; grind [updR_app, up1_app, digF]) | grind [updR_app, up1_app, digF])
      | grind [updR_app, up1_app, digF]
end
section
/-! the wire: reading it; ladders -/
def s_W_size : Spec := fun as σ Q => popR as fun c0 r0 => r0 = [] ∧ c0 = 11 ∧ Q (some (.inl (σ 11 4))) σ
theorem e_W_size  (σ : St) (Q : Option AV → St → Prop) : s_W_size [.inr (.inr (some 11))] σ Q = (Q (some (.inl (σ 11 4))) σ) := by
  show ([] = [] ∧ _) = _
  simp only [true_and]
set_option maxHeartbeats 4000000 in
set_option maxRecDepth 20000 in
theorem S_W_size {l : Launch} : Sat l y_W_size b_W_size 1 (some .int) 0 s_W_size := by
  refine sat_of (Φ := P_W) (κ := Q_W) (Γ := []) (rt := 1) (by decide +kernel) P_W_ok Q_W_ok (fun g hg => absurd hg List.not_mem_nil) (by simp) o_W_size ?_
  intro as σ Q hh0
  obtain ⟨c0, rr0, rfl, hh1⟩ := popR_inv hh0
  obtain ⟨hrE, rfl, hQ⟩ := hh1
  subst hrE
  clear hh0
  refine ⟨Nat.le_of_ble_eq_true rfl, [], 14, ?_, cuts0⟩
  · rw [show entL 1 [.inr (.inr (some 11))] = [.inr (.inr (some 11))] from rfl]
    simp only [↓wpN_go, jmp_e, ↓wp_aload_n0, ↓wp_getfield, ↓wp_ireturn1, wp_nil, ↓ldI_0, ↓ldI_s, ↓ldL_0, ↓ldL_s, ↓ldR_0, ↓ldR_s, sto1_0, sto1_1, sto1_s, sto2_0, sto2_1, sto2_s, isLong_i, isLong_l, isLong_r, ↓popI_c, ↓popL_c, ↓popR_c, ↓popN_0, ↓popN_s, catS_n, catS_c, psh_s, psh_n, fldV_n, fldV_s, ↓tgt_e, sw_n, ↓sw_c, ↓lk1_h, ↓lk1_m, ↓atC_h, ↓atC_m, ↓atC_n, ltO_n, ltO_s, updR_eq, updR_ne, gI_0i, gI_0l, gI_s, ltM_iff, List.cons.injEq, Sum.inl.injEq, Sum.inr.injEq, Option.some.injEq, exists_eq_left, exists_eq_left', exists_eq_right, exists_eq_right', exists_and_left, exists_and_right, exists_eq, exists_const, and_assoc, ↓j_W_size_0, ↓f_W_24, List.length_cons, List.length_nil, Nat.zero_add, Nat.reduceAdd, Int.reduceAdd, Int.reduceNeg, Int.reduceToNat, Int.reduceLE, Int.reduceLT, true_and, and_true, Nat.reduceLT, reduceIte, Nat.reduceEqDiff, ne_eq, not_false_eq_true, false_implies, true_implies, Bool.false_eq_true, reduceCtorEq, List.cons_append, List.nil_append, Nat.reduceSub, Nat.reduceLeDiff, Fin.isValue, Int.reduceNatCast', Int.zero_add, Int.add_zero, decide_true, decide_false, implies_true, forall_const, true_or, or_true, or_false, false_or, false_and, and_false, Int.toNat_natCast, ↓oF_11_0, ↓aF_12, ↓oF_11_1, ↓aF_13, ↓oF_11_2, ↓aF_14, ↓oF_11_3, ↓aF_15, ↓oF_11_4, oC_0, oC_1, oC_4, oC_11, oC_16, oC_18, oC_20, oC_23, oC_25, oC_26, oC_29, oC_31, oC_33, oC_35, oC_37, isT_29, isT_31, isT_33, isT_35, isL_16, isL_18, isL_26]
    (try simp only [rI_iff, rL_iff] at *)
    repeat' (first | assumption | apply And.intro | intro _)
    all_goals first
      | omega
      | (refine st_ext fun k j => ?_; grind [updR_app, up1_app])
      | (refine Q_eq hQ ?_ ?_ <;> first | rfl | (refine st_ext fun k j => ?_; grind [updR_app, up1_app]) | grind [updR_app, up1_app])
      | grind [updR_app, up1_app]
def s_W_has : Spec := fun as σ Q => popR as fun c0 r0 => popI r0 fun s r1 => r1 = [] ∧ c0 = 11 ∧ (0 ≤ σ 11 4 ∧ σ 11 4 ≤ 100) ∧ (rI s) ∧ Q (some (.inl (b2i (0 ≤ s ∧ s < σ 11 4)))) σ
theorem e_W_has (s : Int) (σ : St) (Q : Option AV → St → Prop) : s_W_has [.inr (.inr (some 11)), .inl s] σ Q = ((0 ≤ σ 11 4 ∧ σ 11 4 ≤ 100) ∧ (rI s) ∧ Q (some (.inl (b2i (0 ≤ s ∧ s < σ 11 4)))) σ) := by
  show ([] = [] ∧ _) = _
  simp only [true_and]
set_option maxHeartbeats 4000000 in
set_option maxRecDepth 20000 in
theorem S_W_has {l : Launch} : Sat l y_W_has b_W_has 2 (some .boolean) 0 s_W_has := by
  refine sat_of (Φ := P_W) (κ := Q_W) (Γ := []) (rt := 3) (by decide +kernel) P_W_ok Q_W_ok (fun g hg => absurd hg List.not_mem_nil) (by simp) o_W_has ?_
  intro as σ Q hh0
  obtain ⟨c0, rr0, rfl, hh1⟩ := popR_inv hh0
  obtain ⟨s, rr1, rfl, hh2⟩ := popI_inv hh1
  obtain ⟨hrE, rfl, hN, hs, hQ⟩ := hh2
  subst hrE
  clear hh0 hh1
  refine ⟨Nat.le_of_ble_eq_true rfl, [], 14, ?_, cuts0⟩
  · rw [show entL 2 [.inr (.inr (some 11)), .inl s] = [.inr (.inr (some 11)), .inl s] from rfl]
    simp only [↓wpN_go, jmp_e, ↓wp_aload_n0, ↓wp_getfield, ↓wp_goto, ↓wp_icmp_ge, ↓wp_iconst, ↓wp_if_lt, ↓wp_iload_n1, ↓wp_ireturn3, wp_nil, ↓ldI_0, ↓ldI_s, ↓ldL_0, ↓ldL_s, ↓ldR_0, ↓ldR_s, sto1_0, sto1_1, sto1_s, sto2_0, sto2_1, sto2_s, isLong_i, isLong_l, isLong_r, ↓popI_c, ↓popL_c, ↓popR_c, ↓popN_0, ↓popN_s, catS_n, catS_c, psh_s, psh_n, fldV_n, fldV_s, ↓tgt_e, sw_n, ↓sw_c, ↓lk1_h, ↓lk1_m, ↓atC_h, ↓atC_m, ↓atC_n, ltO_n, ltO_s, updR_eq, updR_ne, gI_0i, gI_0l, gI_s, ltM_iff, List.cons.injEq, Sum.inl.injEq, Sum.inr.injEq, Option.some.injEq, exists_eq_left, exists_eq_left', exists_eq_right, exists_eq_right', exists_and_left, exists_and_right, exists_eq, exists_const, and_assoc, ↓j_W_has_0, ↓j_W_has_16, ↓j_W_has_17, ↓f_W_24, List.length_cons, List.length_nil, Nat.zero_add, Nat.reduceAdd, Int.reduceAdd, Int.reduceNeg, Int.reduceToNat, Int.reduceLE, Int.reduceLT, true_and, and_true, Nat.reduceLT, reduceIte, Nat.reduceEqDiff, ne_eq, not_false_eq_true, false_implies, true_implies, Bool.false_eq_true, reduceCtorEq, List.cons_append, List.nil_append, Nat.reduceSub, Nat.reduceLeDiff, Fin.isValue, Int.reduceNatCast', Int.zero_add, Int.add_zero, decide_true, decide_false, implies_true, forall_const, true_or, or_true, or_false, false_or, false_and, and_false, Int.toNat_natCast, ↓oF_11_0, ↓aF_12, ↓oF_11_1, ↓aF_13, ↓oF_11_2, ↓aF_14, ↓oF_11_3, ↓aF_15, ↓oF_11_4, oC_0, oC_1, oC_4, oC_11, oC_16, oC_18, oC_20, oC_23, oC_25, oC_26, oC_29, oC_31, oC_33, oC_35, oC_37, isT_29, isT_31, isT_33, isT_35, isL_16, isL_18, isL_26]
    (try simp only [rI_iff, rL_iff] at *)
    repeat' (first | assumption | apply And.intro | intro _)
    all_goals first
      | omega
      | (refine st_ext fun k j => ?_; grind [updR_app, up1_app, b2i])
      | (refine Q_eq hQ ?_ ?_ <;> first | rfl | (refine st_ext fun k j => ?_; grind [updR_app, up1_app, b2i]) | grind [updR_app, up1_app, b2i])
      | grind [updR_app, up1_app, b2i]
def s_W_step : Spec := fun as σ Q => popR as fun c0 r0 => popI r0 fun s r1 => popI r1 fun b r2 => r2 = [] ∧ c0 = 11 ∧ (0 ≤ σ 11 4 ∧ σ 11 4 ≤ 100) ∧ (rI s) ∧ (rI b) ∧ Q (some (.inl (stepZ (σ 11 4) (σ 12) s b))) σ
theorem e_W_step (s : Int) (b : Int) (σ : St) (Q : Option AV → St → Prop) : s_W_step [.inr (.inr (some 11)), .inl s, .inl b] σ Q = ((0 ≤ σ 11 4 ∧ σ 11 4 ≤ 100) ∧ (rI s) ∧ (rI b) ∧ Q (some (.inl (stepZ (σ 11 4) (σ 12) s b))) σ) := by
  show ([] = [] ∧ _) = _
  simp only [true_and]
set_option maxHeartbeats 4000000 in
set_option maxRecDepth 20000 in
theorem S_W_step {l : Launch} : Sat l y_W_step b_W_step 3 (some .int) 1 s_W_step := by
  refine sat_of (Φ := P_W) (κ := Q_W) (Γ := [(56, 8, 1, s_W_has)]) (rt := 1) (by decide +kernel) P_W_ok Q_W_ok (by
    refine List.forall_mem_cons.mpr ⟨?_, fun _ h => absurd h List.not_mem_nil⟩
    · exact m_W_has S_W_has (by decide) l_W_56) (by simp) o_W_step ?_
  intro as σ Q hh0
  obtain ⟨c0, rr0, rfl, hh1⟩ := popR_inv hh0
  obtain ⟨s, rr1, rfl, hh2⟩ := popI_inv hh1
  obtain ⟨b, rr2, rfl, hh3⟩ := popI_inv hh2
  obtain ⟨hrE, rfl, hN, hs, hb, hQ⟩ := hh3
  subst hrE
  clear hh0 hh1 hh2
  refine ⟨Nat.le_of_ble_eq_true rfl, [], 14, ?_, cuts0⟩
  · rw [show entL 3 [.inr (.inr (some 11)), .inl s, .inl b] = [.inr (.inr (some 11)), .inl s, .inl b] from rfl]
    simp only [↓wpN_go, jmp_e, ↓wp_aload_n0, ↓wp_getfield, ↓wp_iadd, ↓wp_iaload, ↓wp_icmp_le, ↓wp_iconst, ↓wp_if_eq, ↓wp_if_lt, ↓wp_iload_n1, ↓wp_iload_n2, ↓wp_imul, ↓wp_invokevirtual, ↓wp_ireturn1, wp_nil, ↓ldI_0, ↓ldI_s, ↓ldL_0, ↓ldL_s, ↓ldR_0, ↓ldR_s, sto1_0, sto1_1, sto1_s, sto2_0, sto2_1, sto2_s, isLong_i, isLong_l, isLong_r, ↓popI_c, ↓popL_c, ↓popR_c, ↓popN_0, ↓popN_s, catS_n, catS_c, psh_s, psh_n, fldV_n, fldV_s, ↓tgt_e, sw_n, ↓sw_c, ↓lk1_h, ↓lk1_m, ↓atC_h, ↓atC_m, ↓atC_n, ltO_n, ltO_s, updR_eq, updR_ne, gI_0i, gI_0l, gI_s, ltM_iff, List.cons.injEq, Sum.inl.injEq, Sum.inr.injEq, Option.some.injEq, exists_eq_left, exists_eq_left', exists_eq_right, exists_eq_right', exists_and_left, exists_and_right, exists_eq, exists_const, and_assoc, ↓j_W_step_0, ↓j_W_step_17, ↓j_W_step_19, ↓f_W_9, List.length_cons, List.length_nil, Nat.zero_add, Nat.reduceAdd, Int.reduceAdd, Int.reduceNeg, Int.reduceToNat, Int.reduceLE, Int.reduceLT, true_and, and_true, Nat.reduceLT, reduceIte, Nat.reduceEqDiff, ne_eq, not_false_eq_true, false_implies, true_implies, Bool.false_eq_true, reduceCtorEq, List.cons_append, List.nil_append, Nat.reduceSub, Nat.reduceLeDiff, Fin.isValue, Int.reduceNatCast', Int.zero_add, Int.add_zero, decide_true, decide_false, implies_true, forall_const, true_or, or_true, or_false, false_or, false_and, and_false, Int.toNat_natCast, ↓oF_11_0, ↓aF_12, ↓oF_11_1, ↓aF_13, ↓oF_11_2, ↓aF_14, ↓oF_11_3, ↓aF_15, ↓oF_11_4, oC_0, oC_1, oC_4, oC_11, oC_16, oC_18, oC_20, oC_23, oC_25, oC_26, oC_29, oC_31, oC_33, oC_35, oC_37, isT_29, isT_31, isT_33, isT_35, isL_16, isL_18, isL_26, b2i_0, b2i_1, b2i_01, b2i_r, ↓e_W_has]
    (try simp only [rI_iff, rL_iff] at *)
    repeat' (first | assumption | apply And.intro | intro _)
    all_goals first
      | omega
      | (refine st_ext fun k j => ?_; grind [updR_app, up1_app, stepZ])
      | (refine Q_eq hQ ?_ ?_ <;> first | rfl | (refine st_ext fun k j => ?_; grind [updR_app, up1_app, stepZ]) | grind [updR_app, up1_app, stepZ])
      | grind [updR_app, up1_app, stepZ]
theorem stepZ_r {N : Int} {f : Nat → Int} (hN : N ≤ 100) (hf : ∀ π : Nat, (π : Int) < 2 * N → -1 ≤ f π ∧ f π < N) (s b : Int) : -1 ≤ stepZ N f s b ∧ (stepZ N f s b < N ∨ stepZ N f s b = -1) := by
  unfold stepZ
  split
  · next h =>
    have := hf (2 * s + b).toNat (by omega)
    omega
  · omega
def s_W_follow : Spec := fun as σ Q => popR as fun c0 r0 => popI r0 fun s r1 => popL r1 fun row r2 => popI r2 fun n r3 => r3 = [] ∧ c0 = 11 ∧ (0 ≤ σ 11 4 ∧ σ 11 4 ≤ 100) ∧ (Wire (σ 11 4) (σ 12)) ∧ (rI s) ∧ (rL row) ∧ (0 ≤ n ∧ n ≤ 60) ∧ Q (some (.inl (folZ (σ 11 4) (σ 12) row n.toNat s))) σ
theorem e_W_follow (s : Int) (row : Int) (n : Int) (σ : St) (Q : Option AV → St → Prop) : s_W_follow [.inr (.inr (some 11)), .inl s, .inr (.inl row), .inl n] σ Q = ((0 ≤ σ 11 4 ∧ σ 11 4 ≤ 100) ∧ (Wire (σ 11 4) (σ 12)) ∧ (rI s) ∧ (rL row) ∧ (0 ≤ n ∧ n ≤ 60) ∧ Q (some (.inl (folZ (σ 11 4) (σ 12) row n.toNat s))) σ) := by
  show ([] = [] ∧ _) = _
  simp only [true_and]
set_option maxHeartbeats 4000000 in
set_option maxRecDepth 20000 in
theorem S_W_follow {l : Launch} : Sat l y_W_follow b_W_follow 7 (some .int) 2 s_W_follow := by
  refine sat_of (Φ := P_W) (κ := Q_W) (Γ := [(53, 8, 2, s_W_step)]) (rt := 1) (by decide +kernel) P_W_ok Q_W_ok (by
    refine List.forall_mem_cons.mpr ⟨?_, fun _ h => absurd h List.not_mem_nil⟩
    · exact m_W_step S_W_step (by decide) l_W_53) (by simp) o_W_follow ?_
  intro as σ Q hh0
  obtain ⟨c0, rr0, rfl, hh1⟩ := popR_inv hh0
  obtain ⟨s, rr1, rfl, hh2⟩ := popI_inv hh1
  obtain ⟨row, rr2, rfl, hh3⟩ := popL_inv hh2
  obtain ⟨n, rr3, rfl, hh4⟩ := popI_inv hh3
  obtain ⟨hrE, rfl, hN, hf, hs, hrow, hn, hQ⟩ := hh4
  subst hrE
  clear hh0 hh1 hh2 hh3
  refine ⟨Nat.le_of_ble_eq_true rfl, [(9, mkC (fun L st u => ∃ (x i : Int), L = [.inr (.inr (some 11)), .inl s, .inr (.inl row), .inr (.inr none), .inl n, .inl x, .inl i] ∧ st = [] ∧ (-1 ≤ i ∧ i < n) ∧ (folZ (σ 11 4) (σ 12) row (i + 1).toNat x = folZ (σ 11 4) (σ 12) row n.toNat s) ∧ (rI x) ∧ (u = σ)) (fun L st u => ((gI L 6 + 1).toNat, 0, 0)))], 14, ?_, cuts1 ?_ (cuts0)⟩
  · rw [show entL 7 [.inr (.inr (some 11)), .inl s, .inr (.inl row), .inl n] = [.inr (.inr (some 11)), .inl s, .inr (.inl row), .inr (.inr none), .inl n, .inr (.inr none), .inr (.inr none)] from rfl]
    simp only [↓wpN_go, jmp_e, ↓wp_aload_n0, ↓wp_goto, ↓wp_iand, ↓wp_iconst, ↓wp_if_lt, ↓wp_iinc, ↓wp_iload, ↓wp_iload_n1, ↓wp_invokevirtual, ↓wp_ireturn1, ↓wp_istore, ↓wp_isub, ↓wp_l2i, ↓wp_lload_n2, ↓wp_lshr, wp_nil, ↓ldI_0, ↓ldI_s, ↓ldL_0, ↓ldL_s, ↓ldR_0, ↓ldR_s, sto1_0, sto1_1, sto1_s, sto2_0, sto2_1, sto2_s, isLong_i, isLong_l, isLong_r, ↓popI_c, ↓popL_c, ↓popR_c, ↓popN_0, ↓popN_s, catS_n, catS_c, psh_s, psh_n, fldV_n, fldV_s, ↓tgt_e, sw_n, ↓sw_c, ↓lk1_h, ↓lk1_m, ↓atC_h, ↓atC_m, ↓atC_n, ltO_n, ltO_s, updR_eq, updR_ne, gI_0i, gI_0l, gI_s, ltM_iff, List.cons.injEq, Sum.inl.injEq, Sum.inr.injEq, Option.some.injEq, exists_eq_left, exists_eq_left', exists_eq_right, exists_eq_right', exists_and_left, exists_and_right, exists_eq, exists_const, and_assoc, ↓j_W_follow_0, ↓j_W_follow_9, ↓j_W_follow_35, List.length_cons, List.length_nil, Nat.zero_add, Nat.reduceAdd, Int.reduceAdd, Int.reduceNeg, Int.reduceToNat, Int.reduceLE, Int.reduceLT, true_and, and_true, Nat.reduceLT, reduceIte, Nat.reduceEqDiff, ne_eq, not_false_eq_true, false_implies, true_implies, Bool.false_eq_true, reduceCtorEq, List.cons_append, List.nil_append, Nat.reduceSub, Nat.reduceLeDiff, Fin.isValue, Int.reduceNatCast', Int.zero_add, Int.add_zero, decide_true, decide_false, implies_true, forall_const, true_or, or_true, or_false, false_or, false_and, and_false, Int.toNat_natCast, ↓oF_11_0, ↓aF_12, ↓oF_11_1, ↓aF_13, ↓oF_11_2, ↓aF_14, ↓oF_11_3, ↓aF_15, ↓oF_11_4, oC_0, oC_1, oC_4, oC_11, oC_16, oC_18, oC_20, oC_23, oC_25, oC_26, oC_29, oC_31, oC_33, oC_35, oC_37, isT_29, isT_31, isT_33, isT_35, isL_16, isL_18, isL_26, iandZ_1, ↓e_W_step]
    (try simp only [rI_iff, rL_iff] at *)
    repeat' (first | assumption | apply And.intro | intro _)
    all_goals first
      | omega
      | (refine st_ext fun k j => ?_; grind [updR_app, up1_app, folZ])
      | (refine Q_eq hQ ?_ ?_ <;> first | rfl | (refine st_ext fun k j => ?_; grind [updR_app, up1_app, folZ]) | grind [updR_app, up1_app, folZ])
      | grind [updR_app, up1_app, folZ]
  · intro L st u hI
    obtain ⟨x, i, rfl, rfl, hi, hx, hxr, hu⟩ := hI
    simp only [↓wpN_go, jmp_e, ↓wp_aload_n0, ↓wp_goto, ↓wp_iand, ↓wp_iconst, ↓wp_if_lt, ↓wp_iinc, ↓wp_iload, ↓wp_iload_n1, ↓wp_invokevirtual, ↓wp_ireturn1, ↓wp_istore, ↓wp_isub, ↓wp_l2i, ↓wp_lload_n2, ↓wp_lshr, wp_nil, ↓ldI_0, ↓ldI_s, ↓ldL_0, ↓ldL_s, ↓ldR_0, ↓ldR_s, sto1_0, sto1_1, sto1_s, sto2_0, sto2_1, sto2_s, isLong_i, isLong_l, isLong_r, ↓popI_c, ↓popL_c, ↓popR_c, ↓popN_0, ↓popN_s, catS_n, catS_c, psh_s, psh_n, fldV_n, fldV_s, ↓tgt_e, sw_n, ↓sw_c, ↓lk1_h, ↓lk1_m, ↓atC_h, ↓atC_m, ↓atC_n, ltO_n, ltO_s, updR_eq, updR_ne, gI_0i, gI_0l, gI_s, ltM_iff, List.cons.injEq, Sum.inl.injEq, Sum.inr.injEq, Option.some.injEq, exists_eq_left, exists_eq_left', exists_eq_right, exists_eq_right', exists_and_left, exists_and_right, exists_eq, exists_const, and_assoc, ↓j_W_follow_0, ↓j_W_follow_9, ↓j_W_follow_35, List.length_cons, List.length_nil, Nat.zero_add, Nat.reduceAdd, Int.reduceAdd, Int.reduceNeg, Int.reduceToNat, Int.reduceLE, Int.reduceLT, true_and, and_true, Nat.reduceLT, reduceIte, Nat.reduceEqDiff, ne_eq, not_false_eq_true, false_implies, true_implies, Bool.false_eq_true, reduceCtorEq, List.cons_append, List.nil_append, Nat.reduceSub, Nat.reduceLeDiff, Fin.isValue, Int.reduceNatCast', Int.zero_add, Int.add_zero, decide_true, decide_false, implies_true, forall_const, true_or, or_true, or_false, false_or, false_and, and_false, Int.toNat_natCast, ↓oF_11_0, ↓aF_12, ↓oF_11_1, ↓aF_13, ↓oF_11_2, ↓aF_14, ↓oF_11_3, ↓aF_15, ↓oF_11_4, oC_0, oC_1, oC_4, oC_11, oC_16, oC_18, oC_20, oC_23, oC_25, oC_26, oC_29, oC_31, oC_33, oC_35, oC_37, isT_29, isT_31, isT_33, isT_35, isL_16, isL_18, isL_26, iandZ_1, ↓e_W_step]
    subst hu
    have e0 : i + 1 - 1 = i := by omega
    have h1 := stepZ_r hN.2 hf x (row / 2 ^ i.toNat % 2)
    have e8 : i + -1 + 1 = i := by omega
    rw [e8]
    have e9 : i < 0 → folZ (u 11 4) (u 12) row (i + 1).toNat x = x := fun h => by rw [show (i + 1).toNat = 0 by omega]; rfl
    have e1 : 0 ≤ i → folZ (u 11 4) (u 12) row (i + 1).toNat x = folZ (u 11 4) (u 12) row i.toNat (stepZ (u 11 4) (u 12) x (row / 2 ^ i.toNat % 2)) := fun h => by rw [show (i + 1).toNat = i.toNat + 1 by omega]; rfl
    (try simp only [rI_iff, rL_iff] at *)
    repeat' (first | assumption | apply And.intro | intro _)
    all_goals first
      | omega
      | (refine st_ext fun k j => ?_; grind [updR_app, up1_app, folZ, bitZ])
      | (refine Q_eq hQ ?_ ?_ <;> first | rfl | (refine st_ext fun k j => ?_; grind [updR_app, up1_app, folZ, bitZ]) | grind [updR_app, up1_app, folZ, bitZ])
      | grind [updR_app, up1_app, folZ, bitZ]
def s_W_depthOf : Spec := fun as σ Q => popR as fun c0 r0 => popI r0 fun s r1 => r1 = [] ∧ c0 = 11 ∧ (0 ≤ σ 11 4 ∧ σ 11 4 ≤ 100) ∧ (rI s) ∧ Q (some (.inl (if 0 ≤ s ∧ s < σ 11 4 then σ 15 s.toNat else 0))) σ
theorem e_W_depthOf (s : Int) (σ : St) (Q : Option AV → St → Prop) : s_W_depthOf [.inr (.inr (some 11)), .inl s] σ Q = ((0 ≤ σ 11 4 ∧ σ 11 4 ≤ 100) ∧ (rI s) ∧ Q (some (.inl (if 0 ≤ s ∧ s < σ 11 4 then σ 15 s.toNat else 0))) σ) := by
  show ([] = [] ∧ _) = _
  simp only [true_and]
set_option maxHeartbeats 4000000 in
set_option maxRecDepth 20000 in
theorem S_W_depthOf {l : Launch} : Sat l y_W_depthOf b_W_depthOf 2 (some .int) 1 s_W_depthOf := by
  refine sat_of (Φ := P_W) (κ := Q_W) (Γ := [(56, 8, 1, s_W_has)]) (rt := 1) (by decide +kernel) P_W_ok Q_W_ok (by
    refine List.forall_mem_cons.mpr ⟨?_, fun _ h => absurd h List.not_mem_nil⟩
    · exact m_W_has S_W_has (by decide) l_W_56) (by simp) o_W_depthOf ?_
  intro as σ Q hh0
  obtain ⟨c0, rr0, rfl, hh1⟩ := popR_inv hh0
  obtain ⟨s, rr1, rfl, hh2⟩ := popI_inv hh1
  obtain ⟨hrE, rfl, hN, hs, hQ⟩ := hh2
  subst hrE
  clear hh0 hh1
  refine ⟨Nat.le_of_ble_eq_true rfl, [], 14, ?_, cuts0⟩
  · rw [show entL 2 [.inr (.inr (some 11)), .inl s] = [.inr (.inr (some 11)), .inl s] from rfl]
    simp only [↓wpN_go, jmp_e, ↓wp_aload_n0, ↓wp_getfield, ↓wp_goto, ↓wp_iaload, ↓wp_iconst, ↓wp_if_eq, ↓wp_iload_n1, ↓wp_invokevirtual, ↓wp_ireturn1, wp_nil, ↓ldI_0, ↓ldI_s, ↓ldL_0, ↓ldL_s, ↓ldR_0, ↓ldR_s, sto1_0, sto1_1, sto1_s, sto2_0, sto2_1, sto2_s, isLong_i, isLong_l, isLong_r, ↓popI_c, ↓popL_c, ↓popR_c, ↓popN_0, ↓popN_s, catS_n, catS_c, psh_s, psh_n, fldV_n, fldV_s, ↓tgt_e, sw_n, ↓sw_c, ↓lk1_h, ↓lk1_m, ↓atC_h, ↓atC_m, ↓atC_n, ltO_n, ltO_s, updR_eq, updR_ne, gI_0i, gI_0l, gI_s, ltM_iff, List.cons.injEq, Sum.inl.injEq, Sum.inr.injEq, Option.some.injEq, exists_eq_left, exists_eq_left', exists_eq_right, exists_eq_right', exists_and_left, exists_and_right, exists_eq, exists_const, and_assoc, ↓j_W_depthOf_0, ↓j_W_depthOf_17, ↓j_W_depthOf_18, ↓f_W_21, List.length_cons, List.length_nil, Nat.zero_add, Nat.reduceAdd, Int.reduceAdd, Int.reduceNeg, Int.reduceToNat, Int.reduceLE, Int.reduceLT, true_and, and_true, Nat.reduceLT, reduceIte, Nat.reduceEqDiff, ne_eq, not_false_eq_true, false_implies, true_implies, Bool.false_eq_true, reduceCtorEq, List.cons_append, List.nil_append, Nat.reduceSub, Nat.reduceLeDiff, Fin.isValue, Int.reduceNatCast', Int.zero_add, Int.add_zero, decide_true, decide_false, implies_true, forall_const, true_or, or_true, or_false, false_or, false_and, and_false, Int.toNat_natCast, ↓oF_11_0, ↓aF_12, ↓oF_11_1, ↓aF_13, ↓oF_11_2, ↓aF_14, ↓oF_11_3, ↓aF_15, ↓oF_11_4, oC_0, oC_1, oC_4, oC_11, oC_16, oC_18, oC_20, oC_23, oC_25, oC_26, oC_29, oC_31, oC_33, oC_35, oC_37, isT_29, isT_31, isT_33, isT_35, isL_16, isL_18, isL_26, b2i_0, b2i_1, b2i_01, b2i_r, ↓e_W_has]
    (try simp only [rI_iff, rL_iff] at *)
    repeat' (first | assumption | apply And.intro | intro _)
    all_goals first
      | omega
      | (refine st_ext fun k j => ?_; grind [updR_app, up1_app])
      | (refine Q_eq hQ ?_ ?_ <;> first | rfl | (refine st_ext fun k j => ?_; grind [updR_app, up1_app]) | grind [updR_app, up1_app])
      | grind [updR_app, up1_app]
def s_W_parentOf : Spec := fun as σ Q => popR as fun c0 r0 => popI r0 fun s r1 => r1 = [] ∧ c0 = 11 ∧ (0 ≤ σ 11 4 ∧ σ 11 4 ≤ 100) ∧ (rI s) ∧ Q (some (.inl (if 0 ≤ s ∧ s < σ 11 4 then σ 13 s.toNat else -1))) σ
theorem e_W_parentOf (s : Int) (σ : St) (Q : Option AV → St → Prop) : s_W_parentOf [.inr (.inr (some 11)), .inl s] σ Q = ((0 ≤ σ 11 4 ∧ σ 11 4 ≤ 100) ∧ (rI s) ∧ Q (some (.inl (if 0 ≤ s ∧ s < σ 11 4 then σ 13 s.toNat else -1))) σ) := by
  show ([] = [] ∧ _) = _
  simp only [true_and]
set_option maxHeartbeats 4000000 in
set_option maxRecDepth 20000 in
theorem S_W_parentOf {l : Launch} : Sat l y_W_parentOf b_W_parentOf 2 (some .int) 1 s_W_parentOf := by
  refine sat_of (Φ := P_W) (κ := Q_W) (Γ := [(56, 8, 1, s_W_has)]) (rt := 1) (by decide +kernel) P_W_ok Q_W_ok (by
    refine List.forall_mem_cons.mpr ⟨?_, fun _ h => absurd h List.not_mem_nil⟩
    · exact m_W_has S_W_has (by decide) l_W_56) (by simp) o_W_parentOf ?_
  intro as σ Q hh0
  obtain ⟨c0, rr0, rfl, hh1⟩ := popR_inv hh0
  obtain ⟨s, rr1, rfl, hh2⟩ := popI_inv hh1
  obtain ⟨hrE, rfl, hN, hs, hQ⟩ := hh2
  subst hrE
  clear hh0 hh1
  refine ⟨Nat.le_of_ble_eq_true rfl, [], 14, ?_, cuts0⟩
  · rw [show entL 2 [.inr (.inr (some 11)), .inl s] = [.inr (.inr (some 11)), .inl s] from rfl]
    simp only [↓wpN_go, jmp_e, ↓wp_aload_n0, ↓wp_getfield, ↓wp_goto, ↓wp_iaload, ↓wp_iconst, ↓wp_if_eq, ↓wp_iload_n1, ↓wp_invokevirtual, ↓wp_ireturn1, wp_nil, ↓ldI_0, ↓ldI_s, ↓ldL_0, ↓ldL_s, ↓ldR_0, ↓ldR_s, sto1_0, sto1_1, sto1_s, sto2_0, sto2_1, sto2_s, isLong_i, isLong_l, isLong_r, ↓popI_c, ↓popL_c, ↓popR_c, ↓popN_0, ↓popN_s, catS_n, catS_c, psh_s, psh_n, fldV_n, fldV_s, ↓tgt_e, sw_n, ↓sw_c, ↓lk1_h, ↓lk1_m, ↓atC_h, ↓atC_m, ↓atC_n, ltO_n, ltO_s, updR_eq, updR_ne, gI_0i, gI_0l, gI_s, ltM_iff, List.cons.injEq, Sum.inl.injEq, Sum.inr.injEq, Option.some.injEq, exists_eq_left, exists_eq_left', exists_eq_right, exists_eq_right', exists_and_left, exists_and_right, exists_eq, exists_const, and_assoc, ↓j_W_parentOf_0, ↓j_W_parentOf_17, ↓j_W_parentOf_18, ↓f_W_15, List.length_cons, List.length_nil, Nat.zero_add, Nat.reduceAdd, Int.reduceAdd, Int.reduceNeg, Int.reduceToNat, Int.reduceLE, Int.reduceLT, true_and, and_true, Nat.reduceLT, reduceIte, Nat.reduceEqDiff, ne_eq, not_false_eq_true, false_implies, true_implies, Bool.false_eq_true, reduceCtorEq, List.cons_append, List.nil_append, Nat.reduceSub, Nat.reduceLeDiff, Fin.isValue, Int.reduceNatCast', Int.zero_add, Int.add_zero, decide_true, decide_false, implies_true, forall_const, true_or, or_true, or_false, false_or, false_and, and_false, Int.toNat_natCast, ↓oF_11_0, ↓aF_12, ↓oF_11_1, ↓aF_13, ↓oF_11_2, ↓aF_14, ↓oF_11_3, ↓aF_15, ↓oF_11_4, oC_0, oC_1, oC_4, oC_11, oC_16, oC_18, oC_20, oC_23, oC_25, oC_26, oC_29, oC_31, oC_33, oC_35, oC_37, isT_29, isT_31, isT_33, isT_35, isL_16, isL_18, isL_26, b2i_0, b2i_1, b2i_01, b2i_r, ↓e_W_has]
    (try simp only [rI_iff, rL_iff] at *)
    repeat' (first | assumption | apply And.intro | intro _)
    all_goals first
      | omega
      | (refine st_ext fun k j => ?_; grind [updR_app, up1_app])
      | (refine Q_eq hQ ?_ ?_ <;> first | rfl | (refine st_ext fun k j => ?_; grind [updR_app, up1_app]) | grind [updR_app, up1_app])
      | grind [updR_app, up1_app]
def s_W_lastBitOf : Spec := fun as σ Q => popR as fun c0 r0 => popI r0 fun s r1 => r1 = [] ∧ c0 = 11 ∧ (0 ≤ σ 11 4 ∧ σ 11 4 ≤ 100) ∧ (rI s) ∧ Q (some (.inl (if 0 ≤ s ∧ s < σ 11 4 then σ 14 s.toNat else 0))) σ
theorem e_W_lastBitOf (s : Int) (σ : St) (Q : Option AV → St → Prop) : s_W_lastBitOf [.inr (.inr (some 11)), .inl s] σ Q = ((0 ≤ σ 11 4 ∧ σ 11 4 ≤ 100) ∧ (rI s) ∧ Q (some (.inl (if 0 ≤ s ∧ s < σ 11 4 then σ 14 s.toNat else 0))) σ) := by
  show ([] = [] ∧ _) = _
  simp only [true_and]
set_option maxHeartbeats 4000000 in
set_option maxRecDepth 20000 in
theorem S_W_lastBitOf {l : Launch} : Sat l y_W_lastBitOf b_W_lastBitOf 2 (some .int) 1 s_W_lastBitOf := by
  refine sat_of (Φ := P_W) (κ := Q_W) (Γ := [(56, 8, 1, s_W_has)]) (rt := 1) (by decide +kernel) P_W_ok Q_W_ok (by
    refine List.forall_mem_cons.mpr ⟨?_, fun _ h => absurd h List.not_mem_nil⟩
    · exact m_W_has S_W_has (by decide) l_W_56) (by simp) o_W_lastBitOf ?_
  intro as σ Q hh0
  obtain ⟨c0, rr0, rfl, hh1⟩ := popR_inv hh0
  obtain ⟨s, rr1, rfl, hh2⟩ := popI_inv hh1
  obtain ⟨hrE, rfl, hN, hs, hQ⟩ := hh2
  subst hrE
  clear hh0 hh1
  refine ⟨Nat.le_of_ble_eq_true rfl, [], 14, ?_, cuts0⟩
  · rw [show entL 2 [.inr (.inr (some 11)), .inl s] = [.inr (.inr (some 11)), .inl s] from rfl]
    simp only [↓wpN_go, jmp_e, ↓wp_aload_n0, ↓wp_getfield, ↓wp_goto, ↓wp_iaload, ↓wp_iconst, ↓wp_if_eq, ↓wp_iload_n1, ↓wp_invokevirtual, ↓wp_ireturn1, wp_nil, ↓ldI_0, ↓ldI_s, ↓ldL_0, ↓ldL_s, ↓ldR_0, ↓ldR_s, sto1_0, sto1_1, sto1_s, sto2_0, sto2_1, sto2_s, isLong_i, isLong_l, isLong_r, ↓popI_c, ↓popL_c, ↓popR_c, ↓popN_0, ↓popN_s, catS_n, catS_c, psh_s, psh_n, fldV_n, fldV_s, ↓tgt_e, sw_n, ↓sw_c, ↓lk1_h, ↓lk1_m, ↓atC_h, ↓atC_m, ↓atC_n, ltO_n, ltO_s, updR_eq, updR_ne, gI_0i, gI_0l, gI_s, ltM_iff, List.cons.injEq, Sum.inl.injEq, Sum.inr.injEq, Option.some.injEq, exists_eq_left, exists_eq_left', exists_eq_right, exists_eq_right', exists_and_left, exists_and_right, exists_eq, exists_const, and_assoc, ↓j_W_lastBitOf_0, ↓j_W_lastBitOf_17, ↓j_W_lastBitOf_18, ↓f_W_18, List.length_cons, List.length_nil, Nat.zero_add, Nat.reduceAdd, Int.reduceAdd, Int.reduceNeg, Int.reduceToNat, Int.reduceLE, Int.reduceLT, true_and, and_true, Nat.reduceLT, reduceIte, Nat.reduceEqDiff, ne_eq, not_false_eq_true, false_implies, true_implies, Bool.false_eq_true, reduceCtorEq, List.cons_append, List.nil_append, Nat.reduceSub, Nat.reduceLeDiff, Fin.isValue, Int.reduceNatCast', Int.zero_add, Int.add_zero, decide_true, decide_false, implies_true, forall_const, true_or, or_true, or_false, false_or, false_and, and_false, Int.toNat_natCast, ↓oF_11_0, ↓aF_12, ↓oF_11_1, ↓aF_13, ↓oF_11_2, ↓aF_14, ↓oF_11_3, ↓aF_15, ↓oF_11_4, oC_0, oC_1, oC_4, oC_11, oC_16, oC_18, oC_20, oC_23, oC_25, oC_26, oC_29, oC_31, oC_33, oC_35, oC_37, isT_29, isT_31, isT_33, isT_35, isL_16, isL_18, isL_26, b2i_0, b2i_1, b2i_01, b2i_r, ↓e_W_has]
    (try simp only [rI_iff, rL_iff] at *)
    repeat' (first | assumption | apply And.intro | intro _)
    all_goals first
      | omega
      | (refine st_ext fun k j => ?_; grind [updR_app, up1_app])
      | (refine Q_eq hQ ?_ ?_ <;> first | rfl | (refine st_ext fun k j => ?_; grind [updR_app, up1_app]) | grind [updR_app, up1_app])
      | grind [updR_app, up1_app]
end
section
/-! ladders -/
def ladV (f : Nat → Int) (r s : Int) : Int := if 0 ≤ r ∧ r < 61 ∧ 0 ≤ s ∧ s < 100 then f (r * 100 + s).toNat else 0
def Climbed (N : Int) (f w : Nat → Int) (top : Int) (g : Nat → Int) : Prop := ∀ r : Nat, (r : Int) ≤ top → r < 61 → ∀ s : Nat, (s : Int) < N → g (r * 100 + s) = ladI N f w r s
theorem isL_cases {o : Nat} (h : isL o) : o = 16 ∨ o = 18 ∨ o = 26 := by
  have h1 : o < 67 := (List.getElem?_eq_some_iff.mp h.1).1
  have h2 : (List.range 67).all (fun o => !(decide (SH[o]? = some (.inl (3, [some (o + 1)])))) || (o == 16 || (o == 18 || o == 26))) = true := by decide +kernel
  have h3 := List.all_eq_true.mp h2 o (List.mem_range.mpr h1)
  simpa [h.1] using h3
theorem updR_L11 {o : Nat} (h : isL o) (σ : St) (f : Nat → Int) : updR σ (o + 1) f 11 = σ 11 := updR_ne _ _ _ _ (by have := isL_cases h; omega)
theorem updR_L12 {o : Nat} (h : isL o) (σ : St) (f : Nat → Int) : updR σ (o + 1) f 12 = σ 12 := updR_ne _ _ _ _ (by have := isL_cases h; omega)
theorem ladI_out {N : Int} {f w : Nat → Int} {r : Nat} {s : Int} (h : ¬ (0 ≤ s ∧ s < N)) : ladI N f w r s = 0 := by
  cases r <;> exact if_neg h
theorem lad_at {N : Int} {f w g : Nat → Int} {r : Nat} (hN : N ≤ 100) (hr : r < 61) (h : ∀ s : Nat, (s : Int) < N → g (r * 100 + s) = ladI N f w r s) {t : Int} (ht : t < N ∨ t = -1) : ladV g r t = ladI N f w r t := by
  unfold ladV
  by_cases h1 : 0 ≤ t ∧ t < N
  · rw [if_pos (by omega)]
    have := h t.toNat (by omega)
    rw [show ((r : Int) * 100 + t).toNat = r * 100 + t.toNat by omega, this, Int.toNat_of_nonneg h1.1]
  · rw [if_neg (by omega), ladI_out h1]
def s_L_at : Spec := fun as σ Q => popR as fun o r0 => popI r0 fun r r1 => popI r1 fun s r2 => r2 = [] ∧ (isL o) ∧ (rI r) ∧ (rI s) ∧ Q (some (.inr (.inl (ladV (σ (o + 1)) r s)))) σ
theorem e_L_at (o : Nat) (r : Int) (s : Int) (σ : St) (Q : Option AV → St → Prop) : s_L_at [.inr (.inr (some o)), .inl r, .inl s] σ Q = ((isL o) ∧ (rI r) ∧ (rI s) ∧ Q (some (.inr (.inl (ladV (σ (o + 1)) r s)))) σ) := by
  show ([] = [] ∧ _) = _
  simp only [true_and]
set_option maxHeartbeats 4000000 in
set_option maxRecDepth 20000 in
theorem S_L_at {l : Launch} : Sat l y_L_at b_L_at 3 (some .long) 0 s_L_at := by
  refine sat_of (Φ := P_L) (κ := Q_L) (Γ := []) (rt := 2) (by decide +kernel) P_L_ok Q_L_ok (fun g hg => absurd hg List.not_mem_nil) (by simp) o_L_at ?_
  intro as σ Q hh0
  obtain ⟨o, rr0, rfl, hh1⟩ := popR_inv hh0
  obtain ⟨r, rr1, rfl, hh2⟩ := popI_inv hh1
  obtain ⟨s, rr2, rfl, hh3⟩ := popI_inv hh2
  obtain ⟨hrE, hL, hr, hs, hQ⟩ := hh3
  subst hrE
  clear hh0 hh1 hh2
  refine ⟨Nat.le_of_ble_eq_true rfl, [], 14, ?_, cuts0⟩
  · rw [show entL 3 [.inr (.inr (some o)), .inl r, .inl s] = [.inr (.inr (some o)), .inl r, .inl s] from rfl]
    simp only [↓wpN_go, jmp_e, ↓wp_aload_n0, ↓wp_bipush, ↓wp_getfield, ↓wp_iadd, ↓wp_icmp_ge, ↓wp_icmp_lt, ↓wp_if_lt, ↓wp_iload_n1, ↓wp_iload_n2, ↓wp_imul, ↓wp_laload, ↓wp_lconst0, ↓wp_lreturn2, wp_nil, ↓ldI_0, ↓ldI_s, ↓ldL_0, ↓ldL_s, ↓ldR_0, ↓ldR_s, sto1_0, sto1_1, sto1_s, sto2_0, sto2_1, sto2_s, isLong_i, isLong_l, isLong_r, ↓popI_c, ↓popL_c, ↓popR_c, ↓popN_0, ↓popN_s, catS_n, catS_c, psh_s, psh_n, fldV_n, fldV_s, ↓tgt_e, sw_n, ↓sw_c, ↓lk1_h, ↓lk1_m, ↓atC_h, ↓atC_m, ↓atC_n, ltO_n, ltO_s, updR_eq, updR_ne, gI_0i, gI_0l, gI_s, ltM_iff, List.cons.injEq, Sum.inl.injEq, Sum.inr.injEq, Option.some.injEq, exists_eq_left, exists_eq_left', exists_eq_right, exists_eq_right', exists_and_left, exists_and_right, exists_eq, exists_const, and_assoc, ↓j_L_at_0, ↓j_L_at_20, ↓j_L_at_22, ↓f_L_11, List.length_cons, List.length_nil, Nat.zero_add, Nat.reduceAdd, Int.reduceAdd, Int.reduceNeg, Int.reduceToNat, Int.reduceLE, Int.reduceLT, true_and, and_true, Nat.reduceLT, reduceIte, Nat.reduceEqDiff, ne_eq, not_false_eq_true, false_implies, true_implies, Bool.false_eq_true, reduceCtorEq, List.cons_append, List.nil_append, Nat.reduceSub, Nat.reduceLeDiff, Fin.isValue, Int.reduceNatCast', Int.zero_add, Int.add_zero, decide_true, decide_false, implies_true, forall_const, true_or, or_true, or_false, false_or, false_and, and_false, Int.toNat_natCast, oC_0, oC_1, oC_4, oC_11, oC_16, oC_18, oC_20, oC_23, oC_25, oC_26, oC_29, oC_31, oC_33, oC_35, oC_37, isT_29, isT_31, isT_33, isT_35, isL_16, isL_18, isL_26, ↓hL.f0, ↓hL.a, hL.c, updR_o1, updR_o2, eq_true hL, updR_L11 hL, updR_L12 hL]
    (try simp only [rI_iff, rL_iff] at *)
    repeat' (first | assumption | apply And.intro | intro _)
    all_goals first
      | omega
      | (refine st_ext fun k j => ?_; grind [updR_app, up1_app, ladV])
      | (refine Q_eq hQ ?_ ?_ <;> first | rfl | (refine st_ext fun k j => ?_; grind [updR_app, up1_app, ladV]) | grind [updR_app, up1_app, ladV])
      | grind [updR_app, up1_app, ladV]
def s_L_set : Spec := fun as σ Q => popR as fun o r0 => popI r0 fun s r1 => popL r1 fun z r2 => r2 = [] ∧ (isL o) ∧ (rI s) ∧ Q none (if 0 ≤ s ∧ s < 100 then updR σ (o + 1) (up1 (σ (o + 1)) s.toNat z) else σ)
theorem e_L_set (o : Nat) (s : Int) (z : Int) (σ : St) (Q : Option AV → St → Prop) : s_L_set [.inr (.inr (some o)), .inl s, .inr (.inl z)] σ Q = ((isL o) ∧ (rI s) ∧ Q none (if 0 ≤ s ∧ s < 100 then updR σ (o + 1) (up1 (σ (o + 1)) s.toNat z) else σ)) := by
  show ([] = [] ∧ _) = _
  simp only [true_and]
set_option maxHeartbeats 4000000 in
set_option maxRecDepth 20000 in
theorem S_L_set {l : Launch} : Sat l y_L_set b_L_set 4 none 0 s_L_set := by
  refine sat_of (Φ := P_L) (κ := Q_L) (Γ := []) (rt := 0) (by decide +kernel) P_L_ok Q_L_ok (fun g hg => absurd hg List.not_mem_nil) (by simp) o_L_set ?_
  intro as σ Q hh0
  obtain ⟨o, rr0, rfl, hh1⟩ := popR_inv hh0
  obtain ⟨s, rr1, rfl, hh2⟩ := popI_inv hh1
  obtain ⟨z, rr2, rfl, hh3⟩ := popL_inv hh2
  obtain ⟨hrE, hL, hs, hQ⟩ := hh3
  subst hrE
  clear hh0 hh1 hh2
  refine ⟨Nat.le_of_ble_eq_true rfl, [], 14, ?_, cuts0⟩
  · rw [show entL 4 [.inr (.inr (some o)), .inl s, .inr (.inl z)] = [.inr (.inr (some o)), .inl s, .inr (.inl z), .inr (.inr none)] from rfl]
    simp only [↓wpN_go, jmp_e, ↓wp_aload_n0, ↓wp_bipush, ↓wp_getfield, ↓wp_icmp_ge, ↓wp_if_lt, ↓wp_iload_n1, ↓wp_lastore, ↓wp_lload_n2, ↓wp_return0, wp_nil, ↓ldI_0, ↓ldI_s, ↓ldL_0, ↓ldL_s, ↓ldR_0, ↓ldR_s, sto1_0, sto1_1, sto1_s, sto2_0, sto2_1, sto2_s, isLong_i, isLong_l, isLong_r, ↓popI_c, ↓popL_c, ↓popR_c, ↓popN_0, ↓popN_s, catS_n, catS_c, psh_s, psh_n, fldV_n, fldV_s, ↓tgt_e, sw_n, ↓sw_c, ↓lk1_h, ↓lk1_m, ↓atC_h, ↓atC_m, ↓atC_n, ltO_n, ltO_s, updR_eq, updR_ne, gI_0i, gI_0l, gI_s, ltM_iff, List.cons.injEq, Sum.inl.injEq, Sum.inr.injEq, Option.some.injEq, exists_eq_left, exists_eq_left', exists_eq_right, exists_eq_right', exists_and_left, exists_and_right, exists_eq, exists_const, and_assoc, ↓j_L_set_0, ↓j_L_set_17, ↓f_L_11, List.length_cons, List.length_nil, Nat.zero_add, Nat.reduceAdd, Int.reduceAdd, Int.reduceNeg, Int.reduceToNat, Int.reduceLE, Int.reduceLT, true_and, and_true, Nat.reduceLT, reduceIte, Nat.reduceEqDiff, ne_eq, not_false_eq_true, false_implies, true_implies, Bool.false_eq_true, reduceCtorEq, List.cons_append, List.nil_append, Nat.reduceSub, Nat.reduceLeDiff, Fin.isValue, Int.reduceNatCast', Int.zero_add, Int.add_zero, decide_true, decide_false, implies_true, forall_const, true_or, or_true, or_false, false_or, false_and, and_false, Int.toNat_natCast, oC_0, oC_1, oC_4, oC_11, oC_16, oC_18, oC_20, oC_23, oC_25, oC_26, oC_29, oC_31, oC_33, oC_35, oC_37, isT_29, isT_31, isT_33, isT_35, isL_16, isL_18, isL_26, ↓hL.f0, ↓hL.a, hL.c, updR_o1, updR_o2, eq_true hL, updR_L11 hL, updR_L12 hL]
    (try simp only [rI_iff, rL_iff] at *)
    repeat' (first | assumption | apply And.intro | intro _)
    all_goals first
      | omega
      | (refine st_ext fun k j => ?_; grind [updR_app, up1_app])
      | (refine Q_eq hQ ?_ ?_ <;> first | rfl | (refine st_ext fun k j => ?_; grind [updR_app, up1_app]) | grind [updR_app, up1_app])
      | grind [updR_app, up1_app]
def s_L_setAll : Spec := fun as σ Q => popR as fun o r0 => popL r0 fun z r1 => r1 = [] ∧ (isL o) ∧ Q none (updR σ (o + 1) (fillF (σ (o + 1)) 0 100 z))
theorem e_L_setAll (o : Nat) (z : Int) (σ : St) (Q : Option AV → St → Prop) : s_L_setAll [.inr (.inr (some o)), .inr (.inl z)] σ Q = ((isL o) ∧ Q none (updR σ (o + 1) (fillF (σ (o + 1)) 0 100 z))) := by
  show ([] = [] ∧ _) = _
  simp only [true_and]
set_option maxHeartbeats 4000000 in
set_option maxRecDepth 20000 in
theorem S_L_setAll {l : Launch} : Sat l y_L_setAll b_L_setAll 3 none 2 s_L_setAll := by
  refine sat_of (Φ := P_L) (κ := Q_L) (Γ := [(15, 0, 4, s_JA_fillL)]) (rt := 0) (by decide +kernel) P_L_ok Q_L_ok (by
    refine List.forall_mem_cons.mpr ⟨?_, fun _ h => absurd h List.not_mem_nil⟩
    · exact m_JA_fillL S_JA_fillL (by decide) l_L_15) (by simp) o_L_setAll ?_
  intro as σ Q hh0
  obtain ⟨o, rr0, rfl, hh1⟩ := popR_inv hh0
  obtain ⟨z, rr1, rfl, hh2⟩ := popL_inv hh1
  obtain ⟨hrE, hL, hQ⟩ := hh2
  subst hrE
  clear hh0 hh1
  refine ⟨Nat.le_of_ble_eq_true rfl, [], 14, ?_, cuts0⟩
  · rw [show entL 3 [.inr (.inr (some o)), .inr (.inl z)] = [.inr (.inr (some o)), .inr (.inl z), .inr (.inr none)] from rfl]
    simp only [↓wpN_go, jmp_e, ↓wp_aload_n0, ↓wp_bipush, ↓wp_getfield, ↓wp_iconst, ↓wp_invokestatic, ↓wp_lload_n1, ↓wp_return0, wp_nil, ↓ldI_0, ↓ldI_s, ↓ldL_0, ↓ldL_s, ↓ldR_0, ↓ldR_s, sto1_0, sto1_1, sto1_s, sto2_0, sto2_1, sto2_s, isLong_i, isLong_l, isLong_r, ↓popI_c, ↓popL_c, ↓popR_c, ↓popN_0, ↓popN_s, catS_n, catS_c, psh_s, psh_n, fldV_n, fldV_s, ↓tgt_e, sw_n, ↓sw_c, ↓lk1_h, ↓lk1_m, ↓atC_h, ↓atC_m, ↓atC_n, ltO_n, ltO_s, updR_eq, updR_ne, gI_0i, gI_0l, gI_s, ltM_iff, List.cons.injEq, Sum.inl.injEq, Sum.inr.injEq, Option.some.injEq, exists_eq_left, exists_eq_left', exists_eq_right, exists_eq_right', exists_and_left, exists_and_right, exists_eq, exists_const, and_assoc, ↓j_L_setAll_0, ↓f_L_11, List.length_cons, List.length_nil, Nat.zero_add, Nat.reduceAdd, Int.reduceAdd, Int.reduceNeg, Int.reduceToNat, Int.reduceLE, Int.reduceLT, true_and, and_true, Nat.reduceLT, reduceIte, Nat.reduceEqDiff, ne_eq, not_false_eq_true, false_implies, true_implies, Bool.false_eq_true, reduceCtorEq, List.cons_append, List.nil_append, Nat.reduceSub, Nat.reduceLeDiff, Fin.isValue, Int.reduceNatCast', Int.zero_add, Int.add_zero, decide_true, decide_false, implies_true, forall_const, true_or, or_true, or_false, false_or, false_and, and_false, Int.toNat_natCast, oC_0, oC_1, oC_4, oC_11, oC_16, oC_18, oC_20, oC_23, oC_25, oC_26, oC_29, oC_31, oC_33, oC_35, oC_37, isT_29, isT_31, isT_33, isT_35, isL_16, isL_18, isL_26, ↓hL.f0, ↓hL.a, hL.c, updR_o1, updR_o2, eq_true hL, updR_L11 hL, updR_L12 hL, ↓e_JA_fillL]
    (try simp only [rI_iff, rL_iff] at *)
    repeat' (first | assumption | apply And.intro | intro _)
    all_goals first
      | omega
      | (refine st_ext fun k j => ?_; grind [updR_app, up1_app])
      | (refine Q_eq hQ ?_ ?_ <;> first | rfl | (refine st_ext fun k j => ?_; grind [updR_app, up1_app]) | grind [updR_app, up1_app])
      | grind [updR_app, up1_app]
theorem lad_climb {N : Int} {f w g : Nat → Int} {r s : Int} (hN : N ≤ 100) (hf : ∀ π : Nat, (π : Int) < 2 * N → -1 ≤ f π ∧ f π < N) (hr : 1 ≤ r ∧ r ≤ 60) (hs : 0 ≤ s ∧ s < N) (h : Climbed N f w (r - 1) g) :
    ladV g (r - 1) (stepZ N f s 0) + ladV g (r - 1) (stepZ N f s 1) = ladI N f w r.toNat s := by
  obtain ⟨n, rfl⟩ : ∃ n : Nat, r = n + 1 := ⟨(r - 1).toNat, by omega⟩
  have e1 : (n : Int) + 1 - 1 = n := by omega
  rw [e1] at h ⊢
  rw [lad_at hN (by omega) (fun s hs => h n (by omega) (by omega) s hs) (stepZ_r hN hf s 0).2, lad_at hN (by omega) (fun s hs => h n (by omega) (by omega) s hs) (stepZ_r hN hf s 1).2]
  rw [show ((n : Int) + 1).toNat = n + 1 by omega, ladI, if_pos hs]
theorem climbed_0 {N : Int} {f w g : Nat → Int} (hg : ∀ s : Nat, s < 100 → g s = w s) (hN : N ≤ 100) : Climbed N f w (1 - 1) g := by
  intro r hr hr2 s hs
  have : r = 0 := by omega
  subst this
  rw [Nat.zero_mul, Nat.zero_add, hg s (by omega), ladI, if_pos ⟨by omega, hs⟩, Int.toNat_natCast]
theorem climbed_s {N : Int} {f w g : Nat → Int} {r : Int} (hr : 1 ≤ r) (h : Climbed N f w (r - 1) g) (h2 : ∀ t : Nat, (t : Int) < N → g (r.toNat * 100 + t) = ladI N f w r.toNat t) : Climbed N f w r g := by
  intro q hq hq2 s hs
  by_cases h3 : (q : Int) ≤ r - 1
  · exact h q h3 hq2 s hs
  · have : q = r.toNat := by omega
    subst this
    exact h2 s hs
theorem climbed_le {N : Int} {f w g : Nat → Int} {r r2 : Int} (h : Climbed N f w r g) (h2 : r2 ≤ r ∨ 60 ≤ r) : Climbed N f w r2 g := fun q hq hq2 s hs => h q (by omega) hq2 s hs
theorem climbed_up {N : Int} {f w g : Nat → Int} {r s z : Int} (hN : N ≤ 100) (hr : 1 ≤ r) (hs : 0 ≤ s) (h : Climbed N f w (r - 1) g) : Climbed N f w (r - 1) (up1 g (r * 100 + s).toNat z) := by
  intro q hq hq2 t ht
  rw [up1_app, if_neg (by omega)]
  exact h q hq hq2 t ht
def s_L_climb : Spec := fun as σ Q => popR as fun o r0 => popR r0 fun c1 r1 => popI r1 fun top r2 => r2 = [] ∧ c1 = 11 ∧ (isL o) ∧ (0 ≤ σ 11 4 ∧ σ 11 4 ≤ 100) ∧ (Wire (σ 11 4) (σ 12)) ∧ (0 ≤ top ∧ rI top) ∧ ∀ g, (∀ s : Nat, s < 100 → g s = σ (o + 1) s) → Climbed (σ 11 4) (σ 12) (σ (o + 1)) top g → Q none (updR σ (o + 1) g)
theorem e_L_climb (o : Nat) (top : Int) (σ : St) (Q : Option AV → St → Prop) : s_L_climb [.inr (.inr (some o)), .inr (.inr (some 11)), .inl top] σ Q = ((isL o) ∧ (0 ≤ σ 11 4 ∧ σ 11 4 ≤ 100) ∧ (Wire (σ 11 4) (σ 12)) ∧ (0 ≤ top ∧ rI top) ∧ ∀ g, (∀ s : Nat, s < 100 → g s = σ (o + 1) s) → Climbed (σ 11 4) (σ 12) (σ (o + 1)) top g → Q none (updR σ (o + 1) g)) := by
  show ([] = [] ∧ _) = _
  simp only [true_and]
set_option maxHeartbeats 4000000 in
set_option maxRecDepth 20000 in
theorem S_L_climb {l : Launch} : Sat l y_L_climb b_L_climb 5 none 2 s_L_climb := by
  refine sat_of (Φ := P_L) (κ := Q_L) (Γ := [(21, 8, 0, s_W_size), (27, 8, 2, s_W_step), (31, 4, 2, s_L_at)]) (rt := 0) (by decide +kernel) P_L_ok Q_L_ok (by
    refine List.forall_mem_cons.mpr ⟨?_, List.forall_mem_cons.mpr ⟨?_, List.forall_mem_cons.mpr ⟨?_, fun _ h => absurd h List.not_mem_nil⟩⟩⟩
    · exact m_W_size S_W_size (by decide) l_L_21
    · exact m_W_step S_W_step (by decide) l_L_27
    · exact m_L_at S_L_at (by decide) l_L_31) (by simp) o_L_climb ?_
  intro as σ Q hh0
  obtain ⟨o, rr0, rfl, hh1⟩ := popR_inv hh0
  obtain ⟨c1, rr1, rfl, hh2⟩ := popR_inv hh1
  obtain ⟨top, rr2, rfl, hh3⟩ := popI_inv hh2
  obtain ⟨hrE, rfl, hL, hN, hf, ht, hQ⟩ := hh3
  subst hrE
  clear hh0 hh1 hh2
  refine ⟨Nat.le_of_ble_eq_true rfl, [(2, mkC (fun L st u => ∃ (r : Int) (v4 : AV), L = [.inr (.inr (some o)), .inr (.inr (some 11)), .inl top, .inl r, v4] ∧ st = [] ∧ (1 ≤ r ∧ r ≤ 61 ∧ r ≤ top + 1) ∧ (∃ g, u = updR σ (o + 1) g ∧ (∀ s : Nat, s < 100 → g s = σ (o + 1) s) ∧ Climbed (σ 11 4) (σ 12) (σ (o + 1)) (r - 1) g)) (fun L st u => ((62 - gI L 3).toNat, 0, 0))),
    (16, mkC (fun L st u => ∃ (r s : Int), L = [.inr (.inr (some o)), .inr (.inr (some 11)), .inl top, .inl r, .inl s] ∧ st = [] ∧ (1 ≤ r ∧ r ≤ 60 ∧ r ≤ top) ∧ (0 ≤ s ∧ s ≤ σ 11 4) ∧ (∃ g, u = updR σ (o + 1) g ∧ (∀ s : Nat, s < 100 → g s = σ (o + 1) s) ∧ Climbed (σ 11 4) (σ 12) (σ (o + 1)) (r - 1) g ∧ ∀ t : Nat, (t : Int) < s → g (r.toNat * 100 + t) = ladI (σ 11 4) (σ 12) (σ (o + 1)) r.toNat t)) (fun L st u => ((61 - gI L 3).toNat, 1, (101 - gI L 4).toNat)))], 14, ?_, cuts1 ?_ (cuts1 ?_ (cuts0))⟩
  · rw [show entL 5 [.inr (.inr (some o)), .inr (.inr (some 11)), .inl top] = [.inr (.inr (some o)), .inr (.inr (some 11)), .inl top, .inr (.inr none), .inr (.inr none)] from rfl]
    simp only [↓wpN_go, jmp_e, ↓wp_aload_n0, ↓wp_aload_n1, ↓wp_bipush, ↓wp_getfield, ↓wp_goto, ↓wp_iadd, ↓wp_icmp_ge, ↓wp_icmp_gt, ↓wp_iconst, ↓wp_iinc, ↓wp_iload, ↓wp_iload_n2, ↓wp_iload_n3, ↓wp_imul, ↓wp_invokevirtual, ↓wp_istore, ↓wp_istore_n3, ↓wp_isub, ↓wp_ladd, ↓wp_lastore, ↓wp_return0, wp_nil, ↓ldI_0, ↓ldI_s, ↓ldL_0, ↓ldL_s, ↓ldR_0, ↓ldR_s, sto1_0, sto1_1, sto1_s, sto2_0, sto2_1, sto2_s, isLong_i, isLong_l, isLong_r, ↓popI_c, ↓popL_c, ↓popR_c, ↓popN_0, ↓popN_s, catS_n, catS_c, psh_s, psh_n, fldV_n, fldV_s, ↓tgt_e, sw_n, ↓sw_c, ↓lk1_h, ↓lk1_m, ↓atC_h, ↓atC_m, ↓atC_n, ltO_n, ltO_s, updR_eq, updR_ne, gI_0i, gI_0l, gI_s, ltM_iff, List.cons.injEq, Sum.inl.injEq, Sum.inr.injEq, Option.some.injEq, exists_eq_left, exists_eq_left', exists_eq_right, exists_eq_right', exists_and_left, exists_and_right, exists_eq, exists_const, and_assoc, ↓j_L_climb_0, ↓j_L_climb_2, ↓j_L_climb_16, ↓j_L_climb_79, ↓j_L_climb_85, ↓f_L_11, List.length_cons, List.length_nil, Nat.zero_add, Nat.reduceAdd, Int.reduceAdd, Int.reduceNeg, Int.reduceToNat, Int.reduceLE, Int.reduceLT, true_and, and_true, Nat.reduceLT, reduceIte, Nat.reduceEqDiff, ne_eq, not_false_eq_true, false_implies, true_implies, Bool.false_eq_true, reduceCtorEq, List.cons_append, List.nil_append, Nat.reduceSub, Nat.reduceLeDiff, Fin.isValue, Int.reduceNatCast', Int.zero_add, Int.add_zero, decide_true, decide_false, implies_true, forall_const, true_or, or_true, or_false, false_or, false_and, and_false, Int.toNat_natCast, oC_0, oC_1, oC_4, oC_11, oC_16, oC_18, oC_20, oC_23, oC_25, oC_26, oC_29, oC_31, oC_33, oC_35, oC_37, isT_29, isT_31, isT_33, isT_35, isL_16, isL_18, isL_26, ↓hL.f0, ↓hL.a, hL.c, updR_o1, updR_o2, eq_true hL, updR_L11 hL, updR_L12 hL, ↓e_W_size, ↓e_W_step, ↓e_L_at]
    exact ⟨by omega, σ (o + 1), (updR_self _ _).symm, fun _ _ => rfl, climbed_0 (fun _ _ => rfl) hN.2⟩
  · intro L st u hI
    obtain ⟨r, v4, rfl, rfl, hr, hg⟩ := hI
    simp only [↓wpN_go, jmp_e, ↓wp_aload_n0, ↓wp_aload_n1, ↓wp_bipush, ↓wp_getfield, ↓wp_goto, ↓wp_iadd, ↓wp_icmp_ge, ↓wp_icmp_gt, ↓wp_iconst, ↓wp_iinc, ↓wp_iload, ↓wp_iload_n2, ↓wp_iload_n3, ↓wp_imul, ↓wp_invokevirtual, ↓wp_istore, ↓wp_istore_n3, ↓wp_isub, ↓wp_ladd, ↓wp_lastore, ↓wp_return0, wp_nil, ↓ldI_0, ↓ldI_s, ↓ldL_0, ↓ldL_s, ↓ldR_0, ↓ldR_s, sto1_0, sto1_1, sto1_s, sto2_0, sto2_1, sto2_s, isLong_i, isLong_l, isLong_r, ↓popI_c, ↓popL_c, ↓popR_c, ↓popN_0, ↓popN_s, catS_n, catS_c, psh_s, psh_n, fldV_n, fldV_s, ↓tgt_e, sw_n, ↓sw_c, ↓lk1_h, ↓lk1_m, ↓atC_h, ↓atC_m, ↓atC_n, ltO_n, ltO_s, updR_eq, updR_ne, gI_0i, gI_0l, gI_s, ltM_iff, List.cons.injEq, Sum.inl.injEq, Sum.inr.injEq, Option.some.injEq, exists_eq_left, exists_eq_left', exists_eq_right, exists_eq_right', exists_and_left, exists_and_right, exists_eq, exists_const, and_assoc, ↓j_L_climb_0, ↓j_L_climb_2, ↓j_L_climb_16, ↓j_L_climb_79, ↓j_L_climb_85, ↓f_L_11, List.length_cons, List.length_nil, Nat.zero_add, Nat.reduceAdd, Int.reduceAdd, Int.reduceNeg, Int.reduceToNat, Int.reduceLE, Int.reduceLT, true_and, and_true, Nat.reduceLT, reduceIte, Nat.reduceEqDiff, ne_eq, not_false_eq_true, false_implies, true_implies, Bool.false_eq_true, reduceCtorEq, List.cons_append, List.nil_append, Nat.reduceSub, Nat.reduceLeDiff, Fin.isValue, Int.reduceNatCast', Int.zero_add, Int.add_zero, decide_true, decide_false, implies_true, forall_const, true_or, or_true, or_false, false_or, false_and, and_false, Int.toNat_natCast, oC_0, oC_1, oC_4, oC_11, oC_16, oC_18, oC_20, oC_23, oC_25, oC_26, oC_29, oC_31, oC_33, oC_35, oC_37, isT_29, isT_31, isT_33, isT_35, isL_16, isL_18, isL_26, ↓hL.f0, ↓hL.a, hL.c, updR_o1, updR_o2, eq_true hL, updR_L11 hL, updR_L12 hL, ↓e_W_size, ↓e_W_step, ↓e_L_at]
    obtain ⟨g, rfl, hg1, hg2⟩ := hg
    simp only [rI_iff] at *
    refine ⟨by omega, by omega, fun h => hQ g hg1 (climbed_le hg2 (by omega)), fun h => ⟨by omega, by omega, fun h2 => hQ g hg1 (climbed_le hg2 (by omega)), fun h2 => ⟨by omega, by omega, by omega, by omega, by omega, g, rfl, hg1, hg2, fun t ht => by omega⟩⟩⟩
  · intro L st u hI
    obtain ⟨r, s, rfl, rfl, hr, hs, hg⟩ := hI
    simp only [↓wpN_go, jmp_e, ↓wp_aload_n0, ↓wp_aload_n1, ↓wp_bipush, ↓wp_getfield, ↓wp_goto, ↓wp_iadd, ↓wp_icmp_ge, ↓wp_icmp_gt, ↓wp_iconst, ↓wp_iinc, ↓wp_iload, ↓wp_iload_n2, ↓wp_iload_n3, ↓wp_imul, ↓wp_invokevirtual, ↓wp_istore, ↓wp_istore_n3, ↓wp_isub, ↓wp_ladd, ↓wp_lastore, ↓wp_return0, wp_nil, ↓ldI_0, ↓ldI_s, ↓ldL_0, ↓ldL_s, ↓ldR_0, ↓ldR_s, sto1_0, sto1_1, sto1_s, sto2_0, sto2_1, sto2_s, isLong_i, isLong_l, isLong_r, ↓popI_c, ↓popL_c, ↓popR_c, ↓popN_0, ↓popN_s, catS_n, catS_c, psh_s, psh_n, fldV_n, fldV_s, ↓tgt_e, sw_n, ↓sw_c, ↓lk1_h, ↓lk1_m, ↓atC_h, ↓atC_m, ↓atC_n, ltO_n, ltO_s, updR_eq, updR_ne, gI_0i, gI_0l, gI_s, ltM_iff, List.cons.injEq, Sum.inl.injEq, Sum.inr.injEq, Option.some.injEq, exists_eq_left, exists_eq_left', exists_eq_right, exists_eq_right', exists_and_left, exists_and_right, exists_eq, exists_const, and_assoc, ↓j_L_climb_0, ↓j_L_climb_2, ↓j_L_climb_16, ↓j_L_climb_79, ↓j_L_climb_85, ↓f_L_11, List.length_cons, List.length_nil, Nat.zero_add, Nat.reduceAdd, Int.reduceAdd, Int.reduceNeg, Int.reduceToNat, Int.reduceLE, Int.reduceLT, true_and, and_true, Nat.reduceLT, reduceIte, Nat.reduceEqDiff, ne_eq, not_false_eq_true, false_implies, true_implies, Bool.false_eq_true, reduceCtorEq, List.cons_append, List.nil_append, Nat.reduceSub, Nat.reduceLeDiff, Fin.isValue, Int.reduceNatCast', Int.zero_add, Int.add_zero, decide_true, decide_false, implies_true, forall_const, true_or, or_true, or_false, false_or, false_and, and_false, Int.toNat_natCast, oC_0, oC_1, oC_4, oC_11, oC_16, oC_18, oC_20, oC_23, oC_25, oC_26, oC_29, oC_31, oC_33, oC_35, oC_37, isT_29, isT_31, isT_33, isT_35, isL_16, isL_18, isL_26, ↓hL.f0, ↓hL.a, hL.c, updR_o1, updR_o2, eq_true hL, updR_L11 hL, updR_L12 hL, ↓e_W_size, ↓e_W_step, ↓e_L_at]
    obtain ⟨g, rfl, hg1, hg2, hg3⟩ := hg
    simp only [updR_eq, updR_twice, updR_L11 hL, updR_L12 hL]
    have h0 := stepZ_r hN.2 hf s 0
    have h1 := stepZ_r hN.2 hf s 1
    simp only [rI_iff] at *
    refine ⟨by omega, by omega, fun h => ?_, fun h => ⟨by omega, by omega, fun h2 => by omega, fun h2 => ?_⟩⟩
    · repeat' apply And.intro
      all_goals first | omega | skip
      exact ⟨g, rfl, hg1, by rw [show r + 1 - 1 = r by omega]; exact climbed_s (by omega) hg2 (fun t ht => hg3 t (by omega))⟩
    · rw [lad_climb hN.2 hf ⟨hr.1, hr.2.1⟩ ⟨hs.1, h⟩ hg2]
      repeat' apply And.intro
      all_goals first | omega | skip
      refine ⟨_, rfl, ?_, climbed_up hN.2 hr.1 hs.1 hg2, ?_⟩
      · intro t ht
        rw [up1_app, if_neg (by omega)]
        exact hg1 t ht
      · intro t ht
        rw [up1_app]
        split
        · next e => rw [show (t : Int) = s by omega]
        · exact hg3 t (by omega)
theorem lad_V {N : Int} {f w : Nat → Int} {top r t : Int} (hN : N ≤ 100) (h : Climbed N f w top w) (hr : 0 ≤ r ∧ r ≤ top ∧ r ≤ 60) (ht : t < N ∨ t = -1) : ladV w r t = ladI N f w r.toNat t := by
  have := lad_at (g := w) (r := r.toNat) (t := t) hN (by omega) (fun s hs => h r.toNat (by omega) (by omega) s hs) ht
  rw [Int.toNat_of_nonneg hr.1] at this
  exact this
def s_L_rank : Spec := fun as σ Q => popR as fun o r0 => popR r0 fun c1 r1 => popI r1 fun s r2 => popL r2 fun row r3 => popI r3 fun n r4 => r4 = [] ∧ c1 = 11 ∧ (isL o) ∧ (0 ≤ σ 11 4 ∧ σ 11 4 ≤ 100) ∧ (Wire (σ 11 4) (σ 12)) ∧ (0 ≤ s ∧ s < σ 11 4) ∧ (rL row) ∧ (0 ≤ n ∧ n ≤ 60) ∧ (Climbed (σ 11 4) (σ 12) (σ (o + 1)) n (σ (o + 1))) ∧ (LadB (σ 11 4) (σ 12) (σ (o + 1)) n) ∧ Q (some (.inr (.inl (if ladI (σ 11 4) (σ 12) (σ (o + 1)) 0 (folZ (σ 11 4) (σ 12) row n.toNat s) = 0 then -1 else rnkZ (σ 11 4) (σ 12) (σ (o + 1)) row n.toNat s)))) σ
theorem e_L_rank (o : Nat) (s : Int) (row : Int) (n : Int) (σ : St) (Q : Option AV → St → Prop) : s_L_rank [.inr (.inr (some o)), .inr (.inr (some 11)), .inl s, .inr (.inl row), .inl n] σ Q = ((isL o) ∧ (0 ≤ σ 11 4 ∧ σ 11 4 ≤ 100) ∧ (Wire (σ 11 4) (σ 12)) ∧ (0 ≤ s ∧ s < σ 11 4) ∧ (rL row) ∧ (0 ≤ n ∧ n ≤ 60) ∧ (Climbed (σ 11 4) (σ 12) (σ (o + 1)) n (σ (o + 1))) ∧ (LadB (σ 11 4) (σ 12) (σ (o + 1)) n) ∧ Q (some (.inr (.inl (if ladI (σ 11 4) (σ 12) (σ (o + 1)) 0 (folZ (σ 11 4) (σ 12) row n.toNat s) = 0 then -1 else rnkZ (σ 11 4) (σ 12) (σ (o + 1)) row n.toNat s)))) σ) := by
  show ([] = [] ∧ _) = _
  simp only [true_and]
set_option maxHeartbeats 4000000 in
set_option maxRecDepth 20000 in
theorem S_L_rank {l : Launch} : Sat l y_L_rank b_L_rank 11 (some .long) 2 s_L_rank := by
  refine sat_of (Φ := P_L) (κ := Q_L) (Γ := [(27, 8, 2, s_W_step), (31, 4, 2, s_L_at)]) (rt := 2) (by decide +kernel) P_L_ok Q_L_ok (by
    refine List.forall_mem_cons.mpr ⟨?_, List.forall_mem_cons.mpr ⟨?_, fun _ h => absurd h List.not_mem_nil⟩⟩
    · exact m_W_step S_W_step (by decide) l_L_27
    · exact m_L_at S_L_at (by decide) l_L_31) (by simp) o_L_rank ?_
  intro as σ Q hh0
  obtain ⟨o, rr0, rfl, hh1⟩ := popR_inv hh0
  obtain ⟨c1, rr1, rfl, hh2⟩ := popR_inv hh1
  obtain ⟨s, rr2, rfl, hh3⟩ := popI_inv hh2
  obtain ⟨row, rr3, rfl, hh4⟩ := popL_inv hh3
  obtain ⟨n, rr4, rfl, hh5⟩ := popI_inv hh4
  obtain ⟨hrE, rfl, hL, hN, hf, hs, hrow, hn, hl, hw, hQ⟩ := hh5
  subst hrE
  clear hh0 hh1 hh2 hh3 hh4
  refine ⟨Nat.le_of_ble_eq_true rfl, [(12, mkC (fun L st u => ∃ (x a i : Int) (v10 : AV), L = [.inr (.inr (some o)), .inr (.inr (some 11)), .inl s, .inr (.inl row), .inr (.inr none), .inl n, .inr (.inl x), .inr (.inr none), .inl a, .inl i, v10] ∧ st = [] ∧ (-1 ≤ i ∧ i < n) ∧ (-1 ≤ a ∧ (a < σ 11 4 ∨ a = -1)) ∧ (x + rnkZ (σ 11 4) (σ 12) (σ (o + 1)) row (i + 1).toNat a = rnkZ (σ 11 4) (σ 12) (σ (o + 1)) row n.toNat s) ∧ (folZ (σ 11 4) (σ 12) row (i + 1).toNat a = folZ (σ 11 4) (σ 12) row n.toNat s) ∧ (u = σ)) (fun L st u => ((gI L 9 + 1).toNat, 0, 0)))], 14, ?_, cuts1 ?_ (cuts0)⟩
  · rw [show entL 11 [.inr (.inr (some o)), .inr (.inr (some 11)), .inl s, .inr (.inl row), .inl n] = [.inr (.inr (some o)), .inr (.inr (some 11)), .inl s, .inr (.inl row), .inr (.inr none), .inl n, .inr (.inr none), .inr (.inr none), .inr (.inr none), .inr (.inr none), .inr (.inr none)] from rfl]
    simp only [↓wpN_go, jmp_e, ↓wp_aload_n0, ↓wp_aload_n1, ↓wp_goto, ↓wp_iand, ↓wp_icmp_ne, ↓wp_iconst, ↓wp_if_lt, ↓wp_if_ne, ↓wp_iinc, ↓wp_iload, ↓wp_iload_n2, ↓wp_invokevirtual, ↓wp_istore, ↓wp_isub, ↓wp_l2i, ↓wp_ladd, ↓wp_lcmp, ↓wp_lconst0, ↓wp_ldc2_w, ↓wp_lload, ↓wp_lload_n3, ↓wp_lreturn2, ↓wp_lshr, ↓wp_lstore, wp_nil, ↓ldI_0, ↓ldI_s, ↓ldL_0, ↓ldL_s, ↓ldR_0, ↓ldR_s, sto1_0, sto1_1, sto1_s, sto2_0, sto2_1, sto2_s, isLong_i, isLong_l, isLong_r, ↓popI_c, ↓popL_c, ↓popR_c, ↓popN_0, ↓popN_s, catS_n, catS_c, psh_s, psh_n, fldV_n, fldV_s, ↓tgt_e, sw_n, ↓sw_c, ↓lk1_h, ↓lk1_m, ↓atC_h, ↓atC_m, ↓atC_n, ltO_n, ltO_s, updR_eq, updR_ne, gI_0i, gI_0l, gI_s, ltM_iff, List.cons.injEq, Sum.inl.injEq, Sum.inr.injEq, Option.some.injEq, exists_eq_left, exists_eq_left', exists_eq_right, exists_eq_right', exists_and_left, exists_and_right, exists_eq, exists_const, and_assoc, ↓j_L_rank_0, ↓j_L_rank_12, ↓j_L_rank_50, ↓j_L_rank_66, ↓j_L_rank_84, ↓j_L_rank_86, ↓c_L_100035, List.length_cons, List.length_nil, Nat.zero_add, Nat.reduceAdd, Int.reduceAdd, Int.reduceNeg, Int.reduceToNat, Int.reduceLE, Int.reduceLT, true_and, and_true, Nat.reduceLT, reduceIte, Nat.reduceEqDiff, ne_eq, not_false_eq_true, false_implies, true_implies, Bool.false_eq_true, reduceCtorEq, List.cons_append, List.nil_append, Nat.reduceSub, Nat.reduceLeDiff, Fin.isValue, Int.reduceNatCast', Int.zero_add, Int.add_zero, decide_true, decide_false, implies_true, forall_const, true_or, or_true, or_false, false_or, false_and, and_false, Int.toNat_natCast, oC_0, oC_1, oC_4, oC_11, oC_16, oC_18, oC_20, oC_23, oC_25, oC_26, oC_29, oC_31, oC_33, oC_35, oC_37, isT_29, isT_31, isT_33, isT_35, isL_16, isL_18, isL_26, ↓hL.f0, ↓hL.a, hL.c, updR_o1, updR_o2, eq_true hL, updR_L11 hL, updR_L12 hL, iandZ_1, cmpZ_r, cmpZ_eq, ↓e_W_step, ↓e_L_at]
    (try simp only [rI_iff, rL_iff] at *)
    repeat' (first | assumption | apply And.intro | intro _)
    all_goals first
      | omega
      | (refine st_ext fun k j => ?_; grind [updR_app, up1_app, folZ, rnkZ])
      | (refine Q_eq hQ ?_ ?_ <;> first | rfl | (refine st_ext fun k j => ?_; grind [updR_app, up1_app, folZ, rnkZ]) | grind [updR_app, up1_app, folZ, rnkZ])
      | grind [updR_app, up1_app, folZ, rnkZ]
  · intro L st u hI
    obtain ⟨x, a, i, v10, rfl, rfl, hi, ha, hx, hf2, hu⟩ := hI
    simp only [↓wpN_go, jmp_e, ↓wp_aload_n0, ↓wp_aload_n1, ↓wp_goto, ↓wp_iand, ↓wp_icmp_ne, ↓wp_iconst, ↓wp_if_lt, ↓wp_if_ne, ↓wp_iinc, ↓wp_iload, ↓wp_iload_n2, ↓wp_invokevirtual, ↓wp_istore, ↓wp_isub, ↓wp_l2i, ↓wp_ladd, ↓wp_lcmp, ↓wp_lconst0, ↓wp_ldc2_w, ↓wp_lload, ↓wp_lload_n3, ↓wp_lreturn2, ↓wp_lshr, ↓wp_lstore, wp_nil, ↓ldI_0, ↓ldI_s, ↓ldL_0, ↓ldL_s, ↓ldR_0, ↓ldR_s, sto1_0, sto1_1, sto1_s, sto2_0, sto2_1, sto2_s, isLong_i, isLong_l, isLong_r, ↓popI_c, ↓popL_c, ↓popR_c, ↓popN_0, ↓popN_s, catS_n, catS_c, psh_s, psh_n, fldV_n, fldV_s, ↓tgt_e, sw_n, ↓sw_c, ↓lk1_h, ↓lk1_m, ↓atC_h, ↓atC_m, ↓atC_n, ltO_n, ltO_s, updR_eq, updR_ne, gI_0i, gI_0l, gI_s, ltM_iff, List.cons.injEq, Sum.inl.injEq, Sum.inr.injEq, Option.some.injEq, exists_eq_left, exists_eq_left', exists_eq_right, exists_eq_right', exists_and_left, exists_and_right, exists_eq, exists_const, and_assoc, ↓j_L_rank_0, ↓j_L_rank_12, ↓j_L_rank_50, ↓j_L_rank_66, ↓j_L_rank_84, ↓j_L_rank_86, ↓c_L_100035, List.length_cons, List.length_nil, Nat.zero_add, Nat.reduceAdd, Int.reduceAdd, Int.reduceNeg, Int.reduceToNat, Int.reduceLE, Int.reduceLT, true_and, and_true, Nat.reduceLT, reduceIte, Nat.reduceEqDiff, ne_eq, not_false_eq_true, false_implies, true_implies, Bool.false_eq_true, reduceCtorEq, List.cons_append, List.nil_append, Nat.reduceSub, Nat.reduceLeDiff, Fin.isValue, Int.reduceNatCast', Int.zero_add, Int.add_zero, decide_true, decide_false, implies_true, forall_const, true_or, or_true, or_false, false_or, false_and, and_false, Int.toNat_natCast, oC_0, oC_1, oC_4, oC_11, oC_16, oC_18, oC_20, oC_23, oC_25, oC_26, oC_29, oC_31, oC_33, oC_35, oC_37, isT_29, isT_31, isT_33, isT_35, isL_16, isL_18, isL_26, ↓hL.f0, ↓hL.a, hL.c, updR_o1, updR_o2, eq_true hL, updR_L11 hL, updR_L12 hL, iandZ_1, cmpZ_r, cmpZ_eq, ↓e_W_step, ↓e_L_at]
    subst hu
    have h1 := stepZ_r hN.2 hf a 0
    have h2 := stepZ_r hN.2 hf a (row / 2 ^ i.toNat % 2)
    have e1 : 0 ≤ i → ladV (u (o + 1)) i (stepZ (u 11 4) (u 12) a 0) = ladI (u 11 4) (u 12) (u (o + 1)) i.toNat (stepZ (u 11 4) (u 12) a 0) := fun h => lad_V hN.2 hl ⟨h, by omega, by omega⟩ h1.2
    have e2 : ladV (u (o + 1)) 0 a = ladI (u 11 4) (u 12) (u (o + 1)) 0 a := lad_V hN.2 hl ⟨by omega, by omega, by omega⟩ ha.2
    have e3 : 0 ≤ i → (i + 1).toNat = i.toNat + 1 := fun h => by omega
    have e4 : i + -1 + 1 = i := by omega
    have h3 := hw 0 a (by omega)
    rw [e2, e4]
    by_cases hi0 : 0 ≤ i
    · rw [e1 hi0]
      rw [e3 hi0, rnkZ] at hx
      rw [e3 hi0, folZ] at hf2
      have h4 : bitZ row i.toNat = row / 2 ^ i.toNat % 2 := rfl
      rw [h4] at hx hf2
      (try simp only [rI_iff, rL_iff] at *)
      repeat' (first | assumption | apply And.intro | intro _)
      all_goals first | omega | assumption | exact True.intro | skip
      all_goals grind
    · have e5 : (i + 1).toNat = 0 := by omega
      rw [e5, rnkZ] at hx
      rw [e5, folZ] at hf2
      subst hf2
      (try simp only [rI_iff, rL_iff] at *)
      repeat' (first | assumption | apply And.intro | intro _)
      all_goals first | omega | assumption | exact True.intro | skip
      all_goals grind
def s_L_pick : Spec := fun as σ Q => popR as fun o r0 => popR r0 fun c1 r1 => popI r1 fun s r2 => popL r2 fun num r3 => popI r3 fun n r4 => r4 = [] ∧ c1 = 11 ∧ (isL o) ∧ (0 ≤ σ 11 4 ∧ σ 11 4 ≤ 100) ∧ (Wire (σ 11 4) (σ 12)) ∧ (0 ≤ s ∧ s < σ 11 4) ∧ (0 ≤ num ∧ rL num) ∧ (0 ≤ n ∧ n ≤ 60) ∧ (Climbed (σ 11 4) (σ 12) (σ (o + 1)) n (σ (o + 1))) ∧ (LadB (σ 11 4) (σ 12) (σ (o + 1)) n) ∧ Q (some (.inr (.inl (if ladI (σ 11 4) (σ 12) (σ (o + 1)) n.toNat s ≤ num then -1 else pckZ (σ 11 4) (σ 12) (σ (o + 1)) n.toNat s num)))) σ
theorem e_L_pick (o : Nat) (s : Int) (num : Int) (n : Int) (σ : St) (Q : Option AV → St → Prop) : s_L_pick [.inr (.inr (some o)), .inr (.inr (some 11)), .inl s, .inr (.inl num), .inl n] σ Q = ((isL o) ∧ (0 ≤ σ 11 4 ∧ σ 11 4 ≤ 100) ∧ (Wire (σ 11 4) (σ 12)) ∧ (0 ≤ s ∧ s < σ 11 4) ∧ (0 ≤ num ∧ rL num) ∧ (0 ≤ n ∧ n ≤ 60) ∧ (Climbed (σ 11 4) (σ 12) (σ (o + 1)) n (σ (o + 1))) ∧ (LadB (σ 11 4) (σ 12) (σ (o + 1)) n) ∧ Q (some (.inr (.inl (if ladI (σ 11 4) (σ 12) (σ (o + 1)) n.toNat s ≤ num then -1 else pckZ (σ 11 4) (σ 12) (σ (o + 1)) n.toNat s num)))) σ) := by
  show ([] = [] ∧ _) = _
  simp only [true_and]
set_option maxHeartbeats 4000000 in
set_option maxRecDepth 20000 in
theorem S_L_pick {l : Launch} : Sat l y_L_pick b_L_pick 15 (some .long) 2 s_L_pick := by
  refine sat_of (Φ := P_L) (κ := Q_L) (Γ := [(31, 4, 2, s_L_at), (27, 8, 2, s_W_step)]) (rt := 2) (by decide +kernel) P_L_ok Q_L_ok (by
    refine List.forall_mem_cons.mpr ⟨?_, List.forall_mem_cons.mpr ⟨?_, fun _ h => absurd h List.not_mem_nil⟩⟩
    · exact m_L_at S_L_at (by decide) l_L_31
    · exact m_W_step S_W_step (by decide) l_L_27) (by simp) o_L_pick ?_
  intro as σ Q hh0
  obtain ⟨o, rr0, rfl, hh1⟩ := popR_inv hh0
  obtain ⟨c1, rr1, rfl, hh2⟩ := popR_inv hh1
  obtain ⟨s, rr2, rfl, hh3⟩ := popI_inv hh2
  obtain ⟨num, rr3, rfl, hh4⟩ := popL_inv hh3
  obtain ⟨n, rr4, rfl, hh5⟩ := popI_inv hh4
  obtain ⟨hrE, rfl, hL, hN, hf, hs, hnum, hn, hl, hw, hQ⟩ := hh5
  subst hrE
  clear hh0 hh1 hh2 hh3 hh4
  refine ⟨Nat.le_of_ble_eq_true rfl, [(31, mkC (fun L st u => ∃ (x y a i : Int) (v12 v13 v14 : AV), L = [.inr (.inr (some o)), .inr (.inr (some 11)), .inl s, .inr (.inl num), .inr (.inr none), .inl n, .inr (.inl x), .inr (.inr none), .inr (.inl y), .inr (.inr none), .inl a, .inl i, v12, v13, v14] ∧ st = [] ∧ (-1 ≤ i ∧ i < n) ∧ (-1 ≤ a ∧ (a < σ 11 4 ∨ a = -1)) ∧ (0 ≤ y ∧ y ≤ num) ∧ (ladI (σ 11 4) (σ 12) (σ (o + 1)) n.toNat s > num) ∧ (x * 2 ^ (i + 1).toNat + pckZ (σ 11 4) (σ 12) (σ (o + 1)) (i + 1).toNat a y = pckZ (σ 11 4) (σ 12) (σ (o + 1)) n.toNat s num) ∧ (u = σ)) (fun L st u => ((gI L 11 + 1).toNat, 0, 0)))], 14, ?_, cuts1 ?_ (cuts0)⟩
  · rw [show entL 15 [.inr (.inr (some o)), .inr (.inr (some 11)), .inl s, .inr (.inl num), .inl n] = [.inr (.inr (some o)), .inr (.inr (some 11)), .inl s, .inr (.inl num), .inr (.inr none), .inl n, .inr (.inr none), .inr (.inr none), .inr (.inr none), .inr (.inr none), .inr (.inr none), .inr (.inr none), .inr (.inr none), .inr (.inr none), .inr (.inr none)] from rfl]
    simp only [↓wpN_go, jmp_e, ↓wp_aload_n0, ↓wp_aload_n1, ↓wp_goto, ↓wp_i2l, ↓wp_icmp_ne, ↓wp_iconst, ↓wp_if_ge, ↓wp_if_lt, ↓wp_iinc, ↓wp_iload, ↓wp_iload_n2, ↓wp_invokevirtual, ↓wp_istore, ↓wp_isub, ↓wp_ladd, ↓wp_lcmp, ↓wp_lconst0, ↓wp_ldc2_w, ↓wp_lload, ↓wp_lload_n3, ↓wp_lmul, ↓wp_lreturn2, ↓wp_lstore, ↓wp_lsub, wp_nil, ↓ldI_0, ↓ldI_s, ↓ldL_0, ↓ldL_s, ↓ldR_0, ↓ldR_s, sto1_0, sto1_1, sto1_s, sto2_0, sto2_1, sto2_s, isLong_i, isLong_l, isLong_r, ↓popI_c, ↓popL_c, ↓popR_c, ↓popN_0, ↓popN_s, catS_n, catS_c, psh_s, psh_n, fldV_n, fldV_s, ↓tgt_e, sw_n, ↓sw_c, ↓lk1_h, ↓lk1_m, ↓atC_h, ↓atC_m, ↓atC_n, ltO_n, ltO_s, updR_eq, updR_ne, gI_0i, gI_0l, gI_s, ltM_iff, List.cons.injEq, Sum.inl.injEq, Sum.inr.injEq, Option.some.injEq, exists_eq_left, exists_eq_left', exists_eq_right, exists_eq_right', exists_and_left, exists_and_right, exists_eq, exists_const, and_assoc, ↓j_L_pick_0, ↓j_L_pick_16, ↓j_L_pick_31, ↓j_L_pick_63, ↓j_L_pick_64, ↓j_L_pick_79, ↓j_L_pick_107, ↓c_L_100035, ↓c_L_100037, List.length_cons, List.length_nil, Nat.zero_add, Nat.reduceAdd, Int.reduceAdd, Int.reduceNeg, Int.reduceToNat, Int.reduceLE, Int.reduceLT, true_and, and_true, Nat.reduceLT, reduceIte, Nat.reduceEqDiff, ne_eq, not_false_eq_true, false_implies, true_implies, Bool.false_eq_true, reduceCtorEq, List.cons_append, List.nil_append, Nat.reduceSub, Nat.reduceLeDiff, Fin.isValue, Int.reduceNatCast', Int.zero_add, Int.add_zero, decide_true, decide_false, implies_true, forall_const, true_or, or_true, or_false, false_or, false_and, and_false, Int.toNat_natCast, oC_0, oC_1, oC_4, oC_11, oC_16, oC_18, oC_20, oC_23, oC_25, oC_26, oC_29, oC_31, oC_33, oC_35, oC_37, isT_29, isT_31, isT_33, isT_35, isL_16, isL_18, isL_26, ↓hL.f0, ↓hL.a, hL.c, updR_o1, updR_o2, eq_true hL, updR_L11 hL, updR_L12 hL, cmpZ_r, cmpZ_lt, cmpZ_ge, ↓e_L_at, ↓e_W_step]
    have e0 : ladV (σ (o + 1)) n s = ladI (σ 11 4) (σ 12) (σ (o + 1)) n.toNat s := lad_V hN.2 hl ⟨hn.1, by omega, by omega⟩ (Or.inl hs.2)
    have h0 := hw n.toNat s (by omega)
    rw [e0]
    have e1 : n - 1 + 1 = n := by omega
    rw [e1]
    (try simp only [rI_iff, rL_iff] at *)
    repeat' (first | assumption | apply And.intro | intro _)
    all_goals first | omega | assumption | exact True.intro | skip
    all_goals grind
  · intro L st u hI
    obtain ⟨x, y, a, i, v12, v13, v14, rfl, rfl, hi, ha, hy, hlt, hx, hu⟩ := hI
    simp only [↓wpN_go, jmp_e, ↓wp_aload_n0, ↓wp_aload_n1, ↓wp_goto, ↓wp_i2l, ↓wp_icmp_ne, ↓wp_iconst, ↓wp_if_ge, ↓wp_if_lt, ↓wp_iinc, ↓wp_iload, ↓wp_iload_n2, ↓wp_invokevirtual, ↓wp_istore, ↓wp_isub, ↓wp_ladd, ↓wp_lcmp, ↓wp_lconst0, ↓wp_ldc2_w, ↓wp_lload, ↓wp_lload_n3, ↓wp_lmul, ↓wp_lreturn2, ↓wp_lstore, ↓wp_lsub, wp_nil, ↓ldI_0, ↓ldI_s, ↓ldL_0, ↓ldL_s, ↓ldR_0, ↓ldR_s, sto1_0, sto1_1, sto1_s, sto2_0, sto2_1, sto2_s, isLong_i, isLong_l, isLong_r, ↓popI_c, ↓popL_c, ↓popR_c, ↓popN_0, ↓popN_s, catS_n, catS_c, psh_s, psh_n, fldV_n, fldV_s, ↓tgt_e, sw_n, ↓sw_c, ↓lk1_h, ↓lk1_m, ↓atC_h, ↓atC_m, ↓atC_n, ltO_n, ltO_s, updR_eq, updR_ne, gI_0i, gI_0l, gI_s, ltM_iff, List.cons.injEq, Sum.inl.injEq, Sum.inr.injEq, Option.some.injEq, exists_eq_left, exists_eq_left', exists_eq_right, exists_eq_right', exists_and_left, exists_and_right, exists_eq, exists_const, and_assoc, ↓j_L_pick_0, ↓j_L_pick_16, ↓j_L_pick_31, ↓j_L_pick_63, ↓j_L_pick_64, ↓j_L_pick_79, ↓j_L_pick_107, ↓c_L_100035, ↓c_L_100037, List.length_cons, List.length_nil, Nat.zero_add, Nat.reduceAdd, Int.reduceAdd, Int.reduceNeg, Int.reduceToNat, Int.reduceLE, Int.reduceLT, true_and, and_true, Nat.reduceLT, reduceIte, Nat.reduceEqDiff, ne_eq, not_false_eq_true, false_implies, true_implies, Bool.false_eq_true, reduceCtorEq, List.cons_append, List.nil_append, Nat.reduceSub, Nat.reduceLeDiff, Fin.isValue, Int.reduceNatCast', Int.zero_add, Int.add_zero, decide_true, decide_false, implies_true, forall_const, true_or, or_true, or_false, false_or, false_and, and_false, Int.toNat_natCast, oC_0, oC_1, oC_4, oC_11, oC_16, oC_18, oC_20, oC_23, oC_25, oC_26, oC_29, oC_31, oC_33, oC_35, oC_37, isT_29, isT_31, isT_33, isT_35, isL_16, isL_18, isL_26, ↓hL.f0, ↓hL.a, hL.c, updR_o1, updR_o2, eq_true hL, updR_L11 hL, updR_L12 hL, cmpZ_r, cmpZ_lt, cmpZ_ge, ↓e_L_at, ↓e_W_step]
    subst hu
    have h1 := stepZ_r hN.2 hf a 0
    have h2 := stepZ_r hN.2 hf a 1
    have e1 : 0 ≤ i → ladV (u (o + 1)) i (stepZ (u 11 4) (u 12) a 0) = ladI (u 11 4) (u 12) (u (o + 1)) i.toNat (stepZ (u 11 4) (u 12) a 0) := fun h => lad_V hN.2 hl ⟨h, by omega, by omega⟩ h1.2
    have e3 : 0 ≤ i → (i + 1).toNat = i.toNat + 1 := fun h => by omega
    have e4 : i + -1 + 1 = i := by omega
    rw [e4]
    by_cases hi0 : 0 ≤ i
    · rw [e1 hi0]
      have h3 := hw i.toNat (stepZ (u 11 4) (u 12) a 0) (by omega)
      rw [e3 hi0, pckZ, Int.pow_succ] at hx
      have e6 : ∀ z : Int, (2 * x + z) * 2 ^ i.toNat = x * (2 ^ i.toNat * 2) + z * 2 ^ i.toNat := fun z => by rw [Int.add_mul, Int.mul_comm 2 x, Int.mul_assoc, Int.mul_comm 2 (2 ^ i.toNat)]
      (try simp only [rI_iff, rL_iff] at *)
      repeat' (first | assumption | apply And.intro | intro _)
      all_goals first | omega | assumption | exact True.intro | skip
      all_goals grind
    · have e5 : (i + 1).toNat = 0 := by omega
      rw [e5, pckZ] at hx
      (try simp only [rI_iff, rL_iff] at *)
      repeat' (first | assumption | apply And.intro | intro _)
      all_goals first | omega | assumption | exact True.intro | skip
      all_goals grind
end
section
/-! the wire's tree: first rows -/
def pathV (par bit : Nat → Int) : Nat → Int → Int
  | 0, _ => 0
  | n + 1, s => bit s.toNat + 2 * pathV par bit n (par s.toNat)
def ancF (par : Nat → Int) : Nat → Int → Int
  | 0, s => s
  | n + 1, s => par (ancF par n s).toNat
def Tree (N : Int) (par dep : Nat → Int) : Prop := dep 0 = 0 ∧ ∀ t : Nat, 0 < t → (t : Int) < N → 0 ≤ par t ∧ par t < t ∧ dep t = dep (par t).toNat + 1
theorem Tree.dep_r {N : Int} {par dep : Nat → Int} (h : Tree N par dep) : ∀ t : Nat, (t : Int) < N → 0 ≤ dep t ∧ dep t ≤ t ∧ (dep t = 0 → t = 0) := by
  intro t
  induction t using Nat.strongRecOn with
  | _ t ih =>
    intro ht
    by_cases h0 : t = 0
    · subst h0; have := h.1; omega
    · obtain ⟨h1, h2, h3⟩ := h.2 t (by omega) ht
      have := ih (par t).toNat (by omega) (by omega)
      omega
theorem Tree.at {N : Int} {par dep : Nat → Int} (h : Tree N par dep) {s : Int} (hs : 0 ≤ s ∧ s < N) : 0 ≤ dep s.toNat ∧ dep s.toNat ≤ s ∧ (0 < dep s.toNat → 0 ≤ par s.toNat ∧ par s.toNat < s ∧ dep s.toNat = dep (par s.toNat).toNat + 1) := by
  have h1 := h.dep_r s.toNat (by omega)
  refine ⟨h1.1, by omega, fun h2 => ?_⟩
  have h3 : 0 < s.toNat := by
    rcases Nat.eq_zero_or_pos s.toNat with e | e
    · rw [e, h.1] at h2; omega
    · exact e
  have h4 := h.2 s.toNat h3 (by omega)
  exact ⟨h4.1, by omega, h4.2.2⟩
theorem Tree.anc {N : Int} {par dep : Nat → Int} (h : Tree N par dep) {s : Int} (hs : 0 ≤ s ∧ s < N) : ∀ n : Nat, (n : Int) ≤ dep s.toNat → 0 ≤ ancF par n s ∧ ancF par n s < N ∧ dep (ancF par n s).toNat = dep s.toNat - n
  | 0, _ => ⟨hs.1, hs.2, by show dep s.toNat = _; omega⟩
  | n + 1, hn => by
    obtain ⟨h1, h2, h3⟩ := h.anc hs n (by omega)
    obtain ⟨h4, h5, h6⟩ := h.at ⟨h1, h2⟩
    have h7 := h6 (by omega)
    show 0 ≤ par (ancF par n s).toNat ∧ par (ancF par n s).toNat < N ∧ dep (par (ancF par n s).toNat).toNat = _
    omega
theorem lorZ_add {r b : Int} {i : Nat} (hr : 0 ≤ r ∧ r < 2 ^ i) (hb : b = 0 ∨ b = 1) (hi : i ≤ 61) : lorZ r (b * 2 ^ i) = r + b * 2 ^ i := by
  have hp : (0 : Int) < 2 ^ i := Int.pow_pos (by omega)
  have hp2 : (2 : Int) ^ i ≤ 2305843009213693952 := by
    have : (2 : Nat) ^ i ≤ 2 ^ 61 := Nat.pow_le_pow_right (by omega) hi
    have e : ((2 ^ i : Nat) : Int) = 2 ^ i := by rw [Int.natCast_pow]; rfl
    omega
  obtain ⟨m, rfl⟩ := Int.eq_ofNat_of_zero_le hr.1
  have hm : m < 2 ^ i := by
    have e : ((2 ^ i : Nat) : Int) = 2 ^ i := by rw [Int.natCast_pow]; rfl
    omega
  unfold lorZ
  have hx : ∀ k : Nat, k ≤ 1 → (Int64.ofInt (m : Int) ||| Int64.ofInt ((k : Int) * 2 ^ i)).toInt = m + k * 2 ^ i := by
    intro k hk
    have hk2 : (k : Int) * 2 ^ i ≤ 1 * 2 ^ i := Int.mul_le_mul_of_nonneg_right (by omega) (by omega)
    have hk3 : (0 : Int) ≤ (k : Int) * 2 ^ i := Int.mul_nonneg (by omega) (by omega)
    have e1 : (Int64.ofInt (m : Int)).toBitVec.toNat = m := by rw [zL_natE, Int.emod_eq_of_lt (by omega) (by omega)]; omega
    have e2 : (Int64.ofInt ((k : Int) * 2 ^ i)).toBitVec.toNat = 2 ^ i * k := by
      rw [zL_natE, Int.emod_eq_of_lt hk3 (by omega)]
      have e : (((2 ^ i * k : Nat)) : Int) = (k : Int) * 2 ^ i := by rw [Int.natCast_mul, Int.natCast_pow, Int.mul_comm]; rfl
      omega
    have e3 : (Int64.ofInt (m : Int) ||| Int64.ofInt ((k : Int) * 2 ^ i)) = Int64.ofInt (m + k * 2 ^ i) := by
      apply zL_ext
      rw [Int64.toBitVec_or, BitVec.toNat_or, e1, e2, Nat.or_comm, ← Nat.two_pow_add_eq_or_of_lt hm, zL_nat, Int.emod_eq_of_lt (by omega) (by omega), Int.natCast_add, Int.natCast_mul, Int.natCast_pow, Int.mul_comm]
      show (k : Int) * 2 ^ i + (m : Int) = _
      omega
    rw [e3]
    exact zL_toInt (by unfold rL; omega)
  rcases hb with rfl | rfl
  · exact hx 0 (by omega)
  · exact hx 1 (by omega)
def leadG (par bit : Nat → Int) (d s : Int) (lo : Int) (f : Nat → Int) : Nat → Int := fun j => if lo < j ∧ (j : Int) < d then bit (ancF par (d - 1 - j).toNat s).toNat else f j
theorem leadG_app (par bit : Nat → Int) (d s lo : Int) (f : Nat → Int) (j : Nat) : leadG par bit d s lo f j = if lo < j ∧ (j : Int) < d then bit (ancF par (d - 1 - j).toNat s).toNat else f j := (rfl)
theorem leadG_up {par bit : Nat → Int} {d s i : Int} {f : Nat → Int} (h : 0 ≤ i ∧ i < d) : up1 (leadG par bit d s i f) i.toNat (bit (ancF par (d - 1 - i).toNat s).toNat) = leadG par bit d s (i - 1) f := by
  funext j
  rw [up1_app, leadG_app, leadG_app]
  by_cases e : j = i.toNat
  · rw [if_pos e, if_pos (by omega), show ((j : Int)) = i by omega]
  · rw [if_neg e]
    by_cases h1 : i < j ∧ (j : Int) < d
    · rw [if_pos h1, if_pos (by omega)]
    · rw [if_neg h1, if_neg (by omega)]
def s_W_shortestRow : Spec := fun as σ Q => popR as fun c0 r0 => popI r0 fun s r1 => r1 = [] ∧ c0 = 11 ∧ (0 ≤ σ 11 4 ∧ σ 11 4 ≤ 100) ∧ (0 ≤ s ∧ s < σ 11 4) ∧ (Tree (σ 11 4) (σ 13) (σ 15)) ∧ (isBits (σ 14)) ∧ Q (some (.inr (.inl (if σ 15 s.toNat ≤ 60 then pathV (σ 13) (σ 14) (σ 15 s.toNat).toNat s else -1)))) σ
theorem e_W_shortestRow (s : Int) (σ : St) (Q : Option AV → St → Prop) : s_W_shortestRow [.inr (.inr (some 11)), .inl s] σ Q = ((0 ≤ σ 11 4 ∧ σ 11 4 ≤ 100) ∧ (0 ≤ s ∧ s < σ 11 4) ∧ (Tree (σ 11 4) (σ 13) (σ 15)) ∧ (isBits (σ 14)) ∧ Q (some (.inr (.inl (if σ 15 s.toNat ≤ 60 then pathV (σ 13) (σ 14) (σ 15 s.toNat).toNat s else -1)))) σ) := by
  show ([] = [] ∧ _) = _
  simp only [true_and]
set_option maxHeartbeats 4000000 in
set_option maxRecDepth 20000 in
theorem S_W_shortestRow {l : Launch} : Sat l y_W_shortestRow b_W_shortestRow 7 (some .long) 2 s_W_shortestRow := by
  refine sat_of (Φ := P_W) (κ := Q_W) (Γ := [(60, 8, 1, s_W_depthOf), (66, 8, 1, s_W_lastBitOf), (69, 8, 1, s_W_parentOf)]) (rt := 2) (by decide +kernel) P_W_ok Q_W_ok (by
    refine List.forall_mem_cons.mpr ⟨?_, List.forall_mem_cons.mpr ⟨?_, List.forall_mem_cons.mpr ⟨?_, fun _ h => absurd h List.not_mem_nil⟩⟩⟩
    · exact m_W_depthOf S_W_depthOf (by decide) l_W_60
    · exact m_W_lastBitOf S_W_lastBitOf (by decide) l_W_66
    · exact m_W_parentOf S_W_parentOf (by decide) l_W_69) (by simp) o_W_shortestRow ?_
  intro as σ Q hh0
  obtain ⟨c0, rr0, rfl, hh1⟩ := popR_inv hh0
  obtain ⟨s, rr1, rfl, hh2⟩ := popI_inv hh1
  obtain ⟨hrE, rfl, hN, hs, hT, hb, hQ⟩ := hh2
  subst hrE
  clear hh0 hh1
  refine ⟨Nat.le_of_ble_eq_true rfl, [(24, mkC (fun L st u => ∃ (x a i : Int), L = [.inr (.inr (some 11)), .inl s, .inl (σ 15 s.toNat), .inr (.inl x), .inr (.inr none), .inl a, .inl i] ∧ st = [] ∧ (σ 15 s.toNat ≤ 60) ∧ (0 ≤ i ∧ i ≤ σ 15 s.toNat) ∧ (0 ≤ a ∧ a < σ 11 4 ∧ σ 15 a.toNat = σ 15 s.toNat - i) ∧ (x + 2 ^ i.toNat * pathV (σ 13) (σ 14) (σ 15 s.toNat - i).toNat a = pathV (σ 13) (σ 14) (σ 15 s.toNat).toNat s) ∧ (0 ≤ x ∧ x < 2 ^ i.toNat) ∧ (u = σ)) (fun L st u => ((61 - gI L 6).toNat, 0, 0)))], 14, ?_, cuts1 ?_ (cuts0)⟩
  · rw [show entL 7 [.inr (.inr (some 11)), .inl s] = [.inr (.inr (some 11)), .inl s, .inr (.inr none), .inr (.inr none), .inr (.inr none), .inr (.inr none), .inr (.inr none)] from rfl]
    simp only [↓wpN_go, jmp_e, ↓wp_aload_n0, ↓wp_bipush, ↓wp_goto, ↓wp_i2l, ↓wp_icmp_ge, ↓wp_icmp_le, ↓wp_iconst, ↓wp_iinc, ↓wp_iload, ↓wp_iload_n1, ↓wp_iload_n2, ↓wp_invokevirtual, ↓wp_istore, ↓wp_istore_n2, ↓wp_lconst0, ↓wp_ldc2_w, ↓wp_lload_n3, ↓wp_lor, ↓wp_lreturn2, ↓wp_lshl, ↓wp_lstore_n3, wp_nil, ↓ldI_0, ↓ldI_s, ↓ldL_0, ↓ldL_s, ↓ldR_0, ↓ldR_s, sto1_0, sto1_1, sto1_s, sto2_0, sto2_1, sto2_s, isLong_i, isLong_l, isLong_r, ↓popI_c, ↓popL_c, ↓popR_c, ↓popN_0, ↓popN_s, catS_n, catS_c, psh_s, psh_n, fldV_n, fldV_s, ↓tgt_e, sw_n, ↓sw_c, ↓lk1_h, ↓lk1_m, ↓atC_h, ↓atC_m, ↓atC_n, ltO_n, ltO_s, updR_eq, updR_ne, gI_0i, gI_0l, gI_s, ltM_iff, List.cons.injEq, Sum.inl.injEq, Sum.inr.injEq, Option.some.injEq, exists_eq_left, exists_eq_left', exists_eq_right, exists_eq_right', exists_and_left, exists_and_right, exists_eq, exists_const, and_assoc, ↓j_W_shortestRow_0, ↓j_W_shortestRow_16, ↓j_W_shortestRow_24, ↓j_W_shortestRow_57, ↓c_W_100064, List.length_cons, List.length_nil, Nat.zero_add, Nat.reduceAdd, Int.reduceAdd, Int.reduceNeg, Int.reduceToNat, Int.reduceLE, Int.reduceLT, true_and, and_true, Nat.reduceLT, reduceIte, Nat.reduceEqDiff, ne_eq, not_false_eq_true, false_implies, true_implies, Bool.false_eq_true, reduceCtorEq, List.cons_append, List.nil_append, Nat.reduceSub, Nat.reduceLeDiff, Fin.isValue, Int.reduceNatCast', Int.zero_add, Int.add_zero, decide_true, decide_false, implies_true, forall_const, true_or, or_true, or_false, false_or, false_and, and_false, Int.toNat_natCast, ↓oF_11_0, ↓aF_12, ↓oF_11_1, ↓aF_13, ↓oF_11_2, ↓aF_14, ↓oF_11_3, ↓aF_15, ↓oF_11_4, oC_0, oC_1, oC_4, oC_11, oC_16, oC_18, oC_20, oC_23, oC_25, oC_26, oC_29, oC_31, oC_33, oC_35, oC_37, isT_29, isT_31, isT_33, isT_35, isL_16, isL_18, isL_26, ↓e_W_depthOf, ↓e_W_lastBitOf, ↓e_W_parentOf]
    have h1 := hT.at hs
    (try simp only [rI_iff, rL_iff] at *)
    repeat' (first | assumption | apply And.intro | intro _)
    all_goals first | omega | assumption | exact True.intro | skip
    all_goals grind [pathV]
  · intro L st u hI
    obtain ⟨x, a, i, rfl, rfl, hd, hi, ha, hx, hxr, hu⟩ := hI
    simp only [↓wpN_go, jmp_e, ↓wp_aload_n0, ↓wp_bipush, ↓wp_goto, ↓wp_i2l, ↓wp_icmp_ge, ↓wp_icmp_le, ↓wp_iconst, ↓wp_iinc, ↓wp_iload, ↓wp_iload_n1, ↓wp_iload_n2, ↓wp_invokevirtual, ↓wp_istore, ↓wp_istore_n2, ↓wp_lconst0, ↓wp_ldc2_w, ↓wp_lload_n3, ↓wp_lor, ↓wp_lreturn2, ↓wp_lshl, ↓wp_lstore_n3, wp_nil, ↓ldI_0, ↓ldI_s, ↓ldL_0, ↓ldL_s, ↓ldR_0, ↓ldR_s, sto1_0, sto1_1, sto1_s, sto2_0, sto2_1, sto2_s, isLong_i, isLong_l, isLong_r, ↓popI_c, ↓popL_c, ↓popR_c, ↓popN_0, ↓popN_s, catS_n, catS_c, psh_s, psh_n, fldV_n, fldV_s, ↓tgt_e, sw_n, ↓sw_c, ↓lk1_h, ↓lk1_m, ↓atC_h, ↓atC_m, ↓atC_n, ltO_n, ltO_s, updR_eq, updR_ne, gI_0i, gI_0l, gI_s, ltM_iff, List.cons.injEq, Sum.inl.injEq, Sum.inr.injEq, Option.some.injEq, exists_eq_left, exists_eq_left', exists_eq_right, exists_eq_right', exists_and_left, exists_and_right, exists_eq, exists_const, and_assoc, ↓j_W_shortestRow_0, ↓j_W_shortestRow_16, ↓j_W_shortestRow_24, ↓j_W_shortestRow_57, ↓c_W_100064, List.length_cons, List.length_nil, Nat.zero_add, Nat.reduceAdd, Int.reduceAdd, Int.reduceNeg, Int.reduceToNat, Int.reduceLE, Int.reduceLT, true_and, and_true, Nat.reduceLT, reduceIte, Nat.reduceEqDiff, ne_eq, not_false_eq_true, false_implies, true_implies, Bool.false_eq_true, reduceCtorEq, List.cons_append, List.nil_append, Nat.reduceSub, Nat.reduceLeDiff, Fin.isValue, Int.reduceNatCast', Int.zero_add, Int.add_zero, decide_true, decide_false, implies_true, forall_const, true_or, or_true, or_false, false_or, false_and, and_false, Int.toNat_natCast, ↓oF_11_0, ↓aF_12, ↓oF_11_1, ↓aF_13, ↓oF_11_2, ↓aF_14, ↓oF_11_3, ↓aF_15, ↓oF_11_4, oC_0, oC_1, oC_4, oC_11, oC_16, oC_18, oC_20, oC_23, oC_25, oC_26, oC_29, oC_31, oC_33, oC_35, oC_37, isT_29, isT_31, isT_33, isT_35, isL_16, isL_18, isL_26, ↓e_W_depthOf, ↓e_W_lastBitOf, ↓e_W_parentOf]
    subst hu
    have h1 := hT.at hs
    have h2 := hT.at ⟨ha.1, ha.2.1⟩
    have h3 := hb a.toNat
    have hp : (2 : Int) ^ i.toNat ≤ 1152921504606846976 := by
      have : (2 : Nat) ^ i.toNat ≤ 2 ^ 60 := Nat.pow_le_pow_right (by omega) (by omega)
      have e : ((2 ^ i.toNat : Nat) : Int) = 2 ^ i.toNat := by rw [Int.natCast_pow]; rfl
      omega
    simp only [ha.1, ha.2.1, true_and, reduceIte, and_self]
    by_cases hi2 : i < u 15 s.toNat
    · rw [lorZ_add hxr h3 (by omega)]
      have h4 := h2.2.2 (by omega)
      have e1 : (u 15 s.toNat - i).toNat = (u 15 s.toNat - (i + 1)).toNat + 1 := by omega
      have e2 : (i + 1).toNat = i.toNat + 1 := by omega
      rw [e1, pathV] at hx
      rw [e2, Int.pow_succ]
      (try simp only [rI_iff, rL_iff] at *)
      repeat' (first | assumption | apply And.intro | intro _)
      all_goals first | omega | assumption | exact True.intro | skip
      all_goals grind
    · have e3 : (u 15 s.toNat - i).toNat = 0 := by omega
      rw [e3, pathV] at hx
      (try simp only [rI_iff, rL_iff] at *)
      repeat' (first | assumption | apply And.intro | intro _)
      all_goals first | omega | assumption | exact True.intro | skip
      all_goals grind
def s_T_setPath : Spec := fun as σ Q => popR as fun o r0 => popR r0 fun c1 r1 => popI r1 fun s r2 => r2 = [] ∧ c1 = 11 ∧ (isT o) ∧ (11 ≠ o ∧ 13 ≠ o ∧ 14 ≠ o ∧ 15 ≠ o ∧ 11 ≠ o + 1 ∧ 13 ≠ o + 1 ∧ 14 ≠ o + 1 ∧ 15 ≠ o + 1) ∧ (0 ≤ σ 11 4 ∧ σ 11 4 ≤ 100) ∧ (0 ≤ s ∧ s < σ 11 4) ∧ (Tree (σ 11 4) (σ 13) (σ 15)) ∧ Q none (updR (updR σ o (up1 (σ o) 1 (σ 15 s.toNat))) (o + 1) (leadG (σ 13) (σ 14) (σ 15 s.toNat) s (-1) (σ (o + 1))))
theorem e_T_setPath (o : Nat) (s : Int) (σ : St) (Q : Option AV → St → Prop) : s_T_setPath [.inr (.inr (some o)), .inr (.inr (some 11)), .inl s] σ Q = ((isT o) ∧ (11 ≠ o ∧ 13 ≠ o ∧ 14 ≠ o ∧ 15 ≠ o ∧ 11 ≠ o + 1 ∧ 13 ≠ o + 1 ∧ 14 ≠ o + 1 ∧ 15 ≠ o + 1) ∧ (0 ≤ σ 11 4 ∧ σ 11 4 ≤ 100) ∧ (0 ≤ s ∧ s < σ 11 4) ∧ (Tree (σ 11 4) (σ 13) (σ 15)) ∧ Q none (updR (updR σ o (up1 (σ o) 1 (σ 15 s.toNat))) (o + 1) (leadG (σ 13) (σ 14) (σ 15 s.toNat) s (-1) (σ (o + 1))))) := by
  show ([] = [] ∧ _) = _
  simp only [true_and]
set_option maxHeartbeats 4000000 in
set_option maxRecDepth 20000 in
theorem S_T_setPath {l : Launch} : Sat l y_T_setPath b_T_setPath 5 none 2 s_T_setPath := by
  refine sat_of (Φ := P_T) (κ := Q_T) (Γ := [(38, 8, 1, s_W_depthOf), (19, 0, 2, s_JM_min), (43, 8, 1, s_W_lastBitOf), (46, 8, 1, s_W_parentOf)]) (rt := 0) (by decide +kernel) P_T_ok Q_T_ok (by
    refine List.forall_mem_cons.mpr ⟨?_, List.forall_mem_cons.mpr ⟨?_, List.forall_mem_cons.mpr ⟨?_, List.forall_mem_cons.mpr ⟨?_, fun _ h => absurd h List.not_mem_nil⟩⟩⟩⟩
    · exact m_W_depthOf S_W_depthOf (by decide) l_T_38
    · exact m_JM_min S_JM_min (by decide) l_T_19
    · exact m_W_lastBitOf S_W_lastBitOf (by decide) l_T_43
    · exact m_W_parentOf S_W_parentOf (by decide) l_T_46) (by simp) o_T_setPath ?_
  intro as σ Q hh0
  obtain ⟨o, rr0, rfl, hh1⟩ := popR_inv hh0
  obtain ⟨c1, rr1, rfl, hh2⟩ := popR_inv hh1
  obtain ⟨s, rr2, rfl, hh3⟩ := popI_inv hh2
  obtain ⟨hrE, rfl, hO, hne, hN, hs, hT, hQ⟩ := hh3
  subst hrE
  clear hh0 hh1 hh2
  refine ⟨Nat.le_of_ble_eq_true rfl, [(25, mkC (fun L st u => ∃ (a i : Int), L = [.inr (.inr (some o)), .inr (.inr (some 11)), .inl s, .inl a, .inl i] ∧ st = [] ∧ (-1 ≤ i ∧ i < σ 15 s.toNat) ∧ (a = ancF (σ 13) (σ 15 s.toNat - 1 - i).toNat s) ∧ (u = updR (updR σ o (up1 (σ o) 1 (σ 15 s.toNat))) (o + 1) (leadG (σ 13) (σ 14) (σ 15 s.toNat) s i (σ (o + 1))))) (fun L st u => ((gI L 4 + 1).toNat, 0, 0)))], 14, ?_, cuts1 ?_ (cuts0)⟩
  · rw [show entL 5 [.inr (.inr (some o)), .inr (.inr (some 11)), .inl s] = [.inr (.inr (some o)), .inr (.inr (some 11)), .inl s, .inr (.inr none), .inr (.inr none)] from rfl]
    simp only [↓wpN_go, jmp_e, ↓wp_aload_n0, ↓wp_aload_n1, ↓wp_getfield, ↓wp_goto, ↓wp_iastore, ↓wp_iconst, ↓wp_if_lt, ↓wp_iinc, ↓wp_iload, ↓wp_iload_n2, ↓wp_iload_n3, ↓wp_invokestatic, ↓wp_invokevirtual, ↓wp_istore, ↓wp_istore_n3, ↓wp_isub, ↓wp_putfield, ↓wp_return0, ↓wp_sipush, wp_nil, ↓ldI_0, ↓ldI_s, ↓ldL_0, ↓ldL_s, ↓ldR_0, ↓ldR_s, sto1_0, sto1_1, sto1_s, sto2_0, sto2_1, sto2_s, isLong_i, isLong_l, isLong_r, ↓popI_c, ↓popL_c, ↓popR_c, ↓popN_0, ↓popN_s, catS_n, catS_c, psh_s, psh_n, fldV_n, fldV_s, ↓tgt_e, sw_n, ↓sw_c, ↓lk1_h, ↓lk1_m, ↓atC_h, ↓atC_m, ↓atC_n, ltO_n, ltO_s, updR_eq, updR_ne, gI_0i, gI_0l, gI_s, ltM_iff, List.cons.injEq, Sum.inl.injEq, Sum.inr.injEq, Option.some.injEq, exists_eq_left, exists_eq_left', exists_eq_right, exists_eq_right', exists_and_left, exists_and_right, exists_eq, exists_const, and_assoc, ↓j_T_setPath_0, ↓j_T_setPath_25, ↓j_T_setPath_54, ↓f_T_15, ↓f_T_9, List.length_cons, List.length_nil, Nat.zero_add, Nat.reduceAdd, Int.reduceAdd, Int.reduceNeg, Int.reduceToNat, Int.reduceLE, Int.reduceLT, true_and, and_true, Nat.reduceLT, reduceIte, Nat.reduceEqDiff, ne_eq, not_false_eq_true, false_implies, true_implies, Bool.false_eq_true, reduceCtorEq, List.cons_append, List.nil_append, Nat.reduceSub, Nat.reduceLeDiff, Fin.isValue, Int.reduceNatCast', Int.zero_add, Int.add_zero, decide_true, decide_false, implies_true, forall_const, true_or, or_true, or_false, false_or, false_and, and_false, Int.toNat_natCast, oC_0, oC_1, oC_4, oC_11, oC_16, oC_18, oC_20, oC_23, oC_25, oC_26, oC_29, oC_31, oC_33, oC_35, oC_37, isT_29, isT_31, isT_33, isT_35, isL_16, isL_18, isL_26, ↓hO.f0, ↓hO.f1, ↓hO.a, hO.c, updR_o1, updR_o2, eq_true hO, updR_ne _ _ _ _ hne.1, updR_ne _ _ _ _ hne.2.1, updR_ne _ _ _ _ hne.2.2.1, updR_ne _ _ _ _ hne.2.2.2.1, updR_ne _ _ _ _ hne.2.2.2.2.1, updR_ne _ _ _ _ hne.2.2.2.2.2.1, updR_ne _ _ _ _ hne.2.2.2.2.2.2.1, updR_ne _ _ _ _ hne.2.2.2.2.2.2.2, updR_twice, ↓e_W_depthOf, ↓e_JM_min, ↓e_W_lastBitOf, ↓e_W_parentOf]
    have h1 := hT.at hs
    simp only [if_pos hs, show min (σ 15 s.toNat) 600 = σ 15 s.toNat by omega, up1_eq, show σ 15 s.toNat - 1 - (σ 15 s.toNat - 1) = 0 by omega]
    (try simp only [rI_iff, rL_iff] at *)
    repeat' (first | assumption | apply And.intro | intro _)
    all_goals first | omega | assumption | exact True.intro | skip
    · rfl
    · refine st_ext fun k j => ?_
      grind [updR_app, up1_app, leadG_app]
  · intro L st u hI
    obtain ⟨a, i, rfl, rfl, hi, ha, hu⟩ := hI
    simp only [↓wpN_go, jmp_e, ↓wp_aload_n0, ↓wp_aload_n1, ↓wp_getfield, ↓wp_goto, ↓wp_iastore, ↓wp_iconst, ↓wp_if_lt, ↓wp_iinc, ↓wp_iload, ↓wp_iload_n2, ↓wp_iload_n3, ↓wp_invokestatic, ↓wp_invokevirtual, ↓wp_istore, ↓wp_istore_n3, ↓wp_isub, ↓wp_putfield, ↓wp_return0, ↓wp_sipush, wp_nil, ↓ldI_0, ↓ldI_s, ↓ldL_0, ↓ldL_s, ↓ldR_0, ↓ldR_s, sto1_0, sto1_1, sto1_s, sto2_0, sto2_1, sto2_s, isLong_i, isLong_l, isLong_r, ↓popI_c, ↓popL_c, ↓popR_c, ↓popN_0, ↓popN_s, catS_n, catS_c, psh_s, psh_n, fldV_n, fldV_s, ↓tgt_e, sw_n, ↓sw_c, ↓lk1_h, ↓lk1_m, ↓atC_h, ↓atC_m, ↓atC_n, ltO_n, ltO_s, updR_eq, updR_ne, gI_0i, gI_0l, gI_s, ltM_iff, List.cons.injEq, Sum.inl.injEq, Sum.inr.injEq, Option.some.injEq, exists_eq_left, exists_eq_left', exists_eq_right, exists_eq_right', exists_and_left, exists_and_right, exists_eq, exists_const, and_assoc, ↓j_T_setPath_0, ↓j_T_setPath_25, ↓j_T_setPath_54, ↓f_T_15, ↓f_T_9, List.length_cons, List.length_nil, Nat.zero_add, Nat.reduceAdd, Int.reduceAdd, Int.reduceNeg, Int.reduceToNat, Int.reduceLE, Int.reduceLT, true_and, and_true, Nat.reduceLT, reduceIte, Nat.reduceEqDiff, ne_eq, not_false_eq_true, false_implies, true_implies, Bool.false_eq_true, reduceCtorEq, List.cons_append, List.nil_append, Nat.reduceSub, Nat.reduceLeDiff, Fin.isValue, Int.reduceNatCast', Int.zero_add, Int.add_zero, decide_true, decide_false, implies_true, forall_const, true_or, or_true, or_false, false_or, false_and, and_false, Int.toNat_natCast, oC_0, oC_1, oC_4, oC_11, oC_16, oC_18, oC_20, oC_23, oC_25, oC_26, oC_29, oC_31, oC_33, oC_35, oC_37, isT_29, isT_31, isT_33, isT_35, isL_16, isL_18, isL_26, ↓hO.f0, ↓hO.f1, ↓hO.a, hO.c, updR_o1, updR_o2, eq_true hO, updR_ne _ _ _ _ hne.1, updR_ne _ _ _ _ hne.2.1, updR_ne _ _ _ _ hne.2.2.1, updR_ne _ _ _ _ hne.2.2.2.1, updR_ne _ _ _ _ hne.2.2.2.2.1, updR_ne _ _ _ _ hne.2.2.2.2.2.1, updR_ne _ _ _ _ hne.2.2.2.2.2.2.1, updR_ne _ _ _ _ hne.2.2.2.2.2.2.2, updR_twice, ↓e_W_depthOf, ↓e_JM_min, ↓e_W_lastBitOf, ↓e_W_parentOf]
    subst hu
    have h1 := hT.anc hs (σ 15 s.toNat - 1 - i).toNat (by omega)
    rw [← ha] at h1
    have h2 := hT.at hs
    simp only [updR_ne _ _ _ _ hne.1, updR_ne _ _ _ _ hne.2.1, updR_ne _ _ _ _ hne.2.2.1, updR_ne _ _ _ _ hne.2.2.2.1, updR_ne _ _ _ _ hne.2.2.2.2.1, updR_ne _ _ _ _ hne.2.2.2.2.2.1, updR_ne _ _ _ _ hne.2.2.2.2.2.2.1, updR_ne _ _ _ _ hne.2.2.2.2.2.2.2, updR_eq, if_pos (show 0 ≤ a ∧ a < σ 11 4 from ⟨h1.1, h1.2.1⟩), updR_twice]
    (try simp only [rI_iff, rL_iff] at *)
    repeat' (first | assumption | apply And.intro | intro _)
    all_goals first | omega | assumption | exact True.intro | skip
    · have : i = -1 := by omega
      subst this
      exact hQ
    · rw [show (σ 15 s.toNat - 1 - (i + -1)).toNat = (σ 15 s.toNat - 1 - i).toNat + 1 by omega, ancF, ← ha]
    · rw [ha, leadG_up ⟨by assumption, hi.2⟩]
      rfl
end
section
/-! weights -/
theorem ladI_congr {N : Int} {f w v : Nat → Int} (h : ∀ s : Nat, (s : Int) < N → w s = v s) : ∀ (r : Nat) (s : Int), ladI N f w r s = ladI N f v r s
  | 0, s => by
    unfold ladI
    split
    · exact h s.toNat (by omega)
    · rfl
  | r + 1, s => by
    unfold ladI
    rw [ladI_congr h r, ladI_congr h r]
theorem ladI_bound {N B : Int} {f w : Nat → Int} (hB : 0 ≤ B) (h : ∀ s : Nat, (s : Int) < N → 0 ≤ w s ∧ w s ≤ B) : ∀ (r : Nat) (s : Int), 0 ≤ ladI N f w r s ∧ ladI N f w r s ≤ 2 ^ r * B
  | 0, s => by
    unfold ladI
    split
    · have := h s.toNat (by omega); omega
    · omega
  | r + 1, s => by
    have h1 := ladI_bound (f := f) hB h r (stepZ N f s 0)
    have h2 := ladI_bound (f := f) hB h r (stepZ N f s 1)
    have e : (2 : Int) ^ (r + 1) * B = 2 ^ r * B + 2 ^ r * B := by rw [Int.pow_succ, Int.mul_assoc, Int.mul_comm 2 B, ← Int.mul_assoc]; omega
    unfold ladI
    rw [e]
    split <;> omega
theorem ladI_mono {N : Int} {f w v : Nat → Int} (h : ∀ s : Nat, (s : Int) < N → w s ≤ v s) : ∀ (r : Nat) (s : Int), ladI N f w r s ≤ ladI N f v r s
  | 0, s => by
    unfold ladI
    split
    · exact h s.toNat (by omega)
    · omega
  | r + 1, s => by
    have h1 := ladI_mono (f := f) h r (stepZ N f s 0)
    have h2 := ladI_mono (f := f) h r (stepZ N f s 1)
    unfold ladI
    split <;> omega
theorem climbed_congr {N : Int} {f w v : Nat → Int} {top : Int} {g : Nat → Int} (h : ∀ s : Nat, (s : Int) < N → w s = v s) (hc : Climbed N f w top g) : Climbed N f v top g := by
  intro r h1 h2 s hs
  rw [hc r h1 h2 s hs, ladI_congr h]
theorem climbed_at {N : Int} {f w g : Nat → Int} {top s : Int} (hN : N ≤ 100) (hc : Climbed N f w top g) (ht : 0 ≤ top ∧ top ≤ 60) (hs : 0 ≤ s ∧ s < N) : ladV g top s = ladI N f w top.toNat s := by
  have := lad_at (N := N) (f := f) (w := w) (g := g) (r := top.toNat) (t := s) hN (by omega) (fun t ht2 => hc top.toNat (by omega) (by omega) t ht2) (Or.inl hs.2)
  rw [Int.toNat_of_nonneg ht.1] at this
  exact this
def bearF (N : Int) (f w : Nat → Int) (m n : Int) (s : Nat) : Int := ladI N f w n.toNat s / 2 ^ m.toNat
def lowerF (N : Int) (f w : Nat → Int) (m n : Int) (c : Int) : Nat → Int := fun s => if (s : Int) < c ∧ bearF N f w m n s < w s then bearF N f w m n s else w s
theorem lowerF_app (N : Int) (f w : Nat → Int) (m n c : Int) (s : Nat) : lowerF N f w m n c s = if (s : Int) < c ∧ bearF N f w m n s < w s then bearF N f w m n s else w s := (rfl)
def findF (p : Nat → Bool) : Nat → Int
  | 0 => -1
  | n + 1 => if findF p n = -1 then (if p n then (n : Int) else -1) else findF p n
theorem findF_on (p : Nat → Bool) (n : Nat) (h : findF p n ≠ -1) : ∀ m, n ≤ m → findF p m = findF p n := by
  intro m hm
  obtain ⟨k, rfl⟩ := Nat.le.dest hm
  induction k with
  | zero => rfl
  | succ k ih =>
    have ih := ih (by omega)
    show findF p (n + k + 1) = _
    rw [findF, ih, if_neg h]
theorem sumF_congr {w v : Nat → Int} : ∀ {n : Nat}, (∀ s, s < n → w s = v s) → sumF w n = sumF v n
  | 0, _ => rfl
  | n + 1, h => by rw [sumF, sumF, sumF_congr (fun s hs => h s (by omega)), h n (by omega)]
theorem sumF_bound {w : Nat → Int} {B : Int} : ∀ {n : Nat}, (∀ s, s < n → 0 ≤ w s ∧ w s ≤ B) → 0 ≤ sumF w n ∧ sumF w n ≤ n * B
  | 0, _ => by simp [sumF]
  | n + 1, h => by
    have h1 := sumF_bound (n := n) (fun s hs => h s (by omega))
    have h2 := h n (by omega)
    rw [sumF]
    have e : ((n + 1 : Nat) : Int) * B = n * B + B := by rw [Int.natCast_add, Int.add_mul]; omega
    omega
theorem sumF_le {w v : Nat → Int} : ∀ {n : Nat}, (∀ s, s < n → w s ≤ v s) → sumF w n ≤ sumF v n
  | 0, _ => by simp [sumF]
  | n + 1, h => by
    have h1 := sumF_le (n := n) (fun s hs => h s (by omega))
    have h2 := h n (by omega)
    rw [sumF, sumF]
    omega
theorem sumF_lt {w v : Nat → Int} : ∀ {n : Nat}, (∀ s, s < n → w s ≤ v s) → (∃ s, s < n ∧ w s < v s) → sumF w n < sumF v n
  | 0, _, ⟨s, hs, _⟩ => by omega
  | n + 1, h, ⟨s, hs, hl⟩ => by
    have h2 := h n (by omega)
    rw [sumF, sumF]
    by_cases e : s = n
    · subst e
      have h1 := sumF_le (n := s) (w := w) (v := v) (fun s hs => h s (by omega))
      omega
    · have h1 := sumF_lt (n := n) (w := w) (v := v) (fun s hs => h s (by omega)) ⟨s, by omega, hl⟩
      omega
def s_W_adopt : Spec := fun as σ Q => popR as fun c0 r0 => popI r0 fun s r1 => popI r1 fun b r2 => r2 = [] ∧ c0 = 11 ∧ (0 ≤ σ 11 4 ∧ σ 11 4 ≤ 100) ∧ (Wire (σ 11 4) (σ 12)) ∧ (0 ≤ s ∧ s < σ 11 4) ∧ (0 ≤ b ∧ b ≤ 1) ∧ (AllI (σ 13) 100) ∧ Q none (if 0 < stepZ (σ 11 4) (σ 12) s b ∧ σ 13 (stepZ (σ 11 4) (σ 12) s b).toNat = -1 then updR (updR (updR σ 13 (up1 (σ 13) (stepZ (σ 11 4) (σ 12) s b).toNat s)) 14 (up1 (σ 14) (stepZ (σ 11 4) (σ 12) s b).toNat b)) 15 (up1 (σ 15) (stepZ (σ 11 4) (σ 12) s b).toNat (σ 15 s.toNat + 1)) else σ)
theorem e_W_adopt (s : Int) (b : Int) (σ : St) (Q : Option AV → St → Prop) : s_W_adopt [.inr (.inr (some 11)), .inl s, .inl b] σ Q = ((0 ≤ σ 11 4 ∧ σ 11 4 ≤ 100) ∧ (Wire (σ 11 4) (σ 12)) ∧ (0 ≤ s ∧ s < σ 11 4) ∧ (0 ≤ b ∧ b ≤ 1) ∧ (AllI (σ 13) 100) ∧ Q none (if 0 < stepZ (σ 11 4) (σ 12) s b ∧ σ 13 (stepZ (σ 11 4) (σ 12) s b).toNat = -1 then updR (updR (updR σ 13 (up1 (σ 13) (stepZ (σ 11 4) (σ 12) s b).toNat s)) 14 (up1 (σ 14) (stepZ (σ 11 4) (σ 12) s b).toNat b)) 15 (up1 (σ 15) (stepZ (σ 11 4) (σ 12) s b).toNat (σ 15 s.toNat + 1)) else σ)) := by
  show ([] = [] ∧ _) = _
  simp only [true_and]
set_option maxHeartbeats 4000000 in
set_option maxRecDepth 20000 in
theorem S_W_adopt {l : Launch} : Sat l y_W_adopt b_W_adopt 4 none 2 s_W_adopt := by
  refine sat_of (Φ := P_W) (κ := Q_W) (Γ := [(53, 8, 2, s_W_step)]) (rt := 0) (by decide +kernel) P_W_ok Q_W_ok (by
    refine List.forall_mem_cons.mpr ⟨?_, fun _ h => absurd h List.not_mem_nil⟩
    · exact m_W_step S_W_step (by decide) l_W_53) (by simp) o_W_adopt ?_
  intro as σ Q hh0
  obtain ⟨c0, rr0, rfl, hh1⟩ := popR_inv hh0
  obtain ⟨s, rr1, rfl, hh2⟩ := popI_inv hh1
  obtain ⟨b, rr2, rfl, hh3⟩ := popI_inv hh2
  obtain ⟨hrE, rfl, hN, hf, hs, hb, hp, hQ⟩ := hh3
  subst hrE
  clear hh0 hh1 hh2
  refine ⟨Nat.le_of_ble_eq_true rfl, [], 14, ?_, cuts0⟩
  · rw [show entL 4 [.inr (.inr (some 11)), .inl s, .inl b] = [.inr (.inr (some 11)), .inl s, .inl b, .inr (.inr none)] from rfl]
    simp only [↓wpN_go, jmp_e, ↓wp_aload_n0, ↓wp_getfield, ↓wp_iadd, ↓wp_iaload, ↓wp_iastore, ↓wp_icmp_ne, ↓wp_iconst, ↓wp_if_le, ↓wp_iload_n1, ↓wp_iload_n2, ↓wp_iload_n3, ↓wp_invokevirtual, ↓wp_istore_n3, ↓wp_return0, wp_nil, ↓ldI_0, ↓ldI_s, ↓ldL_0, ↓ldL_s, ↓ldR_0, ↓ldR_s, sto1_0, sto1_1, sto1_s, sto2_0, sto2_1, sto2_s, isLong_i, isLong_l, isLong_r, ↓popI_c, ↓popL_c, ↓popR_c, ↓popN_0, ↓popN_s, catS_n, catS_c, psh_s, psh_n, fldV_n, fldV_s, ↓tgt_e, sw_n, ↓sw_c, ↓lk1_h, ↓lk1_m, ↓atC_h, ↓atC_m, ↓atC_n, ltO_n, ltO_s, updR_eq, updR_ne, gI_0i, gI_0l, gI_s, ltM_iff, List.cons.injEq, Sum.inl.injEq, Sum.inr.injEq, Option.some.injEq, exists_eq_left, exists_eq_left', exists_eq_right, exists_eq_right', exists_and_left, exists_and_right, exists_eq, exists_const, and_assoc, ↓j_W_adopt_0, ↓j_W_adopt_49, ↓f_W_15, ↓f_W_18, ↓f_W_21, List.length_cons, List.length_nil, Nat.zero_add, Nat.reduceAdd, Int.reduceAdd, Int.reduceNeg, Int.reduceToNat, Int.reduceLE, Int.reduceLT, true_and, and_true, Nat.reduceLT, reduceIte, Nat.reduceEqDiff, ne_eq, not_false_eq_true, false_implies, true_implies, Bool.false_eq_true, reduceCtorEq, List.cons_append, List.nil_append, Nat.reduceSub, Nat.reduceLeDiff, Fin.isValue, Int.reduceNatCast', Int.zero_add, Int.add_zero, decide_true, decide_false, implies_true, forall_const, true_or, or_true, or_false, false_or, false_and, and_false, Int.toNat_natCast, ↓oF_11_0, ↓aF_12, ↓oF_11_1, ↓aF_13, ↓oF_11_2, ↓aF_14, ↓oF_11_3, ↓aF_15, ↓oF_11_4, oC_0, oC_1, oC_4, oC_11, oC_16, oC_18, oC_20, oC_23, oC_25, oC_26, oC_29, oC_31, oC_33, oC_35, oC_37, isT_29, isT_31, isT_33, isT_35, isL_16, isL_18, isL_26, ↓e_W_step]
    have h1 := stepZ_r hN.2 hf s b
    have h2 := hp (stepZ (σ 11 4) (σ 12) s b).toNat
    generalize stepZ (σ 11 4) (σ 12) s b = c at *
    (try simp only [rI_iff, rL_iff] at *)
    repeat' (first | assumption | apply And.intro | intro _)
    all_goals first
      | omega
      | (refine st_ext fun k j => ?_; grind [updR_app, up1_app])
      | (refine Q_eq hQ ?_ ?_ <;> first | rfl | (refine st_ext fun k j => ?_; grind [updR_app, up1_app]) | grind [updR_app, up1_app])
      | grind [updR_app, up1_app]
def s_G_setAll : Spec := fun as σ Q => popR as fun c0 r0 => popI r0 fun v r1 => r1 = [] ∧ c0 = 23 ∧ Q none (updR σ 24 (fillF (σ 24) 0 100 v))
theorem e_G_setAll (v : Int) (σ : St) (Q : Option AV → St → Prop) : s_G_setAll [.inr (.inr (some 23)), .inl v] σ Q = (Q none (updR σ 24 (fillF (σ 24) 0 100 v))) := by
  show ([] = [] ∧ _) = _
  simp only [true_and]
set_option maxHeartbeats 4000000 in
set_option maxRecDepth 20000 in
theorem S_G_setAll {l : Launch} : Sat l y_G_setAll b_G_setAll 2 none 1 s_G_setAll := by
  refine sat_of (Φ := P_G) (κ := Q_G) (Γ := [(15, 0, 2, s_JA_fillI)]) (rt := 0) (by decide +kernel) P_G_ok Q_G_ok (by
    refine List.forall_mem_cons.mpr ⟨?_, fun _ h => absurd h List.not_mem_nil⟩
    · exact m_JA_fillI S_JA_fillI (by decide) l_G_15) (by simp) o_G_setAll ?_
  intro as σ Q hh0
  obtain ⟨c0, rr0, rfl, hh1⟩ := popR_inv hh0
  obtain ⟨v, rr1, rfl, hh2⟩ := popI_inv hh1
  obtain ⟨hrE, rfl, hQ⟩ := hh2
  subst hrE
  clear hh0 hh1
  refine ⟨Nat.le_of_ble_eq_true rfl, [], 14, ?_, cuts0⟩
  · rw [show entL 2 [.inr (.inr (some 23)), .inl v] = [.inr (.inr (some 23)), .inl v] from rfl]
    simp only [↓wpN_go, jmp_e, ↓wp_aload_n0, ↓wp_getfield, ↓wp_iload_n1, ↓wp_invokestatic, ↓wp_return0, wp_nil, ↓ldI_0, ↓ldI_s, ↓ldL_0, ↓ldL_s, ↓ldR_0, ↓ldR_s, sto1_0, sto1_1, sto1_s, sto2_0, sto2_1, sto2_s, isLong_i, isLong_l, isLong_r, ↓popI_c, ↓popL_c, ↓popR_c, ↓popN_0, ↓popN_s, catS_n, catS_c, psh_s, psh_n, fldV_n, fldV_s, ↓tgt_e, sw_n, ↓sw_c, ↓lk1_h, ↓lk1_m, ↓atC_h, ↓atC_m, ↓atC_n, ltO_n, ltO_s, updR_eq, updR_ne, gI_0i, gI_0l, gI_s, ltM_iff, List.cons.injEq, Sum.inl.injEq, Sum.inr.injEq, Option.some.injEq, exists_eq_left, exists_eq_left', exists_eq_right, exists_eq_right', exists_and_left, exists_and_right, exists_eq, exists_const, and_assoc, ↓j_G_setAll_0, ↓f_G_9, List.length_cons, List.length_nil, Nat.zero_add, Nat.reduceAdd, Int.reduceAdd, Int.reduceNeg, Int.reduceToNat, Int.reduceLE, Int.reduceLT, true_and, and_true, Nat.reduceLT, reduceIte, Nat.reduceEqDiff, ne_eq, not_false_eq_true, false_implies, true_implies, Bool.false_eq_true, reduceCtorEq, List.cons_append, List.nil_append, Nat.reduceSub, Nat.reduceLeDiff, Fin.isValue, Int.reduceNatCast', Int.zero_add, Int.add_zero, decide_true, decide_false, implies_true, forall_const, true_or, or_true, or_false, false_or, false_and, and_false, Int.toNat_natCast, ↓oF_23_0, ↓aF_24, oC_0, oC_1, oC_4, oC_11, oC_16, oC_18, oC_20, oC_23, oC_25, oC_26, oC_29, oC_31, oC_33, oC_35, oC_37, isT_29, isT_31, isT_33, isT_35, isL_16, isL_18, isL_26, ↓e_JA_fillI]
    (try simp only [rI_iff, rL_iff] at *)
    repeat' (first | assumption | apply And.intro | intro _)
    all_goals first
      | omega
      | (refine st_ext fun k j => ?_; grind [updR_app, up1_app])
      | (refine Q_eq hQ ?_ ?_ <;> first | rfl | (refine st_ext fun k j => ?_; grind [updR_app, up1_app]) | grind [updR_app, up1_app])
      | grind [updR_app, up1_app]
def s_G_set : Spec := fun as σ Q => popR as fun c0 r0 => popI r0 fun s r1 => popI r1 fun v r2 => r2 = [] ∧ c0 = 23 ∧ (rI s) ∧ Q none (if 0 ≤ s ∧ s < 100 then updR σ 24 (up1 (σ 24) s.toNat v) else σ)
theorem e_G_set (s : Int) (v : Int) (σ : St) (Q : Option AV → St → Prop) : s_G_set [.inr (.inr (some 23)), .inl s, .inl v] σ Q = ((rI s) ∧ Q none (if 0 ≤ s ∧ s < 100 then updR σ 24 (up1 (σ 24) s.toNat v) else σ)) := by
  show ([] = [] ∧ _) = _
  simp only [true_and]
set_option maxHeartbeats 4000000 in
set_option maxRecDepth 20000 in
theorem S_G_set {l : Launch} : Sat l y_G_set b_G_set 3 none 0 s_G_set := by
  refine sat_of (Φ := P_G) (κ := Q_G) (Γ := []) (rt := 0) (by decide +kernel) P_G_ok Q_G_ok (fun g hg => absurd hg List.not_mem_nil) (by simp) o_G_set ?_
  intro as σ Q hh0
  obtain ⟨c0, rr0, rfl, hh1⟩ := popR_inv hh0
  obtain ⟨s, rr1, rfl, hh2⟩ := popI_inv hh1
  obtain ⟨v, rr2, rfl, hh3⟩ := popI_inv hh2
  obtain ⟨hrE, rfl, hs, hQ⟩ := hh3
  subst hrE
  clear hh0 hh1 hh2
  refine ⟨Nat.le_of_ble_eq_true rfl, [], 14, ?_, cuts0⟩
  · rw [show entL 3 [.inr (.inr (some 23)), .inl s, .inl v] = [.inr (.inr (some 23)), .inl s, .inl v] from rfl]
    simp only [↓wpN_go, jmp_e, ↓wp_aload_n0, ↓wp_bipush, ↓wp_getfield, ↓wp_iastore, ↓wp_icmp_ge, ↓wp_if_lt, ↓wp_iload_n1, ↓wp_iload_n2, ↓wp_return0, wp_nil, ↓ldI_0, ↓ldI_s, ↓ldL_0, ↓ldL_s, ↓ldR_0, ↓ldR_s, sto1_0, sto1_1, sto1_s, sto2_0, sto2_1, sto2_s, isLong_i, isLong_l, isLong_r, ↓popI_c, ↓popL_c, ↓popR_c, ↓popN_0, ↓popN_s, catS_n, catS_c, psh_s, psh_n, fldV_n, fldV_s, ↓tgt_e, sw_n, ↓sw_c, ↓lk1_h, ↓lk1_m, ↓atC_h, ↓atC_m, ↓atC_n, ltO_n, ltO_s, updR_eq, updR_ne, gI_0i, gI_0l, gI_s, ltM_iff, List.cons.injEq, Sum.inl.injEq, Sum.inr.injEq, Option.some.injEq, exists_eq_left, exists_eq_left', exists_eq_right, exists_eq_right', exists_and_left, exists_and_right, exists_eq, exists_const, and_assoc, ↓j_G_set_0, ↓j_G_set_17, ↓f_G_9, List.length_cons, List.length_nil, Nat.zero_add, Nat.reduceAdd, Int.reduceAdd, Int.reduceNeg, Int.reduceToNat, Int.reduceLE, Int.reduceLT, true_and, and_true, Nat.reduceLT, reduceIte, Nat.reduceEqDiff, ne_eq, not_false_eq_true, false_implies, true_implies, Bool.false_eq_true, reduceCtorEq, List.cons_append, List.nil_append, Nat.reduceSub, Nat.reduceLeDiff, Fin.isValue, Int.reduceNatCast', Int.zero_add, Int.add_zero, decide_true, decide_false, implies_true, forall_const, true_or, or_true, or_false, false_or, false_and, and_false, Int.toNat_natCast, ↓oF_23_0, ↓aF_24, oC_0, oC_1, oC_4, oC_11, oC_16, oC_18, oC_20, oC_23, oC_25, oC_26, oC_29, oC_31, oC_33, oC_35, oC_37, isT_29, isT_31, isT_33, isT_35, isL_16, isL_18, isL_26]
    (try simp only [rI_iff, rL_iff] at *)
    repeat' (first | assumption | apply And.intro | intro _)
    all_goals first
      | omega
      | (refine st_ext fun k j => ?_; grind [updR_app, up1_app])
      | (refine Q_eq hQ ?_ ?_ <;> first | rfl | (refine st_ext fun k j => ?_; grind [updR_app, up1_app]) | grind [updR_app, up1_app])
      | grind [updR_app, up1_app]
def s_G_of : Spec := fun as σ Q => popR as fun c0 r0 => popI r0 fun s r1 => r1 = [] ∧ c0 = 23 ∧ (rI s) ∧ Q (some (.inl (if 0 ≤ s ∧ s < 100 then σ 24 s.toNat else 0))) σ
theorem e_G_of (s : Int) (σ : St) (Q : Option AV → St → Prop) : s_G_of [.inr (.inr (some 23)), .inl s] σ Q = ((rI s) ∧ Q (some (.inl (if 0 ≤ s ∧ s < 100 then σ 24 s.toNat else 0))) σ) := by
  show ([] = [] ∧ _) = _
  simp only [true_and]
set_option maxHeartbeats 4000000 in
set_option maxRecDepth 20000 in
theorem S_G_of {l : Launch} : Sat l y_G_of b_G_of 2 (some .int) 0 s_G_of := by
  refine sat_of (Φ := P_G) (κ := Q_G) (Γ := []) (rt := 1) (by decide +kernel) P_G_ok Q_G_ok (fun g hg => absurd hg List.not_mem_nil) (by simp) o_G_of ?_
  intro as σ Q hh0
  obtain ⟨c0, rr0, rfl, hh1⟩ := popR_inv hh0
  obtain ⟨s, rr1, rfl, hh2⟩ := popI_inv hh1
  obtain ⟨hrE, rfl, hs, hQ⟩ := hh2
  subst hrE
  clear hh0 hh1
  refine ⟨Nat.le_of_ble_eq_true rfl, [], 14, ?_, cuts0⟩
  · rw [show entL 2 [.inr (.inr (some 23)), .inl s] = [.inr (.inr (some 23)), .inl s] from rfl]
    simp only [↓wpN_go, jmp_e, ↓wp_aload_n0, ↓wp_bipush, ↓wp_getfield, ↓wp_goto, ↓wp_iaload, ↓wp_icmp_ge, ↓wp_iconst, ↓wp_if_lt, ↓wp_iload_n1, ↓wp_ireturn1, wp_nil, ↓ldI_0, ↓ldI_s, ↓ldL_0, ↓ldL_s, ↓ldR_0, ↓ldR_s, sto1_0, sto1_1, sto1_s, sto2_0, sto2_1, sto2_s, isLong_i, isLong_l, isLong_r, ↓popI_c, ↓popL_c, ↓popR_c, ↓popN_0, ↓popN_s, catS_n, catS_c, psh_s, psh_n, fldV_n, fldV_s, ↓tgt_e, sw_n, ↓sw_c, ↓lk1_h, ↓lk1_m, ↓atC_h, ↓atC_m, ↓atC_n, ltO_n, ltO_s, updR_eq, updR_ne, gI_0i, gI_0l, gI_s, ltM_iff, List.cons.injEq, Sum.inl.injEq, Sum.inr.injEq, Option.some.injEq, exists_eq_left, exists_eq_left', exists_eq_right, exists_eq_right', exists_and_left, exists_and_right, exists_eq, exists_const, and_assoc, ↓j_G_of_0, ↓j_G_of_19, ↓j_G_of_20, ↓f_G_9, List.length_cons, List.length_nil, Nat.zero_add, Nat.reduceAdd, Int.reduceAdd, Int.reduceNeg, Int.reduceToNat, Int.reduceLE, Int.reduceLT, true_and, and_true, Nat.reduceLT, reduceIte, Nat.reduceEqDiff, ne_eq, not_false_eq_true, false_implies, true_implies, Bool.false_eq_true, reduceCtorEq, List.cons_append, List.nil_append, Nat.reduceSub, Nat.reduceLeDiff, Fin.isValue, Int.reduceNatCast', Int.zero_add, Int.add_zero, decide_true, decide_false, implies_true, forall_const, true_or, or_true, or_false, false_or, false_and, and_false, Int.toNat_natCast, ↓oF_23_0, ↓aF_24, oC_0, oC_1, oC_4, oC_11, oC_16, oC_18, oC_20, oC_23, oC_25, oC_26, oC_29, oC_31, oC_33, oC_35, oC_37, isT_29, isT_31, isT_33, isT_35, isL_16, isL_18, isL_26]
    (try simp only [rI_iff, rL_iff] at *)
    repeat' (first | assumption | apply And.intro | intro _)
    all_goals first
      | omega
      | (refine st_ext fun k j => ?_; grind [updR_app, up1_app])
      | (refine Q_eq hQ ?_ ?_ <;> first | rfl | (refine st_ext fun k j => ?_; grind [updR_app, up1_app]) | grind [updR_app, up1_app])
      | grind [updR_app, up1_app]
def s_G_sum : Spec := fun as σ Q => popR as fun c0 r0 => r0 = [] ∧ c0 = 23 ∧ Q (some (.inl (sumF (σ 24) 100))) σ
theorem e_G_sum  (σ : St) (Q : Option AV → St → Prop) : s_G_sum [.inr (.inr (some 23))] σ Q = (Q (some (.inl (sumF (σ 24) 100))) σ) := by
  show ([] = [] ∧ _) = _
  simp only [true_and]
set_option maxHeartbeats 4000000 in
set_option maxRecDepth 20000 in
theorem S_G_sum {l : Launch} : Sat l y_G_sum b_G_sum 3 (some .int) 0 s_G_sum := by
  refine sat_of (Φ := P_G) (κ := Q_G) (Γ := []) (rt := 1) (by decide +kernel) P_G_ok Q_G_ok (fun g hg => absurd hg List.not_mem_nil) (by simp) o_G_sum ?_
  intro as σ Q hh0
  obtain ⟨c0, rr0, rfl, hh1⟩ := popR_inv hh0
  obtain ⟨hrE, rfl, hQ⟩ := hh1
  subst hrE
  clear hh0
  refine ⟨Nat.le_of_ble_eq_true rfl, [(4, mkC (fun L st u => ∃ (x i : Int), L = [.inr (.inr (some 23)), .inl x, .inl i] ∧ st = [] ∧ (0 ≤ i ∧ i ≤ 100) ∧ (x = sumF (σ 24) i.toNat) ∧ (u = σ)) (fun L st u => ((100 - gI L 2).toNat, 0, 0)))], 14, ?_, cuts1 ?_ (cuts0)⟩
  · rw [show entL 3 [.inr (.inr (some 23))] = [.inr (.inr (some 23)), .inr (.inr none), .inr (.inr none)] from rfl]
    simp only [↓wpN_go, jmp_e, ↓wp_aload_n0, ↓wp_bipush, ↓wp_getfield, ↓wp_goto, ↓wp_iadd, ↓wp_iaload, ↓wp_icmp_ge, ↓wp_iconst, ↓wp_iinc, ↓wp_iload_n1, ↓wp_iload_n2, ↓wp_ireturn1, ↓wp_istore_n1, ↓wp_istore_n2, wp_nil, ↓ldI_0, ↓ldI_s, ↓ldL_0, ↓ldL_s, ↓ldR_0, ↓ldR_s, sto1_0, sto1_1, sto1_s, sto2_0, sto2_1, sto2_s, isLong_i, isLong_l, isLong_r, ↓popI_c, ↓popL_c, ↓popR_c, ↓popN_0, ↓popN_s, catS_n, catS_c, psh_s, psh_n, fldV_n, fldV_s, ↓tgt_e, sw_n, ↓sw_c, ↓lk1_h, ↓lk1_m, ↓atC_h, ↓atC_m, ↓atC_n, ltO_n, ltO_s, updR_eq, updR_ne, gI_0i, gI_0l, gI_s, ltM_iff, List.cons.injEq, Sum.inl.injEq, Sum.inr.injEq, Option.some.injEq, exists_eq_left, exists_eq_left', exists_eq_right, exists_eq_right', exists_and_left, exists_and_right, exists_eq, exists_const, and_assoc, ↓j_G_sum_0, ↓j_G_sum_4, ↓j_G_sum_25, ↓f_G_9, List.length_cons, List.length_nil, Nat.zero_add, Nat.reduceAdd, Int.reduceAdd, Int.reduceNeg, Int.reduceToNat, Int.reduceLE, Int.reduceLT, true_and, and_true, Nat.reduceLT, reduceIte, Nat.reduceEqDiff, ne_eq, not_false_eq_true, false_implies, true_implies, Bool.false_eq_true, reduceCtorEq, List.cons_append, List.nil_append, Nat.reduceSub, Nat.reduceLeDiff, Fin.isValue, Int.reduceNatCast', Int.zero_add, Int.add_zero, decide_true, decide_false, implies_true, forall_const, true_or, or_true, or_false, false_or, false_and, and_false, Int.toNat_natCast, ↓oF_23_0, ↓aF_24, oC_0, oC_1, oC_4, oC_11, oC_16, oC_18, oC_20, oC_23, oC_25, oC_26, oC_29, oC_31, oC_33, oC_35, oC_37, isT_29, isT_31, isT_33, isT_35, isL_16, isL_18, isL_26]
    (try simp only [rI_iff, rL_iff] at *)
    repeat' (first | assumption | apply And.intro | intro _)
    all_goals first
      | omega
      | (refine st_ext fun k j => ?_; grind [updR_app, up1_app, sumF])
      | (refine Q_eq hQ ?_ ?_ <;> first | rfl | (refine st_ext fun k j => ?_; grind [updR_app, up1_app, sumF]) | grind [updR_app, up1_app, sumF])
      | grind [updR_app, up1_app, sumF]
  · intro L st u hI
    obtain ⟨x, i, rfl, rfl, hi, hx, hu⟩ := hI
    simp only [↓wpN_go, jmp_e, ↓wp_aload_n0, ↓wp_bipush, ↓wp_getfield, ↓wp_goto, ↓wp_iadd, ↓wp_iaload, ↓wp_icmp_ge, ↓wp_iconst, ↓wp_iinc, ↓wp_iload_n1, ↓wp_iload_n2, ↓wp_ireturn1, ↓wp_istore_n1, ↓wp_istore_n2, wp_nil, ↓ldI_0, ↓ldI_s, ↓ldL_0, ↓ldL_s, ↓ldR_0, ↓ldR_s, sto1_0, sto1_1, sto1_s, sto2_0, sto2_1, sto2_s, isLong_i, isLong_l, isLong_r, ↓popI_c, ↓popL_c, ↓popR_c, ↓popN_0, ↓popN_s, catS_n, catS_c, psh_s, psh_n, fldV_n, fldV_s, ↓tgt_e, sw_n, ↓sw_c, ↓lk1_h, ↓lk1_m, ↓atC_h, ↓atC_m, ↓atC_n, ltO_n, ltO_s, updR_eq, updR_ne, gI_0i, gI_0l, gI_s, ltM_iff, List.cons.injEq, Sum.inl.injEq, Sum.inr.injEq, Option.some.injEq, exists_eq_left, exists_eq_left', exists_eq_right, exists_eq_right', exists_and_left, exists_and_right, exists_eq, exists_const, and_assoc, ↓j_G_sum_0, ↓j_G_sum_4, ↓j_G_sum_25, ↓f_G_9, List.length_cons, List.length_nil, Nat.zero_add, Nat.reduceAdd, Int.reduceAdd, Int.reduceNeg, Int.reduceToNat, Int.reduceLE, Int.reduceLT, true_and, and_true, Nat.reduceLT, reduceIte, Nat.reduceEqDiff, ne_eq, not_false_eq_true, false_implies, true_implies, Bool.false_eq_true, reduceCtorEq, List.cons_append, List.nil_append, Nat.reduceSub, Nat.reduceLeDiff, Fin.isValue, Int.reduceNatCast', Int.zero_add, Int.add_zero, decide_true, decide_false, implies_true, forall_const, true_or, or_true, or_false, false_or, false_and, and_false, Int.toNat_natCast, ↓oF_23_0, ↓aF_24, oC_0, oC_1, oC_4, oC_11, oC_16, oC_18, oC_20, oC_23, oC_25, oC_26, oC_29, oC_31, oC_33, oC_35, oC_37, isT_29, isT_31, isT_33, isT_35, isL_16, isL_18, isL_26]
    subst hu
    have e : (i + 1).toNat = i.toNat + 1 := by omega
    simp only [e, sumF, ← hx]
    (try simp only [rI_iff, rL_iff] at *)
    repeat' (first | assumption | apply And.intro | intro _)
    all_goals first
      | omega
      | (refine st_ext fun k j => ?_; grind [updR_app, up1_app, sumF])
      | (refine Q_eq hQ ?_ ?_ <;> first | rfl | (refine st_ext fun k j => ?_; grind [updR_app, up1_app, sumF]) | grind [updR_app, up1_app, sumF])
      | grind [updR_app, up1_app, sumF]
def s_G_raise : Spec := fun as σ Q => popR as fun c0 r0 => popR r0 fun c1 r1 => popI r1 fun v r2 => r2 = [] ∧ c0 = 23 ∧ c1 = 11 ∧ (0 ≤ σ 11 4 ∧ σ 11 4 ≤ 100) ∧ Q none (updR σ 24 (fillF (σ 24) 0 (σ 11 4) v))
theorem e_G_raise (v : Int) (σ : St) (Q : Option AV → St → Prop) : s_G_raise [.inr (.inr (some 23)), .inr (.inr (some 11)), .inl v] σ Q = ((0 ≤ σ 11 4 ∧ σ 11 4 ≤ 100) ∧ Q none (updR σ 24 (fillF (σ 24) 0 (σ 11 4) v))) := by
  show ([] = [] ∧ _) = _
  simp only [true_and]
set_option maxHeartbeats 4000000 in
set_option maxRecDepth 20000 in
theorem S_G_raise {l : Launch} : Sat l y_G_raise b_G_raise 4 none 1 s_G_raise := by
  refine sat_of (Φ := P_G) (κ := Q_G) (Γ := [(21, 8, 0, s_W_size), (27, 7, 2, s_G_set)]) (rt := 0) (by decide +kernel) P_G_ok Q_G_ok (by
    refine List.forall_mem_cons.mpr ⟨?_, List.forall_mem_cons.mpr ⟨?_, fun _ h => absurd h List.not_mem_nil⟩⟩
    · exact m_W_size S_W_size (by decide) l_G_21
    · exact m_G_set S_G_set (by decide) l_G_27) (by simp) o_G_raise ?_
  intro as σ Q hh0
  obtain ⟨c0, rr0, rfl, hh1⟩ := popR_inv hh0
  obtain ⟨c1, rr1, rfl, hh2⟩ := popR_inv hh1
  obtain ⟨v, rr2, rfl, hh3⟩ := popI_inv hh2
  obtain ⟨hrE, rfl, rfl, hN, hQ⟩ := hh3
  subst hrE
  clear hh0 hh1 hh2
  refine ⟨Nat.le_of_ble_eq_true rfl, [(2, mkC (fun L st u => ∃ (i : Int), L = [.inr (.inr (some 23)), .inr (.inr (some 11)), .inl v, .inl i] ∧ st = [] ∧ (0 ≤ i ∧ i ≤ σ 11 4) ∧ (u = updR σ 24 (fillF (σ 24) 0 i v))) (fun L st u => ((100 - gI L 3).toNat, 0, 0)))], 14, ?_, cuts1 ?_ (cuts0)⟩
  · rw [show entL 4 [.inr (.inr (some 23)), .inr (.inr (some 11)), .inl v] = [.inr (.inr (some 23)), .inr (.inr (some 11)), .inl v, .inr (.inr none)] from rfl]
    simp only [↓wpN_go, jmp_e, ↓wp_aload_n0, ↓wp_aload_n1, ↓wp_goto, ↓wp_icmp_ge, ↓wp_iconst, ↓wp_iinc, ↓wp_iload_n2, ↓wp_iload_n3, ↓wp_invokevirtual, ↓wp_istore_n3, ↓wp_return0, wp_nil, ↓ldI_0, ↓ldI_s, ↓ldL_0, ↓ldL_s, ↓ldR_0, ↓ldR_s, sto1_0, sto1_1, sto1_s, sto2_0, sto2_1, sto2_s, isLong_i, isLong_l, isLong_r, ↓popI_c, ↓popL_c, ↓popR_c, ↓popN_0, ↓popN_s, catS_n, catS_c, psh_s, psh_n, fldV_n, fldV_s, ↓tgt_e, sw_n, ↓sw_c, ↓lk1_h, ↓lk1_m, ↓atC_h, ↓atC_m, ↓atC_n, ltO_n, ltO_s, updR_eq, updR_ne, gI_0i, gI_0l, gI_s, ltM_iff, List.cons.injEq, Sum.inl.injEq, Sum.inr.injEq, Option.some.injEq, exists_eq_left, exists_eq_left', exists_eq_right, exists_eq_right', exists_and_left, exists_and_right, exists_eq, exists_const, and_assoc, ↓j_G_raise_0, ↓j_G_raise_2, ↓j_G_raise_22, List.length_cons, List.length_nil, Nat.zero_add, Nat.reduceAdd, Int.reduceAdd, Int.reduceNeg, Int.reduceToNat, Int.reduceLE, Int.reduceLT, true_and, and_true, Nat.reduceLT, reduceIte, Nat.reduceEqDiff, ne_eq, not_false_eq_true, false_implies, true_implies, Bool.false_eq_true, reduceCtorEq, List.cons_append, List.nil_append, Nat.reduceSub, Nat.reduceLeDiff, Fin.isValue, Int.reduceNatCast', Int.zero_add, Int.add_zero, decide_true, decide_false, implies_true, forall_const, true_or, or_true, or_false, false_or, false_and, and_false, Int.toNat_natCast, ↓oF_23_0, ↓aF_24, oC_0, oC_1, oC_4, oC_11, oC_16, oC_18, oC_20, oC_23, oC_25, oC_26, oC_29, oC_31, oC_33, oC_35, oC_37, isT_29, isT_31, isT_33, isT_35, isL_16, isL_18, isL_26, ↓e_W_size, ↓e_G_set]
    rw [fill_0, updR_self]
    (try simp only [rI_iff, rL_iff] at *)
    repeat' (first | assumption | apply And.intro | intro _)
    all_goals first
      | omega
      | (refine st_ext fun k j => ?_; grind [updR_app, up1_app])
      | (refine Q_eq hQ ?_ ?_ <;> first | rfl | (refine st_ext fun k j => ?_; grind [updR_app, up1_app]) | grind [updR_app, up1_app])
      | grind [updR_app, up1_app]
  · intro L st u hI
    obtain ⟨i, rfl, rfl, hi, hu⟩ := hI
    simp only [↓wpN_go, jmp_e, ↓wp_aload_n0, ↓wp_aload_n1, ↓wp_goto, ↓wp_icmp_ge, ↓wp_iconst, ↓wp_iinc, ↓wp_iload_n2, ↓wp_iload_n3, ↓wp_invokevirtual, ↓wp_istore_n3, ↓wp_return0, wp_nil, ↓ldI_0, ↓ldI_s, ↓ldL_0, ↓ldL_s, ↓ldR_0, ↓ldR_s, sto1_0, sto1_1, sto1_s, sto2_0, sto2_1, sto2_s, isLong_i, isLong_l, isLong_r, ↓popI_c, ↓popL_c, ↓popR_c, ↓popN_0, ↓popN_s, catS_n, catS_c, psh_s, psh_n, fldV_n, fldV_s, ↓tgt_e, sw_n, ↓sw_c, ↓lk1_h, ↓lk1_m, ↓atC_h, ↓atC_m, ↓atC_n, ltO_n, ltO_s, updR_eq, updR_ne, gI_0i, gI_0l, gI_s, ltM_iff, List.cons.injEq, Sum.inl.injEq, Sum.inr.injEq, Option.some.injEq, exists_eq_left, exists_eq_left', exists_eq_right, exists_eq_right', exists_and_left, exists_and_right, exists_eq, exists_const, and_assoc, ↓j_G_raise_0, ↓j_G_raise_2, ↓j_G_raise_22, List.length_cons, List.length_nil, Nat.zero_add, Nat.reduceAdd, Int.reduceAdd, Int.reduceNeg, Int.reduceToNat, Int.reduceLE, Int.reduceLT, true_and, and_true, Nat.reduceLT, reduceIte, Nat.reduceEqDiff, ne_eq, not_false_eq_true, false_implies, true_implies, Bool.false_eq_true, reduceCtorEq, List.cons_append, List.nil_append, Nat.reduceSub, Nat.reduceLeDiff, Fin.isValue, Int.reduceNatCast', Int.zero_add, Int.add_zero, decide_true, decide_false, implies_true, forall_const, true_or, or_true, or_false, false_or, false_and, and_false, Int.toNat_natCast, ↓oF_23_0, ↓aF_24, oC_0, oC_1, oC_4, oC_11, oC_16, oC_18, oC_20, oC_23, oC_25, oC_26, oC_29, oC_31, oC_33, oC_35, oC_37, isT_29, isT_31, isT_33, isT_35, isL_16, isL_18, isL_26, ↓e_W_size, ↓e_G_set]
    subst hu
    have h9 : 0 ≤ i ∧ i < 100 ↔ (0 ≤ i ∧ i < 100) := Iff.rfl
    have e9 : i < σ 11 4 → (if 0 ≤ i ∧ i < 100 then updR (updR σ 24 (fillF (σ 24) 0 i v)) 24 (up1 (updR σ 24 (fillF (σ 24) 0 i v) 24) i.toNat v) else updR σ 24 (fillF (σ 24) 0 i v)) = updR σ 24 (fillF (σ 24) 0 (i + 1) v) := fun h => by rw [if_pos (by omega), updR_eq, updR_twice, up1_fill hi.1 hi.1]
    (try simp only [rI_iff, rL_iff] at *)
    repeat' (first | assumption | apply And.intro | intro _)
    all_goals first
      | omega
      | (refine st_ext fun k j => ?_; grind [updR_app, up1_app])
      | (refine Q_eq hQ ?_ ?_ <;> first | rfl | (refine st_ext fun k j => ?_; grind [updR_app, up1_app]) | grind [updR_app, up1_app])
      | grind [updR_app, up1_app]
def Feas (N : Int) (f : Nat → Int) (m n : Int) (V : Nat → Int) : Prop := ∀ s : Nat, (s : Int) < N → 0 ≤ V s ∧ V s ≤ bearF N f V m n s
theorem pow12 {n : Int} (h : n ≤ 12) : (0 : Int) < 2 ^ n.toNat ∧ (2 : Int) ^ n.toNat ≤ 4096 := by
  refine ⟨Int.pow_pos (by omega), ?_⟩
  have : (2 : Nat) ^ n.toNat ≤ 2 ^ 12 := Nat.pow_le_pow_right (by omega) (by omega)
  have e : ((2 ^ n.toNat : Nat) : Int) = 2 ^ n.toNat := by rw [Int.natCast_pow]; rfl
  omega
theorem ladI_12 {N B n : Int} {f w : Nat → Int} (hn : n ≤ 12) (hB : 0 ≤ B) (h : ∀ s : Nat, (s : Int) < N → 0 ≤ w s ∧ w s ≤ B) (s : Int) : 0 ≤ ladI N f w n.toNat s ∧ ladI N f w n.toNat s ≤ 4096 * B := by
  have h1 := ladI_bound (f := f) hB h n.toNat s
  have h2 := Int.mul_le_mul_of_nonneg_right (pow12 hn).2 hB
  omega
theorem bear_0 {N B m n : Int} {f w : Nat → Int} (hB : 0 ≤ B) (h : ∀ s : Nat, (s : Int) < N → 0 ≤ w s ∧ w s ≤ B) (s : Nat) : 0 ≤ bearF N f w m n s := by
  have h1 := (ladI_bound (f := f) hB h n.toNat s).1
  exact Int.ediv_nonneg h1 (Int.le_of_lt (Int.pow_pos (by omega)))
theorem bear_mono {N m n : Int} {f w v : Nat → Int} (h : ∀ s : Nat, (s : Int) < N → w s ≤ v s) (s : Nat) : bearF N f w m n s ≤ bearF N f v m n s := Int.ediv_le_ediv (Int.pow_pos (by omega)) (ladI_mono h n.toNat s)
theorem lower_keep {N m n : Int} {f V W : Nat → Int} (hV : Feas N f m n V) (h : ∀ s : Nat, (s : Int) < N → V s ≤ W s) : ∀ s : Nat, (s : Int) < N → V s ≤ lowerF N f W m n N s := by
  intro s hs
  rw [lowerF_app]
  have h1 := hV s hs
  have h2 := bear_mono (f := f) (m := m) (n := n) h s
  have h3 := h s hs
  split <;> omega
theorem lower_id {N m n : Int} {f W : Nat → Int} (h : ∀ s : Nat, (s : Int) < N → W s ≤ bearF N f W m n s) (c : Int) (hc : c ≤ N) : lowerF N f W m n c = W := by
  funext s
  rw [lowerF_app]
  split
  · next q => have := h s (by omega); omega
  · rfl
theorem lower_sum {N m n : Int} {f W : Nat → Int} (h : ∃ s : Nat, (s : Int) < N ∧ bearF N f W m n s < W s) : sumF (lowerF N f W m n N) N.toNat < sumF W N.toNat := by
  obtain ⟨s, h1, h2⟩ := h
  refine sumF_lt (fun s hs => ?_) ⟨s, by omega, ?_⟩
  · rw [lowerF_app]; split <;> omega
  · rw [lowerF_app, if_pos ⟨h1, h2⟩]; exact h2
def cpyF (f g : Nat → Int) (i : Int) : Nat → Int := fun s => if (s : Int) < i then f s else g s
theorem cpyF_app (f g : Nat → Int) (i : Int) (s : Nat) : cpyF f g i s = if (s : Int) < i then f s else g s := (rfl)
theorem cpyF_up {f g : Nat → Int} {i : Int} (h : 0 ≤ i) : up1 (cpyF f g i) i.toNat (f i.toNat) = cpyF f g (i + 1) := by
  funext s
  rw [up1_app, cpyF_app, cpyF_app]
  by_cases e : s = i.toNat
  · rw [if_pos e, if_pos (by omega), e]
  · rw [if_neg e]
    by_cases h1 : (s : Int) < i
    · rw [if_pos h1, if_pos (by omega)]
    · rw [if_neg h1, if_neg (by omega)]
theorem cpyF_0 {f g : Nat → Int} : cpyF f g 0 = g := by
  funext s
  rw [cpyF_app, if_neg (by omega)]
theorem lower_up {N m n i : Int} {f W : Nat → Int} (hi : 0 ≤ i ∧ i < N) : (if bearF N f W m n i.toNat < W i.toNat then up1 (lowerF N f W m n i) i.toNat (bearF N f W m n i.toNat) else lowerF N f W m n i) = lowerF N f W m n (i + 1) := by
  funext s
  rw [lowerF_app]
  by_cases e : s = i.toNat
  · subst e
    split
    · next h => rw [up1_eq, if_pos ⟨by omega, h⟩]
    · next h => rw [lowerF_app, if_neg (by omega), if_neg (fun q => h q.2)]
  · have : (s : Int) < i ↔ (s : Int) < i + 1 := by omega
    split
    · rw [up1_ne _ _ _ _ e, lowerF_app]; simp only [this]
    · rw [lowerF_app]; simp only [this]
theorem lower_i {N m n i : Int} {f W : Nat → Int} (hi : 0 ≤ i) : lowerF N f W m n i i.toNat = W i.toNat := by rw [lowerF_app, if_neg (by omega)]
theorem updR_L24 {o : Nat} (h : isL o) (σ : St) (f : Nat → Int) : updR σ (o + 1) f 24 = σ 24 := updR_ne _ _ _ _ (by have := isL_cases h; omega)
theorem updR_24L {o : Nat} (h : isL o) (σ : St) (f : Nat → Int) : updR σ 24 f (o + 1) = σ (o + 1) := updR_ne _ _ _ _ (by have := isL_cases h; omega)
def s_G_weighEnds : Spec := fun as σ Q => popR as fun c0 r0 => popR r0 fun c1 r1 => popR r1 fun o r2 => popI r2 fun n r3 => r3 = [] ∧ c0 = 23 ∧ c1 = 11 ∧ (isL o) ∧ (0 ≤ σ 11 4 ∧ σ 11 4 ≤ 100) ∧ (Wire (σ 11 4) (σ 12)) ∧ (0 ≤ n ∧ n ≤ 60) ∧ (AllI (σ 24) 100) ∧ ∀ g, Climbed (σ 11 4) (σ 12) (σ 24) n g → Q none (updR σ (o + 1) g)
theorem e_G_weighEnds (o : Nat) (n : Int) (σ : St) (Q : Option AV → St → Prop) : s_G_weighEnds [.inr (.inr (some 23)), .inr (.inr (some 11)), .inr (.inr (some o)), .inl n] σ Q = ((isL o) ∧ (0 ≤ σ 11 4 ∧ σ 11 4 ≤ 100) ∧ (Wire (σ 11 4) (σ 12)) ∧ (0 ≤ n ∧ n ≤ 60) ∧ (AllI (σ 24) 100) ∧ ∀ g, Climbed (σ 11 4) (σ 12) (σ 24) n g → Q none (updR σ (o + 1) g)) := by
  show ([] = [] ∧ _) = _
  simp only [true_and]
set_option maxHeartbeats 4000000 in
set_option maxRecDepth 20000 in
theorem S_G_weighEnds {l : Launch} : Sat l y_G_weighEnds b_G_weighEnds 5 none 3 s_G_weighEnds := by
  refine sat_of (Φ := P_G) (κ := Q_G) (Γ := [(21, 8, 0, s_W_size), (44, 7, 1, s_G_of), (52, 4, 2, s_L_set), (55, 4, 2, s_L_climb)]) (rt := 0) (by decide +kernel) P_G_ok Q_G_ok (by
    refine List.forall_mem_cons.mpr ⟨?_, List.forall_mem_cons.mpr ⟨?_, List.forall_mem_cons.mpr ⟨?_, List.forall_mem_cons.mpr ⟨?_, fun _ h => absurd h List.not_mem_nil⟩⟩⟩⟩
    · exact m_W_size S_W_size (by decide) l_G_21
    · exact m_G_of S_G_of (by decide) l_G_44
    · exact m_L_set S_L_set (by decide) l_G_52
    · exact m_L_climb S_L_climb (by decide) l_G_55) (by simp) o_G_weighEnds ?_
  intro as σ Q hh0
  obtain ⟨c0, rr0, rfl, hh1⟩ := popR_inv hh0
  obtain ⟨c1, rr1, rfl, hh2⟩ := popR_inv hh1
  obtain ⟨o, rr2, rfl, hh3⟩ := popR_inv hh2
  obtain ⟨n, rr3, rfl, hh4⟩ := popI_inv hh3
  obtain ⟨hrE, rfl, rfl, hL, hN, hf, hn, hw, hQ⟩ := hh4
  subst hrE
  clear hh0 hh1 hh2 hh3
  refine ⟨Nat.le_of_ble_eq_true rfl, [(3, mkC (fun L st u => ∃ (i : Int), L = [.inr (.inr (some 23)), .inr (.inr (some 11)), .inr (.inr (some o)), .inl n, .inl i] ∧ st = [] ∧ (0 ≤ i ∧ i ≤ σ 11 4) ∧ (u = updR σ (o + 1) (cpyF (σ 24) (σ (o + 1)) i))) (fun L st u => ((101 - gI L 4).toNat, 0, 0)))], 14, ?_, cuts1 ?_ (cuts0)⟩
  · rw [show entL 5 [.inr (.inr (some 23)), .inr (.inr (some 11)), .inr (.inr (some o)), .inl n] = [.inr (.inr (some 23)), .inr (.inr (some 11)), .inr (.inr (some o)), .inl n, .inr (.inr none)] from rfl]
    simp only [↓wpN_go, jmp_e, ↓wp_aload_n0, ↓wp_aload_n1, ↓wp_aload_n2, ↓wp_goto, ↓wp_i2l, ↓wp_icmp_ge, ↓wp_iconst, ↓wp_iinc, ↓wp_iload, ↓wp_iload_n3, ↓wp_invokevirtual, ↓wp_istore, ↓wp_return0, wp_nil, ↓ldI_0, ↓ldI_s, ↓ldL_0, ↓ldL_s, ↓ldR_0, ↓ldR_s, sto1_0, sto1_1, sto1_s, sto2_0, sto2_1, sto2_s, isLong_i, isLong_l, isLong_r, ↓popI_c, ↓popL_c, ↓popR_c, ↓popN_0, ↓popN_s, catS_n, catS_c, psh_s, psh_n, fldV_n, fldV_s, ↓tgt_e, sw_n, ↓sw_c, ↓lk1_h, ↓lk1_m, ↓atC_h, ↓atC_m, ↓atC_n, ltO_n, ltO_s, updR_eq, updR_ne, gI_0i, gI_0l, gI_s, ltM_iff, List.cons.injEq, Sum.inl.injEq, Sum.inr.injEq, Option.some.injEq, exists_eq_left, exists_eq_left', exists_eq_right, exists_eq_right', exists_and_left, exists_and_right, exists_eq, exists_const, and_assoc, ↓j_G_weighEnds_0, ↓j_G_weighEnds_3, ↓j_G_weighEnds_31, List.length_cons, List.length_nil, Nat.zero_add, Nat.reduceAdd, Int.reduceAdd, Int.reduceNeg, Int.reduceToNat, Int.reduceLE, Int.reduceLT, true_and, and_true, Nat.reduceLT, reduceIte, Nat.reduceEqDiff, ne_eq, not_false_eq_true, false_implies, true_implies, Bool.false_eq_true, reduceCtorEq, List.cons_append, List.nil_append, Nat.reduceSub, Nat.reduceLeDiff, Fin.isValue, Int.reduceNatCast', Int.zero_add, Int.add_zero, decide_true, decide_false, implies_true, forall_const, true_or, or_true, or_false, false_or, false_and, and_false, Int.toNat_natCast, ↓oF_23_0, ↓aF_24, oC_0, oC_1, oC_4, oC_11, oC_16, oC_18, oC_20, oC_23, oC_25, oC_26, oC_29, oC_31, oC_33, oC_35, oC_37, isT_29, isT_31, isT_33, isT_35, isL_16, isL_18, isL_26, ↓hL.f0, ↓hL.a, hL.c, updR_o1, updR_o2, eq_true hL, updR_L11 hL, updR_L12 hL, updR_L24 hL, updR_24L hL, updR_twice, ↓e_W_size, ↓e_G_of, ↓e_L_set, ↓e_L_climb]
    rw [cpyF_0, updR_self]
    (try simp only [rI_iff, rL_iff] at *)
    repeat' (first | assumption | apply And.intro | intro _)
    all_goals first | omega | assumption | exact True.intro | skip
  · intro L st u hI
    obtain ⟨i, rfl, rfl, hi, hu⟩ := hI
    simp only [↓wpN_go, jmp_e, ↓wp_aload_n0, ↓wp_aload_n1, ↓wp_aload_n2, ↓wp_goto, ↓wp_i2l, ↓wp_icmp_ge, ↓wp_iconst, ↓wp_iinc, ↓wp_iload, ↓wp_iload_n3, ↓wp_invokevirtual, ↓wp_istore, ↓wp_return0, wp_nil, ↓ldI_0, ↓ldI_s, ↓ldL_0, ↓ldL_s, ↓ldR_0, ↓ldR_s, sto1_0, sto1_1, sto1_s, sto2_0, sto2_1, sto2_s, isLong_i, isLong_l, isLong_r, ↓popI_c, ↓popL_c, ↓popR_c, ↓popN_0, ↓popN_s, catS_n, catS_c, psh_s, psh_n, fldV_n, fldV_s, ↓tgt_e, sw_n, ↓sw_c, ↓lk1_h, ↓lk1_m, ↓atC_h, ↓atC_m, ↓atC_n, ltO_n, ltO_s, updR_eq, updR_ne, gI_0i, gI_0l, gI_s, ltM_iff, List.cons.injEq, Sum.inl.injEq, Sum.inr.injEq, Option.some.injEq, exists_eq_left, exists_eq_left', exists_eq_right, exists_eq_right', exists_and_left, exists_and_right, exists_eq, exists_const, and_assoc, ↓j_G_weighEnds_0, ↓j_G_weighEnds_3, ↓j_G_weighEnds_31, List.length_cons, List.length_nil, Nat.zero_add, Nat.reduceAdd, Int.reduceAdd, Int.reduceNeg, Int.reduceToNat, Int.reduceLE, Int.reduceLT, true_and, and_true, Nat.reduceLT, reduceIte, Nat.reduceEqDiff, ne_eq, not_false_eq_true, false_implies, true_implies, Bool.false_eq_true, reduceCtorEq, List.cons_append, List.nil_append, Nat.reduceSub, Nat.reduceLeDiff, Fin.isValue, Int.reduceNatCast', Int.zero_add, Int.add_zero, decide_true, decide_false, implies_true, forall_const, true_or, or_true, or_false, false_or, false_and, and_false, Int.toNat_natCast, ↓oF_23_0, ↓aF_24, oC_0, oC_1, oC_4, oC_11, oC_16, oC_18, oC_20, oC_23, oC_25, oC_26, oC_29, oC_31, oC_33, oC_35, oC_37, isT_29, isT_31, isT_33, isT_35, isL_16, isL_18, isL_26, ↓hL.f0, ↓hL.a, hL.c, updR_o1, updR_o2, eq_true hL, updR_L11 hL, updR_L12 hL, updR_L24 hL, updR_24L hL, updR_twice, ↓e_W_size, ↓e_G_of, ↓e_L_set, ↓e_L_climb]
    subst hu
    simp only [updR_L11 hL, updR_L12 hL, updR_L24 hL, updR_eq, updR_twice]
    have h9 := hw i.toNat
    unfold rI at h9
    by_cases h8 : i < σ 11 4
    · simp only [if_pos (show 0 ≤ i ∧ i < 100 by omega), cpyF_up hi.1]
      (try simp only [rI_iff, rL_iff] at *)
      repeat' (first | assumption | apply And.intro | intro _)
      all_goals first | omega | assumption | exact True.intro | skip
    · (try simp only [rI_iff, rL_iff] at *)
      repeat' (first | assumption | apply And.intro | intro _)
      all_goals first | omega | assumption | exact True.intro | skip
      next h0 g h1 h2 => exact hQ g (climbed_congr (fun s hs => by rw [cpyF_app, if_pos (by omega)]) h2)
end
section
/-! weights: lowering, the greatest ones, the first too great -/
def s_G_lower : Spec := fun as σ Q => popR as fun c0 r0 => popR r0 fun c1 r1 => popR r1 fun o r2 => popI r2 fun m r3 => popI r3 fun n r4 => r4 = [] ∧ c0 = 23 ∧ c1 = 11 ∧ (isL o) ∧ (0 ≤ σ 11 4 ∧ σ 11 4 ≤ 100) ∧ (Wire (σ 11 4) (σ 12)) ∧ (0 ≤ m ∧ m ≤ 12 ∧ 0 ≤ n ∧ n ≤ 12) ∧ (AllB (σ 24) (σ 11 4) 1000000) ∧ (AllI (σ 24) 100) ∧ ∀ g lw, (lw = 0 ∧ (∀ s : Nat, (s : Int) < σ 11 4 → σ 24 s ≤ bearF (σ 11 4) (σ 12) (σ 24) m n s)) ∨ (lw = 1 ∧ ∃ s : Nat, (s : Int) < σ 11 4 ∧ bearF (σ 11 4) (σ 12) (σ 24) m n s < σ 24 s) → Q (some (.inl lw)) (updR (updR σ (o + 1) g) 24 (lowerF (σ 11 4) (σ 12) (σ 24) m n (σ 11 4)))
theorem e_G_lower (o : Nat) (m : Int) (n : Int) (σ : St) (Q : Option AV → St → Prop) : s_G_lower [.inr (.inr (some 23)), .inr (.inr (some 11)), .inr (.inr (some o)), .inl m, .inl n] σ Q = ((isL o) ∧ (0 ≤ σ 11 4 ∧ σ 11 4 ≤ 100) ∧ (Wire (σ 11 4) (σ 12)) ∧ (0 ≤ m ∧ m ≤ 12 ∧ 0 ≤ n ∧ n ≤ 12) ∧ (AllB (σ 24) (σ 11 4) 1000000) ∧ (AllI (σ 24) 100) ∧ ∀ g lw, (lw = 0 ∧ (∀ s : Nat, (s : Int) < σ 11 4 → σ 24 s ≤ bearF (σ 11 4) (σ 12) (σ 24) m n s)) ∨ (lw = 1 ∧ ∃ s : Nat, (s : Int) < σ 11 4 ∧ bearF (σ 11 4) (σ 12) (σ 24) m n s < σ 24 s) → Q (some (.inl lw)) (updR (updR σ (o + 1) g) 24 (lowerF (σ 11 4) (σ 12) (σ 24) m n (σ 11 4)))) := by
  show ([] = [] ∧ _) = _
  simp only [true_and]
set_option maxHeartbeats 4000000 in
set_option maxRecDepth 20000 in
theorem S_G_lower {l : Launch} : Sat l y_G_lower b_G_lower 9 (some .boolean) 4 s_G_lower := by
  refine sat_of (Φ := P_G) (κ := Q_G) (Γ := [(34, 7, 3, s_G_weighEnds), (21, 8, 0, s_W_size), (38, 4, 2, s_L_at), (44, 7, 1, s_G_of), (27, 7, 2, s_G_set)]) (rt := 3) (by decide +kernel) P_G_ok Q_G_ok (by
    refine List.forall_mem_cons.mpr ⟨?_, List.forall_mem_cons.mpr ⟨?_, List.forall_mem_cons.mpr ⟨?_, List.forall_mem_cons.mpr ⟨?_, List.forall_mem_cons.mpr ⟨?_, fun _ h => absurd h List.not_mem_nil⟩⟩⟩⟩⟩
    · exact m_G_weighEnds S_G_weighEnds (by decide) l_G_34
    · exact m_W_size S_W_size (by decide) l_G_21
    · exact m_L_at S_L_at (by decide) l_G_38
    · exact m_G_of S_G_of (by decide) l_G_44
    · exact m_G_set S_G_set (by decide) l_G_27) (by simp) o_G_lower ?_
  intro as σ Q hh0
  obtain ⟨c0, rr0, rfl, hh1⟩ := popR_inv hh0
  obtain ⟨c1, rr1, rfl, hh2⟩ := popR_inv hh1
  obtain ⟨o, rr2, rfl, hh3⟩ := popR_inv hh2
  obtain ⟨m, rr3, rfl, hh4⟩ := popI_inv hh3
  obtain ⟨n, rr4, rfl, hh5⟩ := popI_inv hh4
  obtain ⟨hrE, rfl, rfl, hL, hN, hf, hmn, hw, hwI, hQ⟩ := hh5
  subst hrE
  clear hh0 hh1 hh2 hh3 hh4
  refine ⟨Nat.le_of_ble_eq_true rfl, [(14, mkC (fun L st u => ∃ (lw i : Int) (v7 v8 : AV), L = [.inr (.inr (some 23)), .inr (.inr (some 11)), .inr (.inr (some o)), .inl m, .inl n, .inl lw, .inl i, v7, v8] ∧ st = [] ∧ (0 ≤ i ∧ i ≤ σ 11 4) ∧ ((lw = 0 ∧ (∀ s : Nat, (s : Int) < i → σ 24 s ≤ bearF (σ 11 4) (σ 12) (σ 24) m n s)) ∨ (lw = 1 ∧ ∃ s : Nat, (s : Int) < σ 11 4 ∧ bearF (σ 11 4) (σ 12) (σ 24) m n s < σ 24 s)) ∧ (∃ g, Climbed (σ 11 4) (σ 12) (σ 24) n g ∧ u = updR (updR σ (o + 1) g) 24 (lowerF (σ 11 4) (σ 12) (σ 24) m n i))) (fun L st u => ((101 - gI L 6).toNat, 0, 0)))], 14, ?_, cuts1 ?_ (cuts0)⟩
  · rw [show entL 9 [.inr (.inr (some 23)), .inr (.inr (some 11)), .inr (.inr (some o)), .inl m, .inl n] = [.inr (.inr (some 23)), .inr (.inr (some 11)), .inr (.inr (some o)), .inl m, .inl n, .inr (.inr none), .inr (.inr none), .inr (.inr none), .inr (.inr none)] from rfl]
    simp only [↓wpN_go, jmp_e, ↓wp_aload_n0, ↓wp_aload_n1, ↓wp_aload_n2, ↓wp_goto, ↓wp_i2l, ↓wp_icmp_ge, ↓wp_iconst, ↓wp_if_ge, ↓wp_iinc, ↓wp_iload, ↓wp_iload_n3, ↓wp_invokevirtual, ↓wp_ireturn3, ↓wp_istore, ↓wp_l2i, ↓wp_lcmp, ↓wp_lload, ↓wp_lshr, ↓wp_lstore, wp_nil, ↓ldI_0, ↓ldI_s, ↓ldL_0, ↓ldL_s, ↓ldR_0, ↓ldR_s, sto1_0, sto1_1, sto1_s, sto2_0, sto2_1, sto2_s, isLong_i, isLong_l, isLong_r, ↓popI_c, ↓popL_c, ↓popR_c, ↓popN_0, ↓popN_s, catS_n, catS_c, psh_s, psh_n, fldV_n, fldV_s, ↓tgt_e, sw_n, ↓sw_c, ↓lk1_h, ↓lk1_m, ↓atC_h, ↓atC_m, ↓atC_n, ltO_n, ltO_s, updR_eq, updR_ne, gI_0i, gI_0l, gI_s, ltM_iff, List.cons.injEq, Sum.inl.injEq, Sum.inr.injEq, Option.some.injEq, exists_eq_left, exists_eq_left', exists_eq_right, exists_eq_right', exists_and_left, exists_and_right, exists_eq, exists_const, and_assoc, ↓j_G_lower_0, ↓j_G_lower_14, ↓j_G_lower_60, ↓j_G_lower_66, List.length_cons, List.length_nil, Nat.zero_add, Nat.reduceAdd, Int.reduceAdd, Int.reduceNeg, Int.reduceToNat, Int.reduceLE, Int.reduceLT, true_and, and_true, Nat.reduceLT, reduceIte, Nat.reduceEqDiff, ne_eq, not_false_eq_true, false_implies, true_implies, Bool.false_eq_true, reduceCtorEq, List.cons_append, List.nil_append, Nat.reduceSub, Nat.reduceLeDiff, Fin.isValue, Int.reduceNatCast', Int.zero_add, Int.add_zero, decide_true, decide_false, implies_true, forall_const, true_or, or_true, or_false, false_or, false_and, and_false, Int.toNat_natCast, ↓oF_23_0, ↓aF_24, oC_0, oC_1, oC_4, oC_11, oC_16, oC_18, oC_20, oC_23, oC_25, oC_26, oC_29, oC_31, oC_33, oC_35, oC_37, isT_29, isT_31, isT_33, isT_35, isL_16, isL_18, isL_26, ↓hL.f0, ↓hL.a, hL.c, updR_o1, updR_o2, eq_true hL, updR_L11 hL, updR_L12 hL, updR_L24 hL, updR_24L hL, updR_twice, cmpZ_r, cmpZ_ge, cmpZ_lt, ↓e_G_weighEnds, ↓e_W_size, ↓e_L_at, ↓e_G_of, ↓e_G_set]
    (try simp only [rI_iff, rL_iff] at *)
    repeat' (first | assumption | apply And.intro | intro _)
    all_goals first | omega | assumption | exact True.intro | skip
    · exact Or.inl (fun s1 hs1 => by omega)
    · next g1 hg1 =>
      refine ⟨g1, hg1, ?_⟩
      have h24 := isL_cases hL
      refine st_ext fun k j => ?_
      grind [updR_app, lowerF_app]
  · intro L st u hI
    obtain ⟨lw, i, v7, v8, rfl, rfl, hi, hlw, hu⟩ := hI
    simp only [↓wpN_go, jmp_e, ↓wp_aload_n0, ↓wp_aload_n1, ↓wp_aload_n2, ↓wp_goto, ↓wp_i2l, ↓wp_icmp_ge, ↓wp_iconst, ↓wp_if_ge, ↓wp_iinc, ↓wp_iload, ↓wp_iload_n3, ↓wp_invokevirtual, ↓wp_ireturn3, ↓wp_istore, ↓wp_l2i, ↓wp_lcmp, ↓wp_lload, ↓wp_lshr, ↓wp_lstore, wp_nil, ↓ldI_0, ↓ldI_s, ↓ldL_0, ↓ldL_s, ↓ldR_0, ↓ldR_s, sto1_0, sto1_1, sto1_s, sto2_0, sto2_1, sto2_s, isLong_i, isLong_l, isLong_r, ↓popI_c, ↓popL_c, ↓popR_c, ↓popN_0, ↓popN_s, catS_n, catS_c, psh_s, psh_n, fldV_n, fldV_s, ↓tgt_e, sw_n, ↓sw_c, ↓lk1_h, ↓lk1_m, ↓atC_h, ↓atC_m, ↓atC_n, ltO_n, ltO_s, updR_eq, updR_ne, gI_0i, gI_0l, gI_s, ltM_iff, List.cons.injEq, Sum.inl.injEq, Sum.inr.injEq, Option.some.injEq, exists_eq_left, exists_eq_left', exists_eq_right, exists_eq_right', exists_and_left, exists_and_right, exists_eq, exists_const, and_assoc, ↓j_G_lower_0, ↓j_G_lower_14, ↓j_G_lower_60, ↓j_G_lower_66, List.length_cons, List.length_nil, Nat.zero_add, Nat.reduceAdd, Int.reduceAdd, Int.reduceNeg, Int.reduceToNat, Int.reduceLE, Int.reduceLT, true_and, and_true, Nat.reduceLT, reduceIte, Nat.reduceEqDiff, ne_eq, not_false_eq_true, false_implies, true_implies, Bool.false_eq_true, reduceCtorEq, List.cons_append, List.nil_append, Nat.reduceSub, Nat.reduceLeDiff, Fin.isValue, Int.reduceNatCast', Int.zero_add, Int.add_zero, decide_true, decide_false, implies_true, forall_const, true_or, or_true, or_false, false_or, false_and, and_false, Int.toNat_natCast, ↓oF_23_0, ↓aF_24, oC_0, oC_1, oC_4, oC_11, oC_16, oC_18, oC_20, oC_23, oC_25, oC_26, oC_29, oC_31, oC_33, oC_35, oC_37, isT_29, isT_31, isT_33, isT_35, isL_16, isL_18, isL_26, ↓hL.f0, ↓hL.a, hL.c, updR_o1, updR_o2, eq_true hL, updR_L11 hL, updR_L12 hL, updR_L24 hL, updR_24L hL, updR_twice, cmpZ_r, cmpZ_ge, cmpZ_lt, ↓e_G_weighEnds, ↓e_W_size, ↓e_L_at, ↓e_G_of, ↓e_G_set]
    obtain ⟨g, hg, rfl⟩ := hu
    simp only [updR_L11 hL, updR_L12 hL, updR_L24 hL, updR_24L hL, updR_ne _ 24 11 _ (by decide), updR_ne _ 24 12 _ (by decide), updR_eq, updR_twice]
    by_cases hlt : i < σ 11 4
    · have e1 : ladV g n i = ladI (σ 11 4) (σ 12) (σ 24) n.toNat i := climbed_at hN.2 hg ⟨hmn.2.2.1, by omega⟩ ⟨hi.1, hlt⟩
      have e2 : ladI (σ 11 4) (σ 12) (σ 24) n.toNat i / 2 ^ m.toNat = bearF (σ 11 4) (σ 12) (σ 24) m n i.toNat := by unfold bearF; rw [Int.toNat_of_nonneg hi.1]
      have b1 := ladI_12 (f := σ 12) hmn.2.2.2 (by omega : (0 : Int) ≤ 1000000) hw i
      have b2 := bear_0 (f := σ 12) (m := m) (n := n) (by omega : (0 : Int) ≤ 1000000) hw i.toNat
      have b3 := hwI i.toNat (by omega)
      have b4 := hw i.toNat (by omega)
      have b5 : bearF (σ 11 4) (σ 12) (σ 24) m n i.toNat ≤ 4096 * 1000000 := by
        rw [← e2]
        exact Int.le_trans (Int.ediv_le_self _ b1.1) b1.2
      have e3 := lower_up (f := σ 12) (W := σ 24) (m := m) (n := n) ⟨hi.1, hlt⟩
      have e4 : lowerF (σ 11 4) (σ 12) (σ 24) m n i i.toNat = σ 24 i.toNat := lower_i hi.1
      rw [e1, e2, if_pos (show 0 ≤ i ∧ i < 100 by omega), e4, if_pos (show 0 ≤ i ∧ i < 100 by omega)]
      by_cases hb : bearF (σ 11 4) (σ 12) (σ 24) m n i.toNat < σ 24 i.toNat
      · rw [if_pos hb] at e3
        rw [e3]
        (try simp only [rI_iff, rL_iff] at *)
        repeat' (first | assumption | apply And.intro | intro _)
        all_goals first | omega | assumption | exact True.intro | skip
        · exact Or.inr ⟨i.toNat, by omega, hb⟩
        · exact ⟨g, hg, rfl⟩
      · rw [if_neg hb] at e3
        rw [e3]
        (try simp only [rI_iff, rL_iff] at *)
        repeat' (first | assumption | apply And.intro | intro _)
        all_goals first | omega | assumption | exact True.intro | skip
        · refine hlw.imp (fun hq1 => ⟨hq1.1, fun s1 hs1 => ?_⟩) id
          by_cases e5 : (s1 : Int) < i
          · exact hq1.2 s1 e5
          · rw [show s1 = i.toNat by omega]; omega
        · exact ⟨g, hg, rfl⟩
    · have e6 : i = σ 11 4 := by omega
      (try simp only [rI_iff, rL_iff] at *)
      repeat' (first | assumption | apply And.intro | intro _)
      all_goals first | omega | assumption | exact True.intro | skip
      rw [e6]
      exact hQ g lw (by rw [e6] at hlw; exact hlw)
def s_G_settle : Spec := fun as σ Q => popR as fun c0 r0 => popR r0 fun c1 r1 => popR r1 fun o r2 => popI r2 fun m r3 => popI r3 fun n r4 => r4 = [] ∧ c0 = 23 ∧ c1 = 11 ∧ (isL o) ∧ (0 ≤ σ 11 4 ∧ σ 11 4 ≤ 100) ∧ (Wire (σ 11 4) (σ 12)) ∧ (0 ≤ m ∧ m ≤ 12 ∧ 0 ≤ n ∧ n ≤ 12) ∧ (AllB (σ 24) (σ 11 4) 200) ∧ (AllI (σ 24) 100) ∧ ∀ g W, (∀ s : Nat, ¬ (s : Int) < σ 11 4 → W s = σ 24 s) → Feas (σ 11 4) (σ 12) m n W → (∀ s : Nat, (s : Int) < σ 11 4 → W s ≤ σ 24 s) → (∀ V, Feas (σ 11 4) (σ 12) m n V → (∀ s : Nat, (s : Int) < σ 11 4 → V s ≤ σ 24 s) → ∀ s : Nat, (s : Int) < σ 11 4 → V s ≤ W s) → Q none (updR (updR σ (o + 1) g) 24 W)
theorem e_G_settle (o : Nat) (m : Int) (n : Int) (σ : St) (Q : Option AV → St → Prop) : s_G_settle [.inr (.inr (some 23)), .inr (.inr (some 11)), .inr (.inr (some o)), .inl m, .inl n] σ Q = ((isL o) ∧ (0 ≤ σ 11 4 ∧ σ 11 4 ≤ 100) ∧ (Wire (σ 11 4) (σ 12)) ∧ (0 ≤ m ∧ m ≤ 12 ∧ 0 ≤ n ∧ n ≤ 12) ∧ (AllB (σ 24) (σ 11 4) 200) ∧ (AllI (σ 24) 100) ∧ ∀ g W, (∀ s : Nat, ¬ (s : Int) < σ 11 4 → W s = σ 24 s) → Feas (σ 11 4) (σ 12) m n W → (∀ s : Nat, (s : Int) < σ 11 4 → W s ≤ σ 24 s) → (∀ V, Feas (σ 11 4) (σ 12) m n V → (∀ s : Nat, (s : Int) < σ 11 4 → V s ≤ σ 24 s) → ∀ s : Nat, (s : Int) < σ 11 4 → V s ≤ W s) → Q none (updR (updR σ (o + 1) g) 24 W)) := by
  show ([] = [] ∧ _) = _
  simp only [true_and]
set_option maxHeartbeats 4000000 in
set_option maxRecDepth 20000 in
theorem S_G_settle {l : Launch} : Sat l y_G_settle b_G_settle 6 none 5 s_G_settle := by
  refine sat_of (Φ := P_G) (κ := Q_G) (Γ := [(48, 7, 4, s_G_lower)]) (rt := 0) (by decide +kernel) P_G_ok Q_G_ok (by
    refine List.forall_mem_cons.mpr ⟨?_, fun _ h => absurd h List.not_mem_nil⟩
    · exact m_G_lower S_G_lower (by decide) l_G_48) (by simp) o_G_settle ?_
  intro as σ Q hh0
  obtain ⟨c0, rr0, rfl, hh1⟩ := popR_inv hh0
  obtain ⟨c1, rr1, rfl, hh2⟩ := popR_inv hh1
  obtain ⟨o, rr2, rfl, hh3⟩ := popR_inv hh2
  obtain ⟨m, rr3, rfl, hh4⟩ := popI_inv hh3
  obtain ⟨n, rr4, rfl, hh5⟩ := popI_inv hh4
  obtain ⟨hrE, rfl, rfl, hL, hN, hf, hmn, hw, hwI, hQ⟩ := hh5
  subst hrE
  clear hh0 hh1 hh2 hh3 hh4
  refine ⟨Nat.le_of_ble_eq_true rfl, [(3, mkC (fun L st u => ∃ (rd : Int), L = [.inr (.inr (some 23)), .inr (.inr (some 11)), .inr (.inr (some o)), .inl m, .inl n, .inl rd] ∧ st = [] ∧ (0 ≤ rd ∧ rd ≤ 20001) ∧ (∃ g W, u = updR (updR σ (o + 1) g) 24 W ∧ (∀ s : Nat, ¬ (s : Int) < σ 11 4 → W s = σ 24 s) ∧ (∀ s : Nat, (s : Int) < σ 11 4 → 0 ≤ W s ∧ W s ≤ σ 24 s) ∧ sumF W (σ 11 4).toNat + rd ≤ 20000 ∧ (∀ V, Feas (σ 11 4) (σ 12) m n V → (∀ s : Nat, (s : Int) < σ 11 4 → V s ≤ σ 24 s) → ∀ s : Nat, (s : Int) < σ 11 4 → V s ≤ W s))) (fun L st u => ((20002 - gI L 5).toNat, 0, 0)))], 14, ?_, cuts1 ?_ (cuts0)⟩
  · rw [show entL 6 [.inr (.inr (some 23)), .inr (.inr (some 11)), .inr (.inr (some o)), .inl m, .inl n] = [.inr (.inr (some 23)), .inr (.inr (some 11)), .inr (.inr (some o)), .inl m, .inl n, .inr (.inr none)] from rfl]
    simp only [↓wpN_go, jmp_e, ↓wp_aload_n0, ↓wp_aload_n1, ↓wp_aload_n2, ↓wp_goto, ↓wp_icmp_gt, ↓wp_iconst, ↓wp_if_ne, ↓wp_iinc, ↓wp_iload, ↓wp_iload_n3, ↓wp_invokevirtual, ↓wp_istore, ↓wp_return0, ↓wp_sipush, wp_nil, ↓ldI_0, ↓ldI_s, ↓ldL_0, ↓ldL_s, ↓ldR_0, ↓ldR_s, sto1_0, sto1_1, sto1_s, sto2_0, sto2_1, sto2_s, isLong_i, isLong_l, isLong_r, ↓popI_c, ↓popL_c, ↓popR_c, ↓popN_0, ↓popN_s, catS_n, catS_c, psh_s, psh_n, fldV_n, fldV_s, ↓tgt_e, sw_n, ↓sw_c, ↓lk1_h, ↓lk1_m, ↓atC_h, ↓atC_m, ↓atC_n, ltO_n, ltO_s, updR_eq, updR_ne, gI_0i, gI_0l, gI_s, ltM_iff, List.cons.injEq, Sum.inl.injEq, Sum.inr.injEq, Option.some.injEq, exists_eq_left, exists_eq_left', exists_eq_right, exists_eq_right', exists_and_left, exists_and_right, exists_eq, exists_const, and_assoc, ↓j_G_settle_0, ↓j_G_settle_3, ↓j_G_settle_24, ↓j_G_settle_30, List.length_cons, List.length_nil, Nat.zero_add, Nat.reduceAdd, Int.reduceAdd, Int.reduceNeg, Int.reduceToNat, Int.reduceLE, Int.reduceLT, true_and, and_true, Nat.reduceLT, reduceIte, Nat.reduceEqDiff, ne_eq, not_false_eq_true, false_implies, true_implies, Bool.false_eq_true, reduceCtorEq, List.cons_append, List.nil_append, Nat.reduceSub, Nat.reduceLeDiff, Fin.isValue, Int.reduceNatCast', Int.zero_add, Int.add_zero, decide_true, decide_false, implies_true, forall_const, true_or, or_true, or_false, false_or, false_and, and_false, Int.toNat_natCast, ↓oF_23_0, ↓aF_24, oC_0, oC_1, oC_4, oC_11, oC_16, oC_18, oC_20, oC_23, oC_25, oC_26, oC_29, oC_31, oC_33, oC_35, oC_37, isT_29, isT_31, isT_33, isT_35, isL_16, isL_18, isL_26, ↓hL.f0, ↓hL.a, hL.c, updR_o1, updR_o2, eq_true hL, updR_L11 hL, updR_L12 hL, updR_L24 hL, updR_24L hL, updR_twice, b2i_0, ↓e_G_lower]
    have hsum := sumF_bound (w := σ 24) (B := 200) (n := (σ 11 4).toNat) (fun s1 hs1 => hw s1 (by omega))
    have h24 := isL_cases hL
    refine ⟨σ (o + 1), σ 24, ?_, fun _ _ => rfl, fun s1 hs1 => ⟨(hw s1 hs1).1, by omega⟩, ?_, fun _ _ hV => hV⟩
    · refine st_ext fun k j => ?_
      grind [updR_app]
    · have := Int.mul_le_mul_of_nonneg_right (show ((σ 11 4).toNat : Int) ≤ 100 by omega) (show (0 : Int) ≤ 200 by omega)
      omega
  · intro L st u hI
    obtain ⟨rd, rfl, rfl, hi, hu⟩ := hI
    simp only [↓wpN_go, jmp_e, ↓wp_aload_n0, ↓wp_aload_n1, ↓wp_aload_n2, ↓wp_goto, ↓wp_icmp_gt, ↓wp_iconst, ↓wp_if_ne, ↓wp_iinc, ↓wp_iload, ↓wp_iload_n3, ↓wp_invokevirtual, ↓wp_istore, ↓wp_return0, ↓wp_sipush, wp_nil, ↓ldI_0, ↓ldI_s, ↓ldL_0, ↓ldL_s, ↓ldR_0, ↓ldR_s, sto1_0, sto1_1, sto1_s, sto2_0, sto2_1, sto2_s, isLong_i, isLong_l, isLong_r, ↓popI_c, ↓popL_c, ↓popR_c, ↓popN_0, ↓popN_s, catS_n, catS_c, psh_s, psh_n, fldV_n, fldV_s, ↓tgt_e, sw_n, ↓sw_c, ↓lk1_h, ↓lk1_m, ↓atC_h, ↓atC_m, ↓atC_n, ltO_n, ltO_s, updR_eq, updR_ne, gI_0i, gI_0l, gI_s, ltM_iff, List.cons.injEq, Sum.inl.injEq, Sum.inr.injEq, Option.some.injEq, exists_eq_left, exists_eq_left', exists_eq_right, exists_eq_right', exists_and_left, exists_and_right, exists_eq, exists_const, and_assoc, ↓j_G_settle_0, ↓j_G_settle_3, ↓j_G_settle_24, ↓j_G_settle_30, List.length_cons, List.length_nil, Nat.zero_add, Nat.reduceAdd, Int.reduceAdd, Int.reduceNeg, Int.reduceToNat, Int.reduceLE, Int.reduceLT, true_and, and_true, Nat.reduceLT, reduceIte, Nat.reduceEqDiff, ne_eq, not_false_eq_true, false_implies, true_implies, Bool.false_eq_true, reduceCtorEq, List.cons_append, List.nil_append, Nat.reduceSub, Nat.reduceLeDiff, Fin.isValue, Int.reduceNatCast', Int.zero_add, Int.add_zero, decide_true, decide_false, implies_true, forall_const, true_or, or_true, or_false, false_or, false_and, and_false, Int.toNat_natCast, ↓oF_23_0, ↓aF_24, oC_0, oC_1, oC_4, oC_11, oC_16, oC_18, oC_20, oC_23, oC_25, oC_26, oC_29, oC_31, oC_33, oC_35, oC_37, isT_29, isT_31, isT_33, isT_35, isL_16, isL_18, isL_26, ↓hL.f0, ↓hL.a, hL.c, updR_o1, updR_o2, eq_true hL, updR_L11 hL, updR_L12 hL, updR_L24 hL, updR_24L hL, updR_twice, b2i_0, ↓e_G_lower]
    obtain ⟨g, W, rfl, hW1, hW2, hW3, hW4⟩ := hu
    simp only [updR_L11 hL, updR_L12 hL, updR_L24 hL, updR_24L hL, updR_ne _ 24 11 _ (by decide), updR_ne _ 24 12 _ (by decide), updR_eq, updR_twice]
    have hsum := sumF_bound (w := W) (B := 200) (n := (σ 11 4).toNat) (fun s1 hs1 => ⟨(hW2 s1 (by omega)).1, Int.le_trans (hW2 s1 (by omega)).2 (hw s1 (by omega)).2⟩)
    have hB : AllB W (σ 11 4) 1000000 := fun s1 hs1 => ⟨(hW2 s1 hs1).1, by have := (hW2 s1 hs1).2; have := (hw s1 hs1).2; omega⟩
    have hI : AllI W 100 := fun s1 hs1 => by
      by_cases hs2 : (s1 : Int) < σ 11 4
      · have := hB s1 hs2
        unfold rI
        omega
      · rw [hW1 s1 hs2]
        exact hwI s1 hs1
    have hsw : ∀ (g1 g2 W1 : Nat → Int), updR (updR (updR (updR σ (o + 1) g1) 24 W) (o + 1) g2) 24 W1 = updR (updR σ (o + 1) g2) 24 W1 := fun g1 g2 W1 => by
      refine st_ext fun k j => ?_
      grind [updR_app]
    (try simp only [rI_iff, rL_iff] at *)
    repeat' (first | assumption | apply And.intro | intro _)
    any_goals first | omega | assumption | exact True.intro | skip
    · rename_i hr1 g1 lw1 hlw1 hne1
      have hlw2 := hlw1.resolve_left (fun hq1 => hne1 hq1.1)
      refine ⟨g1, _, hsw _ _ _, fun s1 hs1 => ?_, fun s1 hs1 => ?_, ?_, fun V hV1 hV2 => lower_keep hV1 (hW4 V hV1 hV2)⟩
      · rw [lowerF_app, if_neg (fun hq1 => hs1 hq1.1)]
        exact hW1 s1 hs1
      · have := bear_0 (f := σ 12) (m := m) (n := n) (by omega : (0 : Int) ≤ 1000000) hB s1
        have := hW2 s1 hs1
        rw [lowerF_app]
        split <;> omega
      · have := lower_sum (f := σ 12) hlw2.2
        omega
    · rename_i hr1 g1 lw1 hlw1 hne1
      subst hne1
      have hlw2 := hlw1.resolve_right (fun hq1 => by omega)
      rw [hsw, lower_id hlw2.2 _ (Int.le_refl _)]
      exact hQ g1 W hW1 (fun s1 hs1 => ⟨(hW2 s1 hs1).1, hlw2.2 s1 hs1⟩) (fun s1 hs1 => (hW2 s1 hs1).2) hW4
def s_G_firstTooGreat : Spec := fun as σ Q => popR as fun c0 r0 => popR r0 fun c1 r1 => popR r1 fun o r2 => popI r2 fun m r3 => popI r3 fun n r4 => r4 = [] ∧ c0 = 23 ∧ c1 = 11 ∧ (isL o) ∧ (0 ≤ σ 11 4 ∧ σ 11 4 ≤ 100) ∧ (Wire (σ 11 4) (σ 12)) ∧ (0 ≤ m ∧ m ≤ 12 ∧ 0 ≤ n ∧ n ≤ 12) ∧ (AllB (σ 24) (σ 11 4) 1000000) ∧ (AllI (σ 24) 100) ∧ (∀ s : Nat, ¬ (s : Int) < σ 11 4 → σ 24 s = 0) ∧ (sumF (σ 24) 100 = 0 → Q (some (.inl 0)) σ) ∧ (sumF (σ 24) 100 ≠ 0 → ∀ g, Q (some (.inl (findF (fun s => decide (ladI (σ 11 4) (σ 12) (σ 24) n.toNat s < σ 24 s * 2 ^ m.toNat)) (σ 11 4).toNat))) (updR σ (o + 1) g))
theorem e_G_firstTooGreat (o : Nat) (m : Int) (n : Int) (σ : St) (Q : Option AV → St → Prop) : s_G_firstTooGreat [.inr (.inr (some 23)), .inr (.inr (some 11)), .inr (.inr (some o)), .inl m, .inl n] σ Q = ((isL o) ∧ (0 ≤ σ 11 4 ∧ σ 11 4 ≤ 100) ∧ (Wire (σ 11 4) (σ 12)) ∧ (0 ≤ m ∧ m ≤ 12 ∧ 0 ≤ n ∧ n ≤ 12) ∧ (AllB (σ 24) (σ 11 4) 1000000) ∧ (AllI (σ 24) 100) ∧ (∀ s : Nat, ¬ (s : Int) < σ 11 4 → σ 24 s = 0) ∧ (sumF (σ 24) 100 = 0 → Q (some (.inl 0)) σ) ∧ (sumF (σ 24) 100 ≠ 0 → ∀ g, Q (some (.inl (findF (fun s => decide (ladI (σ 11 4) (σ 12) (σ 24) n.toNat s < σ 24 s * 2 ^ m.toNat)) (σ 11 4).toNat))) (updR σ (o + 1) g))) := by
  show ([] = [] ∧ _) = _
  simp only [true_and]
set_option maxHeartbeats 4000000 in
set_option maxRecDepth 20000 in
theorem S_G_firstTooGreat {l : Launch} : Sat l y_G_firstTooGreat b_G_firstTooGreat 6 (some .int) 4 s_G_firstTooGreat := by
  refine sat_of (Φ := P_G) (κ := Q_G) (Γ := [(31, 7, 0, s_G_sum), (34, 7, 3, s_G_weighEnds), (21, 8, 0, s_W_size), (38, 4, 2, s_L_at), (44, 7, 1, s_G_of)]) (rt := 1) (by decide +kernel) P_G_ok Q_G_ok (by
    refine List.forall_mem_cons.mpr ⟨?_, List.forall_mem_cons.mpr ⟨?_, List.forall_mem_cons.mpr ⟨?_, List.forall_mem_cons.mpr ⟨?_, List.forall_mem_cons.mpr ⟨?_, fun _ h => absurd h List.not_mem_nil⟩⟩⟩⟩⟩
    · exact m_G_sum S_G_sum (by decide) l_G_31
    · exact m_G_weighEnds S_G_weighEnds (by decide) l_G_34
    · exact m_W_size S_W_size (by decide) l_G_21
    · exact m_L_at S_L_at (by decide) l_G_38
    · exact m_G_of S_G_of (by decide) l_G_44) (by simp) o_G_firstTooGreat ?_
  intro as σ Q hh0
  obtain ⟨c0, rr0, rfl, hh1⟩ := popR_inv hh0
  obtain ⟨c1, rr1, rfl, hh2⟩ := popR_inv hh1
  obtain ⟨o, rr2, rfl, hh3⟩ := popR_inv hh2
  obtain ⟨m, rr3, rfl, hh4⟩ := popI_inv hh3
  obtain ⟨n, rr4, rfl, hh5⟩ := popI_inv hh4
  obtain ⟨hrE, rfl, rfl, hL, hN, hf, hmn, hw, hwI, hz, hQ⟩ := hh5
  subst hrE
  clear hh0 hh1 hh2 hh3 hh4
  refine ⟨Nat.le_of_ble_eq_true rfl, [(20, mkC (fun L st u => ∃ (i : Int), L = [.inr (.inr (some 23)), .inr (.inr (some 11)), .inr (.inr (some o)), .inl m, .inl n, .inl i] ∧ st = [] ∧ (0 ≤ i ∧ i ≤ σ 11 4) ∧ (sumF (σ 24) 100 ≠ 0) ∧ (findF (fun s => decide (ladI (σ 11 4) (σ 12) (σ 24) n.toNat s < σ 24 s * 2 ^ m.toNat)) i.toNat = -1) ∧ (∃ g, Climbed (σ 11 4) (σ 12) (σ 24) n g ∧ u = updR σ (o + 1) g)) (fun L st u => ((101 - gI L 5).toNat, 0, 0)))], 14, ?_, cuts1 ?_ (cuts0)⟩
  · rw [show entL 6 [.inr (.inr (some 23)), .inr (.inr (some 11)), .inr (.inr (some o)), .inl m, .inl n] = [.inr (.inr (some 23)), .inr (.inr (some 11)), .inr (.inr (some o)), .inl m, .inl n, .inr (.inr none)] from rfl]
    simp only [↓wpN_go, jmp_e, ↓wp_aload_n0, ↓wp_aload_n1, ↓wp_aload_n2, ↓wp_goto, ↓wp_i2l, ↓wp_icmp_ge, ↓wp_iconst, ↓wp_if_ge, ↓wp_if_ne, ↓wp_iinc, ↓wp_iload, ↓wp_iload_n3, ↓wp_invokevirtual, ↓wp_ireturn1, ↓wp_istore, ↓wp_lcmp, ↓wp_lshl, wp_nil, ↓ldI_0, ↓ldI_s, ↓ldL_0, ↓ldL_s, ↓ldR_0, ↓ldR_s, sto1_0, sto1_1, sto1_s, sto2_0, sto2_1, sto2_s, isLong_i, isLong_l, isLong_r, ↓popI_c, ↓popL_c, ↓popR_c, ↓popN_0, ↓popN_s, catS_n, catS_c, psh_s, psh_n, fldV_n, fldV_s, ↓tgt_e, sw_n, ↓sw_c, ↓lk1_h, ↓lk1_m, ↓atC_h, ↓atC_m, ↓atC_n, ltO_n, ltO_s, updR_eq, updR_ne, gI_0i, gI_0l, gI_s, ltM_iff, List.cons.injEq, Sum.inl.injEq, Sum.inr.injEq, Option.some.injEq, exists_eq_left, exists_eq_left', exists_eq_right, exists_eq_right', exists_and_left, exists_and_right, exists_eq, exists_const, and_assoc, ↓j_G_firstTooGreat_0, ↓j_G_firstTooGreat_9, ↓j_G_firstTooGreat_20, ↓j_G_firstTooGreat_53, ↓j_G_firstTooGreat_59, List.length_cons, List.length_nil, Nat.zero_add, Nat.reduceAdd, Int.reduceAdd, Int.reduceNeg, Int.reduceToNat, Int.reduceLE, Int.reduceLT, true_and, and_true, Nat.reduceLT, reduceIte, Nat.reduceEqDiff, ne_eq, not_false_eq_true, false_implies, true_implies, Bool.false_eq_true, reduceCtorEq, List.cons_append, List.nil_append, Nat.reduceSub, Nat.reduceLeDiff, Fin.isValue, Int.reduceNatCast', Int.zero_add, Int.add_zero, decide_true, decide_false, implies_true, forall_const, true_or, or_true, or_false, false_or, false_and, and_false, Int.toNat_natCast, ↓oF_23_0, ↓aF_24, oC_0, oC_1, oC_4, oC_11, oC_16, oC_18, oC_20, oC_23, oC_25, oC_26, oC_29, oC_31, oC_33, oC_35, oC_37, isT_29, isT_31, isT_33, isT_35, isL_16, isL_18, isL_26, ↓hL.f0, ↓hL.a, hL.c, updR_o1, updR_o2, eq_true hL, updR_L11 hL, updR_L12 hL, updR_L24 hL, updR_24L hL, updR_twice, cmpZ_r, cmpZ_ge, cmpZ_lt, ↓e_G_sum, ↓e_G_weighEnds, ↓e_W_size, ↓e_L_at, ↓e_G_of]
    have hB : ∀ s : Nat, s < 100 → 0 ≤ σ 24 s ∧ σ 24 s ≤ 1000000 := fun s1 hs1 => by
      by_cases hs2 : (s1 : Int) < σ 11 4
      · exact hw s1 hs2
      · rw [hz s1 hs2]; omega
    have hsum := sumF_bound (w := σ 24) (B := 1000000) (n := 100) hB
    (try simp only [rI_iff, rL_iff] at *)
    repeat' (first | assumption | apply And.intro | intro _)
    all_goals first | omega | assumption | exact True.intro | skip
    · rfl
    · rename_i hne1 g1 hg1
      exact ⟨g1, hg1, rfl⟩
    · rename_i hne1
      exact hQ.1 hne1
  · intro L st u hI
    obtain ⟨i, rfl, rfl, hi, hne, hp, hu⟩ := hI
    simp only [↓wpN_go, jmp_e, ↓wp_aload_n0, ↓wp_aload_n1, ↓wp_aload_n2, ↓wp_goto, ↓wp_i2l, ↓wp_icmp_ge, ↓wp_iconst, ↓wp_if_ge, ↓wp_if_ne, ↓wp_iinc, ↓wp_iload, ↓wp_iload_n3, ↓wp_invokevirtual, ↓wp_ireturn1, ↓wp_istore, ↓wp_lcmp, ↓wp_lshl, wp_nil, ↓ldI_0, ↓ldI_s, ↓ldL_0, ↓ldL_s, ↓ldR_0, ↓ldR_s, sto1_0, sto1_1, sto1_s, sto2_0, sto2_1, sto2_s, isLong_i, isLong_l, isLong_r, ↓popI_c, ↓popL_c, ↓popR_c, ↓popN_0, ↓popN_s, catS_n, catS_c, psh_s, psh_n, fldV_n, fldV_s, ↓tgt_e, sw_n, ↓sw_c, ↓lk1_h, ↓lk1_m, ↓atC_h, ↓atC_m, ↓atC_n, ltO_n, ltO_s, updR_eq, updR_ne, gI_0i, gI_0l, gI_s, ltM_iff, List.cons.injEq, Sum.inl.injEq, Sum.inr.injEq, Option.some.injEq, exists_eq_left, exists_eq_left', exists_eq_right, exists_eq_right', exists_and_left, exists_and_right, exists_eq, exists_const, and_assoc, ↓j_G_firstTooGreat_0, ↓j_G_firstTooGreat_9, ↓j_G_firstTooGreat_20, ↓j_G_firstTooGreat_53, ↓j_G_firstTooGreat_59, List.length_cons, List.length_nil, Nat.zero_add, Nat.reduceAdd, Int.reduceAdd, Int.reduceNeg, Int.reduceToNat, Int.reduceLE, Int.reduceLT, true_and, and_true, Nat.reduceLT, reduceIte, Nat.reduceEqDiff, ne_eq, not_false_eq_true, false_implies, true_implies, Bool.false_eq_true, reduceCtorEq, List.cons_append, List.nil_append, Nat.reduceSub, Nat.reduceLeDiff, Fin.isValue, Int.reduceNatCast', Int.zero_add, Int.add_zero, decide_true, decide_false, implies_true, forall_const, true_or, or_true, or_false, false_or, false_and, and_false, Int.toNat_natCast, ↓oF_23_0, ↓aF_24, oC_0, oC_1, oC_4, oC_11, oC_16, oC_18, oC_20, oC_23, oC_25, oC_26, oC_29, oC_31, oC_33, oC_35, oC_37, isT_29, isT_31, isT_33, isT_35, isL_16, isL_18, isL_26, ↓hL.f0, ↓hL.a, hL.c, updR_o1, updR_o2, eq_true hL, updR_L11 hL, updR_L12 hL, updR_L24 hL, updR_24L hL, updR_twice, cmpZ_r, cmpZ_ge, cmpZ_lt, ↓e_G_sum, ↓e_G_weighEnds, ↓e_W_size, ↓e_L_at, ↓e_G_of]
    obtain ⟨g, hg, rfl⟩ := hu
    simp only [updR_L11 hL, updR_L12 hL, updR_L24 hL, updR_eq]
    have b1 := ladI_12 (f := σ 12) hmn.2.2.2 (by omega : (0 : Int) ≤ 1000000) hw i
    have hpm := pow12 hmn.2.1
    by_cases hlt : i < σ 11 4
    · have e1 : ladV g n i = ladI (σ 11 4) (σ 12) (σ 24) n.toNat i := climbed_at hN.2 hg ⟨hmn.2.2.1, by omega⟩ ⟨hi.1, hlt⟩
      have b3 := hwI i.toNat (by omega)
      have b4 := hw i.toNat (by omega)
      have b5 : 0 ≤ σ 24 i.toNat * 2 ^ m.toNat ∧ σ 24 i.toNat * 2 ^ m.toNat ≤ 1000000 * 4096 := ⟨Int.mul_nonneg b4.1 (by omega), Int.mul_le_mul b4.2 hpm.2 (by omega) (by omega)⟩
      have e2 : (i + 1).toNat = i.toNat + 1 := by omega
      have e3 : ((i.toNat : Nat) : Int) = i := by omega
      rw [e1, if_pos (show 0 ≤ i ∧ i < 100 by omega), e2]
      simp only [findF, hp, e3, reduceIte]
      (try simp only [rI_iff, rL_iff] at *)
      repeat' (first | assumption | apply And.intro | intro _)
      all_goals first | omega | assumption | exact True.intro | skip
      · simp only [decide_eq_true_eq]; rw [if_neg (by omega)]
      · exact ⟨g, hg, rfl⟩
      · rename_i hge1
        have e5 := findF_on (fun s => decide (ladI (σ 11 4) (σ 12) (σ 24) n.toNat s < σ 24 s * 2 ^ m.toNat)) (i.toNat + 1) (by simp only [findF, hp, e3, reduceIte, decide_eq_true_eq]; rw [if_pos (by omega)]; omega) (σ 11 4).toNat (by omega)
        have e6 := hQ.2 hne g
        rw [e5] at e6
        simp only [findF, hp, e3, reduceIte, decide_eq_true_eq] at e6
        rw [if_pos (by omega)] at e6
        exact e6
    · have e6 : i = σ 11 4 := by omega
      (try simp only [rI_iff, rL_iff] at *)
      repeat' (first | assumption | apply And.intro | intro _)
      all_goals first | omega | assumption | exact True.intro | skip
      have e7 := hQ.2 hne g
      rw [show (σ 11 4).toNat = i.toNat by omega, hp] at e7
      exact e7
end
