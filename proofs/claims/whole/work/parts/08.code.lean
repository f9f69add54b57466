/-! names, blocks of code, their checks (by program) -/
abbrev R_JA : String := "java/util/Arrays"
abbrev R_JM : String := "java/lang/Math"
abbrev R_JI : String := "java/lang/Integer"
abbrev R_JL : String := "java/lang/Long"
abbrev b_B_tellRuns : ByteArray := prog_2_method_2_code
abbrev y_B_tellRuns : MethodName := ⟨RX0, "tellRuns", "(II)V"⟩
def k_B_tellRuns_0 : List Instr := [.aload_n 0, .iload_n 1, .putfield 22, .aload_n 0, .iload_n 2, .putfield 25, .return_]
def g_B_tellRuns : List (Nat × List Instr) := [(0, k_B_tellRuns_0)]
theorem o_B_tellRuns : ∀ q ∈ g_B_tellRuns, okB b_B_tellRuns q.1 q.2 = true := List.all_eq_true.mp (by decide +kernel : g_B_tellRuns.all (fun q => okB b_B_tellRuns q.1 q.2) = true)
theorem j_B_tellRuns_0 (f : List Instr → Prop) : lk1 g_B_tellRuns 0 f = f [.aload_n 0, .iload_n 1, .putfield 22, .aload_n 0, .iload_n 2, .putfield 25, .return_] := (rfl)
abbrev b_B_addWord : ByteArray := prog_2_method_3_code
abbrev y_B_addWord : MethodName := ⟨RX0, "addWord", "(II)I"⟩
def k_B_addWord_0 : List Instr := [.aload_n 0, .getfield 18, .iconst 4, .if_icmp .lt 6, .bipush (-4), .ireturn]
def k_B_addWord_11 : List Instr := [.aload_n 0, .getfield 11, .aload_n 0, .getfield 18, .iload_n 1, .iastore, .aload_n 0, .getfield 15, .aload_n 0, .getfield 18, .iload_n 2, .iastore, .aload_n 0, .dup, .getfield 18, .iconst 1, .iadd, .putfield 18, .aload_n 0, .getfield 18, .ireturn]
def g_B_addWord : List (Nat × List Instr) := [(0, k_B_addWord_0), (11, k_B_addWord_11)]
theorem o_B_addWord : ∀ q ∈ g_B_addWord, okB b_B_addWord q.1 q.2 = true := List.all_eq_true.mp (by decide +kernel : g_B_addWord.all (fun q => okB b_B_addWord q.1 q.2) = true)
theorem j_B_addWord_0 (f : List Instr → Prop) : lk1 g_B_addWord 0 f = f [.aload_n 0, .getfield 18, .iconst 4, .if_icmp .lt 6, .bipush (-4), .ireturn] := (rfl)
theorem j_B_addWord_11 (f : List Instr → Prop) : lk1 g_B_addWord 11 f = f [.aload_n 0, .getfield 11, .aload_n 0, .getfield 18, .iload_n 1, .iastore, .aload_n 0, .getfield 15, .aload_n 0, .getfield 18, .iload_n 2, .iastore, .aload_n 0, .dup, .getfield 18, .iconst 1, .iadd, .putfield 18, .aload_n 0, .getfield 18, .ireturn] := (rfl)
abbrev b_B_dropWords : ByteArray := prog_2_method_4_code
abbrev y_B_dropWords : MethodName := ⟨RX0, "dropWords", "()I"⟩
def k_B_dropWords_0 : List Instr := [.aload_n 0, .getfield 18, .istore_n 1, .aload_n 0, .iconst 0, .putfield 18, .iload_n 1, .ireturn]
def g_B_dropWords : List (Nat × List Instr) := [(0, k_B_dropWords_0)]
theorem o_B_dropWords : ∀ q ∈ g_B_dropWords, okB b_B_dropWords q.1 q.2 = true := List.all_eq_true.mp (by decide +kernel : g_B_dropWords.all (fun q => okB b_B_dropWords q.1 q.2) = true)
theorem j_B_dropWords_0 (f : List Instr → Prop) : lk1 g_B_dropWords 0 f = f [.aload_n 0, .getfield 18, .istore_n 1, .aload_n 0, .iconst 0, .putfield 18, .iload_n 1, .ireturn] := (rfl)
abbrev b_B_tellLean : ByteArray := prog_2_method_5_code
abbrev y_B_tellLean : MethodName := ⟨RX0, "tellLean", "(I)V"⟩
def k_B_tellLean_0 : List Instr := [.aload_n 0, .iload_n 1, .putfield 28, .return_]
def g_B_tellLean : List (Nat × List Instr) := [(0, k_B_tellLean_0)]
theorem o_B_tellLean : ∀ q ∈ g_B_tellLean, okB b_B_tellLean q.1 q.2 = true := List.all_eq_true.mp (by decide +kernel : g_B_tellLean.all (fun q => okB b_B_tellLean q.1 q.2) = true)
theorem j_B_tellLean_0 (f : List Instr → Prop) : lk1 g_B_tellLean 0 f = f [.aload_n 0, .iload_n 1, .putfield 28, .return_] := (rfl)
abbrev b_B_told : ByteArray := prog_2_method_6_code
abbrev y_B_told : MethodName := ⟨RX0, "told", "(I)I"⟩
def k_B_told_0 : List Instr := [.iload_n 1, .tableswitch 51 0 3 #[31, 36, 41, 46]]
def k_B_told_32 : List Instr := [.aload_n 0, .getfield 22, .ireturn]
def k_B_told_37 : List Instr := [.aload_n 0, .getfield 25, .ireturn]
def k_B_told_42 : List Instr := [.aload_n 0, .getfield 18, .ireturn]
def k_B_told_47 : List Instr := [.aload_n 0, .getfield 28, .ireturn]
def k_B_told_52 : List Instr := [.aload_n 0, .iload_n 1, .invokevirtual 31, .ireturn]
def g_B_told : List (Nat × List Instr) := [(0, k_B_told_0), (32, k_B_told_32), (37, k_B_told_37), (42, k_B_told_42), (47, k_B_told_47), (52, k_B_told_52)]
theorem o_B_told : ∀ q ∈ g_B_told, okB b_B_told q.1 q.2 = true := List.all_eq_true.mp (by decide +kernel : g_B_told.all (fun q => okB b_B_told q.1 q.2) = true)
theorem j_B_told_0 (f : List Instr → Prop) : lk1 g_B_told 0 f = f [.iload_n 1, .tableswitch 51 0 3 #[31, 36, 41, 46]] := (rfl)
theorem j_B_told_32 (f : List Instr → Prop) : lk1 g_B_told 32 f = f [.aload_n 0, .getfield 22, .ireturn] := (rfl)
theorem j_B_told_37 (f : List Instr → Prop) : lk1 g_B_told 37 f = f [.aload_n 0, .getfield 25, .ireturn] := (rfl)
theorem j_B_told_42 (f : List Instr → Prop) : lk1 g_B_told 42 f = f [.aload_n 0, .getfield 18, .ireturn] := (rfl)
theorem j_B_told_47 (f : List Instr → Prop) : lk1 g_B_told 47 f = f [.aload_n 0, .getfield 28, .ireturn] := (rfl)
theorem j_B_told_52 (f : List Instr → Prop) : lk1 g_B_told 52 f = f [.aload_n 0, .iload_n 1, .invokevirtual 31, .ireturn] := (rfl)
abbrev b_B_toldOfWord : ByteArray := prog_2_method_7_code
abbrev y_B_toldOfWord : MethodName := ⟨RX0, "toldOfWord", "(I)I"⟩
def k_B_toldOfWord_0 : List Instr := [.iconst 0, .istore_n 2]
def k_B_toldOfWord_2 : List Instr := [.iload_n 2, .aload_n 0, .getfield 18, .if_icmp .ge 39, .iload_n 1, .bipush 10, .iload_n 2, .iadd, .if_icmp .ne 10, .aload_n 0, .getfield 11, .iload_n 2, .iaload, .ireturn]
def k_B_toldOfWord_25 : List Instr := [.iload_n 1, .bipush 20, .iload_n 2, .iadd, .if_icmp .ne 10, .aload_n 0, .getfield 15, .iload_n 2, .iaload, .ireturn]
def k_B_toldOfWord_40 : List Instr := [.iinc 2 1, .goto (-41)]
def k_B_toldOfWord_46 : List Instr := [.bipush (-2), .ireturn]
def g_B_toldOfWord : List (Nat × List Instr) := [(0, k_B_toldOfWord_0), (2, k_B_toldOfWord_2), (25, k_B_toldOfWord_25), (40, k_B_toldOfWord_40), (46, k_B_toldOfWord_46)]
theorem o_B_toldOfWord : ∀ q ∈ g_B_toldOfWord, okB b_B_toldOfWord q.1 q.2 = true := List.all_eq_true.mp (by decide +kernel : g_B_toldOfWord.all (fun q => okB b_B_toldOfWord q.1 q.2) = true)
theorem j_B_toldOfWord_0 (f : List Instr → Prop) : lk1 g_B_toldOfWord 0 f = f [.iconst 0, .istore_n 2] := (rfl)
theorem j_B_toldOfWord_2 (f : List Instr → Prop) : lk1 g_B_toldOfWord 2 f = f [.iload_n 2, .aload_n 0, .getfield 18, .if_icmp .ge 39, .iload_n 1, .bipush 10, .iload_n 2, .iadd, .if_icmp .ne 10, .aload_n 0, .getfield 11, .iload_n 2, .iaload, .ireturn] := (rfl)
theorem j_B_toldOfWord_25 (f : List Instr → Prop) : lk1 g_B_toldOfWord 25 f = f [.iload_n 1, .bipush 20, .iload_n 2, .iadd, .if_icmp .ne 10, .aload_n 0, .getfield 15, .iload_n 2, .iaload, .ireturn] := (rfl)
theorem j_B_toldOfWord_40 (f : List Instr → Prop) : lk1 g_B_toldOfWord 40 f = f [.iinc 2 1, .goto (-41)] := (rfl)
theorem j_B_toldOfWord_46 (f : List Instr → Prop) : lk1 g_B_toldOfWord 46 f = f [.bipush (-2), .ireturn] := (rfl)
abbrev b_B_memory : ByteArray := prog_2_method_8_code
abbrev y_B_memory : MethodName := ⟨RX0, "memory", "()I"⟩
def k_B_memory_0 : List Instr := [.aload_n 0, .getfield 25, .iconst 0, .invokestatic 35, .istore_n 1, .iconst 0, .istore_n 2]
def k_B_memory_11 : List Instr := [.iload_n 2, .aload_n 0, .getfield 18, .if_icmp .ge 22, .iload_n 1, .aload_n 0, .getfield 15, .iload_n 2, .iaload, .iconst 1, .isub, .invokestatic 35, .istore_n 1, .iinc 2 1, .goto (-24)]
def k_B_memory_38 : List Instr := [.iload_n 1, .ireturn]
def g_B_memory : List (Nat × List Instr) := [(0, k_B_memory_0), (11, k_B_memory_11), (38, k_B_memory_38)]
theorem o_B_memory : ∀ q ∈ g_B_memory, okB b_B_memory q.1 q.2 = true := List.all_eq_true.mp (by decide +kernel : g_B_memory.all (fun q => okB b_B_memory q.1 q.2) = true)
theorem j_B_memory_0 (f : List Instr → Prop) : lk1 g_B_memory 0 f = f [.aload_n 0, .getfield 25, .iconst 0, .invokestatic 35, .istore_n 1, .iconst 0, .istore_n 2] := (rfl)
theorem j_B_memory_11 (f : List Instr → Prop) : lk1 g_B_memory 11 f = f [.iload_n 2, .aload_n 0, .getfield 18, .if_icmp .ge 22, .iload_n 1, .aload_n 0, .getfield 15, .iload_n 2, .iaload, .iconst 1, .isub, .invokestatic 35, .istore_n 1, .iinc 2 1, .goto (-24)] := (rfl)
theorem j_B_memory_38 (f : List Instr → Prop) : lk1 g_B_memory 38 f = f [.iload_n 1, .ireturn] := (rfl)
abbrev b_B_emptyKey : ByteArray := prog_2_method_9_code
abbrev y_B_emptyKey : MethodName := ⟨RX0, "emptyKey", "()I"⟩
def k_B_emptyKey_0 : List Instr := [.sipush 1281, .ireturn]
def g_B_emptyKey : List (Nat × List Instr) := [(0, k_B_emptyKey_0)]
theorem o_B_emptyKey : ∀ q ∈ g_B_emptyKey, okB b_B_emptyKey q.1 q.2 = true := List.all_eq_true.mp (by decide +kernel : g_B_emptyKey.all (fun q => okB b_B_emptyKey q.1 q.2) = true)
theorem j_B_emptyKey_0 (f : List Instr → Prop) : lk1 g_B_emptyKey 0 f = f [.sipush 1281, .ireturn] := (rfl)
abbrev b_B_keyAfter : ByteArray := prog_2_method_10_code
abbrev y_B_keyAfter : MethodName := ⟨RX0, "keyAfter", "(III)I"⟩
def k_B_keyAfter_0 : List Instr := [.iload_n 1, .sipush 256, .idiv, .iconst 5, .isub, .istore 4, .iload_n 1, .sipush 256, .irem, .istore 5, .aload_n 0, .getfield 28, .iconst (-1), .if_icmp .eq 39, .iload 4, .iload_n 2, .iconst 1, .if_icmp .ne 7, .iconst 1, .goto 4]
def k_B_keyAfter_35 : List Instr := [.iconst (-1)]
def k_B_keyAfter_36 : List Instr := [.iadd, .istore 4, .iload 4, .aload_n 0, .getfield 28, .ineg, .if_icmp .lt 12, .iload 4, .aload_n 0, .getfield 28, .if_icmp .le 5]
def k_B_keyAfter_58 : List Instr := [.iconst (-1), .ireturn]
def k_B_keyAfter_60 : List Instr := [.iconst 2, .iload 5, .imul, .iload_n 2, .iadd, .istore 6, .aload_n 0, .iload 5, .iload_n 2, .invokevirtual 41, .ifCond .ne 12, .aload_n 0, .iload 6, .invokevirtual 45, .ifCond .eq 5]
def k_B_keyAfter_87 : List Instr := [.iconst (-1), .ireturn]
def k_B_keyAfter_89 : List Instr := [.iload 4, .iconst 5, .iadd, .sipush 256, .imul, .iload 6, .iload_n 3, .invokestatic 49, .iadd, .ireturn]
def g_B_keyAfter : List (Nat × List Instr) := [(0, k_B_keyAfter_0), (35, k_B_keyAfter_35), (36, k_B_keyAfter_36), (58, k_B_keyAfter_58), (60, k_B_keyAfter_60), (87, k_B_keyAfter_87), (89, k_B_keyAfter_89)]
theorem o_B_keyAfter : ∀ q ∈ g_B_keyAfter, okB b_B_keyAfter q.1 q.2 = true := List.all_eq_true.mp (by decide +kernel : g_B_keyAfter.all (fun q => okB b_B_keyAfter q.1 q.2) = true)
theorem j_B_keyAfter_0 (f : List Instr → Prop) : lk1 g_B_keyAfter 0 f = f [.iload_n 1, .sipush 256, .idiv, .iconst 5, .isub, .istore 4, .iload_n 1, .sipush 256, .irem, .istore 5, .aload_n 0, .getfield 28, .iconst (-1), .if_icmp .eq 39, .iload 4, .iload_n 2, .iconst 1, .if_icmp .ne 7, .iconst 1, .goto 4] := (rfl)
theorem j_B_keyAfter_35 (f : List Instr → Prop) : lk1 g_B_keyAfter 35 f = f [.iconst (-1)] := (rfl)
theorem j_B_keyAfter_36 (f : List Instr → Prop) : lk1 g_B_keyAfter 36 f = f [.iadd, .istore 4, .iload 4, .aload_n 0, .getfield 28, .ineg, .if_icmp .lt 12, .iload 4, .aload_n 0, .getfield 28, .if_icmp .le 5] := (rfl)
theorem j_B_keyAfter_58 (f : List Instr → Prop) : lk1 g_B_keyAfter 58 f = f [.iconst (-1), .ireturn] := (rfl)
theorem j_B_keyAfter_60 (f : List Instr → Prop) : lk1 g_B_keyAfter 60 f = f [.iconst 2, .iload 5, .imul, .iload_n 2, .iadd, .istore 6, .aload_n 0, .iload 5, .iload_n 2, .invokevirtual 41, .ifCond .ne 12, .aload_n 0, .iload 6, .invokevirtual 45, .ifCond .eq 5] := (rfl)
theorem j_B_keyAfter_87 (f : List Instr → Prop) : lk1 g_B_keyAfter 87 f = f [.iconst (-1), .ireturn] := (rfl)
theorem j_B_keyAfter_89 (f : List Instr → Prop) : lk1 g_B_keyAfter 89 f = f [.iload 4, .iconst 5, .iadd, .sipush 256, .imul, .iload 6, .iload_n 3, .invokestatic 49, .iadd, .ireturn] := (rfl)
abbrev b_B_breaksRuns : ByteArray := prog_2_method_11_code
abbrev y_B_breaksRuns : MethodName := ⟨RX0, "breaksRuns", "(II)Z"⟩
def k_B_breaksRuns_0 : List Instr := [.aload_n 0, .getfield 25, .iconst (-1), .if_icmp .ne 5, .iconst 0, .ireturn]
def k_B_breaksRuns_10 : List Instr := [.iload_n 1, .invokestatic 52, .istore_n 3, .iload_n 2, .ifCond .ne 19, .iload_n 3, .iconst 1, .iadd, .aload_n 0, .getfield 25, .if_icmp .le 7, .iconst 1, .goto 4]
def k_B_breaksRuns_33 : List Instr := [.iconst 0]
def k_B_breaksRuns_34 : List Instr := [.ireturn]
def k_B_breaksRuns_35 : List Instr := [.iload_n 1, .iload_n 3, .ishr, .iconst 1, .if_icmp .le 7, .iconst 1, .goto 4]
def k_B_breaksRuns_46 : List Instr := [.iconst 0]
def k_B_breaksRuns_47 : List Instr := [.istore 4, .iload 4, .ifCond .eq 15, .iload_n 3, .aload_n 0, .getfield 22, .if_icmp .ge 7, .iconst 1, .goto 4]
def k_B_breaksRuns_66 : List Instr := [.iconst 0]
def k_B_breaksRuns_67 : List Instr := [.ireturn]
def g_B_breaksRuns : List (Nat × List Instr) := [(0, k_B_breaksRuns_0), (10, k_B_breaksRuns_10), (33, k_B_breaksRuns_33), (34, k_B_breaksRuns_34), (35, k_B_breaksRuns_35), (46, k_B_breaksRuns_46), (47, k_B_breaksRuns_47), (66, k_B_breaksRuns_66), (67, k_B_breaksRuns_67)]
theorem o_B_breaksRuns : ∀ q ∈ g_B_breaksRuns, okB b_B_breaksRuns q.1 q.2 = true := List.all_eq_true.mp (by decide +kernel : g_B_breaksRuns.all (fun q => okB b_B_breaksRuns q.1 q.2) = true)
theorem j_B_breaksRuns_0 (f : List Instr → Prop) : lk1 g_B_breaksRuns 0 f = f [.aload_n 0, .getfield 25, .iconst (-1), .if_icmp .ne 5, .iconst 0, .ireturn] := (rfl)
theorem j_B_breaksRuns_10 (f : List Instr → Prop) : lk1 g_B_breaksRuns 10 f = f [.iload_n 1, .invokestatic 52, .istore_n 3, .iload_n 2, .ifCond .ne 19, .iload_n 3, .iconst 1, .iadd, .aload_n 0, .getfield 25, .if_icmp .le 7, .iconst 1, .goto 4] := (rfl)
theorem j_B_breaksRuns_33 (f : List Instr → Prop) : lk1 g_B_breaksRuns 33 f = f [.iconst 0] := (rfl)
theorem j_B_breaksRuns_34 (f : List Instr → Prop) : lk1 g_B_breaksRuns 34 f = f [.ireturn] := (rfl)
theorem j_B_breaksRuns_35 (f : List Instr → Prop) : lk1 g_B_breaksRuns 35 f = f [.iload_n 1, .iload_n 3, .ishr, .iconst 1, .if_icmp .le 7, .iconst 1, .goto 4] := (rfl)
theorem j_B_breaksRuns_46 (f : List Instr → Prop) : lk1 g_B_breaksRuns 46 f = f [.iconst 0] := (rfl)
theorem j_B_breaksRuns_47 (f : List Instr → Prop) : lk1 g_B_breaksRuns 47 f = f [.istore 4, .iload 4, .ifCond .eq 15, .iload_n 3, .aload_n 0, .getfield 22, .if_icmp .ge 7, .iconst 1, .goto 4] := (rfl)
theorem j_B_breaksRuns_66 (f : List Instr → Prop) : lk1 g_B_breaksRuns 66 f = f [.iconst 0] := (rfl)
theorem j_B_breaksRuns_67 (f : List Instr → Prop) : lk1 g_B_breaksRuns 67 f = f [.ireturn] := (rfl)
abbrev b_B_endsInWord : ByteArray := prog_2_method_12_code
abbrev y_B_endsInWord : MethodName := ⟨RX0, "endsInWord", "(I)Z"⟩
def k_B_endsInWord_0 : List Instr := [.iconst 0, .istore_n 2]
def k_B_endsInWord_2 : List Instr := [.iload_n 2, .aload_n 0, .getfield 18, .if_icmp .ge 37, .iconst 1, .aload_n 0, .getfield 15, .iload_n 2, .iaload, .ishl, .istore_n 3, .iload_n 1, .iload_n 3, .if_icmp .lt 17, .iload_n 1, .iload_n 3, .irem, .aload_n 0, .getfield 11, .iload_n 2, .iaload, .if_icmp .ne 5, .iconst 1, .ireturn]
def k_B_endsInWord_38 : List Instr := [.iinc 2 1, .goto (-39)]
def k_B_endsInWord_44 : List Instr := [.iconst 0, .ireturn]
def g_B_endsInWord : List (Nat × List Instr) := [(0, k_B_endsInWord_0), (2, k_B_endsInWord_2), (38, k_B_endsInWord_38), (44, k_B_endsInWord_44)]
theorem o_B_endsInWord : ∀ q ∈ g_B_endsInWord, okB b_B_endsInWord q.1 q.2 = true := List.all_eq_true.mp (by decide +kernel : g_B_endsInWord.all (fun q => okB b_B_endsInWord q.1 q.2) = true)
theorem j_B_endsInWord_0 (f : List Instr → Prop) : lk1 g_B_endsInWord 0 f = f [.iconst 0, .istore_n 2] := (rfl)
theorem j_B_endsInWord_2 (f : List Instr → Prop) : lk1 g_B_endsInWord 2 f = f [.iload_n 2, .aload_n 0, .getfield 18, .if_icmp .ge 37, .iconst 1, .aload_n 0, .getfield 15, .iload_n 2, .iaload, .ishl, .istore_n 3, .iload_n 1, .iload_n 3, .if_icmp .lt 17, .iload_n 1, .iload_n 3, .irem, .aload_n 0, .getfield 11, .iload_n 2, .iaload, .if_icmp .ne 5, .iconst 1, .ireturn] := (rfl)
theorem j_B_endsInWord_38 (f : List Instr → Prop) : lk1 g_B_endsInWord 38 f = f [.iinc 2 1, .goto (-39)] := (rfl)
theorem j_B_endsInWord_44 (f : List Instr → Prop) : lk1 g_B_endsInWord 44 f = f [.iconst 0, .ireturn] := (rfl)
abbrev b_B_shortened : ByteArray := prog_2_method_13_code
abbrev y_B_shortened : MethodName := ⟨RX0, "shortened", "(II)I"⟩
def k_B_shortened_0 : List Instr := [.iconst 1, .iload_n 1, .ishl, .istore_n 2, .iload_n 0, .iconst 2, .iload_n 2, .imul, .if_icmp .ge 7, .iload_n 0, .goto 8]
def k_B_shortened_15 : List Instr := [.iload_n 2, .iload_n 0, .iload_n 2, .irem, .iadd]
def k_B_shortened_20 : List Instr := [.ireturn]
def g_B_shortened : List (Nat × List Instr) := [(0, k_B_shortened_0), (15, k_B_shortened_15), (20, k_B_shortened_20)]
theorem o_B_shortened : ∀ q ∈ g_B_shortened, okB b_B_shortened q.1 q.2 = true := List.all_eq_true.mp (by decide +kernel : g_B_shortened.all (fun q => okB b_B_shortened q.1 q.2) = true)
theorem j_B_shortened_0 (f : List Instr → Prop) : lk1 g_B_shortened 0 f = f [.iconst 1, .iload_n 1, .ishl, .istore_n 2, .iload_n 0, .iconst 2, .iload_n 2, .imul, .if_icmp .ge 7, .iload_n 0, .goto 8] := (rfl)
theorem j_B_shortened_15 (f : List Instr → Prop) : lk1 g_B_shortened 15 f = f [.iload_n 2, .iload_n 0, .iload_n 2, .irem, .iadd] := (rfl)
theorem j_B_shortened_20 (f : List Instr → Prop) : lk1 g_B_shortened 20 f = f [.ireturn] := (rfl)
abbrev b_C_drop : ByteArray := prog_4_method_8_code
abbrev y_C_drop : MethodName := ⟨RX2, "drop", "()V"⟩
def k_C_drop_0 : List Instr := [.aload_n 0, .getfield 18, .iconst 0, .invokestatic 42, .aload_n 0, .getfield 25, .iconst 0, .invokevirtual 48, .pop, .aload_n 0, .iconst 0, .putfield 29, .aload_n 0, .iconst 0, .putfield 33, .aload_n 0, .iconst 0, .putfield 36, .aload_n 0, .iconst (-1), .putfield 39, .return_]
def g_C_drop : List (Nat × List Instr) := [(0, k_C_drop_0)]
theorem o_C_drop : ∀ q ∈ g_C_drop, okB b_C_drop q.1 q.2 = true := List.all_eq_true.mp (by decide +kernel : g_C_drop.all (fun q => okB b_C_drop q.1 q.2) = true)
theorem j_C_drop_0 (f : List Instr → Prop) : lk1 g_C_drop 0 f = f [.aload_n 0, .getfield 18, .iconst 0, .invokestatic 42, .aload_n 0, .getfield 25, .iconst 0, .invokevirtual 48, .pop, .aload_n 0, .iconst 0, .putfield 29, .aload_n 0, .iconst 0, .putfield 33, .aload_n 0, .iconst 0, .putfield 36, .aload_n 0, .iconst (-1), .putfield 39, .return_] := (rfl)
abbrev b_C_find : ByteArray := prog_4_method_9_code
abbrev y_C_find : MethodName := ⟨RX2, "find", "(LEvenWire$Wire;II)V"⟩
def k_C_find_0 : List Instr := [.aload_n 0, .invokevirtual 52, .iconst 0, .istore 4]
def k_C_find_7 : List Instr := [.iload 4, .aload_n 1, .invokevirtual 55, .if_icmp .ge 24, .iload 4, .bipush 100, .if_icmp .ge 17, .aload_n 0, .getfield 18, .iload 4, .iconst 1, .iastore, .iinc 4 1, .goto (-27)]
def k_C_find_37 : List Instr := [.iconst 0, .istore 4]
def k_C_find_40 : List Instr := [.iload 4, .bipush 100, .if_icmp .gt 24, .aload_n 0, .aload_n 1, .iconst 1, .iload_n 2, .ishl, .iload_n 3, .invokevirtual 60, .ifCond .ne 6, .goto 9]
def k_C_find_62 : List Instr := [.iinc 4 1, .goto (-25)]
def k_C_find_68 : List Instr := [.aload_n 0, .aload_n 1, .iload_n 2, .iload_n 3, .invokevirtual 64, .return_]
def g_C_find : List (Nat × List Instr) := [(0, k_C_find_0), (7, k_C_find_7), (37, k_C_find_37), (40, k_C_find_40), (62, k_C_find_62), (68, k_C_find_68)]
theorem o_C_find : ∀ q ∈ g_C_find, okB b_C_find q.1 q.2 = true := List.all_eq_true.mp (by decide +kernel : g_C_find.all (fun q => okB b_C_find q.1 q.2) = true)
theorem j_C_find_0 (f : List Instr → Prop) : lk1 g_C_find 0 f = f [.aload_n 0, .invokevirtual 52, .iconst 0, .istore 4] := (rfl)
theorem j_C_find_7 (f : List Instr → Prop) : lk1 g_C_find 7 f = f [.iload 4, .aload_n 1, .invokevirtual 55, .if_icmp .ge 24, .iload 4, .bipush 100, .if_icmp .ge 17, .aload_n 0, .getfield 18, .iload 4, .iconst 1, .iastore, .iinc 4 1, .goto (-27)] := (rfl)
theorem j_C_find_37 (f : List Instr → Prop) : lk1 g_C_find 37 f = f [.iconst 0, .istore 4] := (rfl)
theorem j_C_find_40 (f : List Instr → Prop) : lk1 g_C_find 40 f = f [.iload 4, .bipush 100, .if_icmp .gt 24, .aload_n 0, .aload_n 1, .iconst 1, .iload_n 2, .ishl, .iload_n 3, .invokevirtual 60, .ifCond .ne 6, .goto 9] := (rfl)
theorem j_C_find_62 (f : List Instr → Prop) : lk1 g_C_find 62 f = f [.iinc 4 1, .goto (-25)] := (rfl)
theorem j_C_find_68 (f : List Instr → Prop) : lk1 g_C_find 68 f = f [.aload_n 0, .aload_n 1, .iload_n 2, .iload_n 3, .invokevirtual 64, .return_] := (rfl)
abbrev b_C_dropPoor : ByteArray := prog_4_method_10_code
abbrev y_C_dropPoor : MethodName := ⟨RX2, "dropPoor", "(LEvenWire$Wire;II)Z"⟩
def k_C_dropPoor_0 : List Instr := [.iconst 0, .istore 4, .iconst 0, .istore 5]
def k_C_dropPoor_6 : List Instr := [.iload 5, .aload_n 1, .invokevirtual 55, .if_icmp .ge 33, .iload 5, .bipush 100, .if_icmp .ge 26, .aload_n 0, .getfield 12, .iload 5, .aload_n 0, .getfield 18, .iload 5, .iaload, .i2l, .invokevirtual 68, .iinc 5 1, .goto (-36)]
def k_C_dropPoor_45 : List Instr := [.aload_n 0, .getfield 12, .aload_n 1, .iload_n 3, .invokevirtual 72, .iconst 0, .istore 5]
def k_C_dropPoor_57 : List Instr := [.iload 5, .aload_n 1, .invokevirtual 55, .if_icmp .ge 54, .iload 5, .bipush 100, .if_icmp .ge 47, .aload_n 0, .getfield 18, .iload 5, .iaload, .iconst 1, .if_icmp .ne 30, .aload_n 0, .getfield 12, .iload_n 3, .iload 5, .invokevirtual 76, .iload_n 2, .i2l, .lcmp, .ifCond .ge 14, .aload_n 0, .getfield 18, .iload 5, .iconst 0, .iastore, .iconst 1, .istore 4]
def k_C_dropPoor_111 : List Instr := [.iinc 5 1, .goto (-57)]
def k_C_dropPoor_117 : List Instr := [.iload 4, .ireturn]
def g_C_dropPoor : List (Nat × List Instr) := [(0, k_C_dropPoor_0), (6, k_C_dropPoor_6), (45, k_C_dropPoor_45), (57, k_C_dropPoor_57), (111, k_C_dropPoor_111), (117, k_C_dropPoor_117)]
theorem o_C_dropPoor : ∀ q ∈ g_C_dropPoor, okB b_C_dropPoor q.1 q.2 = true := List.all_eq_true.mp (by decide +kernel : g_C_dropPoor.all (fun q => okB b_C_dropPoor q.1 q.2) = true)
theorem j_C_dropPoor_0 (f : List Instr → Prop) : lk1 g_C_dropPoor 0 f = f [.iconst 0, .istore 4, .iconst 0, .istore 5] := (rfl)
theorem j_C_dropPoor_6 (f : List Instr → Prop) : lk1 g_C_dropPoor 6 f = f [.iload 5, .aload_n 1, .invokevirtual 55, .if_icmp .ge 33, .iload 5, .bipush 100, .if_icmp .ge 26, .aload_n 0, .getfield 12, .iload 5, .aload_n 0, .getfield 18, .iload 5, .iaload, .i2l, .invokevirtual 68, .iinc 5 1, .goto (-36)] := (rfl)
theorem j_C_dropPoor_45 (f : List Instr → Prop) : lk1 g_C_dropPoor 45 f = f [.aload_n 0, .getfield 12, .aload_n 1, .iload_n 3, .invokevirtual 72, .iconst 0, .istore 5] := (rfl)
theorem j_C_dropPoor_57 (f : List Instr → Prop) : lk1 g_C_dropPoor 57 f = f [.iload 5, .aload_n 1, .invokevirtual 55, .if_icmp .ge 54, .iload 5, .bipush 100, .if_icmp .ge 47, .aload_n 0, .getfield 18, .iload 5, .iaload, .iconst 1, .if_icmp .ne 30, .aload_n 0, .getfield 12, .iload_n 3, .iload 5, .invokevirtual 76, .iload_n 2, .i2l, .lcmp, .ifCond .ge 14, .aload_n 0, .getfield 18, .iload 5, .iconst 0, .iastore, .iconst 1, .istore 4] := (rfl)
theorem j_C_dropPoor_111 (f : List Instr → Prop) : lk1 g_C_dropPoor 111 f = f [.iinc 5 1, .goto (-57)] := (rfl)
theorem j_C_dropPoor_117 (f : List Instr → Prop) : lk1 g_C_dropPoor 117 f = f [.iload 4, .ireturn] := (rfl)
abbrev b_C_enroll : ByteArray := prog_4_method_11_code
abbrev y_C_enroll : MethodName := ⟨RX2, "enroll", "(LEvenWire$Wire;II)V"⟩
def k_C_enroll_0 : List Instr := [.bipush 99, .istore 4]
def k_C_enroll_4 : List Instr := [.iload 4, .ifCond .lt 36, .aload_n 0, .getfield 18, .iload 4, .iaload, .iconst 1, .if_icmp .ne 19, .aload_n 0, .iload 4, .putfield 39, .aload_n 0, .dup, .getfield 29, .iconst 1, .iadd, .putfield 29]
def k_C_enroll_36 : List Instr := [.iinc 4 (-1), .goto (-35)]
def k_C_enroll_42 : List Instr := [.aload_n 0, .getfield 29, .ifCond .le 25, .aload_n 0, .iload_n 2, .putfield 33, .aload_n 0, .iload_n 3, .putfield 36, .aload_n 0, .getfield 25, .aload_n 1, .aload_n 0, .getfield 39, .invokevirtual 80]
def k_C_enroll_71 : List Instr := [.return_]
def g_C_enroll : List (Nat × List Instr) := [(0, k_C_enroll_0), (4, k_C_enroll_4), (36, k_C_enroll_36), (42, k_C_enroll_42), (71, k_C_enroll_71)]
theorem o_C_enroll : ∀ q ∈ g_C_enroll, okB b_C_enroll q.1 q.2 = true := List.all_eq_true.mp (by decide +kernel : g_C_enroll.all (fun q => okB b_C_enroll q.1 q.2) = true)
theorem j_C_enroll_0 (f : List Instr → Prop) : lk1 g_C_enroll 0 f = f [.bipush 99, .istore 4] := (rfl)
theorem j_C_enroll_4 (f : List Instr → Prop) : lk1 g_C_enroll 4 f = f [.iload 4, .ifCond .lt 36, .aload_n 0, .getfield 18, .iload 4, .iaload, .iconst 1, .if_icmp .ne 19, .aload_n 0, .iload 4, .putfield 39, .aload_n 0, .dup, .getfield 29, .iconst 1, .iadd, .putfield 29] := (rfl)
theorem j_C_enroll_36 (f : List Instr → Prop) : lk1 g_C_enroll 36 f = f [.iinc 4 (-1), .goto (-35)] := (rfl)
theorem j_C_enroll_42 (f : List Instr → Prop) : lk1 g_C_enroll 42 f = f [.aload_n 0, .getfield 29, .ifCond .le 25, .aload_n 0, .iload_n 2, .putfield 33, .aload_n 0, .iload_n 3, .putfield 36, .aload_n 0, .getfield 25, .aload_n 1, .aload_n 0, .getfield 39, .invokevirtual 80] := (rfl)
theorem j_C_enroll_71 (f : List Instr → Prop) : lk1 g_C_enroll 71 f = f [.return_] := (rfl)
abbrev b_C_size : ByteArray := prog_4_method_3_code
abbrev y_C_size : MethodName := ⟨RX2, "size", "()I"⟩
def k_C_size_0 : List Instr := [.aload_n 0, .getfield 29, .ireturn]
def g_C_size : List (Nat × List Instr) := [(0, k_C_size_0)]
theorem o_C_size : ∀ q ∈ g_C_size, okB b_C_size q.1 q.2 = true := List.all_eq_true.mp (by decide +kernel : g_C_size.all (fun q => okB b_C_size q.1 q.2) = true)
theorem j_C_size_0 (f : List Instr → Prop) : lk1 g_C_size 0 f = f [.aload_n 0, .getfield 29, .ireturn] := (rfl)
abbrev b_C_exists : ByteArray := prog_4_method_2_code
abbrev y_C_exists : MethodName := ⟨RX2, "exists", "()Z"⟩
def k_C_exists_0 : List Instr := [.aload_n 0, .getfield 29, .ifCond .le 7, .iconst 1, .goto 4]
def k_C_exists_11 : List Instr := [.iconst 0]
def k_C_exists_12 : List Instr := [.ireturn]
def g_C_exists : List (Nat × List Instr) := [(0, k_C_exists_0), (11, k_C_exists_11), (12, k_C_exists_12)]
theorem o_C_exists : ∀ q ∈ g_C_exists, okB b_C_exists q.1 q.2 = true := List.all_eq_true.mp (by decide +kernel : g_C_exists.all (fun q => okB b_C_exists q.1 q.2) = true)
theorem j_C_exists_0 (f : List Instr → Prop) : lk1 g_C_exists 0 f = f [.aload_n 0, .getfield 29, .ifCond .le 7, .iconst 1, .goto 4] := (rfl)
theorem j_C_exists_11 (f : List Instr → Prop) : lk1 g_C_exists 11 f = f [.iconst 0] := (rfl)
theorem j_C_exists_12 (f : List Instr → Prop) : lk1 g_C_exists 12 f = f [.ireturn] := (rfl)
abbrev b_C_holds : ByteArray := prog_4_method_7_code
abbrev y_C_holds : MethodName := ⟨RX2, "holds", "(I)Z"⟩
def k_C_holds_0 : List Instr := [.iload_n 1, .ifCond .lt 23, .iload_n 1, .bipush 100, .if_icmp .ge 17, .aload_n 0, .getfield 18, .iload_n 1, .iaload, .iconst 1, .if_icmp .ne 7, .iconst 1, .goto 4]
def k_C_holds_24 : List Instr := [.iconst 0]
def k_C_holds_25 : List Instr := [.ireturn]
def g_C_holds : List (Nat × List Instr) := [(0, k_C_holds_0), (24, k_C_holds_24), (25, k_C_holds_25)]
theorem o_C_holds : ∀ q ∈ g_C_holds, okB b_C_holds q.1 q.2 = true := List.all_eq_true.mp (by decide +kernel : g_C_holds.all (fun q => okB b_C_holds q.1 q.2) = true)
theorem j_C_holds_0 (f : List Instr → Prop) : lk1 g_C_holds 0 f = f [.iload_n 1, .ifCond .lt 23, .iload_n 1, .bipush 100, .if_icmp .ge 17, .aload_n 0, .getfield 18, .iload_n 1, .iaload, .iconst 1, .if_icmp .ne 7, .iconst 1, .goto 4] := (rfl)
theorem j_C_holds_24 (f : List Instr → Prop) : lk1 g_C_holds 24 f = f [.iconst 0] := (rfl)
theorem j_C_holds_25 (f : List Instr → Prop) : lk1 g_C_holds 25 f = f [.ireturn] := (rfl)
abbrev b_C_pieceLength : ByteArray := prog_4_method_4_code
abbrev y_C_pieceLength : MethodName := ⟨RX2, "pieceLength", "()I"⟩
def k_C_pieceLength_0 : List Instr := [.aload_n 0, .getfield 33, .ireturn]
def g_C_pieceLength : List (Nat × List Instr) := [(0, k_C_pieceLength_0)]
theorem o_C_pieceLength : ∀ q ∈ g_C_pieceLength, okB b_C_pieceLength q.1 q.2 = true := List.all_eq_true.mp (by decide +kernel : g_C_pieceLength.all (fun q => okB b_C_pieceLength q.1 q.2) = true)
theorem j_C_pieceLength_0 (f : List Instr → Prop) : lk1 g_C_pieceLength 0 f = f [.aload_n 0, .getfield 33, .ireturn] := (rfl)
abbrev b_C_wordFor : ByteArray := prog_4_method_12_code
abbrev y_C_wordFor : MethodName := ⟨RX2, "wordFor", "(LEvenWire$Wire;II)I"⟩
def k_C_wordFor_0 : List Instr := [.aload_n 0, .getfield 12, .aload_n 1, .iload_n 2, .iload_n 3, .i2l, .aload_n 0, .getfield 36, .invokevirtual 83, .l2i, .ireturn]
def g_C_wordFor : List (Nat × List Instr) := [(0, k_C_wordFor_0)]
theorem o_C_wordFor : ∀ q ∈ g_C_wordFor, okB b_C_wordFor q.1 q.2 = true := List.all_eq_true.mp (by decide +kernel : g_C_wordFor.all (fun q => okB b_C_wordFor q.1 q.2) = true)
theorem j_C_wordFor_0 (f : List Instr → Prop) : lk1 g_C_wordFor 0 f = f [.aload_n 0, .getfield 12, .aload_n 1, .iload_n 2, .iload_n 3, .i2l, .aload_n 0, .getfield 36, .invokevirtual 83, .l2i, .ireturn] := (rfl)
abbrev b_C_wordLength : ByteArray := prog_4_method_5_code
abbrev y_C_wordLength : MethodName := ⟨RX2, "wordLength", "()I"⟩
def k_C_wordLength_0 : List Instr := [.aload_n 0, .getfield 36, .ireturn]
def g_C_wordLength : List (Nat × List Instr) := [(0, k_C_wordLength_0)]
theorem o_C_wordLength : ∀ q ∈ g_C_wordLength, okB b_C_wordLength q.1 q.2 = true := List.all_eq_true.mp (by decide +kernel : g_C_wordLength.all (fun q => okB b_C_wordLength q.1 q.2) = true)
theorem j_C_wordLength_0 (f : List Instr → Prop) : lk1 g_C_wordLength 0 f = f [.aload_n 0, .getfield 36, .ireturn] := (rfl)
abbrev b_C_pieceFor : ByteArray := prog_4_method_13_code
abbrev y_C_pieceFor : MethodName := ⟨RX2, "pieceFor", "(LEvenWire$Wire;II)I"⟩
def k_C_pieceFor_0 : List Instr := [.aload_n 0, .getfield 12, .aload_n 1, .iload_n 2, .iload_n 3, .i2l, .aload_n 0, .getfield 36, .invokevirtual 87, .lstore 4, .lload 4, .lconst 1, .aload_n 0, .getfield 33, .lshl, .lcmp, .ifCond .ge 9, .lload 4, .l2i, .goto 4]
def k_C_pieceFor_35 : List Instr := [.iconst (-1)]
def k_C_pieceFor_36 : List Instr := [.ireturn]
def g_C_pieceFor : List (Nat × List Instr) := [(0, k_C_pieceFor_0), (35, k_C_pieceFor_35), (36, k_C_pieceFor_36)]
theorem o_C_pieceFor : ∀ q ∈ g_C_pieceFor, okB b_C_pieceFor q.1 q.2 = true := List.all_eq_true.mp (by decide +kernel : g_C_pieceFor.all (fun q => okB b_C_pieceFor q.1 q.2) = true)
theorem j_C_pieceFor_0 (f : List Instr → Prop) : lk1 g_C_pieceFor 0 f = f [.aload_n 0, .getfield 12, .aload_n 1, .iload_n 2, .iload_n 3, .i2l, .aload_n 0, .getfield 36, .invokevirtual 87, .lstore 4, .lload 4, .lconst 1, .aload_n 0, .getfield 33, .lshl, .lcmp, .ifCond .ge 9, .lload 4, .l2i, .goto 4] := (rfl)
theorem j_C_pieceFor_35 (f : List Instr → Prop) : lk1 g_C_pieceFor 35 f = f [.iconst (-1)] := (rfl)
theorem j_C_pieceFor_36 (f : List Instr → Prop) : lk1 g_C_pieceFor 36 f = f [.ireturn] := (rfl)
abbrev b_C_lengthWritten : ByteArray := prog_4_method_15_code
abbrev y_C_lengthWritten : MethodName := ⟨RX2, "lengthWritten", "(LEvenWire$Bits;)I"⟩
def k_C_lengthWritten_0 : List Instr := [.aload_n 0, .getfield 25, .invokevirtual 90, .aload_n 0, .aload_n 1, .invokevirtual 91, .aload_n 0, .getfield 36, .imul, .iadd, .ireturn]
def g_C_lengthWritten : List (Nat × List Instr) := [(0, k_C_lengthWritten_0)]
theorem o_C_lengthWritten : ∀ q ∈ g_C_lengthWritten, okB b_C_lengthWritten q.1 q.2 = true := List.all_eq_true.mp (by decide +kernel : g_C_lengthWritten.all (fun q => okB b_C_lengthWritten q.1 q.2) = true)
theorem j_C_lengthWritten_0 (f : List Instr → Prop) : lk1 g_C_lengthWritten 0 f = f [.aload_n 0, .getfield 25, .invokevirtual 90, .aload_n 0, .aload_n 1, .invokevirtual 91, .aload_n 0, .getfield 36, .imul, .iadd, .ireturn] := (rfl)
abbrev b_C_pieces : ByteArray := prog_4_method_14_code
abbrev y_C_pieces : MethodName := ⟨RX2, "pieces", "(LEvenWire$Bits;)I"⟩
def k_C_pieces_0 : List Instr := [.aload_n 0, .getfield 33, .iconst 1, .if_icmp .ge 7, .iconst 0, .goto 19]
def k_C_pieces_12 : List Instr := [.aload_n 1, .invokevirtual 90, .aload_n 0, .getfield 33, .iadd, .iconst 1, .isub, .aload_n 0, .getfield 33, .idiv]
def k_C_pieces_28 : List Instr := [.ireturn]
def g_C_pieces : List (Nat × List Instr) := [(0, k_C_pieces_0), (12, k_C_pieces_12), (28, k_C_pieces_28)]
theorem o_C_pieces : ∀ q ∈ g_C_pieces, okB b_C_pieces q.1 q.2 = true := List.all_eq_true.mp (by decide +kernel : g_C_pieces.all (fun q => okB b_C_pieces q.1 q.2) = true)
theorem j_C_pieces_0 (f : List Instr → Prop) : lk1 g_C_pieces 0 f = f [.aload_n 0, .getfield 33, .iconst 1, .if_icmp .ge 7, .iconst 0, .goto 19] := (rfl)
theorem j_C_pieces_12 (f : List Instr → Prop) : lk1 g_C_pieces 12 f = f [.aload_n 1, .invokevirtual 90, .aload_n 0, .getfield 33, .iadd, .iconst 1, .isub, .aload_n 0, .getfield 33, .idiv] := (rfl)
theorem j_C_pieces_28 (f : List Instr → Prop) : lk1 g_C_pieces 28 f = f [.ireturn] := (rfl)
abbrev b_C_encode : ByteArray := prog_4_method_16_code
abbrev y_C_encode : MethodName := ⟨RX2, "encode", "(LEvenWire$Wire;LEvenWire$Bits;LEvenWire$Bits;)V"⟩
def k_C_encode_0 : List Instr := [.aload_n 0, .getfield 39, .istore 4, .aload_n 3, .aload_n 0, .getfield 25, .invokevirtual 95, .iconst 0, .istore 5]
def k_C_encode_17 : List Instr := [.iload 5, .aload_n 0, .aload_n 2, .invokevirtual 91, .if_icmp .ge 63, .aload_n 2, .iload 5, .aload_n 0, .getfield 33, .imul, .aload_n 0, .getfield 33, .invokevirtual 99, .istore 6, .aload_n 0, .aload_n 1, .iload 4, .iload 6, .invokevirtual 103, .istore 7, .aload_n 3, .iload 7, .i2l, .aload_n 0, .getfield 36, .invokevirtual 107, .aload_n 1, .iload 4, .iload 7, .i2l, .aload_n 0, .getfield 36, .invokevirtual 111, .istore 4, .iinc 5 1, .goto (-67)]
def k_C_encode_87 : List Instr := [.return_]
def g_C_encode : List (Nat × List Instr) := [(0, k_C_encode_0), (17, k_C_encode_17), (87, k_C_encode_87)]
theorem o_C_encode : ∀ q ∈ g_C_encode, okB b_C_encode q.1 q.2 = true := List.all_eq_true.mp (by decide +kernel : g_C_encode.all (fun q => okB b_C_encode q.1 q.2) = true)
theorem j_C_encode_0 (f : List Instr → Prop) : lk1 g_C_encode 0 f = f [.aload_n 0, .getfield 39, .istore 4, .aload_n 3, .aload_n 0, .getfield 25, .invokevirtual 95, .iconst 0, .istore 5] := (rfl)
theorem j_C_encode_17 (f : List Instr → Prop) : lk1 g_C_encode 17 f = f [.iload 5, .aload_n 0, .aload_n 2, .invokevirtual 91, .if_icmp .ge 63, .aload_n 2, .iload 5, .aload_n 0, .getfield 33, .imul, .aload_n 0, .getfield 33, .invokevirtual 99, .istore 6, .aload_n 0, .aload_n 1, .iload 4, .iload 6, .invokevirtual 103, .istore 7, .aload_n 3, .iload 7, .i2l, .aload_n 0, .getfield 36, .invokevirtual 107, .aload_n 1, .iload 4, .iload 7, .i2l, .aload_n 0, .getfield 36, .invokevirtual 111, .istore 4, .iinc 5 1, .goto (-67)] := (rfl)
theorem j_C_encode_87 (f : List Instr → Prop) : lk1 g_C_encode 87 f = f [.return_] := (rfl)
abbrev b_C_decode : ByteArray := prog_4_method_17_code
abbrev y_C_decode : MethodName := ⟨RX2, "decode", "(LEvenWire$Wire;LEvenWire$Bits;LEvenWire$Bits;)I"⟩
def k_C_decode_0 : List Instr := [.aload_n 0, .getfield 39, .istore 4, .aload_n 3, .iconst 0, .invokevirtual 48, .pop, .aload_n 0, .getfield 25, .aload_n 2, .invokevirtual 115, .istore 5, .iload 5, .iconst (-1), .if_icmp .eq 6, .iload 5, .ireturn]
def k_C_decode_31 : List Instr := [.iconst 0, .istore 6]
def k_C_decode_34 : List Instr := [.iload 6, .sipush 600, .if_icmp .ge 112, .aload_n 0, .getfield 25, .invokevirtual 90, .iload 6, .aload_n 0, .getfield 36, .imul, .iadd, .istore 7, .iload 7, .aload_n 2, .invokevirtual 90, .if_icmp .lt 5, .iconst (-1), .ireturn]
def k_C_decode_70 : List Instr := [.iload 7, .aload_n 0, .getfield 36, .iadd, .aload_n 2, .invokevirtual 90, .if_icmp .le 6, .iload 7, .ireturn]
def k_C_decode_87 : List Instr := [.aload_n 2, .iload 7, .aload_n 0, .getfield 36, .invokevirtual 99, .istore 8, .aload_n 0, .aload_n 1, .iload 4, .iload 8, .invokevirtual 118, .istore 9, .iload 9, .iconst (-1), .if_icmp .ne 6, .iload 7, .ireturn]
def k_C_decode_119 : List Instr := [.aload_n 3, .iload 9, .i2l, .aload_n 0, .getfield 33, .invokevirtual 107, .aload_n 1, .iload 4, .iload 8, .i2l, .aload_n 0, .getfield 36, .invokevirtual 111, .istore 4, .iinc 6 1, .goto (-114)]
def k_C_decode_151 : List Instr := [.iconst (-1), .ireturn]
def g_C_decode : List (Nat × List Instr) := [(0, k_C_decode_0), (31, k_C_decode_31), (34, k_C_decode_34), (70, k_C_decode_70), (87, k_C_decode_87), (119, k_C_decode_119), (151, k_C_decode_151)]
theorem o_C_decode : ∀ q ∈ g_C_decode, okB b_C_decode q.1 q.2 = true := List.all_eq_true.mp (by decide +kernel : g_C_decode.all (fun q => okB b_C_decode q.1 q.2) = true)
theorem j_C_decode_0 (f : List Instr → Prop) : lk1 g_C_decode 0 f = f [.aload_n 0, .getfield 39, .istore 4, .aload_n 3, .iconst 0, .invokevirtual 48, .pop, .aload_n 0, .getfield 25, .aload_n 2, .invokevirtual 115, .istore 5, .iload 5, .iconst (-1), .if_icmp .eq 6, .iload 5, .ireturn] := (rfl)
theorem j_C_decode_31 (f : List Instr → Prop) : lk1 g_C_decode 31 f = f [.iconst 0, .istore 6] := (rfl)
theorem j_C_decode_34 (f : List Instr → Prop) : lk1 g_C_decode 34 f = f [.iload 6, .sipush 600, .if_icmp .ge 112, .aload_n 0, .getfield 25, .invokevirtual 90, .iload 6, .aload_n 0, .getfield 36, .imul, .iadd, .istore 7, .iload 7, .aload_n 2, .invokevirtual 90, .if_icmp .lt 5, .iconst (-1), .ireturn] := (rfl)
theorem j_C_decode_70 (f : List Instr → Prop) : lk1 g_C_decode 70 f = f [.iload 7, .aload_n 0, .getfield 36, .iadd, .aload_n 2, .invokevirtual 90, .if_icmp .le 6, .iload 7, .ireturn] := (rfl)
theorem j_C_decode_87 (f : List Instr → Prop) : lk1 g_C_decode 87 f = f [.aload_n 2, .iload 7, .aload_n 0, .getfield 36, .invokevirtual 99, .istore 8, .aload_n 0, .aload_n 1, .iload 4, .iload 8, .invokevirtual 118, .istore 9, .iload 9, .iconst (-1), .if_icmp .ne 6, .iload 7, .ireturn] := (rfl)
theorem j_C_decode_119 (f : List Instr → Prop) : lk1 g_C_decode 119 f = f [.aload_n 3, .iload 9, .i2l, .aload_n 0, .getfield 33, .invokevirtual 107, .aload_n 1, .iload 4, .iload 8, .i2l, .aload_n 0, .getfield 36, .invokevirtual 111, .istore 4, .iinc 6 1, .goto (-114)] := (rfl)
theorem j_C_decode_151 (f : List Instr → Prop) : lk1 g_C_decode 151 f = f [.iconst (-1), .ireturn] := (rfl)
abbrev b_C_home : ByteArray := prog_4_method_6_code
abbrev y_C_home : MethodName := ⟨RX2, "home", "()I"⟩
def k_C_home_0 : List Instr := [.aload_n 0, .getfield 39, .ireturn]
def g_C_home : List (Nat × List Instr) := [(0, k_C_home_0)]
theorem o_C_home : ∀ q ∈ g_C_home, okB b_C_home q.1 q.2 = true := List.all_eq_true.mp (by decide +kernel : g_C_home.all (fun q => okB b_C_home q.1 q.2) = true)
theorem j_C_home_0 (f : List Instr → Prop) : lk1 g_C_home 0 f = f [.aload_n 0, .getfield 39, .ireturn] := (rfl)
abbrev b_G_setAll : ByteArray := prog_8_method_2_code
abbrev y_G_setAll : MethodName := ⟨RX6, "setAll", "(I)V"⟩
def k_G_setAll_0 : List Instr := [.aload_n 0, .getfield 9, .iload_n 1, .invokestatic 15, .return_]
def g_G_setAll : List (Nat × List Instr) := [(0, k_G_setAll_0)]
theorem o_G_setAll : ∀ q ∈ g_G_setAll, okB b_G_setAll q.1 q.2 = true := List.all_eq_true.mp (by decide +kernel : g_G_setAll.all (fun q => okB b_G_setAll q.1 q.2) = true)
theorem j_G_setAll_0 (f : List Instr → Prop) : lk1 g_G_setAll 0 f = f [.aload_n 0, .getfield 9, .iload_n 1, .invokestatic 15, .return_] := (rfl)
abbrev b_G_of : ByteArray := prog_8_method_4_code
abbrev y_G_of : MethodName := ⟨RX6, "of", "(I)I"⟩
def k_G_of_0 : List Instr := [.iload_n 1, .ifCond .lt 18, .iload_n 1, .bipush 100, .if_icmp .ge 12, .aload_n 0, .getfield 9, .iload_n 1, .iaload, .goto 4]
def k_G_of_19 : List Instr := [.iconst 0]
def k_G_of_20 : List Instr := [.ireturn]
def g_G_of : List (Nat × List Instr) := [(0, k_G_of_0), (19, k_G_of_19), (20, k_G_of_20)]
theorem o_G_of : ∀ q ∈ g_G_of, okB b_G_of q.1 q.2 = true := List.all_eq_true.mp (by decide +kernel : g_G_of.all (fun q => okB b_G_of q.1 q.2) = true)
theorem j_G_of_0 (f : List Instr → Prop) : lk1 g_G_of 0 f = f [.iload_n 1, .ifCond .lt 18, .iload_n 1, .bipush 100, .if_icmp .ge 12, .aload_n 0, .getfield 9, .iload_n 1, .iaload, .goto 4] := (rfl)
theorem j_G_of_19 (f : List Instr → Prop) : lk1 g_G_of 19 f = f [.iconst 0] := (rfl)
theorem j_G_of_20 (f : List Instr → Prop) : lk1 g_G_of 20 f = f [.ireturn] := (rfl)
abbrev b_G_set : ByteArray := prog_8_method_3_code
abbrev y_G_set : MethodName := ⟨RX6, "set", "(II)V"⟩
def k_G_set_0 : List Instr := [.iload_n 1, .ifCond .lt 16, .iload_n 1, .bipush 100, .if_icmp .ge 10, .aload_n 0, .getfield 9, .iload_n 1, .iload_n 2, .iastore]
def k_G_set_17 : List Instr := [.return_]
def g_G_set : List (Nat × List Instr) := [(0, k_G_set_0), (17, k_G_set_17)]
theorem o_G_set : ∀ q ∈ g_G_set, okB b_G_set q.1 q.2 = true := List.all_eq_true.mp (by decide +kernel : g_G_set.all (fun q => okB b_G_set q.1 q.2) = true)
theorem j_G_set_0 (f : List Instr → Prop) : lk1 g_G_set 0 f = f [.iload_n 1, .ifCond .lt 16, .iload_n 1, .bipush 100, .if_icmp .ge 10, .aload_n 0, .getfield 9, .iload_n 1, .iload_n 2, .iastore] := (rfl)
theorem j_G_set_17 (f : List Instr → Prop) : lk1 g_G_set 17 f = f [.return_] := (rfl)
abbrev b_G_firstTooGreat : ByteArray := prog_8_method_7_code
abbrev y_G_firstTooGreat : MethodName := ⟨RX6, "firstTooGreat", "(LEvenWire$Wire;LEvenWire$Ladder;II)I"⟩
def k_G_firstTooGreat_0 : List Instr := [.aload_n 0, .invokevirtual 31, .ifCond .ne 5, .iconst 0, .ireturn]
def k_G_firstTooGreat_9 : List Instr := [.aload_n 0, .aload_n 1, .aload_n 2, .iload 4, .invokevirtual 34, .iconst 0, .istore 5]
def k_G_firstTooGreat_20 : List Instr := [.iload 5, .aload_n 1, .invokevirtual 21, .if_icmp .ge 33, .aload_n 2, .iload 4, .iload 5, .invokevirtual 38, .aload_n 0, .iload 5, .invokevirtual 44, .i2l, .iload_n 3, .lshl, .lcmp, .ifCond .ge 6, .iload 5, .ireturn]
def k_G_firstTooGreat_53 : List Instr := [.iinc 5 1, .goto (-36)]
def k_G_firstTooGreat_59 : List Instr := [.iconst (-1), .ireturn]
def g_G_firstTooGreat : List (Nat × List Instr) := [(0, k_G_firstTooGreat_0), (9, k_G_firstTooGreat_9), (20, k_G_firstTooGreat_20), (53, k_G_firstTooGreat_53), (59, k_G_firstTooGreat_59)]
theorem o_G_firstTooGreat : ∀ q ∈ g_G_firstTooGreat, okB b_G_firstTooGreat q.1 q.2 = true := List.all_eq_true.mp (by decide +kernel : g_G_firstTooGreat.all (fun q => okB b_G_firstTooGreat q.1 q.2) = true)
theorem j_G_firstTooGreat_0 (f : List Instr → Prop) : lk1 g_G_firstTooGreat 0 f = f [.aload_n 0, .invokevirtual 31, .ifCond .ne 5, .iconst 0, .ireturn] := (rfl)
theorem j_G_firstTooGreat_9 (f : List Instr → Prop) : lk1 g_G_firstTooGreat 9 f = f [.aload_n 0, .aload_n 1, .aload_n 2, .iload 4, .invokevirtual 34, .iconst 0, .istore 5] := (rfl)
theorem j_G_firstTooGreat_20 (f : List Instr → Prop) : lk1 g_G_firstTooGreat 20 f = f [.iload 5, .aload_n 1, .invokevirtual 21, .if_icmp .ge 33, .aload_n 2, .iload 4, .iload 5, .invokevirtual 38, .aload_n 0, .iload 5, .invokevirtual 44, .i2l, .iload_n 3, .lshl, .lcmp, .ifCond .ge 6, .iload 5, .ireturn] := (rfl)
theorem j_G_firstTooGreat_53 (f : List Instr → Prop) : lk1 g_G_firstTooGreat 53 f = f [.iinc 5 1, .goto (-36)] := (rfl)
theorem j_G_firstTooGreat_59 (f : List Instr → Prop) : lk1 g_G_firstTooGreat 59 f = f [.iconst (-1), .ireturn] := (rfl)
abbrev b_G_sum : ByteArray := prog_8_method_5_code
abbrev y_G_sum : MethodName := ⟨RX6, "sum", "()I"⟩
def k_G_sum_0 : List Instr := [.iconst 0, .istore_n 1, .iconst 0, .istore_n 2]
def k_G_sum_4 : List Instr := [.iload_n 2, .bipush 100, .if_icmp .ge 18, .iload_n 1, .aload_n 0, .getfield 9, .iload_n 2, .iaload, .iadd, .istore_n 1, .iinc 2 1, .goto (-18)]
def k_G_sum_25 : List Instr := [.iload_n 1, .ireturn]
def g_G_sum : List (Nat × List Instr) := [(0, k_G_sum_0), (4, k_G_sum_4), (25, k_G_sum_25)]
theorem o_G_sum : ∀ q ∈ g_G_sum, okB b_G_sum q.1 q.2 = true := List.all_eq_true.mp (by decide +kernel : g_G_sum.all (fun q => okB b_G_sum q.1 q.2) = true)
theorem j_G_sum_0 (f : List Instr → Prop) : lk1 g_G_sum 0 f = f [.iconst 0, .istore_n 1, .iconst 0, .istore_n 2] := (rfl)
theorem j_G_sum_4 (f : List Instr → Prop) : lk1 g_G_sum 4 f = f [.iload_n 2, .bipush 100, .if_icmp .ge 18, .iload_n 1, .aload_n 0, .getfield 9, .iload_n 2, .iaload, .iadd, .istore_n 1, .iinc 2 1, .goto (-18)] := (rfl)
theorem j_G_sum_25 (f : List Instr → Prop) : lk1 g_G_sum 25 f = f [.iload_n 1, .ireturn] := (rfl)
abbrev b_G_weighEnds : ByteArray := prog_8_method_10_code
abbrev y_G_weighEnds : MethodName := ⟨RX6, "weighEnds", "(LEvenWire$Wire;LEvenWire$Ladder;I)V"⟩
def k_G_weighEnds_0 : List Instr := [.iconst 0, .istore 4]
def k_G_weighEnds_3 : List Instr := [.iload 4, .aload_n 1, .invokevirtual 21, .if_icmp .ge 22, .aload_n 2, .iload 4, .aload_n 0, .iload 4, .invokevirtual 44, .i2l, .invokevirtual 52, .iinc 4 1, .goto (-25)]
def k_G_weighEnds_31 : List Instr := [.aload_n 2, .aload_n 1, .iload_n 3, .invokevirtual 55, .return_]
def g_G_weighEnds : List (Nat × List Instr) := [(0, k_G_weighEnds_0), (3, k_G_weighEnds_3), (31, k_G_weighEnds_31)]
theorem o_G_weighEnds : ∀ q ∈ g_G_weighEnds, okB b_G_weighEnds q.1 q.2 = true := List.all_eq_true.mp (by decide +kernel : g_G_weighEnds.all (fun q => okB b_G_weighEnds q.1 q.2) = true)
theorem j_G_weighEnds_0 (f : List Instr → Prop) : lk1 g_G_weighEnds 0 f = f [.iconst 0, .istore 4] := (rfl)
theorem j_G_weighEnds_3 (f : List Instr → Prop) : lk1 g_G_weighEnds 3 f = f [.iload 4, .aload_n 1, .invokevirtual 21, .if_icmp .ge 22, .aload_n 2, .iload 4, .aload_n 0, .iload 4, .invokevirtual 44, .i2l, .invokevirtual 52, .iinc 4 1, .goto (-25)] := (rfl)
theorem j_G_weighEnds_31 (f : List Instr → Prop) : lk1 g_G_weighEnds 31 f = f [.aload_n 2, .aload_n 1, .iload_n 3, .invokevirtual 55, .return_] := (rfl)
abbrev b_G_raise : ByteArray := prog_8_method_6_code
abbrev y_G_raise : MethodName := ⟨RX6, "raise", "(LEvenWire$Wire;I)V"⟩
def k_G_raise_0 : List Instr := [.iconst 0, .istore_n 3]
def k_G_raise_2 : List Instr := [.iload_n 3, .aload_n 1, .invokevirtual 21, .if_icmp .ge 15, .aload_n 0, .iload_n 3, .iload_n 2, .invokevirtual 27, .iinc 3 1, .goto (-17)]
def k_G_raise_22 : List Instr := [.return_]
def g_G_raise : List (Nat × List Instr) := [(0, k_G_raise_0), (2, k_G_raise_2), (22, k_G_raise_22)]
theorem o_G_raise : ∀ q ∈ g_G_raise, okB b_G_raise q.1 q.2 = true := List.all_eq_true.mp (by decide +kernel : g_G_raise.all (fun q => okB b_G_raise q.1 q.2) = true)
theorem j_G_raise_0 (f : List Instr → Prop) : lk1 g_G_raise 0 f = f [.iconst 0, .istore_n 3] := (rfl)
theorem j_G_raise_2 (f : List Instr → Prop) : lk1 g_G_raise 2 f = f [.iload_n 3, .aload_n 1, .invokevirtual 21, .if_icmp .ge 15, .aload_n 0, .iload_n 3, .iload_n 2, .invokevirtual 27, .iinc 3 1, .goto (-17)] := (rfl)
theorem j_G_raise_22 (f : List Instr → Prop) : lk1 g_G_raise 22 f = f [.return_] := (rfl)
abbrev b_G_settle : ByteArray := prog_8_method_8_code
abbrev y_G_settle : MethodName := ⟨RX6, "settle", "(LEvenWire$Wire;LEvenWire$Ladder;II)V"⟩
def k_G_settle_0 : List Instr := [.iconst 0, .istore 5]
def k_G_settle_3 : List Instr := [.iload 5, .sipush 20000, .if_icmp .gt 22, .aload_n 0, .aload_n 1, .aload_n 2, .iload_n 3, .iload 4, .invokevirtual 48, .ifCond .ne 4, .return_]
def k_G_settle_24 : List Instr := [.iinc 5 1, .goto (-24)]
def k_G_settle_30 : List Instr := [.return_]
def g_G_settle : List (Nat × List Instr) := [(0, k_G_settle_0), (3, k_G_settle_3), (24, k_G_settle_24), (30, k_G_settle_30)]
theorem o_G_settle : ∀ q ∈ g_G_settle, okB b_G_settle q.1 q.2 = true := List.all_eq_true.mp (by decide +kernel : g_G_settle.all (fun q => okB b_G_settle q.1 q.2) = true)
theorem j_G_settle_0 (f : List Instr → Prop) : lk1 g_G_settle 0 f = f [.iconst 0, .istore 5] := (rfl)
theorem j_G_settle_3 (f : List Instr → Prop) : lk1 g_G_settle 3 f = f [.iload 5, .sipush 20000, .if_icmp .gt 22, .aload_n 0, .aload_n 1, .aload_n 2, .iload_n 3, .iload 4, .invokevirtual 48, .ifCond .ne 4, .return_] := (rfl)
theorem j_G_settle_24 (f : List Instr → Prop) : lk1 g_G_settle 24 f = f [.iinc 5 1, .goto (-24)] := (rfl)
theorem j_G_settle_30 (f : List Instr → Prop) : lk1 g_G_settle 30 f = f [.return_] := (rfl)
abbrev b_G_lower : ByteArray := prog_8_method_9_code
abbrev y_G_lower : MethodName := ⟨RX6, "lower", "(LEvenWire$Wire;LEvenWire$Ladder;II)Z"⟩
def k_G_lower_0 : List Instr := [.iconst 0, .istore 5, .aload_n 0, .aload_n 1, .aload_n 2, .iload 4, .invokevirtual 34, .iconst 0, .istore 6]
def k_G_lower_14 : List Instr := [.iload 6, .aload_n 1, .invokevirtual 21, .if_icmp .ge 46, .aload_n 2, .iload 4, .iload 6, .invokevirtual 38, .iload_n 3, .lshr, .lstore 7, .lload 7, .aload_n 0, .iload 6, .invokevirtual 44, .i2l, .lcmp, .ifCond .ge 15, .aload_n 0, .iload 6, .lload 7, .l2i, .invokevirtual 27, .iconst 1, .istore 5]
def k_G_lower_60 : List Instr := [.iinc 6 1, .goto (-49)]
def k_G_lower_66 : List Instr := [.iload 5, .ireturn]
def g_G_lower : List (Nat × List Instr) := [(0, k_G_lower_0), (14, k_G_lower_14), (60, k_G_lower_60), (66, k_G_lower_66)]
theorem o_G_lower : ∀ q ∈ g_G_lower, okB b_G_lower q.1 q.2 = true := List.all_eq_true.mp (by decide +kernel : g_G_lower.all (fun q => okB b_G_lower q.1 q.2) = true)
theorem j_G_lower_0 (f : List Instr → Prop) : lk1 g_G_lower 0 f = f [.iconst 0, .istore 5, .aload_n 0, .aload_n 1, .aload_n 2, .iload 4, .invokevirtual 34, .iconst 0, .istore 6] := (rfl)
theorem j_G_lower_14 (f : List Instr → Prop) : lk1 g_G_lower 14 f = f [.iload 6, .aload_n 1, .invokevirtual 21, .if_icmp .ge 46, .aload_n 2, .iload 4, .iload 6, .invokevirtual 38, .iload_n 3, .lshr, .lstore 7, .lload 7, .aload_n 0, .iload 6, .invokevirtual 44, .i2l, .lcmp, .ifCond .ge 15, .aload_n 0, .iload 6, .lload 7, .l2i, .invokevirtual 27, .iconst 1, .istore 5] := (rfl)
theorem j_G_lower_60 (f : List Instr → Prop) : lk1 g_G_lower 60 f = f [.iinc 6 1, .goto (-49)] := (rfl)
theorem j_G_lower_66 (f : List Instr → Prop) : lk1 g_G_lower 66 f = f [.iload 5, .ireturn] := (rfl)
abbrev b_JA_fillI : ByteArray := prog_17_method_103_code
abbrev y_JA_fillI : MethodName := ⟨R_JA, "fill", "([II)V"⟩
def k_JA_fillI_0 : List Instr := [.iconst 0, .istore_n 2, .aload_n 0, .arraylength, .istore_n 3]
def k_JA_fillI_5 : List Instr := [.iload_n 2, .iload_n 3, .if_icmp .ge 13, .aload_n 0, .iload_n 2, .iload_n 1, .iastore, .iinc 2 1, .goto (-12)]
def k_JA_fillI_20 : List Instr := [.return_]
def g_JA_fillI : List (Nat × List Instr) := [(0, k_JA_fillI_0), (5, k_JA_fillI_5), (20, k_JA_fillI_20)]
theorem o_JA_fillI : ∀ q ∈ g_JA_fillI, okB b_JA_fillI q.1 q.2 = true := List.all_eq_true.mp (by decide +kernel : g_JA_fillI.all (fun q => okB b_JA_fillI q.1 q.2) = true)
theorem j_JA_fillI_0 (f : List Instr → Prop) : lk1 g_JA_fillI 0 f = f [.iconst 0, .istore_n 2, .aload_n 0, .arraylength, .istore_n 3] := (rfl)
theorem j_JA_fillI_5 (f : List Instr → Prop) : lk1 g_JA_fillI 5 f = f [.iload_n 2, .iload_n 3, .if_icmp .ge 13, .aload_n 0, .iload_n 2, .iload_n 1, .iastore, .iinc 2 1, .goto (-12)] := (rfl)
theorem j_JA_fillI_20 (f : List Instr → Prop) : lk1 g_JA_fillI 20 f = f [.return_] := (rfl)
abbrev b_JA_fillL : ByteArray := prog_17_method_102_code
abbrev y_JA_fillL : MethodName := ⟨R_JA, "fill", "([JIIJ)V"⟩
def k_JA_fillL_0 : List Instr := [.aload_n 0, .arraylength, .iload_n 1, .iload_n 2, .invokestatic 13, .iload_n 1, .istore 5]
def k_JA_fillL_10 : List Instr := [.iload 5, .iload_n 2, .if_icmp .ge 14, .aload_n 0, .iload 5, .lload_n 3, .lastore, .iinc 5 1, .goto (-14)]
def k_JA_fillL_27 : List Instr := [.return_]
def g_JA_fillL : List (Nat × List Instr) := [(0, k_JA_fillL_0), (10, k_JA_fillL_10), (27, k_JA_fillL_27)]
theorem o_JA_fillL : ∀ q ∈ g_JA_fillL, okB b_JA_fillL q.1 q.2 = true := List.all_eq_true.mp (by decide +kernel : g_JA_fillL.all (fun q => okB b_JA_fillL q.1 q.2) = true)
theorem j_JA_fillL_0 (f : List Instr → Prop) : lk1 g_JA_fillL 0 f = f [.aload_n 0, .arraylength, .iload_n 1, .iload_n 2, .invokestatic 13, .iload_n 1, .istore 5] := (rfl)
theorem j_JA_fillL_10 (f : List Instr → Prop) : lk1 g_JA_fillL 10 f = f [.iload 5, .iload_n 2, .if_icmp .ge 14, .aload_n 0, .iload 5, .lload_n 3, .lastore, .iinc 5 1, .goto (-14)] := (rfl)
theorem j_JA_fillL_27 (f : List Instr → Prop) : lk1 g_JA_fillL 27 f = f [.return_] := (rfl)
abbrev b_JA_rangeCheck : ByteArray := prog_17_method_30_code
abbrev y_JA_rangeCheck : MethodName := ⟨R_JA, "rangeCheck", "(III)V"⟩
def k_JA_rangeCheck_0 : List Instr := [.iload_n 1, .iload_n 2, .if_icmp .le 44]
def k_JA_rangeCheck_46 : List Instr := [.iload_n 1, .ifCond .ge 12]
def k_JA_rangeCheck_59 : List Instr := [.iload_n 2, .iload_n 0, .if_icmp .le 12]
def k_JA_rangeCheck_73 : List Instr := [.return_]
def g_JA_rangeCheck : List (Nat × List Instr) := [(0, k_JA_rangeCheck_0), (46, k_JA_rangeCheck_46), (59, k_JA_rangeCheck_59), (73, k_JA_rangeCheck_73)]
theorem o_JA_rangeCheck : ∀ q ∈ g_JA_rangeCheck, okB b_JA_rangeCheck q.1 q.2 = true := List.all_eq_true.mp (by decide +kernel : g_JA_rangeCheck.all (fun q => okB b_JA_rangeCheck q.1 q.2) = true)
theorem j_JA_rangeCheck_0 (f : List Instr → Prop) : lk1 g_JA_rangeCheck 0 f = f [.iload_n 1, .iload_n 2, .if_icmp .le 44] := (rfl)
theorem j_JA_rangeCheck_46 (f : List Instr → Prop) : lk1 g_JA_rangeCheck 46 f = f [.iload_n 1, .ifCond .ge 12] := (rfl)
theorem j_JA_rangeCheck_59 (f : List Instr → Prop) : lk1 g_JA_rangeCheck 59 f = f [.iload_n 2, .iload_n 0, .if_icmp .le 12] := (rfl)
theorem j_JA_rangeCheck_73 (f : List Instr → Prop) : lk1 g_JA_rangeCheck 73 f = f [.return_] := (rfl)
abbrev b_JI_numberOfTrailingZeros : ByteArray := prog_12_method_48_code
abbrev y_JI_numberOfTrailingZeros : MethodName := ⟨R_JI, "numberOfTrailingZeros", "(I)I"⟩
def k_JI_numberOfTrailingZeros_0 : List Instr := [.iload_n 0, .iconst (-1), .ixor, .iload_n 0, .iconst 1, .isub, .iand, .istore_n 0, .iload_n 0, .ifCond .gt 8, .iload_n 0, .bipush 32, .iand, .ireturn]
def k_JI_numberOfTrailingZeros_17 : List Instr := [.iconst 1, .istore_n 1, .iload_n 0, .ldc_w 264, .if_icmp .le 11, .iinc 1 16, .iload_n 0, .bipush 16, .iushr, .istore_n 0]
def k_JI_numberOfTrailingZeros_34 : List Instr := [.iload_n 0, .sipush 256, .if_icmp .le 11, .iinc 1 8, .iload_n 0, .bipush 8, .iushr, .istore_n 0]
def k_JI_numberOfTrailingZeros_49 : List Instr := [.iload_n 0, .bipush 16, .if_icmp .le 10, .iinc 1 4, .iload_n 0, .iconst 4, .iushr, .istore_n 0]
def k_JI_numberOfTrailingZeros_62 : List Instr := [.iload_n 0, .iconst 4, .if_icmp .le 10, .iinc 1 2, .iload_n 0, .iconst 2, .iushr, .istore_n 0]
def k_JI_numberOfTrailingZeros_74 : List Instr := [.iload_n 1, .iload_n 0, .iconst 1, .iushr, .iadd, .ireturn]
def g_JI_numberOfTrailingZeros : List (Nat × List Instr) := [(0, k_JI_numberOfTrailingZeros_0), (17, k_JI_numberOfTrailingZeros_17), (34, k_JI_numberOfTrailingZeros_34), (49, k_JI_numberOfTrailingZeros_49), (62, k_JI_numberOfTrailingZeros_62), (74, k_JI_numberOfTrailingZeros_74)]
theorem o_JI_numberOfTrailingZeros : ∀ q ∈ g_JI_numberOfTrailingZeros, okB b_JI_numberOfTrailingZeros q.1 q.2 = true := List.all_eq_true.mp (by decide +kernel : g_JI_numberOfTrailingZeros.all (fun q => okB b_JI_numberOfTrailingZeros q.1 q.2) = true)
theorem j_JI_numberOfTrailingZeros_0 (f : List Instr → Prop) : lk1 g_JI_numberOfTrailingZeros 0 f = f [.iload_n 0, .iconst (-1), .ixor, .iload_n 0, .iconst 1, .isub, .iand, .istore_n 0, .iload_n 0, .ifCond .gt 8, .iload_n 0, .bipush 32, .iand, .ireturn] := (rfl)
theorem j_JI_numberOfTrailingZeros_17 (f : List Instr → Prop) : lk1 g_JI_numberOfTrailingZeros 17 f = f [.iconst 1, .istore_n 1, .iload_n 0, .ldc_w 264, .if_icmp .le 11, .iinc 1 16, .iload_n 0, .bipush 16, .iushr, .istore_n 0] := (rfl)
theorem j_JI_numberOfTrailingZeros_34 (f : List Instr → Prop) : lk1 g_JI_numberOfTrailingZeros 34 f = f [.iload_n 0, .sipush 256, .if_icmp .le 11, .iinc 1 8, .iload_n 0, .bipush 8, .iushr, .istore_n 0] := (rfl)
theorem j_JI_numberOfTrailingZeros_49 (f : List Instr → Prop) : lk1 g_JI_numberOfTrailingZeros 49 f = f [.iload_n 0, .bipush 16, .if_icmp .le 10, .iinc 1 4, .iload_n 0, .iconst 4, .iushr, .istore_n 0] := (rfl)
theorem j_JI_numberOfTrailingZeros_62 (f : List Instr → Prop) : lk1 g_JI_numberOfTrailingZeros 62 f = f [.iload_n 0, .iconst 4, .if_icmp .le 10, .iinc 1 2, .iload_n 0, .iconst 2, .iushr, .istore_n 0] := (rfl)
theorem j_JI_numberOfTrailingZeros_74 (f : List Instr → Prop) : lk1 g_JI_numberOfTrailingZeros 74 f = f [.iload_n 1, .iload_n 0, .iconst 1, .iushr, .iadd, .ireturn] := (rfl)
abbrev b_JL_numberOfTrailingZeros : ByteArray := prog_13_method_49_code
abbrev y_JL_numberOfTrailingZeros : MethodName := ⟨R_JL, "numberOfTrailingZeros", "(J)I"⟩
def k_JL_numberOfTrailingZeros_0 : List Instr := [.lload_n 0, .l2i, .istore_n 2, .iload_n 2, .ifCond .ne 17, .bipush 32, .lload_n 0, .bipush 32, .lushr, .l2i, .invokestatic 311, .iadd, .goto 7]
def k_JL_numberOfTrailingZeros_21 : List Instr := [.iload_n 2, .invokestatic 311]
def k_JL_numberOfTrailingZeros_25 : List Instr := [.ireturn]
def g_JL_numberOfTrailingZeros : List (Nat × List Instr) := [(0, k_JL_numberOfTrailingZeros_0), (21, k_JL_numberOfTrailingZeros_21), (25, k_JL_numberOfTrailingZeros_25)]
theorem o_JL_numberOfTrailingZeros : ∀ q ∈ g_JL_numberOfTrailingZeros, okB b_JL_numberOfTrailingZeros q.1 q.2 = true := List.all_eq_true.mp (by decide +kernel : g_JL_numberOfTrailingZeros.all (fun q => okB b_JL_numberOfTrailingZeros q.1 q.2) = true)
theorem j_JL_numberOfTrailingZeros_0 (f : List Instr → Prop) : lk1 g_JL_numberOfTrailingZeros 0 f = f [.lload_n 0, .l2i, .istore_n 2, .iload_n 2, .ifCond .ne 17, .bipush 32, .lload_n 0, .bipush 32, .lushr, .l2i, .invokestatic 311, .iadd, .goto 7] := (rfl)
theorem j_JL_numberOfTrailingZeros_21 (f : List Instr → Prop) : lk1 g_JL_numberOfTrailingZeros 21 f = f [.iload_n 2, .invokestatic 311] := (rfl)
theorem j_JL_numberOfTrailingZeros_25 (f : List Instr → Prop) : lk1 g_JL_numberOfTrailingZeros 25 f = f [.ireturn] := (rfl)
abbrev b_JM_max : ByteArray := prog_14_method_65_code
abbrev y_JM_max : MethodName := ⟨R_JM, "max", "(II)I"⟩
def k_JM_max_0 : List Instr := [.iload_n 0, .iload_n 1, .if_icmp .lt 7, .iload_n 0, .goto 4]
def k_JM_max_9 : List Instr := [.iload_n 1]
def k_JM_max_10 : List Instr := [.ireturn]
def g_JM_max : List (Nat × List Instr) := [(0, k_JM_max_0), (9, k_JM_max_9), (10, k_JM_max_10)]
theorem o_JM_max : ∀ q ∈ g_JM_max, okB b_JM_max q.1 q.2 = true := List.all_eq_true.mp (by decide +kernel : g_JM_max.all (fun q => okB b_JM_max q.1 q.2) = true)
theorem j_JM_max_0 (f : List Instr → Prop) : lk1 g_JM_max 0 f = f [.iload_n 0, .iload_n 1, .if_icmp .lt 7, .iload_n 0, .goto 4] := (rfl)
theorem j_JM_max_9 (f : List Instr → Prop) : lk1 g_JM_max 9 f = f [.iload_n 1] := (rfl)
theorem j_JM_max_10 (f : List Instr → Prop) : lk1 g_JM_max 10 f = f [.ireturn] := (rfl)
abbrev b_JM_min : ByteArray := prog_14_method_69_code
abbrev y_JM_min : MethodName := ⟨R_JM, "min", "(II)I"⟩
def k_JM_min_0 : List Instr := [.iload_n 0, .iload_n 1, .if_icmp .gt 7, .iload_n 0, .goto 4]
def k_JM_min_9 : List Instr := [.iload_n 1]
def k_JM_min_10 : List Instr := [.ireturn]
def g_JM_min : List (Nat × List Instr) := [(0, k_JM_min_0), (9, k_JM_min_9), (10, k_JM_min_10)]
theorem o_JM_min : ∀ q ∈ g_JM_min, okB b_JM_min q.1 q.2 = true := List.all_eq_true.mp (by decide +kernel : g_JM_min.all (fun q => okB b_JM_min q.1 q.2) = true)
theorem j_JM_min_0 (f : List Instr → Prop) : lk1 g_JM_min 0 f = f [.iload_n 0, .iload_n 1, .if_icmp .gt 7, .iload_n 0, .goto 4] := (rfl)
theorem j_JM_min_9 (f : List Instr → Prop) : lk1 g_JM_min 9 f = f [.iload_n 1] := (rfl)
theorem j_JM_min_10 (f : List Instr → Prop) : lk1 g_JM_min 10 f = f [.ireturn] := (rfl)
abbrev b_K_make : ByteArray := prog_6_method_2_code
abbrev y_K_make : MethodName := ⟨RX4, "make", "(LEvenWire$Bans;)Z"⟩
def k_K_make_0 : List Instr := [.aload_n 0, .aload_n 1, .invokevirtual 42, .aload_n 0, .invokevirtual 46, .aload_n 0, .getfield 23, .iconst 0, .iaload, .iconst (-1), .if_icmp .ne 10, .aload_n 0, .iconst 0, .putfield 39, .iconst 1, .ireturn]
def k_K_make_26 : List Instr := [.aload_n 0, .iconst 1, .putfield 39, .aload_n 0, .invokevirtual 49, .ireturn]
def g_K_make : List (Nat × List Instr) := [(0, k_K_make_0), (26, k_K_make_26)]
theorem o_K_make : ∀ q ∈ g_K_make, okB b_K_make q.1 q.2 = true := List.all_eq_true.mp (by decide +kernel : g_K_make.all (fun q => okB b_K_make q.1 q.2) = true)
theorem j_K_make_0 (f : List Instr → Prop) : lk1 g_K_make 0 f = f [.aload_n 0, .aload_n 1, .invokevirtual 42, .aload_n 0, .invokevirtual 46, .aload_n 0, .getfield 23, .iconst 0, .iaload, .iconst (-1), .if_icmp .ne 10, .aload_n 0, .iconst 0, .putfield 39, .iconst 1, .ireturn] := (rfl)
theorem j_K_make_26 (f : List Instr → Prop) : lk1 g_K_make 26 f = f [.aload_n 0, .iconst 1, .putfield 39, .aload_n 0, .invokevirtual 49, .ireturn] := (rfl)
abbrev b_K_explore : ByteArray := prog_6_method_4_code
abbrev y_K_explore : MethodName := ⟨RX4, "explore", "(LEvenWire$Bans;)V"⟩
def k_K_explore_0 : List Instr := [.aload_n 1, .invokevirtual 53, .istore_n 2, .aload_n 0, .getfield 11, .iconst (-1), .invokestatic 57, .aload_n 0, .iconst 0, .putfield 36, .aload_n 0, .aload_n 1, .invokevirtual 63, .invokevirtual 66, .pop, .iconst 0, .istore_n 3]
def k_K_explore_29 : List Instr := [.iload_n 3, .sipush 2816, .if_icmp .ge 70, .iload_n 3, .aload_n 0, .getfield 36, .if_icmp .lt 6, .goto 59]
def k_K_explore_47 : List Instr := [.aload_n 0, .getfield 20, .iconst 2, .iload_n 3, .imul, .aload_n 0, .aload_n 1, .aload_n 0, .getfield 17, .iload_n 3, .iaload, .iconst 0, .iload_n 2, .invokevirtual 70, .invokevirtual 66, .iastore, .aload_n 0, .getfield 20, .iconst 2, .iload_n 3, .imul, .iconst 1, .iadd, .aload_n 0, .aload_n 1, .aload_n 0, .getfield 17, .iload_n 3, .iaload, .iconst 1, .iload_n 2, .invokevirtual 70, .invokevirtual 66, .iastore, .iinc 3 1, .goto (-71)]
def k_K_explore_103 : List Instr := [.return_]
def g_K_explore : List (Nat × List Instr) := [(0, k_K_explore_0), (29, k_K_explore_29), (47, k_K_explore_47), (103, k_K_explore_103)]
theorem o_K_explore : ∀ q ∈ g_K_explore, okB b_K_explore q.1 q.2 = true := List.all_eq_true.mp (by decide +kernel : g_K_explore.all (fun q => okB b_K_explore q.1 q.2) = true)
theorem j_K_explore_0 (f : List Instr → Prop) : lk1 g_K_explore 0 f = f [.aload_n 1, .invokevirtual 53, .istore_n 2, .aload_n 0, .getfield 11, .iconst (-1), .invokestatic 57, .aload_n 0, .iconst 0, .putfield 36, .aload_n 0, .aload_n 1, .invokevirtual 63, .invokevirtual 66, .pop, .iconst 0, .istore_n 3] := (rfl)
theorem j_K_explore_29 (f : List Instr → Prop) : lk1 g_K_explore 29 f = f [.iload_n 3, .sipush 2816, .if_icmp .ge 70, .iload_n 3, .aload_n 0, .getfield 36, .if_icmp .lt 6, .goto 59] := (rfl)
theorem j_K_explore_47 (f : List Instr → Prop) : lk1 g_K_explore 47 f = f [.aload_n 0, .getfield 20, .iconst 2, .iload_n 3, .imul, .aload_n 0, .aload_n 1, .aload_n 0, .getfield 17, .iload_n 3, .iaload, .iconst 0, .iload_n 2, .invokevirtual 70, .invokevirtual 66, .iastore, .aload_n 0, .getfield 20, .iconst 2, .iload_n 3, .imul, .iconst 1, .iadd, .aload_n 0, .aload_n 1, .aload_n 0, .getfield 17, .iload_n 3, .iaload, .iconst 1, .iload_n 2, .invokevirtual 70, .invokevirtual 66, .iastore, .iinc 3 1, .goto (-71)] := (rfl)
theorem j_K_explore_103 (f : List Instr → Prop) : lk1 g_K_explore 103 f = f [.return_] := (rfl)
abbrev b_K_placeFor : ByteArray := prog_6_method_5_code
abbrev y_K_placeFor : MethodName := ⟨RX4, "placeFor", "(I)I"⟩
def k_K_placeFor_0 : List Instr := [.iload_n 1, .ifCond .lt 10, .iload_n 1, .sipush 2816, .if_icmp .lt 5]
def k_K_placeFor_11 : List Instr := [.iconst (-1), .ireturn]
def k_K_placeFor_13 : List Instr := [.aload_n 0, .getfield 11, .iload_n 1, .iaload, .iconst (-1), .if_icmp .ne 53, .aload_n 0, .getfield 36, .sipush 2816, .if_icmp .ge 43, .aload_n 0, .getfield 11, .iload_n 1, .aload_n 0, .getfield 36, .iastore, .aload_n 0, .getfield 17, .aload_n 0, .getfield 36, .iload_n 1, .iastore, .aload_n 0, .getfield 23, .aload_n 0, .getfield 36, .iconst 0, .iastore, .aload_n 0, .dup, .getfield 36, .iconst 1, .iadd, .putfield 36]
def k_K_placeFor_73 : List Instr := [.aload_n 0, .getfield 11, .iload_n 1, .iaload, .ireturn]
def g_K_placeFor : List (Nat × List Instr) := [(0, k_K_placeFor_0), (11, k_K_placeFor_11), (13, k_K_placeFor_13), (73, k_K_placeFor_73)]
theorem o_K_placeFor : ∀ q ∈ g_K_placeFor, okB b_K_placeFor q.1 q.2 = true := List.all_eq_true.mp (by decide +kernel : g_K_placeFor.all (fun q => okB b_K_placeFor q.1 q.2) = true)
theorem j_K_placeFor_0 (f : List Instr → Prop) : lk1 g_K_placeFor 0 f = f [.iload_n 1, .ifCond .lt 10, .iload_n 1, .sipush 2816, .if_icmp .lt 5] := (rfl)
theorem j_K_placeFor_11 (f : List Instr → Prop) : lk1 g_K_placeFor 11 f = f [.iconst (-1), .ireturn] := (rfl)
theorem j_K_placeFor_13 (f : List Instr → Prop) : lk1 g_K_placeFor 13 f = f [.aload_n 0, .getfield 11, .iload_n 1, .iaload, .iconst (-1), .if_icmp .ne 53, .aload_n 0, .getfield 36, .sipush 2816, .if_icmp .ge 43, .aload_n 0, .getfield 11, .iload_n 1, .aload_n 0, .getfield 36, .iastore, .aload_n 0, .getfield 17, .aload_n 0, .getfield 36, .iload_n 1, .iastore, .aload_n 0, .getfield 23, .aload_n 0, .getfield 36, .iconst 0, .iastore, .aload_n 0, .dup, .getfield 36, .iconst 1, .iadd, .putfield 36] := (rfl)
theorem j_K_placeFor_73 (f : List Instr → Prop) : lk1 g_K_placeFor 73 f = f [.aload_n 0, .getfield 11, .iload_n 1, .iaload, .ireturn] := (rfl)
abbrev b_K_dropDead : ByteArray := prog_6_method_6_code
abbrev y_K_dropDead : MethodName := ⟨RX4, "dropDead", "()V"⟩
def k_K_dropDead_0 : List Instr := [.iconst 0, .istore_n 1]
def k_K_dropDead_2 : List Instr := [.iload_n 1, .sipush 2816, .if_icmp .gt 17, .aload_n 0, .invokevirtual 74, .ifCond .ne 4, .return_]
def k_K_dropDead_17 : List Instr := [.iinc 1 1, .goto (-18)]
def k_K_dropDead_23 : List Instr := [.return_]
def g_K_dropDead : List (Nat × List Instr) := [(0, k_K_dropDead_0), (2, k_K_dropDead_2), (17, k_K_dropDead_17), (23, k_K_dropDead_23)]
theorem o_K_dropDead : ∀ q ∈ g_K_dropDead, okB b_K_dropDead q.1 q.2 = true := List.all_eq_true.mp (by decide +kernel : g_K_dropDead.all (fun q => okB b_K_dropDead q.1 q.2) = true)
theorem j_K_dropDead_0 (f : List Instr → Prop) : lk1 g_K_dropDead 0 f = f [.iconst 0, .istore_n 1] := (rfl)
theorem j_K_dropDead_2 (f : List Instr → Prop) : lk1 g_K_dropDead 2 f = f [.iload_n 1, .sipush 2816, .if_icmp .gt 17, .aload_n 0, .invokevirtual 74, .ifCond .ne 4, .return_] := (rfl)
theorem j_K_dropDead_17 (f : List Instr → Prop) : lk1 g_K_dropDead 17 f = f [.iinc 1 1, .goto (-18)] := (rfl)
theorem j_K_dropDead_23 (f : List Instr → Prop) : lk1 g_K_dropDead 23 f = f [.return_] := (rfl)
abbrev b_K_dropDeadOnce : ByteArray := prog_6_method_7_code
abbrev y_K_dropDeadOnce : MethodName := ⟨RX4, "dropDeadOnce", "()Z"⟩
def k_K_dropDeadOnce_0 : List Instr := [.iconst 0, .istore_n 1, .aload_n 0, .getfield 36, .iconst 1, .isub, .istore_n 2]
def k_K_dropDeadOnce_9 : List Instr := [.iload_n 2, .ifCond .lt 48, .aload_n 0, .getfield 23, .iload_n 2, .iaload, .iconst (-1), .if_icmp .eq 32, .aload_n 0, .iload_n 2, .iconst 0, .invokevirtual 77, .iconst (-1), .if_icmp .ne 22, .aload_n 0, .iload_n 2, .iconst 1, .invokevirtual 77, .iconst (-1), .if_icmp .ne 12, .aload_n 0, .getfield 23, .iload_n 2, .iconst (-1), .iastore, .iconst 1, .istore_n 1]
def k_K_dropDeadOnce_52 : List Instr := [.iinc 2 (-1), .goto (-46)]
def k_K_dropDeadOnce_58 : List Instr := [.iload_n 1, .ireturn]
def g_K_dropDeadOnce : List (Nat × List Instr) := [(0, k_K_dropDeadOnce_0), (9, k_K_dropDeadOnce_9), (52, k_K_dropDeadOnce_52), (58, k_K_dropDeadOnce_58)]
theorem o_K_dropDeadOnce : ∀ q ∈ g_K_dropDeadOnce, okB b_K_dropDeadOnce q.1 q.2 = true := List.all_eq_true.mp (by decide +kernel : g_K_dropDeadOnce.all (fun q => okB b_K_dropDeadOnce q.1 q.2) = true)
theorem j_K_dropDeadOnce_0 (f : List Instr → Prop) : lk1 g_K_dropDeadOnce 0 f = f [.iconst 0, .istore_n 1, .aload_n 0, .getfield 36, .iconst 1, .isub, .istore_n 2] := (rfl)
theorem j_K_dropDeadOnce_9 (f : List Instr → Prop) : lk1 g_K_dropDeadOnce 9 f = f [.iload_n 2, .ifCond .lt 48, .aload_n 0, .getfield 23, .iload_n 2, .iaload, .iconst (-1), .if_icmp .eq 32, .aload_n 0, .iload_n 2, .iconst 0, .invokevirtual 77, .iconst (-1), .if_icmp .ne 22, .aload_n 0, .iload_n 2, .iconst 1, .invokevirtual 77, .iconst (-1), .if_icmp .ne 12, .aload_n 0, .getfield 23, .iload_n 2, .iconst (-1), .iastore, .iconst 1, .istore_n 1] := (rfl)
theorem j_K_dropDeadOnce_52 (f : List Instr → Prop) : lk1 g_K_dropDeadOnce 52 f = f [.iinc 2 (-1), .goto (-46)] := (rfl)
theorem j_K_dropDeadOnce_58 (f : List Instr → Prop) : lk1 g_K_dropDeadOnce 58 f = f [.iload_n 1, .ireturn] := (rfl)
abbrev b_K_groupAfter : ByteArray := prog_6_method_8_code
abbrev y_K_groupAfter : MethodName := ⟨RX4, "groupAfter", "(II)I"⟩
def k_K_groupAfter_0 : List Instr := [.aload_n 0, .getfield 20, .iconst 2, .iload_n 1, .imul, .iload_n 2, .iadd, .iaload, .istore_n 3, .iload_n 3, .ifCond .lt 11, .iload_n 3, .aload_n 0, .getfield 36, .if_icmp .lt 7]
def k_K_groupAfter_23 : List Instr := [.iconst (-1), .goto 9]
def k_K_groupAfter_27 : List Instr := [.aload_n 0, .getfield 23, .iload_n 3, .iaload]
def k_K_groupAfter_33 : List Instr := [.ireturn]
def g_K_groupAfter : List (Nat × List Instr) := [(0, k_K_groupAfter_0), (23, k_K_groupAfter_23), (27, k_K_groupAfter_27), (33, k_K_groupAfter_33)]
theorem o_K_groupAfter : ∀ q ∈ g_K_groupAfter, okB b_K_groupAfter q.1 q.2 = true := List.all_eq_true.mp (by decide +kernel : g_K_groupAfter.all (fun q => okB b_K_groupAfter q.1 q.2) = true)
theorem j_K_groupAfter_0 (f : List Instr → Prop) : lk1 g_K_groupAfter 0 f = f [.aload_n 0, .getfield 20, .iconst 2, .iload_n 1, .imul, .iload_n 2, .iadd, .iaload, .istore_n 3, .iload_n 3, .ifCond .lt 11, .iload_n 3, .aload_n 0, .getfield 36, .if_icmp .lt 7] := (rfl)
theorem j_K_groupAfter_23 (f : List Instr → Prop) : lk1 g_K_groupAfter 23 f = f [.iconst (-1), .goto 9] := (rfl)
theorem j_K_groupAfter_27 (f : List Instr → Prop) : lk1 g_K_groupAfter 27 f = f [.aload_n 0, .getfield 23, .iload_n 3, .iaload] := (rfl)
theorem j_K_groupAfter_33 (f : List Instr → Prop) : lk1 g_K_groupAfter 33 f = f [.ireturn] := (rfl)
abbrev b_K_refine : ByteArray := prog_6_method_9_code
abbrev y_K_refine : MethodName := ⟨RX4, "refine", "()Z"⟩
def k_K_refine_0 : List Instr := [.iconst 0, .istore_n 1]
def k_K_refine_2 : List Instr := [.iload_n 1, .bipush 100, .if_icmp .gt 42, .aload_n 0, .getfield 39, .istore_n 2, .aload_n 0, .iconst 0, .invokevirtual 81, .ifCond .eq 11, .aload_n 0, .iconst 1, .invokevirtual 81, .ifCond .ne 5]
def k_K_refine_29 : List Instr := [.iconst 0, .ireturn]
def k_K_refine_31 : List Instr := [.aload_n 0, .getfield 39, .iload_n 2, .if_icmp .ne 5, .iconst 1, .ireturn]
def k_K_refine_41 : List Instr := [.iinc 1 1, .goto (-42)]
def k_K_refine_47 : List Instr := [.iconst 0, .ireturn]
def g_K_refine : List (Nat × List Instr) := [(0, k_K_refine_0), (2, k_K_refine_2), (29, k_K_refine_29), (31, k_K_refine_31), (41, k_K_refine_41), (47, k_K_refine_47)]
theorem o_K_refine : ∀ q ∈ g_K_refine, okB b_K_refine q.1 q.2 = true := List.all_eq_true.mp (by decide +kernel : g_K_refine.all (fun q => okB b_K_refine q.1 q.2) = true)
theorem j_K_refine_0 (f : List Instr → Prop) : lk1 g_K_refine 0 f = f [.iconst 0, .istore_n 1] := (rfl)
theorem j_K_refine_2 (f : List Instr → Prop) : lk1 g_K_refine 2 f = f [.iload_n 1, .bipush 100, .if_icmp .gt 42, .aload_n 0, .getfield 39, .istore_n 2, .aload_n 0, .iconst 0, .invokevirtual 81, .ifCond .eq 11, .aload_n 0, .iconst 1, .invokevirtual 81, .ifCond .ne 5] := (rfl)
theorem j_K_refine_29 (f : List Instr → Prop) : lk1 g_K_refine 29 f = f [.iconst 0, .ireturn] := (rfl)
theorem j_K_refine_31 (f : List Instr → Prop) : lk1 g_K_refine 31 f = f [.aload_n 0, .getfield 39, .iload_n 2, .if_icmp .ne 5, .iconst 1, .ireturn] := (rfl)
theorem j_K_refine_41 (f : List Instr → Prop) : lk1 g_K_refine 41 f = f [.iinc 1 1, .goto (-42)] := (rfl)
theorem j_K_refine_47 (f : List Instr → Prop) : lk1 g_K_refine 47 f = f [.iconst 0, .ireturn] := (rfl)
abbrev b_K_split : ByteArray := prog_6_method_10_code
abbrev y_K_split : MethodName := ⟨RX4, "split", "(I)Z"⟩
def k_K_split_0 : List Instr := [.iconst 0, .istore_n 2, .aload_n 0, .dup, .getfield 32, .bipush 101, .iadd, .putfield 32, .iconst 0, .istore_n 3]
def k_K_split_15 : List Instr := [.iload_n 3, .aload_n 0, .getfield 36, .if_icmp .ge 105, .aload_n 0, .getfield 23, .iload_n 3, .iaload, .iconst (-1), .if_icmp .ne 13, .aload_n 0, .getfield 26, .iload_n 3, .iconst (-1), .iastore, .goto 79]
def k_K_split_43 : List Instr := [.aload_n 0, .getfield 23, .iload_n 3, .iaload, .bipush 101, .imul, .aload_n 0, .iload_n 3, .iload_n 1, .invokevirtual 77, .iadd, .iconst 1, .iadd, .istore 4, .aload_n 0, .getfield 29, .iload 4, .iaload, .aload_n 0, .getfield 32, .if_icmp .ge 27, .iload_n 2, .bipush 100, .if_icmp .lt 5, .iconst 0, .ireturn]
def k_K_split_85 : List Instr := [.aload_n 0, .getfield 29, .iload 4, .aload_n 0, .getfield 32, .iload_n 2, .iadd, .iastore, .iinc 2 1]
def k_K_split_101 : List Instr := [.aload_n 0, .getfield 26, .iload_n 3, .aload_n 0, .getfield 29, .iload 4, .iaload, .aload_n 0, .getfield 32, .isub, .iastore]
def k_K_split_119 : List Instr := [.iinc 3 1, .goto (-107)]
def k_K_split_125 : List Instr := [.aload_n 0, .getfield 26, .iconst 0, .aload_n 0, .getfield 23, .iconst 0, .aload_n 0, .getfield 36, .invokestatic 85, .aload_n 0, .iload_n 2, .putfield 39, .iconst 1, .ireturn]
def g_K_split : List (Nat × List Instr) := [(0, k_K_split_0), (15, k_K_split_15), (43, k_K_split_43), (85, k_K_split_85), (101, k_K_split_101), (119, k_K_split_119), (125, k_K_split_125)]
theorem o_K_split : ∀ q ∈ g_K_split, okB b_K_split q.1 q.2 = true := List.all_eq_true.mp (by decide +kernel : g_K_split.all (fun q => okB b_K_split q.1 q.2) = true)
theorem j_K_split_0 (f : List Instr → Prop) : lk1 g_K_split 0 f = f [.iconst 0, .istore_n 2, .aload_n 0, .dup, .getfield 32, .bipush 101, .iadd, .putfield 32, .iconst 0, .istore_n 3] := (rfl)
theorem j_K_split_15 (f : List Instr → Prop) : lk1 g_K_split 15 f = f [.iload_n 3, .aload_n 0, .getfield 36, .if_icmp .ge 105, .aload_n 0, .getfield 23, .iload_n 3, .iaload, .iconst (-1), .if_icmp .ne 13, .aload_n 0, .getfield 26, .iload_n 3, .iconst (-1), .iastore, .goto 79] := (rfl)
theorem j_K_split_43 (f : List Instr → Prop) : lk1 g_K_split 43 f = f [.aload_n 0, .getfield 23, .iload_n 3, .iaload, .bipush 101, .imul, .aload_n 0, .iload_n 3, .iload_n 1, .invokevirtual 77, .iadd, .iconst 1, .iadd, .istore 4, .aload_n 0, .getfield 29, .iload 4, .iaload, .aload_n 0, .getfield 32, .if_icmp .ge 27, .iload_n 2, .bipush 100, .if_icmp .lt 5, .iconst 0, .ireturn] := (rfl)
theorem j_K_split_85 (f : List Instr → Prop) : lk1 g_K_split 85 f = f [.aload_n 0, .getfield 29, .iload 4, .aload_n 0, .getfield 32, .iload_n 2, .iadd, .iastore, .iinc 2 1] := (rfl)
theorem j_K_split_101 (f : List Instr → Prop) : lk1 g_K_split 101 f = f [.aload_n 0, .getfield 26, .iload_n 3, .aload_n 0, .getfield 29, .iload 4, .iaload, .aload_n 0, .getfield 32, .isub, .iastore] := (rfl)
theorem j_K_split_119 (f : List Instr → Prop) : lk1 g_K_split 119 f = f [.iinc 3 1, .goto (-107)] := (rfl)
theorem j_K_split_125 (f : List Instr → Prop) : lk1 g_K_split 125 f = f [.aload_n 0, .getfield 26, .iconst 0, .aload_n 0, .getfield 23, .iconst 0, .aload_n 0, .getfield 36, .invokestatic 85, .aload_n 0, .iload_n 2, .putfield 39, .iconst 1, .ireturn] := (rfl)
abbrev b_K_made : ByteArray := prog_6_method_3_code
abbrev y_K_made : MethodName := ⟨RX4, "made", "()I"⟩
def k_K_made_0 : List Instr := [.aload_n 0, .getfield 39, .ireturn]
def g_K_made : List (Nat × List Instr) := [(0, k_K_made_0)]
theorem o_K_made : ∀ q ∈ g_K_made, okB b_K_made q.1 q.2 = true := List.all_eq_true.mp (by decide +kernel : g_K_made.all (fun q => okB b_K_made q.1 q.2) = true)
theorem j_K_made_0 (f : List Instr → Prop) : lk1 g_K_made 0 f = f [.aload_n 0, .getfield 39, .ireturn] := (rfl)
abbrev b_K_fill : ByteArray := prog_6_method_11_code
abbrev y_K_fill : MethodName := ⟨RX4, "fill", "([I)V"⟩
def k_K_fill_0 : List Instr := [.iconst 0, .istore_n 2, .iconst 0, .istore_n 3]
def k_K_fill_4 : List Instr := [.iload_n 3, .aload_n 0, .getfield 36, .if_icmp .ge 56, .aload_n 0, .getfield 23, .iload_n 3, .iaload, .iload_n 2, .if_icmp .ne 40, .iconst 2, .iload_n 2, .imul, .iconst 1, .iadd, .aload_n 1, .arraylength, .if_icmp .ge 30, .aload_n 1, .iconst 2, .iload_n 2, .imul, .aload_n 0, .iload_n 3, .iconst 0, .invokevirtual 77, .iastore, .aload_n 1, .iconst 2, .iload_n 2, .imul, .iconst 1, .iadd, .aload_n 0, .iload_n 3, .iconst 1, .invokevirtual 77, .iastore, .iinc 2 1]
def k_K_fill_59 : List Instr := [.iinc 3 1, .goto (-58)]
def k_K_fill_65 : List Instr := [.return_]
def g_K_fill : List (Nat × List Instr) := [(0, k_K_fill_0), (4, k_K_fill_4), (59, k_K_fill_59), (65, k_K_fill_65)]
theorem o_K_fill : ∀ q ∈ g_K_fill, okB b_K_fill q.1 q.2 = true := List.all_eq_true.mp (by decide +kernel : g_K_fill.all (fun q => okB b_K_fill q.1 q.2) = true)
theorem j_K_fill_0 (f : List Instr → Prop) : lk1 g_K_fill 0 f = f [.iconst 0, .istore_n 2, .iconst 0, .istore_n 3] := (rfl)
theorem j_K_fill_4 (f : List Instr → Prop) : lk1 g_K_fill 4 f = f [.iload_n 3, .aload_n 0, .getfield 36, .if_icmp .ge 56, .aload_n 0, .getfield 23, .iload_n 3, .iaload, .iload_n 2, .if_icmp .ne 40, .iconst 2, .iload_n 2, .imul, .iconst 1, .iadd, .aload_n 1, .arraylength, .if_icmp .ge 30, .aload_n 1, .iconst 2, .iload_n 2, .imul, .aload_n 0, .iload_n 3, .iconst 0, .invokevirtual 77, .iastore, .aload_n 1, .iconst 2, .iload_n 2, .imul, .iconst 1, .iadd, .aload_n 0, .iload_n 3, .iconst 1, .invokevirtual 77, .iastore, .iinc 2 1] := (rfl)
theorem j_K_fill_59 (f : List Instr → Prop) : lk1 g_K_fill 59 f = f [.iinc 3 1, .goto (-58)] := (rfl)
theorem j_K_fill_65 (f : List Instr → Prop) : lk1 g_K_fill 65 f = f [.return_] := (rfl)
abbrev b_L_setAll : ByteArray := prog_5_method_2_code
abbrev y_L_setAll : MethodName := ⟨RX3, "setAll", "(J)V"⟩
def k_L_setAll_0 : List Instr := [.aload_n 0, .getfield 11, .iconst 0, .bipush 100, .lload_n 1, .invokestatic 15, .return_]
def g_L_setAll : List (Nat × List Instr) := [(0, k_L_setAll_0)]
theorem o_L_setAll : ∀ q ∈ g_L_setAll, okB b_L_setAll q.1 q.2 = true := List.all_eq_true.mp (by decide +kernel : g_L_setAll.all (fun q => okB b_L_setAll q.1 q.2) = true)
theorem j_L_setAll_0 (f : List Instr → Prop) : lk1 g_L_setAll 0 f = f [.aload_n 0, .getfield 11, .iconst 0, .bipush 100, .lload_n 1, .invokestatic 15, .return_] := (rfl)
abbrev b_L_climb : ByteArray := prog_5_method_5_code
abbrev y_L_climb : MethodName := ⟨RX3, "climb", "(LEvenWire$Wire;I)V"⟩
def k_L_climb_0 : List Instr := [.iconst 1, .istore_n 3]
def k_L_climb_2 : List Instr := [.iload_n 3, .iload_n 2, .if_icmp .gt 81, .iload_n 3, .bipush 61, .if_icmp .ge 75, .iconst 0, .istore 4]
def k_L_climb_16 : List Instr := [.iload 4, .aload_n 1, .invokevirtual 21, .if_icmp .ge 57, .iload 4, .bipush 100, .if_icmp .ge 50, .aload_n 0, .getfield 11, .iload_n 3, .bipush 100, .imul, .iload 4, .iadd, .aload_n 0, .iload_n 3, .iconst 1, .isub, .aload_n 1, .iload 4, .iconst 0, .invokevirtual 27, .invokevirtual 31, .aload_n 0, .iload_n 3, .iconst 1, .isub, .aload_n 1, .iload 4, .iconst 1, .invokevirtual 27, .invokevirtual 31, .ladd, .lastore, .iinc 4 1, .goto (-60)]
def k_L_climb_79 : List Instr := [.iinc 3 1, .goto (-80)]
def k_L_climb_85 : List Instr := [.return_]
def g_L_climb : List (Nat × List Instr) := [(0, k_L_climb_0), (2, k_L_climb_2), (16, k_L_climb_16), (79, k_L_climb_79), (85, k_L_climb_85)]
theorem o_L_climb : ∀ q ∈ g_L_climb, okB b_L_climb q.1 q.2 = true := List.all_eq_true.mp (by decide +kernel : g_L_climb.all (fun q => okB b_L_climb q.1 q.2) = true)
theorem j_L_climb_0 (f : List Instr → Prop) : lk1 g_L_climb 0 f = f [.iconst 1, .istore_n 3] := (rfl)
theorem j_L_climb_2 (f : List Instr → Prop) : lk1 g_L_climb 2 f = f [.iload_n 3, .iload_n 2, .if_icmp .gt 81, .iload_n 3, .bipush 61, .if_icmp .ge 75, .iconst 0, .istore 4] := (rfl)
theorem j_L_climb_16 (f : List Instr → Prop) : lk1 g_L_climb 16 f = f [.iload 4, .aload_n 1, .invokevirtual 21, .if_icmp .ge 57, .iload 4, .bipush 100, .if_icmp .ge 50, .aload_n 0, .getfield 11, .iload_n 3, .bipush 100, .imul, .iload 4, .iadd, .aload_n 0, .iload_n 3, .iconst 1, .isub, .aload_n 1, .iload 4, .iconst 0, .invokevirtual 27, .invokevirtual 31, .aload_n 0, .iload_n 3, .iconst 1, .isub, .aload_n 1, .iload 4, .iconst 1, .invokevirtual 27, .invokevirtual 31, .ladd, .lastore, .iinc 4 1, .goto (-60)] := (rfl)
theorem j_L_climb_79 (f : List Instr → Prop) : lk1 g_L_climb 79 f = f [.iinc 3 1, .goto (-80)] := (rfl)
theorem j_L_climb_85 (f : List Instr → Prop) : lk1 g_L_climb 85 f = f [.return_] := (rfl)
abbrev b_L_at : ByteArray := prog_5_method_4_code
abbrev y_L_at : MethodName := ⟨RX3, "at", "(II)J"⟩
def k_L_at_0 : List Instr := [.iload_n 1, .ifCond .lt 19, .iload_n 1, .bipush 61, .if_icmp .ge 13, .iload_n 2, .ifCond .lt 9, .iload_n 2, .bipush 100, .if_icmp .lt 5]
def k_L_at_20 : List Instr := [.lconst 0, .lreturn]
def k_L_at_22 : List Instr := [.aload_n 0, .getfield 11, .iload_n 1, .bipush 100, .imul, .iload_n 2, .iadd, .laload, .lreturn]
def g_L_at : List (Nat × List Instr) := [(0, k_L_at_0), (20, k_L_at_20), (22, k_L_at_22)]
theorem o_L_at : ∀ q ∈ g_L_at, okB b_L_at q.1 q.2 = true := List.all_eq_true.mp (by decide +kernel : g_L_at.all (fun q => okB b_L_at q.1 q.2) = true)
theorem j_L_at_0 (f : List Instr → Prop) : lk1 g_L_at 0 f = f [.iload_n 1, .ifCond .lt 19, .iload_n 1, .bipush 61, .if_icmp .ge 13, .iload_n 2, .ifCond .lt 9, .iload_n 2, .bipush 100, .if_icmp .lt 5] := (rfl)
theorem j_L_at_20 (f : List Instr → Prop) : lk1 g_L_at 20 f = f [.lconst 0, .lreturn] := (rfl)
theorem j_L_at_22 (f : List Instr → Prop) : lk1 g_L_at 22 f = f [.aload_n 0, .getfield 11, .iload_n 1, .bipush 100, .imul, .iload_n 2, .iadd, .laload, .lreturn] := (rfl)
abbrev b_L_rank : ByteArray := prog_5_method_6_code
abbrev y_L_rank : MethodName := ⟨RX3, "rank", "(LEvenWire$Wire;IJI)J"⟩
def k_L_rank_0 : List Instr := [.lconst 0, .lstore 6, .iload_n 2, .istore 8, .iload 5, .iconst 1, .isub, .istore 9]
def k_L_rank_12 : List Instr := [.iload 9, .ifCond .lt 52, .lload_n 3, .iload 9, .lshr, .l2i, .iconst 1, .iand, .istore 10, .iload 10, .iconst 1, .if_icmp .ne 21, .lload 6, .aload_n 0, .iload 9, .aload_n 1, .iload 8, .iconst 0, .invokevirtual 27, .invokevirtual 31, .ladd, .lstore 6]
def k_L_rank_50 : List Instr := [.aload_n 1, .iload 8, .iload 10, .invokevirtual 27, .istore 8, .iinc 9 (-1), .goto (-51)]
def k_L_rank_66 : List Instr := [.aload_n 0, .iconst 0, .iload 8, .invokevirtual 31, .lconst 0, .lcmp, .ifCond .ne 9, .ldc2_w 35, .goto 5]
def k_L_rank_84 : List Instr := [.lload 6]
def k_L_rank_86 : List Instr := [.lreturn]
def g_L_rank : List (Nat × List Instr) := [(0, k_L_rank_0), (12, k_L_rank_12), (50, k_L_rank_50), (66, k_L_rank_66), (84, k_L_rank_84), (86, k_L_rank_86)]
theorem o_L_rank : ∀ q ∈ g_L_rank, okB b_L_rank q.1 q.2 = true := List.all_eq_true.mp (by decide +kernel : g_L_rank.all (fun q => okB b_L_rank q.1 q.2) = true)
theorem j_L_rank_0 (f : List Instr → Prop) : lk1 g_L_rank 0 f = f [.lconst 0, .lstore 6, .iload_n 2, .istore 8, .iload 5, .iconst 1, .isub, .istore 9] := (rfl)
theorem j_L_rank_12 (f : List Instr → Prop) : lk1 g_L_rank 12 f = f [.iload 9, .ifCond .lt 52, .lload_n 3, .iload 9, .lshr, .l2i, .iconst 1, .iand, .istore 10, .iload 10, .iconst 1, .if_icmp .ne 21, .lload 6, .aload_n 0, .iload 9, .aload_n 1, .iload 8, .iconst 0, .invokevirtual 27, .invokevirtual 31, .ladd, .lstore 6] := (rfl)
theorem j_L_rank_50 (f : List Instr → Prop) : lk1 g_L_rank 50 f = f [.aload_n 1, .iload 8, .iload 10, .invokevirtual 27, .istore 8, .iinc 9 (-1), .goto (-51)] := (rfl)
theorem j_L_rank_66 (f : List Instr → Prop) : lk1 g_L_rank 66 f = f [.aload_n 0, .iconst 0, .iload 8, .invokevirtual 31, .lconst 0, .lcmp, .ifCond .ne 9, .ldc2_w 35, .goto 5] := (rfl)
theorem j_L_rank_84 (f : List Instr → Prop) : lk1 g_L_rank 84 f = f [.lload 6] := (rfl)
theorem j_L_rank_86 (f : List Instr → Prop) : lk1 g_L_rank 86 f = f [.lreturn] := (rfl)
abbrev b_L_pick : ByteArray := prog_5_method_7_code
abbrev y_L_pick : MethodName := ⟨RX3, "pick", "(LEvenWire$Wire;IJI)J"⟩
def k_L_pick_0 : List Instr := [.lload_n 3, .aload_n 0, .iload 5, .iload_n 2, .invokevirtual 31, .lcmp, .ifCond .lt 7, .ldc2_w 35, .lreturn]
def k_L_pick_16 : List Instr := [.lconst 0, .lstore 6, .lload_n 3, .lstore 8, .iload_n 2, .istore 10, .iload 5, .iconst 1, .isub, .istore 11]
def k_L_pick_31 : List Instr := [.iload 11, .ifCond .lt 74, .aload_n 0, .iload 11, .aload_n 1, .iload 10, .iconst 0, .invokevirtual 27, .invokevirtual 31, .lstore 12, .lload 8, .lload 12, .lcmp, .ifCond .ge 7, .iconst 0, .goto 4]
def k_L_pick_63 : List Instr := [.iconst 1]
def k_L_pick_64 : List Instr := [.istore 14, .iload 14, .iconst 1, .if_icmp .ne 10, .lload 8, .lload 12, .lsub, .lstore 8]
def k_L_pick_79 : List Instr := [.ldc2_w 37, .lload 6, .lmul, .iload 14, .i2l, .ladd, .lstore 6, .aload_n 1, .iload 10, .iload 14, .invokevirtual 27, .istore 10, .iinc 11 (-1), .goto (-73)]
def k_L_pick_107 : List Instr := [.lload 6, .lreturn]
def g_L_pick : List (Nat × List Instr) := [(0, k_L_pick_0), (16, k_L_pick_16), (31, k_L_pick_31), (63, k_L_pick_63), (64, k_L_pick_64), (79, k_L_pick_79), (107, k_L_pick_107)]
theorem o_L_pick : ∀ q ∈ g_L_pick, okB b_L_pick q.1 q.2 = true := List.all_eq_true.mp (by decide +kernel : g_L_pick.all (fun q => okB b_L_pick q.1 q.2) = true)
theorem j_L_pick_0 (f : List Instr → Prop) : lk1 g_L_pick 0 f = f [.lload_n 3, .aload_n 0, .iload 5, .iload_n 2, .invokevirtual 31, .lcmp, .ifCond .lt 7, .ldc2_w 35, .lreturn] := (rfl)
theorem j_L_pick_16 (f : List Instr → Prop) : lk1 g_L_pick 16 f = f [.lconst 0, .lstore 6, .lload_n 3, .lstore 8, .iload_n 2, .istore 10, .iload 5, .iconst 1, .isub, .istore 11] := (rfl)
theorem j_L_pick_31 (f : List Instr → Prop) : lk1 g_L_pick 31 f = f [.iload 11, .ifCond .lt 74, .aload_n 0, .iload 11, .aload_n 1, .iload 10, .iconst 0, .invokevirtual 27, .invokevirtual 31, .lstore 12, .lload 8, .lload 12, .lcmp, .ifCond .ge 7, .iconst 0, .goto 4] := (rfl)
theorem j_L_pick_63 (f : List Instr → Prop) : lk1 g_L_pick 63 f = f [.iconst 1] := (rfl)
theorem j_L_pick_64 (f : List Instr → Prop) : lk1 g_L_pick 64 f = f [.istore 14, .iload 14, .iconst 1, .if_icmp .ne 10, .lload 8, .lload 12, .lsub, .lstore 8] := (rfl)
theorem j_L_pick_79 (f : List Instr → Prop) : lk1 g_L_pick 79 f = f [.ldc2_w 37, .lload 6, .lmul, .iload 14, .i2l, .ladd, .lstore 6, .aload_n 1, .iload 10, .iload 14, .invokevirtual 27, .istore 10, .iinc 11 (-1), .goto (-73)] := (rfl)
theorem j_L_pick_107 (f : List Instr → Prop) : lk1 g_L_pick 107 f = f [.lload 6, .lreturn] := (rfl)
abbrev b_L_set : ByteArray := prog_5_method_3_code
abbrev y_L_set : MethodName := ⟨RX3, "set", "(IJ)V"⟩
def k_L_set_0 : List Instr := [.iload_n 1, .ifCond .lt 16, .iload_n 1, .bipush 100, .if_icmp .ge 10, .aload_n 0, .getfield 11, .iload_n 1, .lload_n 2, .lastore]
def k_L_set_17 : List Instr := [.return_]
def g_L_set : List (Nat × List Instr) := [(0, k_L_set_0), (17, k_L_set_17)]
theorem o_L_set : ∀ q ∈ g_L_set, okB b_L_set q.1 q.2 = true := List.all_eq_true.mp (by decide +kernel : g_L_set.all (fun q => okB b_L_set q.1 q.2) = true)
theorem j_L_set_0 (f : List Instr → Prop) : lk1 g_L_set 0 f = f [.iload_n 1, .ifCond .lt 16, .iload_n 1, .bipush 100, .if_icmp .ge 10, .aload_n 0, .getfield 11, .iload_n 1, .lload_n 2, .lastore] := (rfl)
theorem j_L_set_17 (f : List Instr → Prop) : lk1 g_L_set 17 f = f [.return_] := (rfl)
abbrev b_M_runs : ByteArray := prog_11_method_4_code
abbrev y_M_runs : MethodName := ⟨RX9, "runs", "(II)I"⟩
def k_M_runs_0 : List Instr := [.iload_n 1, .ifCond .ne 12, .iload_n 2, .iconst (-1), .if_icmp .ne 7, .iconst 1, .goto 4]
def k_M_runs_13 : List Instr := [.iconst 0]
def k_M_runs_14 : List Instr := [.istore_n 3, .iload_n 3, .ifCond .ne 29, .iload_n 2, .i2l, .lconst 0, .ldc2_w 106, .invokestatic 108, .ifCond .eq 14, .iload_n 1, .i2l, .lconst 0, .iload_n 2, .i2l, .invokestatic 108, .ifCond .ne 6]
def k_M_runs_42 : List Instr := [.bipush (-2), .ireturn]
def k_M_runs_45 : List Instr := [.aload_n 0, .iload_n 1, .putfield 112, .aload_n 0, .iload_n 2, .putfield 7, .iconst 1, .ireturn]
def g_M_runs : List (Nat × List Instr) := [(0, k_M_runs_0), (13, k_M_runs_13), (14, k_M_runs_14), (42, k_M_runs_42), (45, k_M_runs_45)]
theorem o_M_runs : ∀ q ∈ g_M_runs, okB b_M_runs q.1 q.2 = true := List.all_eq_true.mp (by decide +kernel : g_M_runs.all (fun q => okB b_M_runs q.1 q.2) = true)
theorem j_M_runs_0 (f : List Instr → Prop) : lk1 g_M_runs 0 f = f [.iload_n 1, .ifCond .ne 12, .iload_n 2, .iconst (-1), .if_icmp .ne 7, .iconst 1, .goto 4] := (rfl)
theorem j_M_runs_13 (f : List Instr → Prop) : lk1 g_M_runs 13 f = f [.iconst 0] := (rfl)
theorem j_M_runs_14 (f : List Instr → Prop) : lk1 g_M_runs 14 f = f [.istore_n 3, .iload_n 3, .ifCond .ne 29, .iload_n 2, .i2l, .lconst 0, .ldc2_w 106, .invokestatic 108, .ifCond .eq 14, .iload_n 1, .i2l, .lconst 0, .iload_n 2, .i2l, .invokestatic 108, .ifCond .ne 6] := (rfl)
theorem j_M_runs_42 (f : List Instr → Prop) : lk1 g_M_runs 42 f = f [.bipush (-2), .ireturn] := (rfl)
theorem j_M_runs_45 (f : List Instr → Prop) : lk1 g_M_runs 45 f = f [.aload_n 0, .iload_n 1, .putfield 112, .aload_n 0, .iload_n 2, .putfield 7, .iconst 1, .ireturn] := (rfl)
abbrev b_M_in : ByteArray := prog_11_method_3_code
abbrev y_M_in : MethodName := ⟨RX9, "in", "(JJJ)Z"⟩
def k_M_in_0 : List Instr := [.lload_n 0, .lload_n 2, .lcmp, .ifCond .lt 14, .lload_n 0, .lload 4, .lcmp, .ifCond .gt 7, .iconst 1, .goto 4]
def k_M_in_17 : List Instr := [.iconst 0]
def k_M_in_18 : List Instr := [.ireturn]
def g_M_in : List (Nat × List Instr) := [(0, k_M_in_0), (17, k_M_in_17), (18, k_M_in_18)]
theorem o_M_in : ∀ q ∈ g_M_in, okB b_M_in q.1 q.2 = true := List.all_eq_true.mp (by decide +kernel : g_M_in.all (fun q => okB b_M_in q.1 q.2) = true)
theorem j_M_in_0 (f : List Instr → Prop) : lk1 g_M_in 0 f = f [.lload_n 0, .lload_n 2, .lcmp, .ifCond .lt 14, .lload_n 0, .lload 4, .lcmp, .ifCond .gt 7, .iconst 1, .goto 4] := (rfl)
theorem j_M_in_17 (f : List Instr → Prop) : lk1 g_M_in 17 f = f [.iconst 0] := (rfl)
theorem j_M_in_18 (f : List Instr → Prop) : lk1 g_M_in 18 f = f [.ireturn] := (rfl)
abbrev b_M_word : ByteArray := prog_11_method_5_code
abbrev y_M_word : MethodName := ⟨RX9, "word", "(II)I"⟩
def k_M_word_0 : List Instr := [.iload_n 2, .i2l, .lconst 1, .ldc2_w 115, .invokestatic 108, .ifCond .eq 18, .iload_n 1, .i2l, .lconst 0, .iconst 1, .iload_n 2, .ishl, .iconst 1, .isub, .i2l, .invokestatic 108, .ifCond .ne 6]
def k_M_word_27 : List Instr := [.bipush (-2), .ireturn]
def k_M_word_30 : List Instr := [.aload_n 0, .getfield 117, .iconst 4, .if_icmp .ne 6, .bipush (-4), .ireturn]
def k_M_word_41 : List Instr := [.aload_n 0, .getfield 13, .aload_n 0, .getfield 117, .iload_n 1, .iastore, .aload_n 0, .getfield 17, .aload_n 0, .getfield 117, .iload_n 2, .iastore, .aload_n 0, .dup, .getfield 117, .iconst 1, .iadd, .putfield 117, .aload_n 0, .getfield 117, .ireturn]
def g_M_word : List (Nat × List Instr) := [(0, k_M_word_0), (27, k_M_word_27), (30, k_M_word_30), (41, k_M_word_41)]
theorem o_M_word : ∀ q ∈ g_M_word, okB b_M_word q.1 q.2 = true := List.all_eq_true.mp (by decide +kernel : g_M_word.all (fun q => okB b_M_word q.1 q.2) = true)
theorem j_M_word_0 (f : List Instr → Prop) : lk1 g_M_word 0 f = f [.iload_n 2, .i2l, .lconst 1, .ldc2_w 115, .invokestatic 108, .ifCond .eq 18, .iload_n 1, .i2l, .lconst 0, .iconst 1, .iload_n 2, .ishl, .iconst 1, .isub, .i2l, .invokestatic 108, .ifCond .ne 6] := (rfl)
theorem j_M_word_27 (f : List Instr → Prop) : lk1 g_M_word 27 f = f [.bipush (-2), .ireturn] := (rfl)
theorem j_M_word_30 (f : List Instr → Prop) : lk1 g_M_word 30 f = f [.aload_n 0, .getfield 117, .iconst 4, .if_icmp .ne 6, .bipush (-4), .ireturn] := (rfl)
theorem j_M_word_41 (f : List Instr → Prop) : lk1 g_M_word 41 f = f [.aload_n 0, .getfield 13, .aload_n 0, .getfield 117, .iload_n 1, .iastore, .aload_n 0, .getfield 17, .aload_n 0, .getfield 117, .iload_n 2, .iastore, .aload_n 0, .dup, .getfield 117, .iconst 1, .iadd, .putfield 117, .aload_n 0, .getfield 117, .ireturn] := (rfl)
abbrev b_M_clearWords : ByteArray := prog_11_method_6_code
abbrev y_M_clearWords : MethodName := ⟨RX9, "clearWords", "()I"⟩
def k_M_clearWords_0 : List Instr := [.aload_n 0, .getfield 117, .istore_n 1, .aload_n 0, .iconst 0, .putfield 117, .iload_n 1, .ireturn]
def g_M_clearWords : List (Nat × List Instr) := [(0, k_M_clearWords_0)]
theorem o_M_clearWords : ∀ q ∈ g_M_clearWords, okB b_M_clearWords q.1 q.2 = true := List.all_eq_true.mp (by decide +kernel : g_M_clearWords.all (fun q => okB b_M_clearWords q.1 q.2) = true)
theorem j_M_clearWords_0 (f : List Instr → Prop) : lk1 g_M_clearWords 0 f = f [.aload_n 0, .getfield 117, .istore_n 1, .aload_n 0, .iconst 0, .putfield 117, .iload_n 1, .ireturn] := (rfl)
abbrev b_M_lean : ByteArray := prog_11_method_7_code
abbrev y_M_lean : MethodName := ⟨RX9, "lean", "(I)I"⟩
def k_M_lean_0 : List Instr := [.iload_n 1, .i2l, .ldc2_w 120, .ldc2_w 122, .invokestatic 108, .ifCond .ne 6, .bipush (-2), .ireturn]
def k_M_lean_17 : List Instr := [.aload_n 0, .iload_n 1, .putfield 20, .iconst 1, .ireturn]
def g_M_lean : List (Nat × List Instr) := [(0, k_M_lean_0), (17, k_M_lean_17)]
theorem o_M_lean : ∀ q ∈ g_M_lean, okB b_M_lean q.1 q.2 = true := List.all_eq_true.mp (by decide +kernel : g_M_lean.all (fun q => okB b_M_lean q.1 q.2) = true)
theorem j_M_lean_0 (f : List Instr → Prop) : lk1 g_M_lean 0 f = f [.iload_n 1, .i2l, .ldc2_w 120, .ldc2_w 122, .invokestatic 108, .ifCond .ne 6, .bipush (-2), .ireturn] := (rfl)
theorem j_M_lean_17 (f : List Instr → Prop) : lk1 g_M_lean 17 f = f [.aload_n 0, .iload_n 1, .putfield 20, .iconst 1, .ireturn] := (rfl)
abbrev b_M_ban : ByteArray := prog_11_method_8_code
abbrev y_M_ban : MethodName := ⟨RX9, "ban", "(I)I"⟩
def k_M_ban_0 : List Instr := [.iload_n 1, .i2l, .ldc2_w 124, .bipush 9, .aload_n 0, .getfield 117, .iadd, .i2l, .invokestatic 108, .ifCond .eq 13, .aload_n 0, .getfield 13, .iload_n 1, .bipush 10, .isub, .iaload, .ireturn]
def k_M_ban_29 : List Instr := [.iload_n 1, .i2l, .ldc2_w 126, .bipush 19, .aload_n 0, .getfield 117, .iadd, .i2l, .invokestatic 108, .ifCond .eq 13, .aload_n 0, .getfield 17, .iload_n 1, .bipush 20, .isub, .iaload, .ireturn]
def k_M_ban_58 : List Instr := [.iload_n 1, .tableswitch 49 0 3 #[29, 34, 39, 44]]
def k_M_ban_88 : List Instr := [.aload_n 0, .getfield 112, .ireturn]
def k_M_ban_93 : List Instr := [.aload_n 0, .getfield 7, .ireturn]
def k_M_ban_98 : List Instr := [.aload_n 0, .getfield 117, .ireturn]
def k_M_ban_103 : List Instr := [.aload_n 0, .getfield 20, .ireturn]
def k_M_ban_108 : List Instr := [.bipush (-2), .ireturn]
def g_M_ban : List (Nat × List Instr) := [(0, k_M_ban_0), (29, k_M_ban_29), (58, k_M_ban_58), (88, k_M_ban_88), (93, k_M_ban_93), (98, k_M_ban_98), (103, k_M_ban_103), (108, k_M_ban_108)]
theorem o_M_ban : ∀ q ∈ g_M_ban, okB b_M_ban q.1 q.2 = true := List.all_eq_true.mp (by decide +kernel : g_M_ban.all (fun q => okB b_M_ban q.1 q.2) = true)
theorem j_M_ban_0 (f : List Instr → Prop) : lk1 g_M_ban 0 f = f [.iload_n 1, .i2l, .ldc2_w 124, .bipush 9, .aload_n 0, .getfield 117, .iadd, .i2l, .invokestatic 108, .ifCond .eq 13, .aload_n 0, .getfield 13, .iload_n 1, .bipush 10, .isub, .iaload, .ireturn] := (rfl)
theorem j_M_ban_29 (f : List Instr → Prop) : lk1 g_M_ban 29 f = f [.iload_n 1, .i2l, .ldc2_w 126, .bipush 19, .aload_n 0, .getfield 117, .iadd, .i2l, .invokestatic 108, .ifCond .eq 13, .aload_n 0, .getfield 17, .iload_n 1, .bipush 20, .isub, .iaload, .ireturn] := (rfl)
theorem j_M_ban_58 (f : List Instr → Prop) : lk1 g_M_ban 58 f = f [.iload_n 1, .tableswitch 49 0 3 #[29, 34, 39, 44]] := (rfl)
theorem j_M_ban_88 (f : List Instr → Prop) : lk1 g_M_ban 88 f = f [.aload_n 0, .getfield 112, .ireturn] := (rfl)
theorem j_M_ban_93 (f : List Instr → Prop) : lk1 g_M_ban 93 f = f [.aload_n 0, .getfield 7, .ireturn] := (rfl)
theorem j_M_ban_98 (f : List Instr → Prop) : lk1 g_M_ban 98 f = f [.aload_n 0, .getfield 117, .ireturn] := (rfl)
theorem j_M_ban_103 (f : List Instr → Prop) : lk1 g_M_ban 103 f = f [.aload_n 0, .getfield 20, .ireturn] := (rfl)
theorem j_M_ban_108 (f : List Instr → Prop) : lk1 g_M_ban 108 f = f [.bipush (-2), .ireturn] := (rfl)
abbrev b_M_build : ByteArray := prog_11_method_21_code
abbrev y_M_build : MethodName := ⟨RX9, "build", "()I"⟩
def k_M_build_0 : List Instr := [.aload_n 0, .getfield 163, .bipush 40, .if_icmp .ne 6, .bipush (-4), .ireturn]
def k_M_build_12 : List Instr := [.aload_n 0, .dup, .getfield 163, .iconst 1, .iadd, .putfield 163, .aload_n 0, .invokevirtual 166, .aload_n 0, .invokevirtual 169, .aload_n 0, .getfield 35, .iconst 0, .baload, .ifCond .eq 15, .aload_n 0, .invokevirtual 172, .bipush 100, .if_icmp .le 6, .bipush (-4), .ireturn]
def k_M_build_51 : List Instr := [.aload_n 0, .iconst 0, .putfield 160, .iconst 0, .istore_n 1]
def k_M_build_58 : List Instr := [.iload_n 1, .bipush 101, .if_icmp .ge 16, .aload_n 0, .getfield 69, .iload_n 1, .iconst (-1), .iastore, .iinc 1 1, .goto (-16)]
def k_M_build_77 : List Instr := [.aload_n 0, .iconst 0, .iconst (-1), .iconst 0, .invokevirtual 175, .istore_n 1, .iconst 0, .istore_n 2]
def k_M_build_87 : List Instr := [.iload_n 2, .aload_n 0, .getfield 160, .if_icmp .ge 55, .aload_n 0, .getfield 54, .iload_n 2, .aload_n 0, .aload_n 0, .getfield 29, .aload_n 0, .getfield 72, .iload_n 2, .iaload, .iaload, .iload_n 2, .iconst 0, .invokevirtual 175, .iastore, .aload_n 0, .getfield 57, .iload_n 2, .aload_n 0, .aload_n 0, .getfield 32, .aload_n 0, .getfield 72, .iload_n 2, .iaload, .iaload, .iload_n 2, .iconst 1, .invokevirtual 175, .iastore, .iinc 2 1, .goto (-57)]
def k_M_build_147 : List Instr := [.iconst 0, .istore_n 2]
def k_M_build_149 : List Instr := [.iload_n 2, .bipush 100, .if_icmp .ge 16, .aload_n 0, .getfield 75, .iload_n 2, .iconst 0, .iastore, .iinc 2 1, .goto (-16)]
def k_M_build_168 : List Instr := [.aload_n 0, .iconst 0, .putfield 179, .aload_n 0, .iconst 0, .putfield 182, .aload_n 0, .getfield 160, .ireturn]
def g_M_build : List (Nat × List Instr) := [(0, k_M_build_0), (12, k_M_build_12), (51, k_M_build_51), (58, k_M_build_58), (77, k_M_build_77), (87, k_M_build_87), (147, k_M_build_147), (149, k_M_build_149), (168, k_M_build_168)]
theorem o_M_build : ∀ q ∈ g_M_build, okB b_M_build q.1 q.2 = true := List.all_eq_true.mp (by decide +kernel : g_M_build.all (fun q => okB b_M_build q.1 q.2) = true)
theorem j_M_build_0 (f : List Instr → Prop) : lk1 g_M_build 0 f = f [.aload_n 0, .getfield 163, .bipush 40, .if_icmp .ne 6, .bipush (-4), .ireturn] := (rfl)
theorem j_M_build_12 (f : List Instr → Prop) : lk1 g_M_build 12 f = f [.aload_n 0, .dup, .getfield 163, .iconst 1, .iadd, .putfield 163, .aload_n 0, .invokevirtual 166, .aload_n 0, .invokevirtual 169, .aload_n 0, .getfield 35, .iconst 0, .baload, .ifCond .eq 15, .aload_n 0, .invokevirtual 172, .bipush 100, .if_icmp .le 6, .bipush (-4), .ireturn] := (rfl)
theorem j_M_build_51 (f : List Instr → Prop) : lk1 g_M_build 51 f = f [.aload_n 0, .iconst 0, .putfield 160, .iconst 0, .istore_n 1] := (rfl)
theorem j_M_build_58 (f : List Instr → Prop) : lk1 g_M_build 58 f = f [.iload_n 1, .bipush 101, .if_icmp .ge 16, .aload_n 0, .getfield 69, .iload_n 1, .iconst (-1), .iastore, .iinc 1 1, .goto (-16)] := (rfl)
theorem j_M_build_77 (f : List Instr → Prop) : lk1 g_M_build 77 f = f [.aload_n 0, .iconst 0, .iconst (-1), .iconst 0, .invokevirtual 175, .istore_n 1, .iconst 0, .istore_n 2] := (rfl)
theorem j_M_build_87 (f : List Instr → Prop) : lk1 g_M_build 87 f = f [.iload_n 2, .aload_n 0, .getfield 160, .if_icmp .ge 55, .aload_n 0, .getfield 54, .iload_n 2, .aload_n 0, .aload_n 0, .getfield 29, .aload_n 0, .getfield 72, .iload_n 2, .iaload, .iaload, .iload_n 2, .iconst 0, .invokevirtual 175, .iastore, .aload_n 0, .getfield 57, .iload_n 2, .aload_n 0, .aload_n 0, .getfield 32, .aload_n 0, .getfield 72, .iload_n 2, .iaload, .iaload, .iload_n 2, .iconst 1, .invokevirtual 175, .iastore, .iinc 2 1, .goto (-57)] := (rfl)
theorem j_M_build_147 (f : List Instr → Prop) : lk1 g_M_build 147 f = f [.iconst 0, .istore_n 2] := (rfl)
theorem j_M_build_149 (f : List Instr → Prop) : lk1 g_M_build 149 f = f [.iload_n 2, .bipush 100, .if_icmp .ge 16, .aload_n 0, .getfield 75, .iload_n 2, .iconst 0, .iastore, .iinc 2 1, .goto (-16)] := (rfl)
theorem j_M_build_168 (f : List Instr → Prop) : lk1 g_M_build 168 f = f [.aload_n 0, .iconst 0, .putfield 179, .aload_n 0, .iconst 0, .putfield 182, .aload_n 0, .getfield 160, .ireturn] := (rfl)
abbrev b_M_findRaws : ByteArray := prog_11_method_14_code
abbrev y_M_findRaws : MethodName := ⟨RX9, "findRaws", "()V"⟩
def k_M_findRaws_0 : List Instr := [.iconst 0, .istore_n 1]
def k_M_findRaws_2 : List Instr := [.iload_n 1, .sipush 11264, .if_icmp .ge 16, .aload_n 0, .getfield 23, .iload_n 1, .iconst (-1), .iastore, .iinc 1 1, .goto (-17)]
def k_M_findRaws_22 : List Instr := [.aload_n 0, .iconst 0, .putfield 140, .aload_n 0, .iconst 0, .iconst 0, .iconst 1, .iconst 0, .invokestatic 136, .invokevirtual 143, .istore_n 1, .iconst 0, .istore_n 2]
def k_M_findRaws_41 : List Instr := [.iload_n 2, .aload_n 0, .getfield 140, .if_icmp .ge 58, .aload_n 0, .getfield 29, .iload_n 2, .aload_n 0, .aload_n 0, .aload_n 0, .getfield 26, .iload_n 2, .iaload, .iconst 0, .invokevirtual 147, .invokevirtual 143, .iastore, .aload_n 0, .getfield 32, .iload_n 2, .aload_n 0, .aload_n 0, .aload_n 0, .getfield 26, .iload_n 2, .iaload, .iconst 1, .invokevirtual 147, .invokevirtual 143, .iastore, .aload_n 0, .getfield 35, .iload_n 2, .iconst 1, .bastore, .iinc 2 1, .goto (-60)]
def k_M_findRaws_104 : List Instr := [.return_]
def g_M_findRaws : List (Nat × List Instr) := [(0, k_M_findRaws_0), (2, k_M_findRaws_2), (22, k_M_findRaws_22), (41, k_M_findRaws_41), (104, k_M_findRaws_104)]
theorem o_M_findRaws : ∀ q ∈ g_M_findRaws, okB b_M_findRaws q.1 q.2 = true := List.all_eq_true.mp (by decide +kernel : g_M_findRaws.all (fun q => okB b_M_findRaws q.1 q.2) = true)
theorem j_M_findRaws_0 (f : List Instr → Prop) : lk1 g_M_findRaws 0 f = f [.iconst 0, .istore_n 1] := (rfl)
theorem j_M_findRaws_2 (f : List Instr → Prop) : lk1 g_M_findRaws 2 f = f [.iload_n 1, .sipush 11264, .if_icmp .ge 16, .aload_n 0, .getfield 23, .iload_n 1, .iconst (-1), .iastore, .iinc 1 1, .goto (-17)] := (rfl)
theorem j_M_findRaws_22 (f : List Instr → Prop) : lk1 g_M_findRaws 22 f = f [.aload_n 0, .iconst 0, .putfield 140, .aload_n 0, .iconst 0, .iconst 0, .iconst 1, .iconst 0, .invokestatic 136, .invokevirtual 143, .istore_n 1, .iconst 0, .istore_n 2] := (rfl)
theorem j_M_findRaws_41 (f : List Instr → Prop) : lk1 g_M_findRaws 41 f = f [.iload_n 2, .aload_n 0, .getfield 140, .if_icmp .ge 58, .aload_n 0, .getfield 29, .iload_n 2, .aload_n 0, .aload_n 0, .aload_n 0, .getfield 26, .iload_n 2, .iaload, .iconst 0, .invokevirtual 147, .invokevirtual 143, .iastore, .aload_n 0, .getfield 32, .iload_n 2, .aload_n 0, .aload_n 0, .aload_n 0, .getfield 26, .iload_n 2, .iaload, .iconst 1, .invokevirtual 147, .invokevirtual 143, .iastore, .aload_n 0, .getfield 35, .iload_n 2, .iconst 1, .bastore, .iinc 2 1, .goto (-60)] := (rfl)
theorem j_M_findRaws_104 (f : List Instr → Prop) : lk1 g_M_findRaws 104 f = f [.return_] := (rfl)
abbrev b_M_codeOf : ByteArray := prog_11_method_9_code
abbrev y_M_codeOf : MethodName := ⟨RX9, "codeOf", "(IIII)I"⟩
def k_M_codeOf_0 : List Instr := [.iconst 2, .iload_n 0, .imul, .iload_n 1, .iadd, .bipush 64, .imul, .iload_n 2, .iadd, .bipush 11, .imul, .iload_n 3, .iadd, .iconst 5, .iadd, .ireturn]
def g_M_codeOf : List (Nat × List Instr) := [(0, k_M_codeOf_0)]
theorem o_M_codeOf : ∀ q ∈ g_M_codeOf, okB b_M_codeOf q.1 q.2 = true := List.all_eq_true.mp (by decide +kernel : g_M_codeOf.all (fun q => okB b_M_codeOf q.1 q.2) = true)
theorem j_M_codeOf_0 (f : List Instr → Prop) : lk1 g_M_codeOf 0 f = f [.iconst 2, .iload_n 0, .imul, .iload_n 1, .iadd, .bipush 64, .imul, .iload_n 2, .iadd, .bipush 11, .imul, .iload_n 3, .iadd, .iconst 5, .iadd, .ireturn] := (rfl)
abbrev b_M_rawOf : ByteArray := prog_11_method_13_code
abbrev y_M_rawOf : MethodName := ⟨RX9, "rawOf", "(I)I"⟩
def k_M_rawOf_0 : List Instr := [.iload_n 1, .iconst (-1), .if_icmp .ne 5, .iconst (-1), .ireturn]
def k_M_rawOf_7 : List Instr := [.aload_n 0, .getfield 23, .iload_n 1, .iaload, .iconst (-1), .if_icmp .ne 33, .aload_n 0, .getfield 23, .iload_n 1, .aload_n 0, .getfield 140, .iastore, .aload_n 0, .getfield 26, .aload_n 0, .getfield 140, .iload_n 1, .iastore, .aload_n 0, .dup, .getfield 140, .iconst 1, .iadd, .putfield 140]
def k_M_rawOf_47 : List Instr := [.aload_n 0, .getfield 23, .iload_n 1, .iaload, .ireturn]
def g_M_rawOf : List (Nat × List Instr) := [(0, k_M_rawOf_0), (7, k_M_rawOf_7), (47, k_M_rawOf_47)]
theorem o_M_rawOf : ∀ q ∈ g_M_rawOf, okB b_M_rawOf q.1 q.2 = true := List.all_eq_true.mp (by decide +kernel : g_M_rawOf.all (fun q => okB b_M_rawOf q.1 q.2) = true)
theorem j_M_rawOf_0 (f : List Instr → Prop) : lk1 g_M_rawOf 0 f = f [.iload_n 1, .iconst (-1), .if_icmp .ne 5, .iconst (-1), .ireturn] := (rfl)
theorem j_M_rawOf_7 (f : List Instr → Prop) : lk1 g_M_rawOf 7 f = f [.aload_n 0, .getfield 23, .iload_n 1, .iaload, .iconst (-1), .if_icmp .ne 33, .aload_n 0, .getfield 23, .iload_n 1, .aload_n 0, .getfield 140, .iastore, .aload_n 0, .getfield 26, .aload_n 0, .getfield 140, .iload_n 1, .iastore, .aload_n 0, .dup, .getfield 140, .iconst 1, .iadd, .putfield 140] := (rfl)
theorem j_M_rawOf_47 (f : List Instr → Prop) : lk1 g_M_rawOf 47 f = f [.aload_n 0, .getfield 23, .iload_n 1, .iaload, .ireturn] := (rfl)
abbrev b_M_behind : ByteArray := prog_11_method_12_code
abbrev y_M_behind : MethodName := ⟨RX9, "behind", "(II)I"⟩
def k_M_behind_0 : List Instr := [.iload_n 1, .bipush 11, .irem, .iconst 5, .isub, .istore_n 3, .iload_n 1, .bipush 11, .idiv, .bipush 64, .irem, .istore 4, .iload_n 1, .sipush 704, .idiv, .iconst 2, .irem, .istore 5, .iload_n 1, .sipush 1408, .idiv, .istore 6, .aload_n 0, .getfield 7, .ifCond .lt 65, .iload_n 2, .ifCond .ne 12, .iload 6, .aload_n 0, .getfield 7, .if_icmp .eq 23]
def k_M_behind_52 : List Instr := [.iload_n 2, .iconst 1, .if_icmp .ne 20, .iload 5, .iconst 1, .if_icmp .ne 14, .iload 6, .aload_n 0, .getfield 112, .if_icmp .ge 5]
def k_M_behind_72 : List Instr := [.iconst (-1), .ireturn]
def k_M_behind_74 : List Instr := [.iload_n 2, .ifCond .ne 10, .iload 6, .iconst 1, .iadd, .goto 4]
def k_M_behind_85 : List Instr := [.iconst 0]
def k_M_behind_86 : List Instr := [.istore 6, .iload_n 2, .iconst 1, .if_icmp .ne 7, .iconst 1, .goto 5]
def k_M_behind_97 : List Instr := [.iload 5]
def k_M_behind_99 : List Instr := [.istore 5]
def k_M_behind_101 : List Instr := [.aload_n 0, .getfield 20, .ifCond .lt 37, .iload_n 3, .iload_n 2, .iconst 1, .if_icmp .ne 7, .iconst 1, .goto 4]
def k_M_behind_118 : List Instr := [.iconst (-1)]
def k_M_behind_119 : List Instr := [.iadd, .istore_n 3, .iload_n 3, .i2l, .aload_n 0, .getfield 20, .ineg, .i2l, .aload_n 0, .getfield 20, .i2l, .invokestatic 108, .ifCond .ne 5, .iconst (-1), .ireturn]
def k_M_behind_142 : List Instr := [.iconst 2, .iload 4, .imul, .iload_n 2, .iadd, .istore 7, .aload_n 0, .iload 7, .invokevirtual 128, .ifCond .eq 5, .iconst (-1), .ireturn]
def k_M_behind_161 : List Instr := [.aload_n 0, .invokevirtual 132, .iconst 1, .isub, .istore 8, .iload 8, .ifCond .ge 7, .iconst 0, .goto 5]
def k_M_behind_178 : List Instr := [.iload 8]
def k_M_behind_180 : List Instr := [.istore 8]
def k_M_behind_182 : List Instr := [.iload 7, .iload 8, .ishr, .iconst 1, .if_icmp .le 44, .iconst 0, .istore 9]
def k_M_behind_194 : List Instr := [.iload 7, .iload 9, .ishr, .iconst 1, .if_icmp .le 9, .iinc 9 1, .goto (-12)]
def k_M_behind_209 : List Instr := [.iload 7, .iconst 1, .iload 9, .iconst 1, .isub, .ishl, .iconst 1, .isub, .iand, .iconst 1, .iload 9, .iconst 1, .isub, .ishl, .ior, .istore 7, .goto (-47)]
def k_M_behind_232 : List Instr := [.iload 6, .iload 5, .iload 7, .iload_n 3, .invokestatic 136, .ireturn]
def g_M_behind : List (Nat × List Instr) := [(0, k_M_behind_0), (52, k_M_behind_52), (72, k_M_behind_72), (74, k_M_behind_74), (85, k_M_behind_85), (86, k_M_behind_86), (97, k_M_behind_97), (99, k_M_behind_99), (101, k_M_behind_101), (118, k_M_behind_118), (119, k_M_behind_119), (142, k_M_behind_142), (161, k_M_behind_161), (178, k_M_behind_178), (180, k_M_behind_180), (182, k_M_behind_182), (194, k_M_behind_194), (209, k_M_behind_209), (232, k_M_behind_232)]
theorem o_M_behind : ∀ q ∈ g_M_behind, okB b_M_behind q.1 q.2 = true := List.all_eq_true.mp (by decide +kernel : g_M_behind.all (fun q => okB b_M_behind q.1 q.2) = true)
theorem j_M_behind_0 (f : List Instr → Prop) : lk1 g_M_behind 0 f = f [.iload_n 1, .bipush 11, .irem, .iconst 5, .isub, .istore_n 3, .iload_n 1, .bipush 11, .idiv, .bipush 64, .irem, .istore 4, .iload_n 1, .sipush 704, .idiv, .iconst 2, .irem, .istore 5, .iload_n 1, .sipush 1408, .idiv, .istore 6, .aload_n 0, .getfield 7, .ifCond .lt 65, .iload_n 2, .ifCond .ne 12, .iload 6, .aload_n 0, .getfield 7, .if_icmp .eq 23] := (rfl)
theorem j_M_behind_52 (f : List Instr → Prop) : lk1 g_M_behind 52 f = f [.iload_n 2, .iconst 1, .if_icmp .ne 20, .iload 5, .iconst 1, .if_icmp .ne 14, .iload 6, .aload_n 0, .getfield 112, .if_icmp .ge 5] := (rfl)
theorem j_M_behind_72 (f : List Instr → Prop) : lk1 g_M_behind 72 f = f [.iconst (-1), .ireturn] := (rfl)
theorem j_M_behind_74 (f : List Instr → Prop) : lk1 g_M_behind 74 f = f [.iload_n 2, .ifCond .ne 10, .iload 6, .iconst 1, .iadd, .goto 4] := (rfl)
theorem j_M_behind_85 (f : List Instr → Prop) : lk1 g_M_behind 85 f = f [.iconst 0] := (rfl)
theorem j_M_behind_86 (f : List Instr → Prop) : lk1 g_M_behind 86 f = f [.istore 6, .iload_n 2, .iconst 1, .if_icmp .ne 7, .iconst 1, .goto 5] := (rfl)
theorem j_M_behind_97 (f : List Instr → Prop) : lk1 g_M_behind 97 f = f [.iload 5] := (rfl)
theorem j_M_behind_99 (f : List Instr → Prop) : lk1 g_M_behind 99 f = f [.istore 5] := (rfl)
theorem j_M_behind_101 (f : List Instr → Prop) : lk1 g_M_behind 101 f = f [.aload_n 0, .getfield 20, .ifCond .lt 37, .iload_n 3, .iload_n 2, .iconst 1, .if_icmp .ne 7, .iconst 1, .goto 4] := (rfl)
theorem j_M_behind_118 (f : List Instr → Prop) : lk1 g_M_behind 118 f = f [.iconst (-1)] := (rfl)
theorem j_M_behind_119 (f : List Instr → Prop) : lk1 g_M_behind 119 f = f [.iadd, .istore_n 3, .iload_n 3, .i2l, .aload_n 0, .getfield 20, .ineg, .i2l, .aload_n 0, .getfield 20, .i2l, .invokestatic 108, .ifCond .ne 5, .iconst (-1), .ireturn] := (rfl)
theorem j_M_behind_142 (f : List Instr → Prop) : lk1 g_M_behind 142 f = f [.iconst 2, .iload 4, .imul, .iload_n 2, .iadd, .istore 7, .aload_n 0, .iload 7, .invokevirtual 128, .ifCond .eq 5, .iconst (-1), .ireturn] := (rfl)
theorem j_M_behind_161 (f : List Instr → Prop) : lk1 g_M_behind 161 f = f [.aload_n 0, .invokevirtual 132, .iconst 1, .isub, .istore 8, .iload 8, .ifCond .ge 7, .iconst 0, .goto 5] := (rfl)
theorem j_M_behind_178 (f : List Instr → Prop) : lk1 g_M_behind 178 f = f [.iload 8] := (rfl)
theorem j_M_behind_180 (f : List Instr → Prop) : lk1 g_M_behind 180 f = f [.istore 8] := (rfl)
theorem j_M_behind_182 (f : List Instr → Prop) : lk1 g_M_behind 182 f = f [.iload 7, .iload 8, .ishr, .iconst 1, .if_icmp .le 44, .iconst 0, .istore 9] := (rfl)
theorem j_M_behind_194 (f : List Instr → Prop) : lk1 g_M_behind 194 f = f [.iload 7, .iload 9, .ishr, .iconst 1, .if_icmp .le 9, .iinc 9 1, .goto (-12)] := (rfl)
theorem j_M_behind_209 (f : List Instr → Prop) : lk1 g_M_behind 209 f = f [.iload 7, .iconst 1, .iload 9, .iconst 1, .isub, .ishl, .iconst 1, .isub, .iand, .iconst 1, .iload 9, .iconst 1, .isub, .ishl, .ior, .istore 7, .goto (-47)] := (rfl)
theorem j_M_behind_232 (f : List Instr → Prop) : lk1 g_M_behind 232 f = f [.iload 6, .iload 5, .iload 7, .iload_n 3, .invokestatic 136, .ireturn] := (rfl)
abbrev b_M_endsBanned : ByteArray := prog_11_method_11_code
abbrev y_M_endsBanned : MethodName := ⟨RX9, "endsBanned", "(I)Z"⟩
def k_M_endsBanned_0 : List Instr := [.iconst 0, .istore_n 2]
def k_M_endsBanned_2 : List Instr := [.iload_n 1, .iload_n 2, .ishr, .iconst 1, .if_icmp .le 9, .iinc 2 1, .goto (-10)]
def k_M_endsBanned_15 : List Instr := [.iconst 0, .istore_n 3]
def k_M_endsBanned_17 : List Instr := [.iload_n 3, .aload_n 0, .getfield 117, .if_icmp .ge 42, .aload_n 0, .getfield 17, .iload_n 3, .iaload, .iload_n 2, .if_icmp .gt 26, .iload_n 1, .iconst 1, .aload_n 0, .getfield 17, .iload_n 3, .iaload, .ishl, .iconst 1, .isub, .iand, .aload_n 0, .getfield 13, .iload_n 3, .iaload, .if_icmp .ne 5, .iconst 1, .ireturn]
def k_M_endsBanned_58 : List Instr := [.iinc 3 1, .goto (-44)]
def k_M_endsBanned_64 : List Instr := [.iconst 0, .ireturn]
def g_M_endsBanned : List (Nat × List Instr) := [(0, k_M_endsBanned_0), (2, k_M_endsBanned_2), (15, k_M_endsBanned_15), (17, k_M_endsBanned_17), (58, k_M_endsBanned_58), (64, k_M_endsBanned_64)]
theorem o_M_endsBanned : ∀ q ∈ g_M_endsBanned, okB b_M_endsBanned q.1 q.2 = true := List.all_eq_true.mp (by decide +kernel : g_M_endsBanned.all (fun q => okB b_M_endsBanned q.1 q.2) = true)
theorem j_M_endsBanned_0 (f : List Instr → Prop) : lk1 g_M_endsBanned 0 f = f [.iconst 0, .istore_n 2] := (rfl)
theorem j_M_endsBanned_2 (f : List Instr → Prop) : lk1 g_M_endsBanned 2 f = f [.iload_n 1, .iload_n 2, .ishr, .iconst 1, .if_icmp .le 9, .iinc 2 1, .goto (-10)] := (rfl)
theorem j_M_endsBanned_15 (f : List Instr → Prop) : lk1 g_M_endsBanned 15 f = f [.iconst 0, .istore_n 3] := (rfl)
theorem j_M_endsBanned_17 (f : List Instr → Prop) : lk1 g_M_endsBanned 17 f = f [.iload_n 3, .aload_n 0, .getfield 117, .if_icmp .ge 42, .aload_n 0, .getfield 17, .iload_n 3, .iaload, .iload_n 2, .if_icmp .gt 26, .iload_n 1, .iconst 1, .aload_n 0, .getfield 17, .iload_n 3, .iaload, .ishl, .iconst 1, .isub, .iand, .aload_n 0, .getfield 13, .iload_n 3, .iaload, .if_icmp .ne 5, .iconst 1, .ireturn] := (rfl)
theorem j_M_endsBanned_58 (f : List Instr → Prop) : lk1 g_M_endsBanned 58 f = f [.iinc 3 1, .goto (-44)] := (rfl)
theorem j_M_endsBanned_64 (f : List Instr → Prop) : lk1 g_M_endsBanned 64 f = f [.iconst 0, .ireturn] := (rfl)
abbrev b_M_longest : ByteArray := prog_11_method_10_code
abbrev y_M_longest : MethodName := ⟨RX9, "longest", "()I"⟩
def k_M_longest_0 : List Instr := [.iconst 0, .istore_n 1, .iconst 0, .istore_n 2]
def k_M_longest_4 : List Instr := [.iload_n 2, .aload_n 0, .getfield 117, .if_icmp .ge 30, .aload_n 0, .getfield 17, .iload_n 2, .iaload, .iload_n 1, .if_icmp .le 12, .aload_n 0, .getfield 17, .iload_n 2, .iaload, .goto 4]
def k_M_longest_31 : List Instr := [.iload_n 1]
def k_M_longest_32 : List Instr := [.istore_n 1, .iinc 2 1, .goto (-32)]
def k_M_longest_39 : List Instr := [.iload_n 1, .ireturn]
def g_M_longest : List (Nat × List Instr) := [(0, k_M_longest_0), (4, k_M_longest_4), (31, k_M_longest_31), (32, k_M_longest_32), (39, k_M_longest_39)]
theorem o_M_longest : ∀ q ∈ g_M_longest, okB b_M_longest q.1 q.2 = true := List.all_eq_true.mp (by decide +kernel : g_M_longest.all (fun q => okB b_M_longest q.1 q.2) = true)
theorem j_M_longest_0 (f : List Instr → Prop) : lk1 g_M_longest 0 f = f [.iconst 0, .istore_n 1, .iconst 0, .istore_n 2] := (rfl)
theorem j_M_longest_4 (f : List Instr → Prop) : lk1 g_M_longest 4 f = f [.iload_n 2, .aload_n 0, .getfield 117, .if_icmp .ge 30, .aload_n 0, .getfield 17, .iload_n 2, .iaload, .iload_n 1, .if_icmp .le 12, .aload_n 0, .getfield 17, .iload_n 2, .iaload, .goto 4] := (rfl)
theorem j_M_longest_31 (f : List Instr → Prop) : lk1 g_M_longest 31 f = f [.iload_n 1] := (rfl)
theorem j_M_longest_32 (f : List Instr → Prop) : lk1 g_M_longest 32 f = f [.istore_n 1, .iinc 2 1, .goto (-32)] := (rfl)
theorem j_M_longest_39 (f : List Instr → Prop) : lk1 g_M_longest 39 f = f [.iload_n 1, .ireturn] := (rfl)
abbrev b_M_prune : ByteArray := prog_11_method_16_code
abbrev y_M_prune : MethodName := ⟨RX9, "prune", "()V"⟩
def k_M_prune_0 : List Instr := [.iconst 1, .istore_n 1]
def k_M_prune_2 : List Instr := [.iload_n 1, .ifCond .eq 69, .iconst 0, .istore_n 1, .aload_n 0, .getfield 140, .iconst 1, .isub, .istore_n 2]
def k_M_prune_15 : List Instr := [.iload_n 2, .ifCond .lt 53, .aload_n 0, .getfield 35, .iload_n 2, .baload, .ifCond .eq 38, .aload_n 0, .aload_n 0, .getfield 29, .iload_n 2, .iaload, .invokevirtual 151, .ifCond .ne 25, .aload_n 0, .aload_n 0, .getfield 32, .iload_n 2, .iaload, .invokevirtual 151, .ifCond .ne 12, .aload_n 0, .getfield 35, .iload_n 2, .iconst 0, .bastore, .iconst 1, .istore_n 1]
def k_M_prune_63 : List Instr := [.iinc 2 (-1), .goto (-51)]
def k_M_prune_69 : List Instr := [.goto (-67)]
def k_M_prune_72 : List Instr := [.return_]
def g_M_prune : List (Nat × List Instr) := [(0, k_M_prune_0), (2, k_M_prune_2), (15, k_M_prune_15), (63, k_M_prune_63), (69, k_M_prune_69), (72, k_M_prune_72)]
theorem o_M_prune : ∀ q ∈ g_M_prune, okB b_M_prune q.1 q.2 = true := List.all_eq_true.mp (by decide +kernel : g_M_prune.all (fun q => okB b_M_prune q.1 q.2) = true)
theorem j_M_prune_0 (f : List Instr → Prop) : lk1 g_M_prune 0 f = f [.iconst 1, .istore_n 1] := (rfl)
theorem j_M_prune_2 (f : List Instr → Prop) : lk1 g_M_prune 2 f = f [.iload_n 1, .ifCond .eq 69, .iconst 0, .istore_n 1, .aload_n 0, .getfield 140, .iconst 1, .isub, .istore_n 2] := (rfl)
theorem j_M_prune_15 (f : List Instr → Prop) : lk1 g_M_prune 15 f = f [.iload_n 2, .ifCond .lt 53, .aload_n 0, .getfield 35, .iload_n 2, .baload, .ifCond .eq 38, .aload_n 0, .aload_n 0, .getfield 29, .iload_n 2, .iaload, .invokevirtual 151, .ifCond .ne 25, .aload_n 0, .aload_n 0, .getfield 32, .iload_n 2, .iaload, .invokevirtual 151, .ifCond .ne 12, .aload_n 0, .getfield 35, .iload_n 2, .iconst 0, .bastore, .iconst 1, .istore_n 1] := (rfl)
theorem j_M_prune_63 (f : List Instr → Prop) : lk1 g_M_prune 63 f = f [.iinc 2 (-1), .goto (-51)] := (rfl)
theorem j_M_prune_69 (f : List Instr → Prop) : lk1 g_M_prune 69 f = f [.goto (-67)] := (rfl)
theorem j_M_prune_72 (f : List Instr → Prop) : lk1 g_M_prune 72 f = f [.return_] := (rfl)
abbrev b_M_isAliveAt : ByteArray := prog_11_method_15_code
abbrev y_M_isAliveAt : MethodName := ⟨RX9, "isAliveAt", "(I)Z"⟩
def k_M_isAliveAt_0 : List Instr := [.iload_n 1, .iconst (-1), .if_icmp .eq 16, .aload_n 0, .getfield 35, .iload_n 1, .baload, .ifCond .eq 7, .iconst 1, .goto 4]
def k_M_isAliveAt_18 : List Instr := [.iconst 0]
def k_M_isAliveAt_19 : List Instr := [.ireturn]
def g_M_isAliveAt : List (Nat × List Instr) := [(0, k_M_isAliveAt_0), (18, k_M_isAliveAt_18), (19, k_M_isAliveAt_19)]
theorem o_M_isAliveAt : ∀ q ∈ g_M_isAliveAt, okB b_M_isAliveAt q.1 q.2 = true := List.all_eq_true.mp (by decide +kernel : g_M_isAliveAt.all (fun q => okB b_M_isAliveAt q.1 q.2) = true)
theorem j_M_isAliveAt_0 (f : List Instr → Prop) : lk1 g_M_isAliveAt 0 f = f [.iload_n 1, .iconst (-1), .if_icmp .eq 16, .aload_n 0, .getfield 35, .iload_n 1, .baload, .ifCond .eq 7, .iconst 1, .goto 4] := (rfl)
theorem j_M_isAliveAt_18 (f : List Instr → Prop) : lk1 g_M_isAliveAt 18 f = f [.iconst 0] := (rfl)
theorem j_M_isAliveAt_19 (f : List Instr → Prop) : lk1 g_M_isAliveAt 19 f = f [.ireturn] := (rfl)
abbrev b_M_refine : ByteArray := prog_11_method_19_code
abbrev y_M_refine : MethodName := ⟨RX9, "refine", "()I"⟩
def k_M_refine_0 : List Instr := [.iconst 1, .istore_n 1, .iconst 0, .istore_n 2]
def k_M_refine_4 : List Instr := [.iload_n 2, .aload_n 0, .getfield 140, .if_icmp .ge 16, .aload_n 0, .getfield 39, .iload_n 2, .iconst 0, .iastore, .iinc 2 1, .goto (-18)]
def k_M_refine_25 : List Instr := [.iconst 0, .istore_n 2, .iconst 0, .istore_n 3]
def k_M_refine_29 : List Instr := [.iload_n 3, .aload_n 0, .getfield 140, .if_icmp .ge 54, .iload_n 2, .bipush 100, .if_icmp .gt 48, .aload_n 0, .getfield 35, .iload_n 3, .baload, .ifCond .eq 33, .aload_n 0, .getfield 42, .iload_n 3, .aload_n 0, .iload_n 3, .iload_n 2, .invokevirtual 157, .iastore, .aload_n 0, .getfield 42, .iload_n 3, .iaload, .iload_n 2, .if_icmp .ne 9, .iload_n 2, .iconst 1, .iadd, .goto 4]
def k_M_refine_80 : List Instr := [.iload_n 2]
def k_M_refine_81 : List Instr := [.istore_n 2]
def k_M_refine_82 : List Instr := [.iinc 3 1, .goto (-56)]
def k_M_refine_88 : List Instr := [.iload_n 2, .bipush 100, .if_icmp .le 5, .iload_n 2, .ireturn]
def k_M_refine_96 : List Instr := [.iconst 0, .istore_n 3]
def k_M_refine_98 : List Instr := [.iload_n 3, .aload_n 0, .getfield 140, .if_icmp .ge 21, .aload_n 0, .getfield 39, .iload_n 3, .aload_n 0, .getfield 42, .iload_n 3, .iaload, .iastore, .iinc 3 1, .goto (-23)]
def k_M_refine_124 : List Instr := [.iload_n 2, .iload_n 1, .if_icmp .ne 5, .iload_n 1, .ireturn]
def k_M_refine_131 : List Instr := [.iload_n 2, .istore_n 1, .goto (-108)]
def g_M_refine : List (Nat × List Instr) := [(0, k_M_refine_0), (4, k_M_refine_4), (25, k_M_refine_25), (29, k_M_refine_29), (80, k_M_refine_80), (81, k_M_refine_81), (82, k_M_refine_82), (88, k_M_refine_88), (96, k_M_refine_96), (98, k_M_refine_98), (124, k_M_refine_124), (131, k_M_refine_131)]
theorem o_M_refine : ∀ q ∈ g_M_refine, okB b_M_refine q.1 q.2 = true := List.all_eq_true.mp (by decide +kernel : g_M_refine.all (fun q => okB b_M_refine q.1 q.2) = true)
theorem j_M_refine_0 (f : List Instr → Prop) : lk1 g_M_refine 0 f = f [.iconst 1, .istore_n 1, .iconst 0, .istore_n 2] := (rfl)
theorem j_M_refine_4 (f : List Instr → Prop) : lk1 g_M_refine 4 f = f [.iload_n 2, .aload_n 0, .getfield 140, .if_icmp .ge 16, .aload_n 0, .getfield 39, .iload_n 2, .iconst 0, .iastore, .iinc 2 1, .goto (-18)] := (rfl)
theorem j_M_refine_25 (f : List Instr → Prop) : lk1 g_M_refine 25 f = f [.iconst 0, .istore_n 2, .iconst 0, .istore_n 3] := (rfl)
theorem j_M_refine_29 (f : List Instr → Prop) : lk1 g_M_refine 29 f = f [.iload_n 3, .aload_n 0, .getfield 140, .if_icmp .ge 54, .iload_n 2, .bipush 100, .if_icmp .gt 48, .aload_n 0, .getfield 35, .iload_n 3, .baload, .ifCond .eq 33, .aload_n 0, .getfield 42, .iload_n 3, .aload_n 0, .iload_n 3, .iload_n 2, .invokevirtual 157, .iastore, .aload_n 0, .getfield 42, .iload_n 3, .iaload, .iload_n 2, .if_icmp .ne 9, .iload_n 2, .iconst 1, .iadd, .goto 4] := (rfl)
theorem j_M_refine_80 (f : List Instr → Prop) : lk1 g_M_refine 80 f = f [.iload_n 2] := (rfl)
theorem j_M_refine_81 (f : List Instr → Prop) : lk1 g_M_refine 81 f = f [.istore_n 2] := (rfl)
theorem j_M_refine_82 (f : List Instr → Prop) : lk1 g_M_refine 82 f = f [.iinc 3 1, .goto (-56)] := (rfl)
theorem j_M_refine_88 (f : List Instr → Prop) : lk1 g_M_refine 88 f = f [.iload_n 2, .bipush 100, .if_icmp .le 5, .iload_n 2, .ireturn] := (rfl)
theorem j_M_refine_96 (f : List Instr → Prop) : lk1 g_M_refine 96 f = f [.iconst 0, .istore_n 3] := (rfl)
theorem j_M_refine_98 (f : List Instr → Prop) : lk1 g_M_refine 98 f = f [.iload_n 3, .aload_n 0, .getfield 140, .if_icmp .ge 21, .aload_n 0, .getfield 39, .iload_n 3, .aload_n 0, .getfield 42, .iload_n 3, .iaload, .iastore, .iinc 3 1, .goto (-23)] := (rfl)
theorem j_M_refine_124 (f : List Instr → Prop) : lk1 g_M_refine 124 f = f [.iload_n 2, .iload_n 1, .if_icmp .ne 5, .iload_n 1, .ireturn] := (rfl)
theorem j_M_refine_131 (f : List Instr → Prop) : lk1 g_M_refine 131 f = f [.iload_n 2, .istore_n 1, .goto (-108)] := (rfl)
abbrev b_M_signOf : ByteArray := prog_11_method_18_code
abbrev y_M_signOf : MethodName := ⟨RX9, "signOf", "(II)I"⟩
def k_M_signOf_0 : List Instr := [.aload_n 0, .getfield 39, .iload_n 1, .iaload, .istore_n 3, .aload_n 0, .aload_n 0, .getfield 29, .iload_n 1, .iaload, .invokevirtual 154, .istore 4, .aload_n 0, .aload_n 0, .getfield 32, .iload_n 1, .iaload, .invokevirtual 154, .istore 5, .iconst 0, .istore 6]
def k_M_signOf_34 : List Instr := [.iload 6, .iload_n 2, .if_icmp .ge 44, .aload_n 0, .getfield 45, .iload 6, .iaload, .iload_n 3, .if_icmp .ne 27, .aload_n 0, .getfield 48, .iload 6, .iaload, .iload 4, .if_icmp .ne 15, .aload_n 0, .getfield 51, .iload 6, .iaload, .iload 5, .if_icmp .eq 9]
def k_M_signOf_75 : List Instr := [.iinc 6 1, .goto (-44)]
def k_M_signOf_81 : List Instr := [.iload 6, .bipush 101, .if_icmp .ge 29, .aload_n 0, .getfield 45, .iload 6, .iload_n 3, .iastore, .aload_n 0, .getfield 48, .iload 6, .iload 4, .iastore, .aload_n 0, .getfield 51, .iload 6, .iload 5, .iastore]
def k_M_signOf_114 : List Instr := [.iload 6, .ireturn]
def g_M_signOf : List (Nat × List Instr) := [(0, k_M_signOf_0), (34, k_M_signOf_34), (75, k_M_signOf_75), (81, k_M_signOf_81), (114, k_M_signOf_114)]
theorem o_M_signOf : ∀ q ∈ g_M_signOf, okB b_M_signOf q.1 q.2 = true := List.all_eq_true.mp (by decide +kernel : g_M_signOf.all (fun q => okB b_M_signOf q.1 q.2) = true)
theorem j_M_signOf_0 (f : List Instr → Prop) : lk1 g_M_signOf 0 f = f [.aload_n 0, .getfield 39, .iload_n 1, .iaload, .istore_n 3, .aload_n 0, .aload_n 0, .getfield 29, .iload_n 1, .iaload, .invokevirtual 154, .istore 4, .aload_n 0, .aload_n 0, .getfield 32, .iload_n 1, .iaload, .invokevirtual 154, .istore 5, .iconst 0, .istore 6] := (rfl)
theorem j_M_signOf_34 (f : List Instr → Prop) : lk1 g_M_signOf 34 f = f [.iload 6, .iload_n 2, .if_icmp .ge 44, .aload_n 0, .getfield 45, .iload 6, .iaload, .iload_n 3, .if_icmp .ne 27, .aload_n 0, .getfield 48, .iload 6, .iaload, .iload 4, .if_icmp .ne 15, .aload_n 0, .getfield 51, .iload 6, .iaload, .iload 5, .if_icmp .eq 9] := (rfl)
theorem j_M_signOf_75 (f : List Instr → Prop) : lk1 g_M_signOf 75 f = f [.iinc 6 1, .goto (-44)] := (rfl)
theorem j_M_signOf_81 (f : List Instr → Prop) : lk1 g_M_signOf 81 f = f [.iload 6, .bipush 101, .if_icmp .ge 29, .aload_n 0, .getfield 45, .iload 6, .iload_n 3, .iastore, .aload_n 0, .getfield 48, .iload 6, .iload 4, .iastore, .aload_n 0, .getfield 51, .iload 6, .iload 5, .iastore] := (rfl)
theorem j_M_signOf_114 (f : List Instr → Prop) : lk1 g_M_signOf 114 f = f [.iload 6, .ireturn] := (rfl)
abbrev b_M_classAt : ByteArray := prog_11_method_17_code
abbrev y_M_classAt : MethodName := ⟨RX9, "classAt", "(I)I"⟩
def k_M_classAt_0 : List Instr := [.aload_n 0, .iload_n 1, .invokevirtual 151, .ifCond .eq 12, .aload_n 0, .getfield 39, .iload_n 1, .iaload, .goto 4]
def k_M_classAt_17 : List Instr := [.iconst (-1)]
def k_M_classAt_18 : List Instr := [.ireturn]
def g_M_classAt : List (Nat × List Instr) := [(0, k_M_classAt_0), (17, k_M_classAt_17), (18, k_M_classAt_18)]
theorem o_M_classAt : ∀ q ∈ g_M_classAt, okB b_M_classAt q.1 q.2 = true := List.all_eq_true.mp (by decide +kernel : g_M_classAt.all (fun q => okB b_M_classAt q.1 q.2) = true)
theorem j_M_classAt_0 (f : List Instr → Prop) : lk1 g_M_classAt 0 f = f [.aload_n 0, .iload_n 1, .invokevirtual 151, .ifCond .eq 12, .aload_n 0, .getfield 39, .iload_n 1, .iaload, .goto 4] := (rfl)
theorem j_M_classAt_17 (f : List Instr → Prop) : lk1 g_M_classAt 17 f = f [.iconst (-1)] := (rfl)
theorem j_M_classAt_18 (f : List Instr → Prop) : lk1 g_M_classAt 18 f = f [.ireturn] := (rfl)
abbrev b_M_stateOf : ByteArray := prog_11_method_20_code
abbrev y_M_stateOf : MethodName := ⟨RX9, "stateOf", "(III)I"⟩
def k_M_stateOf_0 : List Instr := [.aload_n 0, .iload_n 1, .invokevirtual 151, .ifCond .ne 5, .iconst (-1), .ireturn]
def k_M_stateOf_10 : List Instr := [.aload_n 0, .getfield 39, .iload_n 1, .iaload, .istore 4, .aload_n 0, .getfield 69, .iload 4, .iaload, .iconst (-1), .if_icmp .ne 80, .aload_n 0, .getfield 69, .iload 4, .aload_n 0, .getfield 160, .iastore, .aload_n 0, .getfield 72, .aload_n 0, .getfield 160, .iload_n 1, .iastore, .aload_n 0, .getfield 60, .aload_n 0, .getfield 160, .iload_n 2, .iastore, .aload_n 0, .getfield 63, .aload_n 0, .getfield 160, .iload_n 3, .iastore, .aload_n 0, .getfield 66, .aload_n 0, .getfield 160, .iload_n 2, .iconst (-1), .if_icmp .ne 7, .iconst 0, .goto 11]
def k_M_stateOf_87 : List Instr := [.aload_n 0, .getfield 66, .iload_n 2, .iaload, .iconst 1, .iadd]
def k_M_stateOf_95 : List Instr := [.iastore, .aload_n 0, .dup, .getfield 160, .iconst 1, .iadd, .putfield 160]
def k_M_stateOf_106 : List Instr := [.aload_n 0, .getfield 69, .iload 4, .iaload, .ireturn]
def g_M_stateOf : List (Nat × List Instr) := [(0, k_M_stateOf_0), (10, k_M_stateOf_10), (87, k_M_stateOf_87), (95, k_M_stateOf_95), (106, k_M_stateOf_106)]
theorem o_M_stateOf : ∀ q ∈ g_M_stateOf, okB b_M_stateOf q.1 q.2 = true := List.all_eq_true.mp (by decide +kernel : g_M_stateOf.all (fun q => okB b_M_stateOf q.1 q.2) = true)
theorem j_M_stateOf_0 (f : List Instr → Prop) : lk1 g_M_stateOf 0 f = f [.aload_n 0, .iload_n 1, .invokevirtual 151, .ifCond .ne 5, .iconst (-1), .ireturn] := (rfl)
theorem j_M_stateOf_10 (f : List Instr → Prop) : lk1 g_M_stateOf 10 f = f [.aload_n 0, .getfield 39, .iload_n 1, .iaload, .istore 4, .aload_n 0, .getfield 69, .iload 4, .iaload, .iconst (-1), .if_icmp .ne 80, .aload_n 0, .getfield 69, .iload 4, .aload_n 0, .getfield 160, .iastore, .aload_n 0, .getfield 72, .aload_n 0, .getfield 160, .iload_n 1, .iastore, .aload_n 0, .getfield 60, .aload_n 0, .getfield 160, .iload_n 2, .iastore, .aload_n 0, .getfield 63, .aload_n 0, .getfield 160, .iload_n 3, .iastore, .aload_n 0, .getfield 66, .aload_n 0, .getfield 160, .iload_n 2, .iconst (-1), .if_icmp .ne 7, .iconst 0, .goto 11] := (rfl)
theorem j_M_stateOf_87 (f : List Instr → Prop) : lk1 g_M_stateOf 87 f = f [.aload_n 0, .getfield 66, .iload_n 2, .iaload, .iconst 1, .iadd] := (rfl)
theorem j_M_stateOf_95 (f : List Instr → Prop) : lk1 g_M_stateOf 95 f = f [.iastore, .aload_n 0, .dup, .getfield 160, .iconst 1, .iadd, .putfield 160] := (rfl)
theorem j_M_stateOf_106 (f : List Instr → Prop) : lk1 g_M_stateOf 106 f = f [.aload_n 0, .getfield 69, .iload 4, .iaload, .ireturn] := (rfl)
abbrev b_M_states : ByteArray := prog_11_method_22_code
abbrev y_M_states : MethodName := ⟨RX9, "states", "()I"⟩
def k_M_states_0 : List Instr := [.aload_n 0, .getfield 160, .ireturn]
def g_M_states : List (Nat × List Instr) := [(0, k_M_states_0)]
theorem o_M_states : ∀ q ∈ g_M_states, okB b_M_states q.1 q.2 = true := List.all_eq_true.mp (by decide +kernel : g_M_states.all (fun q => okB b_M_states q.1 q.2) = true)
theorem j_M_states_0 (f : List Instr → Prop) : lk1 g_M_states 0 f = f [.aload_n 0, .getfield 160, .ireturn] := (rfl)
abbrev b_M_go : ByteArray := prog_11_method_25_code
abbrev y_M_go : MethodName := ⟨RX9, "go", "(II)I"⟩
def k_M_go_0 : List Instr := [.aload_n 0, .iload_n 1, .invokevirtual 185, .ifCond .eq 22, .iload_n 2, .i2l, .lconst 0, .lconst 1, .invokestatic 108, .ifCond .eq 12, .aload_n 0, .iload_n 1, .iload_n 2, .invokevirtual 188, .goto 5]
def k_M_go_27 : List Instr := [.bipush (-2)]
def k_M_go_29 : List Instr := [.ireturn]
def g_M_go : List (Nat × List Instr) := [(0, k_M_go_0), (27, k_M_go_27), (29, k_M_go_29)]
theorem o_M_go : ∀ q ∈ g_M_go, okB b_M_go q.1 q.2 = true := List.all_eq_true.mp (by decide +kernel : g_M_go.all (fun q => okB b_M_go q.1 q.2) = true)
theorem j_M_go_0 (f : List Instr → Prop) : lk1 g_M_go 0 f = f [.aload_n 0, .iload_n 1, .invokevirtual 185, .ifCond .eq 22, .iload_n 2, .i2l, .lconst 0, .lconst 1, .invokestatic 108, .ifCond .eq 12, .aload_n 0, .iload_n 1, .iload_n 2, .invokevirtual 188, .goto 5] := (rfl)
theorem j_M_go_27 (f : List Instr → Prop) : lk1 g_M_go 27 f = f [.bipush (-2)] := (rfl)
theorem j_M_go_29 (f : List Instr → Prop) : lk1 g_M_go 29 f = f [.ireturn] := (rfl)
abbrev b_M_isState : ByteArray := prog_11_method_23_code
abbrev y_M_isState : MethodName := ⟨RX9, "isState", "(I)Z"⟩
def k_M_isState_0 : List Instr := [.iload_n 1, .i2l, .lconst 0, .aload_n 0, .getfield 160, .iconst 1, .isub, .i2l, .invokestatic 108, .ireturn]
def g_M_isState : List (Nat × List Instr) := [(0, k_M_isState_0)]
theorem o_M_isState : ∀ q ∈ g_M_isState, okB b_M_isState q.1 q.2 = true := List.all_eq_true.mp (by decide +kernel : g_M_isState.all (fun q => okB b_M_isState q.1 q.2) = true)
theorem j_M_isState_0 (f : List Instr → Prop) : lk1 g_M_isState 0 f = f [.iload_n 1, .i2l, .lconst 0, .aload_n 0, .getfield 160, .iconst 1, .isub, .i2l, .invokestatic 108, .ireturn] := (rfl)
abbrev b_M_goes : ByteArray := prog_11_method_24_code
abbrev y_M_goes : MethodName := ⟨RX9, "goes", "(II)I"⟩
def k_M_goes_0 : List Instr := [.iload_n 1, .iconst (-1), .if_icmp .ne 7, .iconst (-1), .goto 22]
def k_M_goes_9 : List Instr := [.iload_n 2, .ifCond .ne 12, .aload_n 0, .getfield 54, .iload_n 1, .iaload, .goto 9]
def k_M_goes_22 : List Instr := [.aload_n 0, .getfield 57, .iload_n 1, .iaload]
def k_M_goes_28 : List Instr := [.ireturn]
def g_M_goes : List (Nat × List Instr) := [(0, k_M_goes_0), (9, k_M_goes_9), (22, k_M_goes_22), (28, k_M_goes_28)]
theorem o_M_goes : ∀ q ∈ g_M_goes, okB b_M_goes q.1 q.2 = true := List.all_eq_true.mp (by decide +kernel : g_M_goes.all (fun q => okB b_M_goes q.1 q.2) = true)
theorem j_M_goes_0 (f : List Instr → Prop) : lk1 g_M_goes 0 f = f [.iload_n 1, .iconst (-1), .if_icmp .ne 7, .iconst (-1), .goto 22] := (rfl)
theorem j_M_goes_9 (f : List Instr → Prop) : lk1 g_M_goes 9 f = f [.iload_n 2, .ifCond .ne 12, .aload_n 0, .getfield 54, .iload_n 1, .iaload, .goto 9] := (rfl)
theorem j_M_goes_22 (f : List Instr → Prop) : lk1 g_M_goes 22 f = f [.aload_n 0, .getfield 57, .iload_n 1, .iaload] := (rfl)
theorem j_M_goes_28 (f : List Instr → Prop) : lk1 g_M_goes 28 f = f [.ireturn] := (rfl)
abbrev b_M_walk : ByteArray := prog_11_method_28_code
abbrev y_M_walk : MethodName := ⟨RX9, "walk", "(IJI)I"⟩
def k_M_walk_0 : List Instr := [.aload_n 0, .iload_n 1, .invokevirtual 185, .ifCond .eq 23, .lload_n 2, .iload 4, .invokestatic 193, .ifCond .eq 14, .aload_n 0, .iload_n 1, .lload_n 2, .iload 4, .invokevirtual 197, .goto 5]
def k_M_walk_28 : List Instr := [.bipush (-2)]
def k_M_walk_30 : List Instr := [.ireturn]
def g_M_walk : List (Nat × List Instr) := [(0, k_M_walk_0), (28, k_M_walk_28), (30, k_M_walk_30)]
theorem o_M_walk : ∀ q ∈ g_M_walk, okB b_M_walk q.1 q.2 = true := List.all_eq_true.mp (by decide +kernel : g_M_walk.all (fun q => okB b_M_walk q.1 q.2) = true)
theorem j_M_walk_0 (f : List Instr → Prop) : lk1 g_M_walk 0 f = f [.aload_n 0, .iload_n 1, .invokevirtual 185, .ifCond .eq 23, .lload_n 2, .iload 4, .invokestatic 193, .ifCond .eq 14, .aload_n 0, .iload_n 1, .lload_n 2, .iload 4, .invokevirtual 197, .goto 5] := (rfl)
theorem j_M_walk_28 (f : List Instr → Prop) : lk1 g_M_walk 28 f = f [.bipush (-2)] := (rfl)
theorem j_M_walk_30 (f : List Instr → Prop) : lk1 g_M_walk 30 f = f [.ireturn] := (rfl)
abbrev b_M_isRow : ByteArray := prog_11_method_26_code
abbrev y_M_isRow : MethodName := ⟨RX9, "isRow", "(JI)Z"⟩
def k_M_isRow_0 : List Instr := [.iload_n 2, .i2l, .lconst 0, .ldc2_w 191, .invokestatic 108, .ifCond .eq 20, .lload_n 0, .lconst 0, .lconst 1, .iload_n 2, .lshl, .lconst 1, .lsub, .invokestatic 108, .ifCond .eq 7, .iconst 1, .goto 4]
def k_M_isRow_29 : List Instr := [.iconst 0]
def k_M_isRow_30 : List Instr := [.ireturn]
def g_M_isRow : List (Nat × List Instr) := [(0, k_M_isRow_0), (29, k_M_isRow_29), (30, k_M_isRow_30)]
theorem o_M_isRow : ∀ q ∈ g_M_isRow, okB b_M_isRow q.1 q.2 = true := List.all_eq_true.mp (by decide +kernel : g_M_isRow.all (fun q => okB b_M_isRow q.1 q.2) = true)
theorem j_M_isRow_0 (f : List Instr → Prop) : lk1 g_M_isRow 0 f = f [.iload_n 2, .i2l, .lconst 0, .ldc2_w 191, .invokestatic 108, .ifCond .eq 20, .lload_n 0, .lconst 0, .lconst 1, .iload_n 2, .lshl, .lconst 1, .lsub, .invokestatic 108, .ifCond .eq 7, .iconst 1, .goto 4] := (rfl)
theorem j_M_isRow_29 (f : List Instr → Prop) : lk1 g_M_isRow 29 f = f [.iconst 0] := (rfl)
theorem j_M_isRow_30 (f : List Instr → Prop) : lk1 g_M_isRow 30 f = f [.ireturn] := (rfl)
abbrev b_M_walks : ByteArray := prog_11_method_27_code
abbrev y_M_walks : MethodName := ⟨RX9, "walks", "(IJI)I"⟩
def k_M_walks_0 : List Instr := [.iload_n 1, .istore 5, .iload 4, .iconst 1, .isub, .istore 6]
def k_M_walks_9 : List Instr := [.iload 6, .ifCond .lt 24, .aload_n 0, .iload 5, .lload_n 2, .iload 6, .lshr, .lconst 1, .land, .l2i, .invokevirtual 188, .istore 5, .iinc 6 (-1), .goto (-23)]
def k_M_walks_35 : List Instr := [.iload 5, .ireturn]
def g_M_walks : List (Nat × List Instr) := [(0, k_M_walks_0), (9, k_M_walks_9), (35, k_M_walks_35)]
theorem o_M_walks : ∀ q ∈ g_M_walks, okB b_M_walks q.1 q.2 = true := List.all_eq_true.mp (by decide +kernel : g_M_walks.all (fun q => okB b_M_walks q.1 q.2) = true)
theorem j_M_walks_0 (f : List Instr → Prop) : lk1 g_M_walks 0 f = f [.iload_n 1, .istore 5, .iload 4, .iconst 1, .isub, .istore 6] := (rfl)
theorem j_M_walks_9 (f : List Instr → Prop) : lk1 g_M_walks 9 f = f [.iload 6, .ifCond .lt 24, .aload_n 0, .iload 5, .lload_n 2, .iload 6, .lshr, .lconst 1, .land, .l2i, .invokevirtual 188, .istore 5, .iinc 6 (-1), .goto (-23)] := (rfl)
theorem j_M_walks_35 (f : List Instr → Prop) : lk1 g_M_walks 35 f = f [.iload 5, .ireturn] := (rfl)
abbrev b_M_first : ByteArray := prog_11_method_29_code
abbrev y_M_first : MethodName := ⟨RX9, "first", "(II)J"⟩
def k_M_first_0 : List Instr := [.aload_n 0, .iload_n 1, .invokevirtual 185, .ifCond .eq 13, .iload_n 2, .i2l, .lconst 0, .lconst 1, .invokestatic 108, .ifCond .ne 7]
def k_M_first_18 : List Instr := [.ldc2_w 201, .lreturn]
def k_M_first_22 : List Instr := [.iload_n 2, .ifCond .ne 11, .aload_n 0, .getfield 66, .iload_n 1, .iaload, .i2l, .lreturn]
def k_M_first_34 : List Instr := [.aload_n 0, .getfield 66, .iload_n 1, .iaload, .bipush 60, .if_icmp .le 7, .ldc2_w 120, .lreturn]
def k_M_first_49 : List Instr := [.lconst 0, .lstore_n 3, .iload_n 1, .istore 5, .iconst 0, .istore 6]
def k_M_first_57 : List Instr := [.iload 6, .aload_n 0, .getfield 66, .iload_n 1, .iaload, .if_icmp .ge 32, .lload_n 3, .aload_n 0, .getfield 63, .iload 5, .iaload, .i2l, .iload 6, .lshl, .ladd, .lstore_n 3, .aload_n 0, .getfield 60, .iload 5, .iaload, .istore 5, .iinc 6 1, .goto (-37)]
def k_M_first_97 : List Instr := [.lload_n 3, .lreturn]
def g_M_first : List (Nat × List Instr) := [(0, k_M_first_0), (18, k_M_first_18), (22, k_M_first_22), (34, k_M_first_34), (49, k_M_first_49), (57, k_M_first_57), (97, k_M_first_97)]
theorem o_M_first : ∀ q ∈ g_M_first, okB b_M_first q.1 q.2 = true := List.all_eq_true.mp (by decide +kernel : g_M_first.all (fun q => okB b_M_first q.1 q.2) = true)
theorem j_M_first_0 (f : List Instr → Prop) : lk1 g_M_first 0 f = f [.aload_n 0, .iload_n 1, .invokevirtual 185, .ifCond .eq 13, .iload_n 2, .i2l, .lconst 0, .lconst 1, .invokestatic 108, .ifCond .ne 7] := (rfl)
theorem j_M_first_18 (f : List Instr → Prop) : lk1 g_M_first 18 f = f [.ldc2_w 201, .lreturn] := (rfl)
theorem j_M_first_22 (f : List Instr → Prop) : lk1 g_M_first 22 f = f [.iload_n 2, .ifCond .ne 11, .aload_n 0, .getfield 66, .iload_n 1, .iaload, .i2l, .lreturn] := (rfl)
theorem j_M_first_34 (f : List Instr → Prop) : lk1 g_M_first 34 f = f [.aload_n 0, .getfield 66, .iload_n 1, .iaload, .bipush 60, .if_icmp .le 7, .ldc2_w 120, .lreturn] := (rfl)
theorem j_M_first_49 (f : List Instr → Prop) : lk1 g_M_first 49 f = f [.lconst 0, .lstore_n 3, .iload_n 1, .istore 5, .iconst 0, .istore 6] := (rfl)
theorem j_M_first_57 (f : List Instr → Prop) : lk1 g_M_first 57 f = f [.iload 6, .aload_n 0, .getfield 66, .iload_n 1, .iaload, .if_icmp .ge 32, .lload_n 3, .aload_n 0, .getfield 63, .iload 5, .iaload, .i2l, .iload 6, .lshl, .ladd, .lstore_n 3, .aload_n 0, .getfield 60, .iload 5, .iaload, .istore 5, .iinc 6 1, .goto (-37)] := (rfl)
theorem j_M_first_97 (f : List Instr → Prop) : lk1 g_M_first 97 f = f [.lload_n 3, .lreturn] := (rfl)
abbrev b_M_count : ByteArray := prog_11_method_31_code
abbrev y_M_count : MethodName := ⟨RX9, "count", "(II)J"⟩
def k_M_count_0 : List Instr := [.aload_n 0, .iload_n 1, .invokevirtual 185, .ifCond .eq 15, .iload_n 2, .i2l, .lconst 0, .ldc2_w 191, .invokestatic 108, .ifCond .ne 7]
def k_M_count_20 : List Instr := [.ldc2_w 201, .lreturn]
def k_M_count_24 : List Instr := [.aload_n 0, .iload_n 2, .invokevirtual 203, .aload_n 0, .getfield 78, .bipush 61, .iload_n 1, .imul, .iload_n 2, .iadd, .laload, .lreturn]
def g_M_count : List (Nat × List Instr) := [(0, k_M_count_0), (20, k_M_count_20), (24, k_M_count_24)]
theorem o_M_count : ∀ q ∈ g_M_count, okB b_M_count q.1 q.2 = true := List.all_eq_true.mp (by decide +kernel : g_M_count.all (fun q => okB b_M_count q.1 q.2) = true)
theorem j_M_count_0 (f : List Instr → Prop) : lk1 g_M_count 0 f = f [.aload_n 0, .iload_n 1, .invokevirtual 185, .ifCond .eq 15, .iload_n 2, .i2l, .lconst 0, .ldc2_w 191, .invokestatic 108, .ifCond .ne 7] := (rfl)
theorem j_M_count_20 (f : List Instr → Prop) : lk1 g_M_count 20 f = f [.ldc2_w 201, .lreturn] := (rfl)
theorem j_M_count_24 (f : List Instr → Prop) : lk1 g_M_count 24 f = f [.aload_n 0, .iload_n 2, .invokevirtual 203, .aload_n 0, .getfield 78, .bipush 61, .iload_n 1, .imul, .iload_n 2, .iadd, .laload, .lreturn] := (rfl)
abbrev b_M_tellMany : ByteArray := prog_11_method_30_code
abbrev y_M_tellMany : MethodName := ⟨RX9, "tellMany", "(I)V"⟩
def k_M_tellMany_0 : List Instr := [.iconst 0, .istore_n 2]
def k_M_tellMany_2 : List Instr := [.iload_n 2, .aload_n 0, .getfield 160, .if_icmp .ge 19, .aload_n 0, .getfield 78, .bipush 61, .iload_n 2, .imul, .lconst 1, .lastore, .iinc 2 1, .goto (-21)]
def k_M_tellMany_26 : List Instr := [.iconst 1, .istore_n 2]
def k_M_tellMany_28 : List Instr := [.iload_n 2, .iload_n 1, .if_icmp .gt 101, .iconst 0, .istore_n 3]
def k_M_tellMany_35 : List Instr := [.iload_n 3, .aload_n 0, .getfield 160, .if_icmp .ge 85, .aload_n 0, .getfield 78, .bipush 61, .iload_n 3, .imul, .iload_n 2, .iadd, .aload_n 0, .getfield 54, .iload_n 3, .iaload, .iconst (-1), .if_icmp .ne 7, .lconst 0, .goto 21]
def k_M_tellMany_67 : List Instr := [.aload_n 0, .getfield 78, .bipush 61, .aload_n 0, .getfield 54, .iload_n 3, .iaload, .imul, .iload_n 2, .iadd, .iconst 1, .isub, .laload]
def k_M_tellMany_85 : List Instr := [.aload_n 0, .getfield 57, .iload_n 3, .iaload, .iconst (-1), .if_icmp .ne 7, .lconst 0, .goto 21]
def k_M_tellMany_99 : List Instr := [.aload_n 0, .getfield 78, .bipush 61, .aload_n 0, .getfield 57, .iload_n 3, .iaload, .imul, .iload_n 2, .iadd, .iconst 1, .isub, .laload]
def k_M_tellMany_117 : List Instr := [.ladd, .lastore, .iinc 3 1, .goto (-87)]
def k_M_tellMany_125 : List Instr := [.iinc 2 1, .goto (-100)]
def k_M_tellMany_131 : List Instr := [.return_]
def g_M_tellMany : List (Nat × List Instr) := [(0, k_M_tellMany_0), (2, k_M_tellMany_2), (26, k_M_tellMany_26), (28, k_M_tellMany_28), (35, k_M_tellMany_35), (67, k_M_tellMany_67), (85, k_M_tellMany_85), (99, k_M_tellMany_99), (117, k_M_tellMany_117), (125, k_M_tellMany_125), (131, k_M_tellMany_131)]
theorem o_M_tellMany : ∀ q ∈ g_M_tellMany, okB b_M_tellMany q.1 q.2 = true := List.all_eq_true.mp (by decide +kernel : g_M_tellMany.all (fun q => okB b_M_tellMany q.1 q.2) = true)
theorem j_M_tellMany_0 (f : List Instr → Prop) : lk1 g_M_tellMany 0 f = f [.iconst 0, .istore_n 2] := (rfl)
theorem j_M_tellMany_2 (f : List Instr → Prop) : lk1 g_M_tellMany 2 f = f [.iload_n 2, .aload_n 0, .getfield 160, .if_icmp .ge 19, .aload_n 0, .getfield 78, .bipush 61, .iload_n 2, .imul, .lconst 1, .lastore, .iinc 2 1, .goto (-21)] := (rfl)
theorem j_M_tellMany_26 (f : List Instr → Prop) : lk1 g_M_tellMany 26 f = f [.iconst 1, .istore_n 2] := (rfl)
theorem j_M_tellMany_28 (f : List Instr → Prop) : lk1 g_M_tellMany 28 f = f [.iload_n 2, .iload_n 1, .if_icmp .gt 101, .iconst 0, .istore_n 3] := (rfl)
theorem j_M_tellMany_35 (f : List Instr → Prop) : lk1 g_M_tellMany 35 f = f [.iload_n 3, .aload_n 0, .getfield 160, .if_icmp .ge 85, .aload_n 0, .getfield 78, .bipush 61, .iload_n 3, .imul, .iload_n 2, .iadd, .aload_n 0, .getfield 54, .iload_n 3, .iaload, .iconst (-1), .if_icmp .ne 7, .lconst 0, .goto 21] := (rfl)
theorem j_M_tellMany_67 (f : List Instr → Prop) : lk1 g_M_tellMany 67 f = f [.aload_n 0, .getfield 78, .bipush 61, .aload_n 0, .getfield 54, .iload_n 3, .iaload, .imul, .iload_n 2, .iadd, .iconst 1, .isub, .laload] := (rfl)
theorem j_M_tellMany_85 (f : List Instr → Prop) : lk1 g_M_tellMany 85 f = f [.aload_n 0, .getfield 57, .iload_n 3, .iaload, .iconst (-1), .if_icmp .ne 7, .lconst 0, .goto 21] := (rfl)
theorem j_M_tellMany_99 (f : List Instr → Prop) : lk1 g_M_tellMany 99 f = f [.aload_n 0, .getfield 78, .bipush 61, .aload_n 0, .getfield 57, .iload_n 3, .iaload, .imul, .iload_n 2, .iadd, .iconst 1, .isub, .laload] := (rfl)
theorem j_M_tellMany_117 (f : List Instr → Prop) : lk1 g_M_tellMany 117 f = f [.ladd, .lastore, .iinc 3 1, .goto (-87)] := (rfl)
theorem j_M_tellMany_125 (f : List Instr → Prop) : lk1 g_M_tellMany 125 f = f [.iinc 2 1, .goto (-100)] := (rfl)
theorem j_M_tellMany_131 (f : List Instr → Prop) : lk1 g_M_tellMany 131 f = f [.return_] := (rfl)
abbrev b_M_number : ByteArray := prog_11_method_32_code
abbrev y_M_number : MethodName := ⟨RX9, "number", "(IJI)J"⟩
def k_M_number_0 : List Instr := [.aload_n 0, .iload_n 1, .invokevirtual 185, .ifCond .eq 12, .lload_n 2, .iload 4, .invokestatic 193, .ifCond .ne 7]
def k_M_number_17 : List Instr := [.ldc2_w 201, .lreturn]
def k_M_number_21 : List Instr := [.aload_n 0, .iload_n 1, .lload_n 2, .iload 4, .invokevirtual 197, .iconst (-1), .if_icmp .ne 7, .ldc2_w 120, .lreturn]
def k_M_number_37 : List Instr := [.aload_n 0, .iload 4, .invokevirtual 203, .lconst 0, .lstore 5, .iload_n 1, .istore 7, .iload 4, .iconst 1, .isub, .istore 8]
def k_M_number_55 : List Instr := [.iload 8, .ifCond .lt 72, .lload_n 2, .iload 8, .lshr, .lconst 1, .land, .l2i, .istore 9, .lload 5, .iload 9, .iconst 1, .if_icmp .ne 35, .aload_n 0, .getfield 54, .iload 7, .iaload, .iconst (-1), .if_icmp .eq 24, .aload_n 0, .getfield 78, .bipush 61, .aload_n 0, .getfield 54, .iload 7, .iaload, .imul, .iload 8, .iadd, .laload, .goto 4]
def k_M_number_109 : List Instr := [.lconst 0]
def k_M_number_110 : List Instr := [.ladd, .lstore 5, .aload_n 0, .iload 7, .iload 9, .invokevirtual 188, .istore 7, .iinc 8 (-1), .goto (-71)]
def k_M_number_129 : List Instr := [.lload 5, .lreturn]
def g_M_number : List (Nat × List Instr) := [(0, k_M_number_0), (17, k_M_number_17), (21, k_M_number_21), (37, k_M_number_37), (55, k_M_number_55), (109, k_M_number_109), (110, k_M_number_110), (129, k_M_number_129)]
theorem o_M_number : ∀ q ∈ g_M_number, okB b_M_number q.1 q.2 = true := List.all_eq_true.mp (by decide +kernel : g_M_number.all (fun q => okB b_M_number q.1 q.2) = true)
theorem j_M_number_0 (f : List Instr → Prop) : lk1 g_M_number 0 f = f [.aload_n 0, .iload_n 1, .invokevirtual 185, .ifCond .eq 12, .lload_n 2, .iload 4, .invokestatic 193, .ifCond .ne 7] := (rfl)
theorem j_M_number_17 (f : List Instr → Prop) : lk1 g_M_number 17 f = f [.ldc2_w 201, .lreturn] := (rfl)
theorem j_M_number_21 (f : List Instr → Prop) : lk1 g_M_number 21 f = f [.aload_n 0, .iload_n 1, .lload_n 2, .iload 4, .invokevirtual 197, .iconst (-1), .if_icmp .ne 7, .ldc2_w 120, .lreturn] := (rfl)
theorem j_M_number_37 (f : List Instr → Prop) : lk1 g_M_number 37 f = f [.aload_n 0, .iload 4, .invokevirtual 203, .lconst 0, .lstore 5, .iload_n 1, .istore 7, .iload 4, .iconst 1, .isub, .istore 8] := (rfl)
theorem j_M_number_55 (f : List Instr → Prop) : lk1 g_M_number 55 f = f [.iload 8, .ifCond .lt 72, .lload_n 2, .iload 8, .lshr, .lconst 1, .land, .l2i, .istore 9, .lload 5, .iload 9, .iconst 1, .if_icmp .ne 35, .aload_n 0, .getfield 54, .iload 7, .iaload, .iconst (-1), .if_icmp .eq 24, .aload_n 0, .getfield 78, .bipush 61, .aload_n 0, .getfield 54, .iload 7, .iaload, .imul, .iload 8, .iadd, .laload, .goto 4] := (rfl)
theorem j_M_number_109 (f : List Instr → Prop) : lk1 g_M_number 109 f = f [.lconst 0] := (rfl)
theorem j_M_number_110 (f : List Instr → Prop) : lk1 g_M_number 110 f = f [.ladd, .lstore 5, .aload_n 0, .iload 7, .iload 9, .invokevirtual 188, .istore 7, .iinc 8 (-1), .goto (-71)] := (rfl)
theorem j_M_number_129 (f : List Instr → Prop) : lk1 g_M_number 129 f = f [.lload 5, .lreturn] := (rfl)
abbrev b_M_row : ByteArray := prog_11_method_33_code
abbrev y_M_row : MethodName := ⟨RX9, "row", "(IJI)J"⟩
def k_M_row_0 : List Instr := [.aload_n 0, .iload_n 1, .invokevirtual 185, .ifCond .eq 22, .lload_n 2, .lconst 0, .lcmp, .ifCond .lt 16, .iload 4, .i2l, .lconst 0, .ldc2_w 191, .invokestatic 108, .ifCond .ne 7]
def k_M_row_27 : List Instr := [.ldc2_w 201, .lreturn]
def k_M_row_31 : List Instr := [.aload_n 0, .iload 4, .invokevirtual 203, .lload_n 2, .aload_n 0, .getfield 78, .bipush 61, .iload_n 1, .imul, .iload 4, .iadd, .laload, .lcmp, .ifCond .lt 7, .ldc2_w 120, .lreturn]
def k_M_row_58 : List Instr := [.lconst 0, .lstore 5, .lload_n 2, .lstore 7, .iload_n 1, .istore 9, .iload 4, .iconst 1, .isub, .istore 10]
def k_M_row_73 : List Instr := [.iload 10, .ifCond .lt 98, .aload_n 0, .getfield 54, .iload 9, .iaload, .iconst (-1), .if_icmp .ne 7, .lconst 0, .goto 21]
def k_M_row_93 : List Instr := [.aload_n 0, .getfield 78, .bipush 61, .aload_n 0, .getfield 54, .iload 9, .iaload, .imul, .iload 10, .iadd, .laload]
def k_M_row_111 : List Instr := [.lstore 11, .lload 7, .lload 11, .lcmp, .ifCond .ge 7, .iconst 0, .goto 4]
def k_M_row_125 : List Instr := [.iconst 1]
def k_M_row_126 : List Instr := [.istore 13, .lload 7, .iload 13, .iconst 1, .if_icmp .ne 8, .lload 11, .goto 4]
def k_M_row_141 : List Instr := [.lconst 0]
def k_M_row_142 : List Instr := [.lsub, .lstore 7, .ldc2_w 207, .lload 5, .lmul, .iload 13, .i2l, .ladd, .lstore 5, .aload_n 0, .iload 9, .iload 13, .invokevirtual 188, .istore 9, .iinc 10 (-1), .goto (-97)]
def k_M_row_173 : List Instr := [.lload 5, .lreturn]
def g_M_row : List (Nat × List Instr) := [(0, k_M_row_0), (27, k_M_row_27), (31, k_M_row_31), (58, k_M_row_58), (73, k_M_row_73), (93, k_M_row_93), (111, k_M_row_111), (125, k_M_row_125), (126, k_M_row_126), (141, k_M_row_141), (142, k_M_row_142), (173, k_M_row_173)]
theorem o_M_row : ∀ q ∈ g_M_row, okB b_M_row q.1 q.2 = true := List.all_eq_true.mp (by decide +kernel : g_M_row.all (fun q => okB b_M_row q.1 q.2) = true)
theorem j_M_row_0 (f : List Instr → Prop) : lk1 g_M_row 0 f = f [.aload_n 0, .iload_n 1, .invokevirtual 185, .ifCond .eq 22, .lload_n 2, .lconst 0, .lcmp, .ifCond .lt 16, .iload 4, .i2l, .lconst 0, .ldc2_w 191, .invokestatic 108, .ifCond .ne 7] := (rfl)
theorem j_M_row_27 (f : List Instr → Prop) : lk1 g_M_row 27 f = f [.ldc2_w 201, .lreturn] := (rfl)
theorem j_M_row_31 (f : List Instr → Prop) : lk1 g_M_row 31 f = f [.aload_n 0, .iload 4, .invokevirtual 203, .lload_n 2, .aload_n 0, .getfield 78, .bipush 61, .iload_n 1, .imul, .iload 4, .iadd, .laload, .lcmp, .ifCond .lt 7, .ldc2_w 120, .lreturn] := (rfl)
theorem j_M_row_58 (f : List Instr → Prop) : lk1 g_M_row 58 f = f [.lconst 0, .lstore 5, .lload_n 2, .lstore 7, .iload_n 1, .istore 9, .iload 4, .iconst 1, .isub, .istore 10] := (rfl)
theorem j_M_row_73 (f : List Instr → Prop) : lk1 g_M_row 73 f = f [.iload 10, .ifCond .lt 98, .aload_n 0, .getfield 54, .iload 9, .iaload, .iconst (-1), .if_icmp .ne 7, .lconst 0, .goto 21] := (rfl)
theorem j_M_row_93 (f : List Instr → Prop) : lk1 g_M_row 93 f = f [.aload_n 0, .getfield 78, .bipush 61, .aload_n 0, .getfield 54, .iload 9, .iaload, .imul, .iload 10, .iadd, .laload] := (rfl)
theorem j_M_row_111 (f : List Instr → Prop) : lk1 g_M_row 111 f = f [.lstore 11, .lload 7, .lload 11, .lcmp, .ifCond .ge 7, .iconst 0, .goto 4] := (rfl)
theorem j_M_row_125 (f : List Instr → Prop) : lk1 g_M_row 125 f = f [.iconst 1] := (rfl)
theorem j_M_row_126 (f : List Instr → Prop) : lk1 g_M_row 126 f = f [.istore 13, .lload 7, .iload 13, .iconst 1, .if_icmp .ne 8, .lload 11, .goto 4] := (rfl)
theorem j_M_row_141 (f : List Instr → Prop) : lk1 g_M_row 141 f = f [.lconst 0] := (rfl)
theorem j_M_row_142 (f : List Instr → Prop) : lk1 g_M_row 142 f = f [.lsub, .lstore 7, .ldc2_w 207, .lload 5, .lmul, .iload 13, .i2l, .ladd, .lstore 5, .aload_n 0, .iload 9, .iload 13, .invokevirtual 188, .istore 9, .iinc 10 (-1), .goto (-97)] := (rfl)
theorem j_M_row_173 (f : List Instr → Prop) : lk1 g_M_row 173 f = f [.lload 5, .lreturn] := (rfl)
abbrev b_M_ways : ByteArray := prog_11_method_35_code
abbrev y_M_ways : MethodName := ⟨RX9, "ways", "(III)I"⟩
def k_M_ways_0 : List Instr := [.aload_n 0, .iload_n 1, .invokevirtual 185, .ifCond .eq 23, .aload_n 0, .iload_n 2, .invokevirtual 185, .ifCond .eq 15, .iload_n 3, .i2l, .lconst 0, .ldc2_w 209, .invokestatic 108, .ifCond .ne 6]
def k_M_ways_28 : List Instr := [.bipush (-2), .ireturn]
def k_M_ways_31 : List Instr := [.aload_n 0, .iload_n 1, .iload_n 3, .invokevirtual 211, .aload_n 0, .getfield 82, .iload_n 2, .iaload, .ireturn]
def g_M_ways : List (Nat × List Instr) := [(0, k_M_ways_0), (28, k_M_ways_28), (31, k_M_ways_31)]
theorem o_M_ways : ∀ q ∈ g_M_ways, okB b_M_ways q.1 q.2 = true := List.all_eq_true.mp (by decide +kernel : g_M_ways.all (fun q => okB b_M_ways q.1 q.2) = true)
theorem j_M_ways_0 (f : List Instr → Prop) : lk1 g_M_ways 0 f = f [.aload_n 0, .iload_n 1, .invokevirtual 185, .ifCond .eq 23, .aload_n 0, .iload_n 2, .invokevirtual 185, .ifCond .eq 15, .iload_n 3, .i2l, .lconst 0, .ldc2_w 209, .invokestatic 108, .ifCond .ne 6] := (rfl)
theorem j_M_ways_28 (f : List Instr → Prop) : lk1 g_M_ways 28 f = f [.bipush (-2), .ireturn] := (rfl)
theorem j_M_ways_31 (f : List Instr → Prop) : lk1 g_M_ways 31 f = f [.aload_n 0, .iload_n 1, .iload_n 3, .invokevirtual 211, .aload_n 0, .getfield 82, .iload_n 2, .iaload, .ireturn] := (rfl)
abbrev b_M_reachFrom : ByteArray := prog_11_method_34_code
abbrev y_M_reachFrom : MethodName := ⟨RX9, "reachFrom", "(II)V"⟩
def k_M_reachFrom_0 : List Instr := [.iconst 0, .istore_n 3]
def k_M_reachFrom_2 : List Instr := [.iload_n 3, .aload_n 0, .getfield 160, .if_icmp .ge 25, .aload_n 0, .getfield 82, .iload_n 3, .iload_n 3, .iload_n 1, .if_icmp .ne 7, .iconst 1, .goto 4]
def k_M_reachFrom_24 : List Instr := [.iconst 0]
def k_M_reachFrom_25 : List Instr := [.iastore, .iinc 3 1, .goto (-27)]
def k_M_reachFrom_32 : List Instr := [.iconst 0, .istore_n 3]
def k_M_reachFrom_34 : List Instr := [.iload_n 3, .iload_n 2, .if_icmp .ge 133, .iconst 0, .istore 4]
def k_M_reachFrom_42 : List Instr := [.iload 4, .aload_n 0, .getfield 160, .if_icmp .ge 31, .aload_n 0, .getfield 85, .iload 4, .aload_n 0, .getfield 82, .iload 4, .iaload, .iastore, .aload_n 0, .getfield 82, .iload 4, .iconst 0, .iastore, .iinc 4 1, .goto (-34)]
def k_M_reachFrom_79 : List Instr := [.iconst 0, .istore 4]
def k_M_reachFrom_82 : List Instr := [.iload 4, .aload_n 0, .getfield 160, .if_icmp .ge 75, .aload_n 0, .getfield 54, .iload 4, .iaload, .iconst (-1), .if_icmp .eq 25, .aload_n 0, .getfield 82, .aload_n 0, .getfield 54, .iload 4, .iaload, .dup2, .iaload, .aload_n 0, .getfield 85, .iload 4, .iaload, .iadd, .iastore]
def k_M_reachFrom_124 : List Instr := [.aload_n 0, .getfield 57, .iload 4, .iaload, .iconst (-1), .if_icmp .eq 25, .aload_n 0, .getfield 82, .aload_n 0, .getfield 57, .iload 4, .iaload, .dup2, .iaload, .aload_n 0, .getfield 85, .iload 4, .iaload, .iadd, .iastore]
def k_M_reachFrom_157 : List Instr := [.iinc 4 1, .goto (-78)]
def k_M_reachFrom_163 : List Instr := [.iinc 3 1, .goto (-132)]
def k_M_reachFrom_169 : List Instr := [.return_]
def g_M_reachFrom : List (Nat × List Instr) := [(0, k_M_reachFrom_0), (2, k_M_reachFrom_2), (24, k_M_reachFrom_24), (25, k_M_reachFrom_25), (32, k_M_reachFrom_32), (34, k_M_reachFrom_34), (42, k_M_reachFrom_42), (79, k_M_reachFrom_79), (82, k_M_reachFrom_82), (124, k_M_reachFrom_124), (157, k_M_reachFrom_157), (163, k_M_reachFrom_163), (169, k_M_reachFrom_169)]
theorem o_M_reachFrom : ∀ q ∈ g_M_reachFrom, okB b_M_reachFrom q.1 q.2 = true := List.all_eq_true.mp (by decide +kernel : g_M_reachFrom.all (fun q => okB b_M_reachFrom q.1 q.2) = true)
theorem j_M_reachFrom_0 (f : List Instr → Prop) : lk1 g_M_reachFrom 0 f = f [.iconst 0, .istore_n 3] := (rfl)
theorem j_M_reachFrom_2 (f : List Instr → Prop) : lk1 g_M_reachFrom 2 f = f [.iload_n 3, .aload_n 0, .getfield 160, .if_icmp .ge 25, .aload_n 0, .getfield 82, .iload_n 3, .iload_n 3, .iload_n 1, .if_icmp .ne 7, .iconst 1, .goto 4] := (rfl)
theorem j_M_reachFrom_24 (f : List Instr → Prop) : lk1 g_M_reachFrom 24 f = f [.iconst 0] := (rfl)
theorem j_M_reachFrom_25 (f : List Instr → Prop) : lk1 g_M_reachFrom 25 f = f [.iastore, .iinc 3 1, .goto (-27)] := (rfl)
theorem j_M_reachFrom_32 (f : List Instr → Prop) : lk1 g_M_reachFrom 32 f = f [.iconst 0, .istore_n 3] := (rfl)
theorem j_M_reachFrom_34 (f : List Instr → Prop) : lk1 g_M_reachFrom 34 f = f [.iload_n 3, .iload_n 2, .if_icmp .ge 133, .iconst 0, .istore 4] := (rfl)
theorem j_M_reachFrom_42 (f : List Instr → Prop) : lk1 g_M_reachFrom 42 f = f [.iload 4, .aload_n 0, .getfield 160, .if_icmp .ge 31, .aload_n 0, .getfield 85, .iload 4, .aload_n 0, .getfield 82, .iload 4, .iaload, .iastore, .aload_n 0, .getfield 82, .iload 4, .iconst 0, .iastore, .iinc 4 1, .goto (-34)] := (rfl)
theorem j_M_reachFrom_79 (f : List Instr → Prop) : lk1 g_M_reachFrom 79 f = f [.iconst 0, .istore 4] := (rfl)
theorem j_M_reachFrom_82 (f : List Instr → Prop) : lk1 g_M_reachFrom 82 f = f [.iload 4, .aload_n 0, .getfield 160, .if_icmp .ge 75, .aload_n 0, .getfield 54, .iload 4, .iaload, .iconst (-1), .if_icmp .eq 25, .aload_n 0, .getfield 82, .aload_n 0, .getfield 54, .iload 4, .iaload, .dup2, .iaload, .aload_n 0, .getfield 85, .iload 4, .iaload, .iadd, .iastore] := (rfl)
theorem j_M_reachFrom_124 (f : List Instr → Prop) : lk1 g_M_reachFrom 124 f = f [.aload_n 0, .getfield 57, .iload 4, .iaload, .iconst (-1), .if_icmp .eq 25, .aload_n 0, .getfield 82, .aload_n 0, .getfield 57, .iload 4, .iaload, .dup2, .iaload, .aload_n 0, .getfield 85, .iload 4, .iaload, .iadd, .iastore] := (rfl)
theorem j_M_reachFrom_157 (f : List Instr → Prop) : lk1 g_M_reachFrom 157 f = f [.iinc 4 1, .goto (-78)] := (rfl)
theorem j_M_reachFrom_163 (f : List Instr → Prop) : lk1 g_M_reachFrom 163 f = f [.iinc 3 1, .goto (-132)] := (rfl)
theorem j_M_reachFrom_169 (f : List Instr → Prop) : lk1 g_M_reachFrom 169 f = f [.return_] := (rfl)
abbrev b_M_mark : ByteArray := prog_11_method_37_code
abbrev y_M_mark : MethodName := ⟨RX9, "mark", "(I)I"⟩
def k_M_mark_0 : List Instr := [.iload_n 1, .i2l, .lconst 1, .ldc2_w 209, .invokestatic 108, .ifCond .ne 6, .bipush (-2), .ireturn]
def k_M_mark_15 : List Instr := [.aload_n 0, .getfield 160, .ifCond .ne 6, .bipush (-3), .ireturn]
def k_M_mark_25 : List Instr := [.iconst 1, .istore_n 2]
def k_M_mark_27 : List Instr := [.iload_n 2, .iload_n 1, .if_icmp .gt 40, .iconst 0, .istore_n 3]
def k_M_mark_34 : List Instr := [.iload_n 3, .iconst 1, .iload_n 2, .ishl, .if_icmp .ge 25, .aload_n 0, .iload_n 3, .iload_n 2, .invokevirtual 215, .ifCond .ne 10, .aload_n 0, .iload_n 3, .putfield 182, .iload_n 2, .ireturn]
def k_M_mark_57 : List Instr := [.iinc 3 1, .goto (-26)]
def k_M_mark_63 : List Instr := [.iinc 2 1, .goto (-39)]
def k_M_mark_69 : List Instr := [.iconst (-1), .ireturn]
def g_M_mark : List (Nat × List Instr) := [(0, k_M_mark_0), (15, k_M_mark_15), (25, k_M_mark_25), (27, k_M_mark_27), (34, k_M_mark_34), (57, k_M_mark_57), (63, k_M_mark_63), (69, k_M_mark_69)]
theorem o_M_mark : ∀ q ∈ g_M_mark, okB b_M_mark q.1 q.2 = true := List.all_eq_true.mp (by decide +kernel : g_M_mark.all (fun q => okB b_M_mark q.1 q.2) = true)
theorem j_M_mark_0 (f : List Instr → Prop) : lk1 g_M_mark 0 f = f [.iload_n 1, .i2l, .lconst 1, .ldc2_w 209, .invokestatic 108, .ifCond .ne 6, .bipush (-2), .ireturn] := (rfl)
theorem j_M_mark_15 (f : List Instr → Prop) : lk1 g_M_mark 15 f = f [.aload_n 0, .getfield 160, .ifCond .ne 6, .bipush (-3), .ireturn] := (rfl)
theorem j_M_mark_25 (f : List Instr → Prop) : lk1 g_M_mark 25 f = f [.iconst 1, .istore_n 2] := (rfl)
theorem j_M_mark_27 (f : List Instr → Prop) : lk1 g_M_mark 27 f = f [.iload_n 2, .iload_n 1, .if_icmp .gt 40, .iconst 0, .istore_n 3] := (rfl)
theorem j_M_mark_34 (f : List Instr → Prop) : lk1 g_M_mark 34 f = f [.iload_n 3, .iconst 1, .iload_n 2, .ishl, .if_icmp .ge 25, .aload_n 0, .iload_n 3, .iload_n 2, .invokevirtual 215, .ifCond .ne 10, .aload_n 0, .iload_n 3, .putfield 182, .iload_n 2, .ireturn] := (rfl)
theorem j_M_mark_57 (f : List Instr → Prop) : lk1 g_M_mark 57 f = f [.iinc 3 1, .goto (-26)] := (rfl)
theorem j_M_mark_63 (f : List Instr → Prop) : lk1 g_M_mark 63 f = f [.iinc 2 1, .goto (-39)] := (rfl)
theorem j_M_mark_69 (f : List Instr → Prop) : lk1 g_M_mark 69 f = f [.iconst (-1), .ireturn] := (rfl)
abbrev b_M_comes : ByteArray := prog_11_method_36_code
abbrev y_M_comes : MethodName := ⟨RX9, "comes", "(II)Z"⟩
def k_M_comes_0 : List Instr := [.iconst 0, .istore_n 3]
def k_M_comes_2 : List Instr := [.iload_n 3, .aload_n 0, .getfield 160, .if_icmp .ge 23, .aload_n 0, .iload_n 3, .iload_n 1, .i2l, .iload_n 2, .invokevirtual 197, .iconst (-1), .if_icmp .eq 5, .iconst 1, .ireturn]
def k_M_comes_24 : List Instr := [.iinc 3 1, .goto (-25)]
def k_M_comes_30 : List Instr := [.iconst 0, .ireturn]
def g_M_comes : List (Nat × List Instr) := [(0, k_M_comes_0), (2, k_M_comes_2), (24, k_M_comes_24), (30, k_M_comes_30)]
theorem o_M_comes : ∀ q ∈ g_M_comes, okB b_M_comes q.1 q.2 = true := List.all_eq_true.mp (by decide +kernel : g_M_comes.all (fun q => okB b_M_comes q.1 q.2) = true)
theorem j_M_comes_0 (f : List Instr → Prop) : lk1 g_M_comes 0 f = f [.iconst 0, .istore_n 3] := (rfl)
theorem j_M_comes_2 (f : List Instr → Prop) : lk1 g_M_comes 2 f = f [.iload_n 3, .aload_n 0, .getfield 160, .if_icmp .ge 23, .aload_n 0, .iload_n 3, .iload_n 1, .i2l, .iload_n 2, .invokevirtual 197, .iconst (-1), .if_icmp .eq 5, .iconst 1, .ireturn] := (rfl)
theorem j_M_comes_24 (f : List Instr → Prop) : lk1 g_M_comes 24 f = f [.iinc 3 1, .goto (-25)] := (rfl)
theorem j_M_comes_30 (f : List Instr → Prop) : lk1 g_M_comes 30 f = f [.iconst 0, .ireturn] := (rfl)
abbrev b_M_marked : ByteArray := prog_11_method_38_code
abbrev y_M_marked : MethodName := ⟨RX9, "marked", "()I"⟩
def k_M_marked_0 : List Instr := [.aload_n 0, .getfield 182, .ireturn]
def g_M_marked : List (Nat × List Instr) := [(0, k_M_marked_0)]
theorem o_M_marked : ∀ q ∈ g_M_marked, okB b_M_marked q.1 q.2 = true := List.all_eq_true.mp (by decide +kernel : g_M_marked.all (fun q => okB b_M_marked q.1 q.2) = true)
theorem j_M_marked_0 (f : List Instr → Prop) : lk1 g_M_marked 0 f = f [.aload_n 0, .getfield 182, .ireturn] := (rfl)
abbrev b_M_weigh : ByteArray := prog_11_method_39_code
abbrev y_M_weigh : MethodName := ⟨RX9, "weigh", "(II)I"⟩
def k_M_weigh_0 : List Instr := [.aload_n 0, .iload_n 1, .invokevirtual 185, .ifCond .eq 15, .iload_n 2, .i2l, .lconst 0, .ldc2_w 219, .invokestatic 108, .ifCond .ne 6]
def k_M_weigh_20 : List Instr := [.bipush (-2), .ireturn]
def k_M_weigh_23 : List Instr := [.aload_n 0, .getfield 75, .iload_n 1, .iaload, .istore_n 3, .aload_n 0, .getfield 75, .iload_n 1, .iload_n 2, .iastore, .iload_n 3, .ireturn]
def g_M_weigh : List (Nat × List Instr) := [(0, k_M_weigh_0), (20, k_M_weigh_20), (23, k_M_weigh_23)]
theorem o_M_weigh : ∀ q ∈ g_M_weigh, okB b_M_weigh q.1 q.2 = true := List.all_eq_true.mp (by decide +kernel : g_M_weigh.all (fun q => okB b_M_weigh q.1 q.2) = true)
theorem j_M_weigh_0 (f : List Instr → Prop) : lk1 g_M_weigh 0 f = f [.aload_n 0, .iload_n 1, .invokevirtual 185, .ifCond .eq 15, .iload_n 2, .i2l, .lconst 0, .ldc2_w 219, .invokestatic 108, .ifCond .ne 6] := (rfl)
theorem j_M_weigh_20 (f : List Instr → Prop) : lk1 g_M_weigh 20 f = f [.bipush (-2), .ireturn] := (rfl)
theorem j_M_weigh_23 (f : List Instr → Prop) : lk1 g_M_weigh 23 f = f [.aload_n 0, .getfield 75, .iload_n 1, .iaload, .istore_n 3, .aload_n 0, .getfield 75, .iload_n 1, .iload_n 2, .iastore, .iload_n 3, .ireturn] := (rfl)
abbrev b_M_weight : ByteArray := prog_11_method_40_code
abbrev y_M_weight : MethodName := ⟨RX9, "weight", "(I)I"⟩
def k_M_weight_0 : List Instr := [.aload_n 0, .iload_n 1, .invokevirtual 185, .ifCond .eq 12, .aload_n 0, .getfield 75, .iload_n 1, .iaload, .goto 5]
def k_M_weight_17 : List Instr := [.bipush (-2)]
def k_M_weight_19 : List Instr := [.ireturn]
def g_M_weight : List (Nat × List Instr) := [(0, k_M_weight_0), (17, k_M_weight_17), (19, k_M_weight_19)]
theorem o_M_weight : ∀ q ∈ g_M_weight, okB b_M_weight q.1 q.2 = true := List.all_eq_true.mp (by decide +kernel : g_M_weight.all (fun q => okB b_M_weight q.1 q.2) = true)
theorem j_M_weight_0 (f : List Instr → Prop) : lk1 g_M_weight 0 f = f [.aload_n 0, .iload_n 1, .invokevirtual 185, .ifCond .eq 12, .aload_n 0, .getfield 75, .iload_n 1, .iaload, .goto 5] := (rfl)
theorem j_M_weight_17 (f : List Instr → Prop) : lk1 g_M_weight 17 f = f [.bipush (-2)] := (rfl)
theorem j_M_weight_19 (f : List Instr → Prop) : lk1 g_M_weight 19 f = f [.ireturn] := (rfl)
abbrev b_M_judge : ByteArray := prog_11_method_43_code
abbrev y_M_judge : MethodName := ⟨RX9, "judge", "(II)I"⟩
def k_M_judge_0 : List Instr := [.iload_n 1, .i2l, .lconst 0, .ldc2_w 209, .invokestatic 108, .ifCond .eq 15, .iload_n 2, .i2l, .lconst 1, .ldc2_w 209, .invokestatic 108, .ifCond .ne 6]
def k_M_judge_24 : List Instr := [.bipush (-2), .ireturn]
def k_M_judge_27 : List Instr := [.aload_n 0, .getfield 160, .ifCond .ne 6, .bipush (-3), .ireturn]
def k_M_judge_37 : List Instr := [.aload_n 0, .invokevirtual 221, .ifCond .ne 5, .iconst 0, .ireturn]
def k_M_judge_46 : List Instr := [.iconst 0, .istore_n 3]
def k_M_judge_48 : List Instr := [.iload_n 3, .aload_n 0, .getfield 160, .if_icmp .ge 30, .aload_n 0, .iload_n 3, .iload_n 2, .invokevirtual 224, .aload_n 0, .getfield 75, .iload_n 3, .iaload, .i2l, .iload_n 1, .lshl, .lcmp, .ifCond .ge 5, .iload_n 3, .ireturn]
def k_M_judge_77 : List Instr := [.iinc 3 1, .goto (-32)]
def k_M_judge_83 : List Instr := [.iconst (-1), .ireturn]
def g_M_judge : List (Nat × List Instr) := [(0, k_M_judge_0), (24, k_M_judge_24), (27, k_M_judge_27), (37, k_M_judge_37), (46, k_M_judge_46), (48, k_M_judge_48), (77, k_M_judge_77), (83, k_M_judge_83)]
theorem o_M_judge : ∀ q ∈ g_M_judge, okB b_M_judge q.1 q.2 = true := List.all_eq_true.mp (by decide +kernel : g_M_judge.all (fun q => okB b_M_judge q.1 q.2) = true)
theorem j_M_judge_0 (f : List Instr → Prop) : lk1 g_M_judge 0 f = f [.iload_n 1, .i2l, .lconst 0, .ldc2_w 209, .invokestatic 108, .ifCond .eq 15, .iload_n 2, .i2l, .lconst 1, .ldc2_w 209, .invokestatic 108, .ifCond .ne 6] := (rfl)
theorem j_M_judge_24 (f : List Instr → Prop) : lk1 g_M_judge 24 f = f [.bipush (-2), .ireturn] := (rfl)
theorem j_M_judge_27 (f : List Instr → Prop) : lk1 g_M_judge 27 f = f [.aload_n 0, .getfield 160, .ifCond .ne 6, .bipush (-3), .ireturn] := (rfl)
theorem j_M_judge_37 (f : List Instr → Prop) : lk1 g_M_judge 37 f = f [.aload_n 0, .invokevirtual 221, .ifCond .ne 5, .iconst 0, .ireturn] := (rfl)
theorem j_M_judge_46 (f : List Instr → Prop) : lk1 g_M_judge 46 f = f [.iconst 0, .istore_n 3] := (rfl)
theorem j_M_judge_48 (f : List Instr → Prop) : lk1 g_M_judge 48 f = f [.iload_n 3, .aload_n 0, .getfield 160, .if_icmp .ge 30, .aload_n 0, .iload_n 3, .iload_n 2, .invokevirtual 224, .aload_n 0, .getfield 75, .iload_n 3, .iaload, .i2l, .iload_n 1, .lshl, .lcmp, .ifCond .ge 5, .iload_n 3, .ireturn] := (rfl)
theorem j_M_judge_77 (f : List Instr → Prop) : lk1 g_M_judge 77 f = f [.iinc 3 1, .goto (-32)] := (rfl)
theorem j_M_judge_83 (f : List Instr → Prop) : lk1 g_M_judge 83 f = f [.iconst (-1), .ireturn] := (rfl)
abbrev b_M_allWeights : ByteArray := prog_11_method_42_code
abbrev y_M_allWeights : MethodName := ⟨RX9, "allWeights", "()I"⟩
def k_M_allWeights_0 : List Instr := [.iconst 0, .istore_n 1, .iconst 0, .istore_n 2]
def k_M_allWeights_4 : List Instr := [.iload_n 2, .aload_n 0, .getfield 160, .if_icmp .ge 18, .iload_n 1, .aload_n 0, .getfield 75, .iload_n 2, .iaload, .iadd, .istore_n 1, .iinc 2 1, .goto (-20)]
def k_M_allWeights_27 : List Instr := [.iload_n 1, .ireturn]
def g_M_allWeights : List (Nat × List Instr) := [(0, k_M_allWeights_0), (4, k_M_allWeights_4), (27, k_M_allWeights_27)]
theorem o_M_allWeights : ∀ q ∈ g_M_allWeights, okB b_M_allWeights q.1 q.2 = true := List.all_eq_true.mp (by decide +kernel : g_M_allWeights.all (fun q => okB b_M_allWeights q.1 q.2) = true)
theorem j_M_allWeights_0 (f : List Instr → Prop) : lk1 g_M_allWeights 0 f = f [.iconst 0, .istore_n 1, .iconst 0, .istore_n 2] := (rfl)
theorem j_M_allWeights_4 (f : List Instr → Prop) : lk1 g_M_allWeights 4 f = f [.iload_n 2, .aload_n 0, .getfield 160, .if_icmp .ge 18, .iload_n 1, .aload_n 0, .getfield 75, .iload_n 2, .iaload, .iadd, .istore_n 1, .iinc 2 1, .goto (-20)] := (rfl)
theorem j_M_allWeights_27 (f : List Instr → Prop) : lk1 g_M_allWeights 27 f = f [.iload_n 1, .ireturn] := (rfl)
abbrev b_M_weighed : ByteArray := prog_11_method_41_code
abbrev y_M_weighed : MethodName := ⟨RX9, "weighed", "(II)J"⟩
def k_M_weighed_0 : List Instr := [.aload_n 0, .iload_n 1, .iload_n 2, .invokevirtual 211, .lconst 0, .lstore_n 3, .iconst 0, .istore 5]
def k_M_weighed_11 : List Instr := [.iload 5, .aload_n 0, .getfield 160, .if_icmp .ge 29, .lload_n 3, .aload_n 0, .getfield 82, .iload 5, .iaload, .i2l, .aload_n 0, .getfield 75, .iload 5, .iaload, .i2l, .lmul, .ladd, .lstore_n 3, .iinc 5 1, .goto (-32)]
def k_M_weighed_46 : List Instr := [.lload_n 3, .lreturn]
def g_M_weighed : List (Nat × List Instr) := [(0, k_M_weighed_0), (11, k_M_weighed_11), (46, k_M_weighed_46)]
theorem o_M_weighed : ∀ q ∈ g_M_weighed, okB b_M_weighed q.1 q.2 = true := List.all_eq_true.mp (by decide +kernel : g_M_weighed.all (fun q => okB b_M_weighed q.1 q.2) = true)
theorem j_M_weighed_0 (f : List Instr → Prop) : lk1 g_M_weighed 0 f = f [.aload_n 0, .iload_n 1, .iload_n 2, .invokevirtual 211, .lconst 0, .lstore_n 3, .iconst 0, .istore 5] := (rfl)
theorem j_M_weighed_11 (f : List Instr → Prop) : lk1 g_M_weighed 11 f = f [.iload 5, .aload_n 0, .getfield 160, .if_icmp .ge 29, .lload_n 3, .aload_n 0, .getfield 82, .iload 5, .iaload, .i2l, .aload_n 0, .getfield 75, .iload 5, .iaload, .i2l, .lmul, .ladd, .lstore_n 3, .iinc 5 1, .goto (-32)] := (rfl)
theorem j_M_weighed_46 (f : List Instr → Prop) : lk1 g_M_weighed 46 f = f [.lload_n 3, .lreturn] := (rfl)
abbrev b_M_best : ByteArray := prog_11_method_44_code
abbrev y_M_best : MethodName := ⟨RX9, "best", "(III)I"⟩
def k_M_best_0 : List Instr := [.iload_n 1, .i2l, .lconst 0, .ldc2_w 209, .invokestatic 108, .ifCond .eq 27, .iload_n 2, .i2l, .lconst 1, .ldc2_w 209, .invokestatic 108, .ifCond .eq 15, .iload_n 3, .i2l, .lconst 1, .ldc2_w 228, .invokestatic 108, .ifCond .ne 6]
def k_M_best_36 : List Instr := [.bipush (-2), .ireturn]
def k_M_best_39 : List Instr := [.aload_n 0, .getfield 160, .ifCond .ne 6, .bipush (-3), .ireturn]
def k_M_best_49 : List Instr := [.iconst 0, .istore 4]
def k_M_best_52 : List Instr := [.iload 4, .aload_n 0, .getfield 160, .if_icmp .ge 17, .aload_n 0, .getfield 75, .iload 4, .iload_n 3, .iastore, .iinc 4 1, .goto (-20)]
def k_M_best_75 : List Instr := [.iconst 0, .istore 4]
def k_M_best_78 : List Instr := [.iload 4, .aload_n 0, .getfield 160, .if_icmp .ge 54, .aload_n 0, .iload 4, .iload_n 2, .invokevirtual 211, .iconst 0, .istore 5]
def k_M_best_97 : List Instr := [.iload 5, .aload_n 0, .getfield 160, .if_icmp .ge 29, .aload_n 0, .getfield 88, .bipush 100, .iload 4, .imul, .iload 5, .iadd, .aload_n 0, .getfield 82, .iload 5, .iaload, .iastore, .iinc 5 1, .goto (-32)]
def k_M_best_132 : List Instr := [.iinc 4 1, .goto (-57)]
def k_M_best_138 : List Instr := [.iconst 1, .istore 4]
def k_M_best_141 : List Instr := [.iload 4, .ifCond .eq 109, .iconst 0, .istore 4, .iconst 0, .istore 5]
def k_M_best_152 : List Instr := [.iload 5, .aload_n 0, .getfield 160, .if_icmp .ge 91, .lconst 0, .lstore 6, .iconst 0, .istore 8]
def k_M_best_167 : List Instr := [.iload 8, .aload_n 0, .getfield 160, .if_icmp .ge 37, .lload 6, .aload_n 0, .getfield 88, .bipush 100, .iload 5, .imul, .iload 8, .iadd, .iaload, .i2l, .aload_n 0, .getfield 75, .iload 8, .iaload, .i2l, .lmul, .ladd, .lstore 6, .iinc 8 1, .goto (-40)]
def k_M_best_210 : List Instr := [.lload 6, .iload_n 1, .lshr, .lstore 6, .lload 6, .aload_n 0, .getfield 75, .iload 5, .iaload, .i2l, .lcmp, .ifCond .ge 16, .aload_n 0, .getfield 75, .iload 5, .lload 6, .l2i, .iastore, .iconst 1, .istore 4]
def k_M_best_243 : List Instr := [.iinc 5 1, .goto (-94)]
def k_M_best_249 : List Instr := [.goto (-108)]
def k_M_best_252 : List Instr := [.aload_n 0, .invokevirtual 221, .ireturn]
def g_M_best : List (Nat × List Instr) := [(0, k_M_best_0), (36, k_M_best_36), (39, k_M_best_39), (49, k_M_best_49), (52, k_M_best_52), (75, k_M_best_75), (78, k_M_best_78), (97, k_M_best_97), (132, k_M_best_132), (138, k_M_best_138), (141, k_M_best_141), (152, k_M_best_152), (167, k_M_best_167), (210, k_M_best_210), (243, k_M_best_243), (249, k_M_best_249), (252, k_M_best_252)]
theorem o_M_best : ∀ q ∈ g_M_best, okB b_M_best q.1 q.2 = true := List.all_eq_true.mp (by decide +kernel : g_M_best.all (fun q => okB b_M_best q.1 q.2) = true)
theorem j_M_best_0 (f : List Instr → Prop) : lk1 g_M_best 0 f = f [.iload_n 1, .i2l, .lconst 0, .ldc2_w 209, .invokestatic 108, .ifCond .eq 27, .iload_n 2, .i2l, .lconst 1, .ldc2_w 209, .invokestatic 108, .ifCond .eq 15, .iload_n 3, .i2l, .lconst 1, .ldc2_w 228, .invokestatic 108, .ifCond .ne 6] := (rfl)
theorem j_M_best_36 (f : List Instr → Prop) : lk1 g_M_best 36 f = f [.bipush (-2), .ireturn] := (rfl)
theorem j_M_best_39 (f : List Instr → Prop) : lk1 g_M_best 39 f = f [.aload_n 0, .getfield 160, .ifCond .ne 6, .bipush (-3), .ireturn] := (rfl)
theorem j_M_best_49 (f : List Instr → Prop) : lk1 g_M_best 49 f = f [.iconst 0, .istore 4] := (rfl)
theorem j_M_best_52 (f : List Instr → Prop) : lk1 g_M_best 52 f = f [.iload 4, .aload_n 0, .getfield 160, .if_icmp .ge 17, .aload_n 0, .getfield 75, .iload 4, .iload_n 3, .iastore, .iinc 4 1, .goto (-20)] := (rfl)
theorem j_M_best_75 (f : List Instr → Prop) : lk1 g_M_best 75 f = f [.iconst 0, .istore 4] := (rfl)
theorem j_M_best_78 (f : List Instr → Prop) : lk1 g_M_best 78 f = f [.iload 4, .aload_n 0, .getfield 160, .if_icmp .ge 54, .aload_n 0, .iload 4, .iload_n 2, .invokevirtual 211, .iconst 0, .istore 5] := (rfl)
theorem j_M_best_97 (f : List Instr → Prop) : lk1 g_M_best 97 f = f [.iload 5, .aload_n 0, .getfield 160, .if_icmp .ge 29, .aload_n 0, .getfield 88, .bipush 100, .iload 4, .imul, .iload 5, .iadd, .aload_n 0, .getfield 82, .iload 5, .iaload, .iastore, .iinc 5 1, .goto (-32)] := (rfl)
theorem j_M_best_132 (f : List Instr → Prop) : lk1 g_M_best 132 f = f [.iinc 4 1, .goto (-57)] := (rfl)
theorem j_M_best_138 (f : List Instr → Prop) : lk1 g_M_best 138 f = f [.iconst 1, .istore 4] := (rfl)
theorem j_M_best_141 (f : List Instr → Prop) : lk1 g_M_best 141 f = f [.iload 4, .ifCond .eq 109, .iconst 0, .istore 4, .iconst 0, .istore 5] := (rfl)
theorem j_M_best_152 (f : List Instr → Prop) : lk1 g_M_best 152 f = f [.iload 5, .aload_n 0, .getfield 160, .if_icmp .ge 91, .lconst 0, .lstore 6, .iconst 0, .istore 8] := (rfl)
theorem j_M_best_167 (f : List Instr → Prop) : lk1 g_M_best 167 f = f [.iload 8, .aload_n 0, .getfield 160, .if_icmp .ge 37, .lload 6, .aload_n 0, .getfield 88, .bipush 100, .iload 5, .imul, .iload 8, .iadd, .iaload, .i2l, .aload_n 0, .getfield 75, .iload 8, .iaload, .i2l, .lmul, .ladd, .lstore 6, .iinc 8 1, .goto (-40)] := (rfl)
theorem j_M_best_210 (f : List Instr → Prop) : lk1 g_M_best 210 f = f [.lload 6, .iload_n 1, .lshr, .lstore 6, .lload 6, .aload_n 0, .getfield 75, .iload 5, .iaload, .i2l, .lcmp, .ifCond .ge 16, .aload_n 0, .getfield 75, .iload 5, .lload 6, .l2i, .iastore, .iconst 1, .istore 4] := (rfl)
theorem j_M_best_243 (f : List Instr → Prop) : lk1 g_M_best 243 f = f [.iinc 5 1, .goto (-94)] := (rfl)
theorem j_M_best_249 (f : List Instr → Prop) : lk1 g_M_best 249 f = f [.goto (-108)] := (rfl)
theorem j_M_best_252 (f : List Instr → Prop) : lk1 g_M_best 252 f = f [.aload_n 0, .invokevirtual 221, .ireturn] := (rfl)
abbrev b_M_code : ByteArray := prog_11_method_46_code
abbrev y_M_code : MethodName := ⟨RX9, "code", "(II)I"⟩
def k_M_code_0 : List Instr := [.iload_n 1, .i2l, .lconst 1, .ldc2_w 233, .invokestatic 108, .ifCond .eq 15, .iload_n 2, .i2l, .lconst 1, .ldc2_w 209, .invokestatic 108, .ifCond .ne 6]
def k_M_code_24 : List Instr := [.bipush (-2), .ireturn]
def k_M_code_27 : List Instr := [.aload_n 0, .getfield 160, .ifCond .ne 6, .bipush (-3), .ireturn]
def k_M_code_37 : List Instr := [.aload_n 0, .iload_n 1, .putfield 235, .aload_n 0, .iload_n 2, .putfield 230, .aload_n 0, .aload_n 0, .getfield 160, .putfield 179, .iconst 0, .istore_n 3]
def k_M_code_57 : List Instr := [.iload_n 3, .aload_n 0, .getfield 160, .if_icmp .ge 16, .aload_n 0, .getfield 91, .iload_n 3, .iconst 1, .bastore, .iinc 3 1, .goto (-18)]
def k_M_code_78 : List Instr := [.iconst 1, .istore_n 3]
def k_M_code_80 : List Instr := [.iload_n 3, .ifCond .eq 68, .iconst 0, .istore_n 3, .iconst 0, .istore 4]
def k_M_code_89 : List Instr := [.iload 4, .aload_n 0, .getfield 160, .if_icmp .ge 51, .aload_n 0, .getfield 91, .iload 4, .baload, .ifCond .eq 35, .aload_n 0, .iload 4, .invokevirtual 238, .iconst 1, .iload_n 1, .ishl, .if_icmp .ge 23, .aload_n 0, .getfield 91, .iload 4, .iconst 0, .bastore, .aload_n 0, .dup, .getfield 179, .iconst 1, .isub, .putfield 179, .iconst 1, .istore_n 3]
def k_M_code_140 : List Instr := [.iinc 4 1, .goto (-54)]
def k_M_code_146 : List Instr := [.goto (-66)]
def k_M_code_149 : List Instr := [.aload_n 0, .getfield 179, .ireturn]
def g_M_code : List (Nat × List Instr) := [(0, k_M_code_0), (24, k_M_code_24), (27, k_M_code_27), (37, k_M_code_37), (57, k_M_code_57), (78, k_M_code_78), (80, k_M_code_80), (89, k_M_code_89), (140, k_M_code_140), (146, k_M_code_146), (149, k_M_code_149)]
theorem o_M_code : ∀ q ∈ g_M_code, okB b_M_code q.1 q.2 = true := List.all_eq_true.mp (by decide +kernel : g_M_code.all (fun q => okB b_M_code q.1 q.2) = true)
theorem j_M_code_0 (f : List Instr → Prop) : lk1 g_M_code 0 f = f [.iload_n 1, .i2l, .lconst 1, .ldc2_w 233, .invokestatic 108, .ifCond .eq 15, .iload_n 2, .i2l, .lconst 1, .ldc2_w 209, .invokestatic 108, .ifCond .ne 6] := (rfl)
theorem j_M_code_24 (f : List Instr → Prop) : lk1 g_M_code 24 f = f [.bipush (-2), .ireturn] := (rfl)
theorem j_M_code_27 (f : List Instr → Prop) : lk1 g_M_code 27 f = f [.aload_n 0, .getfield 160, .ifCond .ne 6, .bipush (-3), .ireturn] := (rfl)
theorem j_M_code_37 (f : List Instr → Prop) : lk1 g_M_code 37 f = f [.aload_n 0, .iload_n 1, .putfield 235, .aload_n 0, .iload_n 2, .putfield 230, .aload_n 0, .aload_n 0, .getfield 160, .putfield 179, .iconst 0, .istore_n 3] := (rfl)
theorem j_M_code_57 (f : List Instr → Prop) : lk1 g_M_code 57 f = f [.iload_n 3, .aload_n 0, .getfield 160, .if_icmp .ge 16, .aload_n 0, .getfield 91, .iload_n 3, .iconst 1, .bastore, .iinc 3 1, .goto (-18)] := (rfl)
theorem j_M_code_78 (f : List Instr → Prop) : lk1 g_M_code 78 f = f [.iconst 1, .istore_n 3] := (rfl)
theorem j_M_code_80 (f : List Instr → Prop) : lk1 g_M_code 80 f = f [.iload_n 3, .ifCond .eq 68, .iconst 0, .istore_n 3, .iconst 0, .istore 4] := (rfl)
theorem j_M_code_89 (f : List Instr → Prop) : lk1 g_M_code 89 f = f [.iload 4, .aload_n 0, .getfield 160, .if_icmp .ge 51, .aload_n 0, .getfield 91, .iload 4, .baload, .ifCond .eq 35, .aload_n 0, .iload 4, .invokevirtual 238, .iconst 1, .iload_n 1, .ishl, .if_icmp .ge 23, .aload_n 0, .getfield 91, .iload 4, .iconst 0, .bastore, .aload_n 0, .dup, .getfield 179, .iconst 1, .isub, .putfield 179, .iconst 1, .istore_n 3] := (rfl)
theorem j_M_code_140 (f : List Instr → Prop) : lk1 g_M_code 140 f = f [.iinc 4 1, .goto (-54)] := (rfl)
theorem j_M_code_146 (f : List Instr → Prop) : lk1 g_M_code 146 f = f [.goto (-66)] := (rfl)
theorem j_M_code_149 (f : List Instr → Prop) : lk1 g_M_code 149 f = f [.aload_n 0, .getfield 179, .ireturn] := (rfl)
abbrev b_M_leading : ByteArray := prog_11_method_45_code
abbrev y_M_leading : MethodName := ⟨RX9, "leading", "(I)I"⟩
def k_M_leading_0 : List Instr := [.aload_n 0, .iload_n 1, .aload_n 0, .getfield 230, .invokevirtual 211, .iconst 0, .istore_n 2, .iconst 0, .istore_n 3]
def k_M_leading_13 : List Instr := [.iload_n 3, .aload_n 0, .getfield 160, .if_icmp .ge 31, .iload_n 2, .aload_n 0, .getfield 91, .iload_n 3, .baload, .ifCond .eq 12, .aload_n 0, .getfield 82, .iload_n 3, .iaload, .goto 4]
def k_M_leading_40 : List Instr := [.iconst 0]
def k_M_leading_41 : List Instr := [.iadd, .istore_n 2, .iinc 3 1, .goto (-33)]
def k_M_leading_49 : List Instr := [.iload_n 2, .ireturn]
def g_M_leading : List (Nat × List Instr) := [(0, k_M_leading_0), (13, k_M_leading_13), (40, k_M_leading_40), (41, k_M_leading_41), (49, k_M_leading_49)]
theorem o_M_leading : ∀ q ∈ g_M_leading, okB b_M_leading q.1 q.2 = true := List.all_eq_true.mp (by decide +kernel : g_M_leading.all (fun q => okB b_M_leading q.1 q.2) = true)
theorem j_M_leading_0 (f : List Instr → Prop) : lk1 g_M_leading 0 f = f [.aload_n 0, .iload_n 1, .aload_n 0, .getfield 230, .invokevirtual 211, .iconst 0, .istore_n 2, .iconst 0, .istore_n 3] := (rfl)
theorem j_M_leading_13 (f : List Instr → Prop) : lk1 g_M_leading 13 f = f [.iload_n 3, .aload_n 0, .getfield 160, .if_icmp .ge 31, .iload_n 2, .aload_n 0, .getfield 91, .iload_n 3, .baload, .ifCond .eq 12, .aload_n 0, .getfield 82, .iload_n 3, .iaload, .goto 4] := (rfl)
theorem j_M_leading_40 (f : List Instr → Prop) : lk1 g_M_leading 40 f = f [.iconst 0] := (rfl)
theorem j_M_leading_41 (f : List Instr → Prop) : lk1 g_M_leading 41 f = f [.iadd, .istore_n 2, .iinc 3 1, .goto (-33)] := (rfl)
theorem j_M_leading_49 (f : List Instr → Prop) : lk1 g_M_leading 49 f = f [.iload_n 2, .ireturn] := (rfl)
abbrev b_M_member : ByteArray := prog_11_method_48_code
abbrev y_M_member : MethodName := ⟨RX9, "member", "(I)I"⟩
def k_M_member_0 : List Instr := [.aload_n 0, .iload_n 1, .invokevirtual 185, .ifCond .ne 6, .bipush (-2), .ireturn]
def k_M_member_11 : List Instr := [.aload_n 0, .getfield 179, .ifCond .ne 8, .bipush (-3), .goto 17]
def k_M_member_23 : List Instr := [.aload_n 0, .getfield 91, .iload_n 1, .baload, .ifCond .eq 7, .iconst 1, .goto 4]
def k_M_member_36 : List Instr := [.iconst 0]
def k_M_member_37 : List Instr := [.ireturn]
def g_M_member : List (Nat × List Instr) := [(0, k_M_member_0), (11, k_M_member_11), (23, k_M_member_23), (36, k_M_member_36), (37, k_M_member_37)]
theorem o_M_member : ∀ q ∈ g_M_member, okB b_M_member q.1 q.2 = true := List.all_eq_true.mp (by decide +kernel : g_M_member.all (fun q => okB b_M_member q.1 q.2) = true)
theorem j_M_member_0 (f : List Instr → Prop) : lk1 g_M_member 0 f = f [.aload_n 0, .iload_n 1, .invokevirtual 185, .ifCond .ne 6, .bipush (-2), .ireturn] := (rfl)
theorem j_M_member_11 (f : List Instr → Prop) : lk1 g_M_member 11 f = f [.aload_n 0, .getfield 179, .ifCond .ne 8, .bipush (-3), .goto 17] := (rfl)
theorem j_M_member_23 (f : List Instr → Prop) : lk1 g_M_member 23 f = f [.aload_n 0, .getfield 91, .iload_n 1, .baload, .ifCond .eq 7, .iconst 1, .goto 4] := (rfl)
theorem j_M_member_36 (f : List Instr → Prop) : lk1 g_M_member 36 f = f [.iconst 0] := (rfl)
theorem j_M_member_37 (f : List Instr → Prop) : lk1 g_M_member 37 f = f [.ireturn] := (rfl)
abbrev b_M_wordOf : ByteArray := prog_11_method_51_code
abbrev y_M_wordOf : MethodName := ⟨RX9, "wordOf", "(II)I"⟩
def k_M_wordOf_0 : List Instr := [.aload_n 0, .getfield 179, .ifCond .ne 6, .bipush (-3), .ireturn]
def k_M_wordOf_10 : List Instr := [.aload_n 0, .iload_n 1, .invokevirtual 185, .ifCond .eq 39, .aload_n 0, .getfield 91, .iload_n 1, .baload, .ifCond .eq 30, .iload_n 2, .i2l, .lconst 0, .iconst 1, .aload_n 0, .getfield 235, .ishl, .iconst 1, .isub, .i2l, .invokestatic 108, .ifCond .eq 12, .aload_n 0, .iload_n 1, .iload_n 2, .invokevirtual 244, .goto 5]
def k_M_wordOf_54 : List Instr := [.bipush (-2)]
def k_M_wordOf_56 : List Instr := [.ireturn]
def g_M_wordOf : List (Nat × List Instr) := [(0, k_M_wordOf_0), (10, k_M_wordOf_10), (54, k_M_wordOf_54), (56, k_M_wordOf_56)]
theorem o_M_wordOf : ∀ q ∈ g_M_wordOf, okB b_M_wordOf q.1 q.2 = true := List.all_eq_true.mp (by decide +kernel : g_M_wordOf.all (fun q => okB b_M_wordOf q.1 q.2) = true)
theorem j_M_wordOf_0 (f : List Instr → Prop) : lk1 g_M_wordOf 0 f = f [.aload_n 0, .getfield 179, .ifCond .ne 6, .bipush (-3), .ireturn] := (rfl)
theorem j_M_wordOf_10 (f : List Instr → Prop) : lk1 g_M_wordOf 10 f = f [.aload_n 0, .iload_n 1, .invokevirtual 185, .ifCond .eq 39, .aload_n 0, .getfield 91, .iload_n 1, .baload, .ifCond .eq 30, .iload_n 2, .i2l, .lconst 0, .iconst 1, .aload_n 0, .getfield 235, .ishl, .iconst 1, .isub, .i2l, .invokestatic 108, .ifCond .eq 12, .aload_n 0, .iload_n 1, .iload_n 2, .invokevirtual 244, .goto 5] := (rfl)
theorem j_M_wordOf_54 (f : List Instr → Prop) : lk1 g_M_wordOf 54 f = f [.bipush (-2)] := (rfl)
theorem j_M_wordOf_56 (f : List Instr → Prop) : lk1 g_M_wordOf 56 f = f [.ireturn] := (rfl)
abbrev b_M_wordAt : ByteArray := prog_11_method_50_code
abbrev y_M_wordAt : MethodName := ⟨RX9, "wordAt", "(II)I"⟩
def k_M_wordAt_0 : List Instr := [.iload_n 2, .istore_n 3, .iconst 0, .istore 4]
def k_M_wordAt_5 : List Instr := [.aload_n 0, .aload_n 0, .iload_n 1, .iload 4, .i2l, .aload_n 0, .getfield 230, .invokevirtual 197, .invokevirtual 241, .ifCond .eq 13, .iload_n 3, .ifCond .ne 6, .iload 4, .ireturn]
def k_M_wordAt_31 : List Instr := [.iinc 3 (-1)]
def k_M_wordAt_34 : List Instr := [.iinc 4 1, .goto (-32)]
def g_M_wordAt : List (Nat × List Instr) := [(0, k_M_wordAt_0), (5, k_M_wordAt_5), (31, k_M_wordAt_31), (34, k_M_wordAt_34)]
theorem o_M_wordAt : ∀ q ∈ g_M_wordAt, okB b_M_wordAt q.1 q.2 = true := List.all_eq_true.mp (by decide +kernel : g_M_wordAt.all (fun q => okB b_M_wordAt q.1 q.2) = true)
theorem j_M_wordAt_0 (f : List Instr → Prop) : lk1 g_M_wordAt 0 f = f [.iload_n 2, .istore_n 3, .iconst 0, .istore 4] := (rfl)
theorem j_M_wordAt_5 (f : List Instr → Prop) : lk1 g_M_wordAt 5 f = f [.aload_n 0, .aload_n 0, .iload_n 1, .iload 4, .i2l, .aload_n 0, .getfield 230, .invokevirtual 197, .invokevirtual 241, .ifCond .eq 13, .iload_n 3, .ifCond .ne 6, .iload 4, .ireturn] := (rfl)
theorem j_M_wordAt_31 (f : List Instr → Prop) : lk1 g_M_wordAt 31 f = f [.iinc 3 (-1)] := (rfl)
theorem j_M_wordAt_34 (f : List Instr → Prop) : lk1 g_M_wordAt 34 f = f [.iinc 4 1, .goto (-32)] := (rfl)
abbrev b_M_isMemberAt : ByteArray := prog_11_method_49_code
abbrev y_M_isMemberAt : MethodName := ⟨RX9, "isMemberAt", "(I)Z"⟩
def k_M_isMemberAt_0 : List Instr := [.iload_n 1, .iconst (-1), .if_icmp .eq 16, .aload_n 0, .getfield 91, .iload_n 1, .baload, .ifCond .eq 7, .iconst 1, .goto 4]
def k_M_isMemberAt_18 : List Instr := [.iconst 0]
def k_M_isMemberAt_19 : List Instr := [.ireturn]
def g_M_isMemberAt : List (Nat × List Instr) := [(0, k_M_isMemberAt_0), (18, k_M_isMemberAt_18), (19, k_M_isMemberAt_19)]
theorem o_M_isMemberAt : ∀ q ∈ g_M_isMemberAt, okB b_M_isMemberAt q.1 q.2 = true := List.all_eq_true.mp (by decide +kernel : g_M_isMemberAt.all (fun q => okB b_M_isMemberAt q.1 q.2) = true)
theorem j_M_isMemberAt_0 (f : List Instr → Prop) : lk1 g_M_isMemberAt 0 f = f [.iload_n 1, .iconst (-1), .if_icmp .eq 16, .aload_n 0, .getfield 91, .iload_n 1, .baload, .ifCond .eq 7, .iconst 1, .goto 4] := (rfl)
theorem j_M_isMemberAt_18 (f : List Instr → Prop) : lk1 g_M_isMemberAt 18 f = f [.iconst 0] := (rfl)
theorem j_M_isMemberAt_19 (f : List Instr → Prop) : lk1 g_M_isMemberAt 19 f = f [.ireturn] := (rfl)
abbrev b_M_read : ByteArray := prog_11_method_53_code
abbrev y_M_read : MethodName := ⟨RX9, "read", "(II)I"⟩
def k_M_read_0 : List Instr := [.aload_n 0, .getfield 179, .ifCond .ne 6, .bipush (-3), .ireturn]
def k_M_read_10 : List Instr := [.aload_n 0, .iload_n 1, .invokevirtual 185, .ifCond .eq 39, .aload_n 0, .getfield 91, .iload_n 1, .baload, .ifCond .eq 30, .iload_n 2, .i2l, .lconst 0, .iconst 1, .aload_n 0, .getfield 230, .ishl, .iconst 1, .isub, .i2l, .invokestatic 108, .ifCond .eq 12, .aload_n 0, .iload_n 1, .iload_n 2, .invokevirtual 247, .goto 5]
def k_M_read_54 : List Instr := [.bipush (-2)]
def k_M_read_56 : List Instr := [.ireturn]
def g_M_read : List (Nat × List Instr) := [(0, k_M_read_0), (10, k_M_read_10), (54, k_M_read_54), (56, k_M_read_56)]
theorem o_M_read : ∀ q ∈ g_M_read, okB b_M_read q.1 q.2 = true := List.all_eq_true.mp (by decide +kernel : g_M_read.all (fun q => okB b_M_read q.1 q.2) = true)
theorem j_M_read_0 (f : List Instr → Prop) : lk1 g_M_read 0 f = f [.aload_n 0, .getfield 179, .ifCond .ne 6, .bipush (-3), .ireturn] := (rfl)
theorem j_M_read_10 (f : List Instr → Prop) : lk1 g_M_read 10 f = f [.aload_n 0, .iload_n 1, .invokevirtual 185, .ifCond .eq 39, .aload_n 0, .getfield 91, .iload_n 1, .baload, .ifCond .eq 30, .iload_n 2, .i2l, .lconst 0, .iconst 1, .aload_n 0, .getfield 230, .ishl, .iconst 1, .isub, .i2l, .invokestatic 108, .ifCond .eq 12, .aload_n 0, .iload_n 1, .iload_n 2, .invokevirtual 247, .goto 5] := (rfl)
theorem j_M_read_54 (f : List Instr → Prop) : lk1 g_M_read 54 f = f [.bipush (-2)] := (rfl)
theorem j_M_read_56 (f : List Instr → Prop) : lk1 g_M_read 56 f = f [.ireturn] := (rfl)
abbrev b_M_readAt : ByteArray := prog_11_method_52_code
abbrev y_M_readAt : MethodName := ⟨RX9, "readAt", "(II)I"⟩
def k_M_readAt_0 : List Instr := [.aload_n 0, .aload_n 0, .iload_n 1, .iload_n 2, .i2l, .aload_n 0, .getfield 230, .invokevirtual 197, .invokevirtual 241, .ifCond .ne 5, .iconst (-1), .ireturn]
def k_M_readAt_20 : List Instr := [.iconst 0, .istore_n 3, .iconst 0, .istore 4]
def k_M_readAt_25 : List Instr := [.iload 4, .iload_n 2, .if_icmp .ge 36, .iload_n 3, .aload_n 0, .aload_n 0, .iload_n 1, .iload 4, .i2l, .aload_n 0, .getfield 230, .invokevirtual 197, .invokevirtual 241, .ifCond .eq 7, .iconst 1, .goto 4]
def k_M_readAt_55 : List Instr := [.iconst 0]
def k_M_readAt_56 : List Instr := [.iadd, .istore_n 3, .iinc 4 1, .goto (-36)]
def k_M_readAt_64 : List Instr := [.iload_n 3, .iconst 1, .aload_n 0, .getfield 235, .ishl, .if_icmp .ge 7, .iload_n 3, .goto 4]
def k_M_readAt_78 : List Instr := [.iconst (-1)]
def k_M_readAt_79 : List Instr := [.ireturn]
def g_M_readAt : List (Nat × List Instr) := [(0, k_M_readAt_0), (20, k_M_readAt_20), (25, k_M_readAt_25), (55, k_M_readAt_55), (56, k_M_readAt_56), (64, k_M_readAt_64), (78, k_M_readAt_78), (79, k_M_readAt_79)]
theorem o_M_readAt : ∀ q ∈ g_M_readAt, okB b_M_readAt q.1 q.2 = true := List.all_eq_true.mp (by decide +kernel : g_M_readAt.all (fun q => okB b_M_readAt q.1 q.2) = true)
theorem j_M_readAt_0 (f : List Instr → Prop) : lk1 g_M_readAt 0 f = f [.aload_n 0, .aload_n 0, .iload_n 1, .iload_n 2, .i2l, .aload_n 0, .getfield 230, .invokevirtual 197, .invokevirtual 241, .ifCond .ne 5, .iconst (-1), .ireturn] := (rfl)
theorem j_M_readAt_20 (f : List Instr → Prop) : lk1 g_M_readAt 20 f = f [.iconst 0, .istore_n 3, .iconst 0, .istore 4] := (rfl)
theorem j_M_readAt_25 (f : List Instr → Prop) : lk1 g_M_readAt 25 f = f [.iload 4, .iload_n 2, .if_icmp .ge 36, .iload_n 3, .aload_n 0, .aload_n 0, .iload_n 1, .iload 4, .i2l, .aload_n 0, .getfield 230, .invokevirtual 197, .invokevirtual 241, .ifCond .eq 7, .iconst 1, .goto 4] := (rfl)
theorem j_M_readAt_55 (f : List Instr → Prop) : lk1 g_M_readAt 55 f = f [.iconst 0] := (rfl)
theorem j_M_readAt_56 (f : List Instr → Prop) : lk1 g_M_readAt 56 f = f [.iadd, .istore_n 3, .iinc 4 1, .goto (-36)] := (rfl)
theorem j_M_readAt_64 (f : List Instr → Prop) : lk1 g_M_readAt 64 f = f [.iload_n 3, .iconst 1, .aload_n 0, .getfield 235, .ishl, .if_icmp .ge 7, .iload_n 3, .goto 4] := (rfl)
theorem j_M_readAt_78 (f : List Instr → Prop) : lk1 g_M_readAt 78 f = f [.iconst (-1)] := (rfl)
theorem j_M_readAt_79 (f : List Instr → Prop) : lk1 g_M_readAt 79 f = f [.ireturn] := (rfl)
abbrev b_M_say : ByteArray := prog_11_method_54_code
abbrev y_M_say : MethodName := ⟨RX9, "say", "(JI)I"⟩
def k_M_say_0 : List Instr := [.lload_n 1, .iload_n 3, .invokestatic 193, .ifCond .ne 6, .bipush (-2), .ireturn]
def k_M_say_11 : List Instr := [.aload_n 0, .getfield 250, .iload_n 3, .iadd, .sipush 240, .if_icmp .le 6, .bipush (-4), .ireturn]
def k_M_say_26 : List Instr := [.iload_n 3, .iconst 1, .isub, .istore 4]
def k_M_say_31 : List Instr := [.iload 4, .ifCond .lt 35, .aload_n 0, .getfield 94, .aload_n 0, .getfield 250, .lload_n 1, .iload 4, .lshr, .lconst 1, .land, .l2i, .iastore, .aload_n 0, .dup, .getfield 250, .iconst 1, .iadd, .putfield 250, .iinc 4 (-1), .goto (-34)]
def k_M_say_68 : List Instr := [.aload_n 0, .getfield 250, .ireturn]
def g_M_say : List (Nat × List Instr) := [(0, k_M_say_0), (11, k_M_say_11), (26, k_M_say_26), (31, k_M_say_31), (68, k_M_say_68)]
theorem o_M_say : ∀ q ∈ g_M_say, okB b_M_say q.1 q.2 = true := List.all_eq_true.mp (by decide +kernel : g_M_say.all (fun q => okB b_M_say q.1 q.2) = true)
theorem j_M_say_0 (f : List Instr → Prop) : lk1 g_M_say 0 f = f [.lload_n 1, .iload_n 3, .invokestatic 193, .ifCond .ne 6, .bipush (-2), .ireturn] := (rfl)
theorem j_M_say_11 (f : List Instr → Prop) : lk1 g_M_say 11 f = f [.aload_n 0, .getfield 250, .iload_n 3, .iadd, .sipush 240, .if_icmp .le 6, .bipush (-4), .ireturn] := (rfl)
theorem j_M_say_26 (f : List Instr → Prop) : lk1 g_M_say 26 f = f [.iload_n 3, .iconst 1, .isub, .istore 4] := (rfl)
theorem j_M_say_31 (f : List Instr → Prop) : lk1 g_M_say 31 f = f [.iload 4, .ifCond .lt 35, .aload_n 0, .getfield 94, .aload_n 0, .getfield 250, .lload_n 1, .iload 4, .lshr, .lconst 1, .land, .l2i, .iastore, .aload_n 0, .dup, .getfield 250, .iconst 1, .iadd, .putfield 250, .iinc 4 (-1), .goto (-34)] := (rfl)
theorem j_M_say_68 (f : List Instr → Prop) : lk1 g_M_say 68 f = f [.aload_n 0, .getfield 250, .ireturn] := (rfl)
abbrev b_M_hush : ByteArray := prog_11_method_55_code
abbrev y_M_hush : MethodName := ⟨RX9, "hush", "()I"⟩
def k_M_hush_0 : List Instr := [.aload_n 0, .getfield 250, .istore_n 1, .aload_n 0, .iconst 0, .putfield 250, .iload_n 1, .ireturn]
def g_M_hush : List (Nat × List Instr) := [(0, k_M_hush_0)]
theorem o_M_hush : ∀ q ∈ g_M_hush, okB b_M_hush q.1 q.2 = true := List.all_eq_true.mp (by decide +kernel : g_M_hush.all (fun q => okB b_M_hush q.1 q.2) = true)
theorem j_M_hush_0 (f : List Instr → Prop) : lk1 g_M_hush 0 f = f [.aload_n 0, .getfield 250, .istore_n 1, .aload_n 0, .iconst 0, .putfield 250, .iload_n 1, .ireturn] := (rfl)
abbrev b_M_message : ByteArray := prog_11_method_56_code
abbrev y_M_message : MethodName := ⟨RX9, "message", "(I)I"⟩
def k_M_message_0 : List Instr := [.iload_n 1, .i2l, .lconst 0, .aload_n 0, .getfield 250, .iconst 1, .isub, .i2l, .invokestatic 108, .ifCond .eq 12, .aload_n 0, .getfield 94, .iload_n 1, .iaload, .goto 5]
def k_M_message_25 : List Instr := [.bipush (-2)]
def k_M_message_27 : List Instr := [.ireturn]
def g_M_message : List (Nat × List Instr) := [(0, k_M_message_0), (25, k_M_message_25), (27, k_M_message_27)]
theorem o_M_message : ∀ q ∈ g_M_message, okB b_M_message q.1 q.2 = true := List.all_eq_true.mp (by decide +kernel : g_M_message.all (fun q => okB b_M_message q.1 q.2) = true)
theorem j_M_message_0 (f : List Instr → Prop) : lk1 g_M_message 0 f = f [.iload_n 1, .i2l, .lconst 0, .aload_n 0, .getfield 250, .iconst 1, .isub, .i2l, .invokestatic 108, .ifCond .eq 12, .aload_n 0, .getfield 94, .iload_n 1, .iaload, .goto 5] := (rfl)
theorem j_M_message_25 (f : List Instr → Prop) : lk1 g_M_message 25 f = f [.bipush (-2)] := (rfl)
theorem j_M_message_27 (f : List Instr → Prop) : lk1 g_M_message 27 f = f [.ireturn] := (rfl)
abbrev b_M_write : ByteArray := prog_11_method_58_code
abbrev y_M_write : MethodName := ⟨RX9, "write", "()I"⟩
def k_M_write_0 : List Instr := [.aload_n 0, .getfield 179, .ifCond .ne 6, .bipush (-3), .ireturn]
def k_M_write_10 : List Instr := [.aload_n 0, .invokevirtual 256, .istore_n 1, .aload_n 0, .getfield 250, .aload_n 0, .getfield 235, .iadd, .iconst 1, .isub, .aload_n 0, .getfield 235, .idiv, .istore_n 2, .iload_n 1, .iload_n 2, .aload_n 0, .getfield 230, .imul, .iadd, .sipush 600, .if_icmp .le 6, .bipush (-4), .ireturn]
def k_M_write_49 : List Instr := [.iconst 0, .istore_n 3]
def k_M_write_51 : List Instr := [.iload_n 3, .iload_n 1, .if_icmp .ge 21, .aload_n 0, .getfield 97, .iload_n 3, .aload_n 0, .getfield 103, .iload_n 3, .iaload, .iastore, .iinc 3 1, .goto (-20)]
def k_M_write_74 : List Instr := [.aload_n 0, .iload_n 1, .putfield 259, .aload_n 0, .invokevirtual 253, .istore_n 3, .iconst 0, .istore 4]
def k_M_write_87 : List Instr := [.iload 4, .iload_n 2, .if_icmp .ge 136, .iconst 0, .istore 5, .iconst 0, .istore 6]
def k_M_write_99 : List Instr := [.iload 6, .aload_n 0, .getfield 235, .if_icmp .ge 48, .iload 4, .aload_n 0, .getfield 235, .imul, .iload 6, .iadd, .istore 7, .iconst 2, .iload 5, .imul, .iload 7, .aload_n 0, .getfield 250, .if_icmp .ge 13, .aload_n 0, .getfield 94, .iload 7, .iaload, .goto 4]
def k_M_write_143 : List Instr := [.iconst 0]
def k_M_write_144 : List Instr := [.iadd, .istore 5, .iinc 6 1, .goto (-51)]
def k_M_write_153 : List Instr := [.aload_n 0, .iload_n 3, .iload 5, .invokevirtual 244, .istore 6, .aload_n 0, .getfield 230, .iconst 1, .isub, .istore 7]
def k_M_write_170 : List Instr := [.iload 7, .ifCond .lt 35, .aload_n 0, .getfield 97, .aload_n 0, .getfield 259, .iload 6, .iload 7, .ishr, .iconst 1, .iand, .iastore, .aload_n 0, .dup, .getfield 259, .iconst 1, .iadd, .putfield 259, .iinc 7 (-1), .goto (-34)]
def k_M_write_207 : List Instr := [.aload_n 0, .iload_n 3, .iload 6, .i2l, .aload_n 0, .getfield 230, .invokevirtual 197, .istore_n 3, .iinc 4 1, .goto (-136)]
def k_M_write_226 : List Instr := [.aload_n 0, .getfield 259, .ireturn]
def g_M_write : List (Nat × List Instr) := [(0, k_M_write_0), (10, k_M_write_10), (49, k_M_write_49), (51, k_M_write_51), (74, k_M_write_74), (87, k_M_write_87), (99, k_M_write_99), (143, k_M_write_143), (144, k_M_write_144), (153, k_M_write_153), (170, k_M_write_170), (207, k_M_write_207), (226, k_M_write_226)]
theorem o_M_write : ∀ q ∈ g_M_write, okB b_M_write q.1 q.2 = true := List.all_eq_true.mp (by decide +kernel : g_M_write.all (fun q => okB b_M_write q.1 q.2) = true)
theorem j_M_write_0 (f : List Instr → Prop) : lk1 g_M_write 0 f = f [.aload_n 0, .getfield 179, .ifCond .ne 6, .bipush (-3), .ireturn] := (rfl)
theorem j_M_write_10 (f : List Instr → Prop) : lk1 g_M_write 10 f = f [.aload_n 0, .invokevirtual 256, .istore_n 1, .aload_n 0, .getfield 250, .aload_n 0, .getfield 235, .iadd, .iconst 1, .isub, .aload_n 0, .getfield 235, .idiv, .istore_n 2, .iload_n 1, .iload_n 2, .aload_n 0, .getfield 230, .imul, .iadd, .sipush 600, .if_icmp .le 6, .bipush (-4), .ireturn] := (rfl)
theorem j_M_write_49 (f : List Instr → Prop) : lk1 g_M_write 49 f = f [.iconst 0, .istore_n 3] := (rfl)
theorem j_M_write_51 (f : List Instr → Prop) : lk1 g_M_write 51 f = f [.iload_n 3, .iload_n 1, .if_icmp .ge 21, .aload_n 0, .getfield 97, .iload_n 3, .aload_n 0, .getfield 103, .iload_n 3, .iaload, .iastore, .iinc 3 1, .goto (-20)] := (rfl)
theorem j_M_write_74 (f : List Instr → Prop) : lk1 g_M_write 74 f = f [.aload_n 0, .iload_n 1, .putfield 259, .aload_n 0, .invokevirtual 253, .istore_n 3, .iconst 0, .istore 4] := (rfl)
theorem j_M_write_87 (f : List Instr → Prop) : lk1 g_M_write 87 f = f [.iload 4, .iload_n 2, .if_icmp .ge 136, .iconst 0, .istore 5, .iconst 0, .istore 6] := (rfl)
theorem j_M_write_99 (f : List Instr → Prop) : lk1 g_M_write 99 f = f [.iload 6, .aload_n 0, .getfield 235, .if_icmp .ge 48, .iload 4, .aload_n 0, .getfield 235, .imul, .iload 6, .iadd, .istore 7, .iconst 2, .iload 5, .imul, .iload 7, .aload_n 0, .getfield 250, .if_icmp .ge 13, .aload_n 0, .getfield 94, .iload 7, .iaload, .goto 4] := (rfl)
theorem j_M_write_143 (f : List Instr → Prop) : lk1 g_M_write 143 f = f [.iconst 0] := (rfl)
theorem j_M_write_144 (f : List Instr → Prop) : lk1 g_M_write 144 f = f [.iadd, .istore 5, .iinc 6 1, .goto (-51)] := (rfl)
theorem j_M_write_153 (f : List Instr → Prop) : lk1 g_M_write 153 f = f [.aload_n 0, .iload_n 3, .iload 5, .invokevirtual 244, .istore 6, .aload_n 0, .getfield 230, .iconst 1, .isub, .istore 7] := (rfl)
theorem j_M_write_170 (f : List Instr → Prop) : lk1 g_M_write 170 f = f [.iload 7, .ifCond .lt 35, .aload_n 0, .getfield 97, .aload_n 0, .getfield 259, .iload 6, .iload 7, .ishr, .iconst 1, .iand, .iastore, .aload_n 0, .dup, .getfield 259, .iconst 1, .iadd, .putfield 259, .iinc 7 (-1), .goto (-34)] := (rfl)
theorem j_M_write_207 (f : List Instr → Prop) : lk1 g_M_write 207 f = f [.aload_n 0, .iload_n 3, .iload 6, .i2l, .aload_n 0, .getfield 230, .invokevirtual 197, .istore_n 3, .iinc 4 1, .goto (-136)] := (rfl)
theorem j_M_write_226 (f : List Instr → Prop) : lk1 g_M_write 226 f = f [.aload_n 0, .getfield 259, .ireturn] := (rfl)
abbrev b_M_tellLead : ByteArray := prog_11_method_57_code
abbrev y_M_tellLead : MethodName := ⟨RX9, "tellLead", "()I"⟩
def k_M_tellLead_0 : List Instr := [.aload_n 0, .invokevirtual 253, .istore_n 1, .aload_n 0, .getfield 66, .iload_n 1, .iaload, .istore_n 2, .iload_n 2, .iconst 1, .isub, .istore_n 3]
def k_M_tellLead_16 : List Instr := [.iload_n 3, .ifCond .lt 28, .aload_n 0, .getfield 103, .iload_n 3, .aload_n 0, .getfield 63, .iload_n 1, .iaload, .iastore, .aload_n 0, .getfield 60, .iload_n 1, .iaload, .istore_n 1, .iinc 3 (-1), .goto (-26)]
def k_M_tellLead_45 : List Instr := [.iload_n 2, .ireturn]
def g_M_tellLead : List (Nat × List Instr) := [(0, k_M_tellLead_0), (16, k_M_tellLead_16), (45, k_M_tellLead_45)]
theorem o_M_tellLead : ∀ q ∈ g_M_tellLead, okB b_M_tellLead q.1 q.2 = true := List.all_eq_true.mp (by decide +kernel : g_M_tellLead.all (fun q => okB b_M_tellLead q.1 q.2) = true)
theorem j_M_tellLead_0 (f : List Instr → Prop) : lk1 g_M_tellLead 0 f = f [.aload_n 0, .invokevirtual 253, .istore_n 1, .aload_n 0, .getfield 66, .iload_n 1, .iaload, .istore_n 2, .iload_n 2, .iconst 1, .isub, .istore_n 3] := (rfl)
theorem j_M_tellLead_16 (f : List Instr → Prop) : lk1 g_M_tellLead 16 f = f [.iload_n 3, .ifCond .lt 28, .aload_n 0, .getfield 103, .iload_n 3, .aload_n 0, .getfield 63, .iload_n 1, .iaload, .iastore, .aload_n 0, .getfield 60, .iload_n 1, .iaload, .istore_n 1, .iinc 3 (-1), .goto (-26)] := (rfl)
theorem j_M_tellLead_45 (f : List Instr → Prop) : lk1 g_M_tellLead 45 f = f [.iload_n 2, .ireturn] := (rfl)
abbrev b_M_home : ByteArray := prog_11_method_47_code
abbrev y_M_home : MethodName := ⟨RX9, "home", "()I"⟩
def k_M_home_0 : List Instr := [.iconst 0, .istore_n 1]
def k_M_home_2 : List Instr := [.aload_n 0, .getfield 91, .iload_n 1, .baload, .ifCond .ne 9, .iinc 1 1, .goto (-12)]
def k_M_home_17 : List Instr := [.iload_n 1, .ireturn]
def g_M_home : List (Nat × List Instr) := [(0, k_M_home_0), (2, k_M_home_2), (17, k_M_home_17)]
theorem o_M_home : ∀ q ∈ g_M_home, okB b_M_home q.1 q.2 = true := List.all_eq_true.mp (by decide +kernel : g_M_home.all (fun q => okB b_M_home q.1 q.2) = true)
theorem j_M_home_0 (f : List Instr → Prop) : lk1 g_M_home 0 f = f [.iconst 0, .istore_n 1] := (rfl)
theorem j_M_home_2 (f : List Instr → Prop) : lk1 g_M_home 2 f = f [.aload_n 0, .getfield 91, .iload_n 1, .baload, .ifCond .ne 9, .iinc 1 1, .goto (-12)] := (rfl)
theorem j_M_home_17 (f : List Instr → Prop) : lk1 g_M_home 17 f = f [.iload_n 1, .ireturn] := (rfl)
abbrev b_M_tell : ByteArray := prog_11_method_59_code
abbrev y_M_tell : MethodName := ⟨RX9, "tell", "()I"⟩
def k_M_tell_0 : List Instr := [.aload_n 0, .getfield 179, .ifCond .ne 6, .bipush (-3), .ireturn]
def k_M_tell_10 : List Instr := [.aload_n 0, .invokevirtual 256, .istore_n 1, .iconst 0, .istore_n 2]
def k_M_tell_17 : List Instr := [.iload_n 2, .iload_n 1, .if_icmp .ge 37, .iload_n 2, .aload_n 0, .getfield 259, .if_icmp .ge 18, .aload_n 0, .getfield 97, .iload_n 2, .iaload, .aload_n 0, .getfield 103, .iload_n 2, .iaload, .if_icmp .eq 8]
def k_M_tell_45 : List Instr := [.bipush (-100), .iload_n 2, .isub, .ireturn]
def k_M_tell_50 : List Instr := [.iinc 2 1, .goto (-36)]
def k_M_tell_56 : List Instr := [.aload_n 0, .invokevirtual 253, .istore_n 2, .iconst 0, .istore_n 3, .iload_n 1, .istore 4]
def k_M_tell_66 : List Instr := [.iload 4, .aload_n 0, .getfield 259, .if_icmp .ge 163, .iconst 0, .istore 5, .iconst 0, .istore 6]
def k_M_tell_81 : List Instr := [.iload 6, .aload_n 0, .getfield 230, .if_icmp .ge 42, .iconst 2, .iload 5, .imul, .iload 4, .iload 6, .iadd, .aload_n 0, .getfield 259, .if_icmp .ge 16, .aload_n 0, .getfield 97, .iload 4, .iload 6, .iadd, .iaload, .goto 4]
def k_M_tell_119 : List Instr := [.iconst 0]
def k_M_tell_120 : List Instr := [.iadd, .istore 5, .iinc 6 1, .goto (-45)]
def k_M_tell_129 : List Instr := [.iload 4, .aload_n 0, .getfield 230, .iadd, .aload_n 0, .getfield 259, .if_icmp .le 7, .iconst (-1), .goto 10]
def k_M_tell_147 : List Instr := [.aload_n 0, .iload_n 2, .iload 5, .invokevirtual 247]
def k_M_tell_154 : List Instr := [.istore 6, .iload 6, .iconst (-1), .if_icmp .ne 9, .bipush (-100), .iload 4, .isub, .ireturn]
def k_M_tell_168 : List Instr := [.aload_n 0, .getfield 235, .iconst 1, .isub, .istore 7]
def k_M_tell_176 : List Instr := [.iload 7, .ifCond .lt 32, .iload_n 3, .sipush 600, .if_icmp .ge 16, .aload_n 0, .getfield 100, .iload_n 3, .iload 6, .iload 7, .ishr, .iconst 1, .iand, .iastore]
def k_M_tell_201 : List Instr := [.iinc 3 1, .iinc 7 (-1), .goto (-31)]
def k_M_tell_210 : List Instr := [.aload_n 0, .iload_n 2, .iload 5, .i2l, .aload_n 0, .getfield 230, .invokevirtual 197, .istore_n 2, .iload 4, .aload_n 0, .getfield 230, .iadd, .istore 4, .goto (-166)]
def k_M_tell_235 : List Instr := [.iload_n 3, .sipush 240, .if_icmp .le 6, .bipush (-4), .ireturn]
def k_M_tell_245 : List Instr := [.iconst 0, .istore 5]
def k_M_tell_248 : List Instr := [.iload 5, .iload_n 3, .if_icmp .ge 23, .aload_n 0, .getfield 94, .iload 5, .aload_n 0, .getfield 100, .iload 5, .iaload, .iastore, .iinc 5 1, .goto (-23)]
def k_M_tell_274 : List Instr := [.aload_n 0, .iload_n 3, .putfield 250, .aload_n 0, .getfield 250, .ireturn]
def g_M_tell : List (Nat × List Instr) := [(0, k_M_tell_0), (10, k_M_tell_10), (17, k_M_tell_17), (45, k_M_tell_45), (50, k_M_tell_50), (56, k_M_tell_56), (66, k_M_tell_66), (81, k_M_tell_81), (119, k_M_tell_119), (120, k_M_tell_120), (129, k_M_tell_129), (147, k_M_tell_147), (154, k_M_tell_154), (168, k_M_tell_168), (176, k_M_tell_176), (201, k_M_tell_201), (210, k_M_tell_210), (235, k_M_tell_235), (245, k_M_tell_245), (248, k_M_tell_248), (274, k_M_tell_274)]
theorem o_M_tell : ∀ q ∈ g_M_tell, okB b_M_tell q.1 q.2 = true := List.all_eq_true.mp (by decide +kernel : g_M_tell.all (fun q => okB b_M_tell q.1 q.2) = true)
theorem j_M_tell_0 (f : List Instr → Prop) : lk1 g_M_tell 0 f = f [.aload_n 0, .getfield 179, .ifCond .ne 6, .bipush (-3), .ireturn] := (rfl)
theorem j_M_tell_10 (f : List Instr → Prop) : lk1 g_M_tell 10 f = f [.aload_n 0, .invokevirtual 256, .istore_n 1, .iconst 0, .istore_n 2] := (rfl)
theorem j_M_tell_17 (f : List Instr → Prop) : lk1 g_M_tell 17 f = f [.iload_n 2, .iload_n 1, .if_icmp .ge 37, .iload_n 2, .aload_n 0, .getfield 259, .if_icmp .ge 18, .aload_n 0, .getfield 97, .iload_n 2, .iaload, .aload_n 0, .getfield 103, .iload_n 2, .iaload, .if_icmp .eq 8] := (rfl)
theorem j_M_tell_45 (f : List Instr → Prop) : lk1 g_M_tell 45 f = f [.bipush (-100), .iload_n 2, .isub, .ireturn] := (rfl)
theorem j_M_tell_50 (f : List Instr → Prop) : lk1 g_M_tell 50 f = f [.iinc 2 1, .goto (-36)] := (rfl)
theorem j_M_tell_56 (f : List Instr → Prop) : lk1 g_M_tell 56 f = f [.aload_n 0, .invokevirtual 253, .istore_n 2, .iconst 0, .istore_n 3, .iload_n 1, .istore 4] := (rfl)
theorem j_M_tell_66 (f : List Instr → Prop) : lk1 g_M_tell 66 f = f [.iload 4, .aload_n 0, .getfield 259, .if_icmp .ge 163, .iconst 0, .istore 5, .iconst 0, .istore 6] := (rfl)
theorem j_M_tell_81 (f : List Instr → Prop) : lk1 g_M_tell 81 f = f [.iload 6, .aload_n 0, .getfield 230, .if_icmp .ge 42, .iconst 2, .iload 5, .imul, .iload 4, .iload 6, .iadd, .aload_n 0, .getfield 259, .if_icmp .ge 16, .aload_n 0, .getfield 97, .iload 4, .iload 6, .iadd, .iaload, .goto 4] := (rfl)
theorem j_M_tell_119 (f : List Instr → Prop) : lk1 g_M_tell 119 f = f [.iconst 0] := (rfl)
theorem j_M_tell_120 (f : List Instr → Prop) : lk1 g_M_tell 120 f = f [.iadd, .istore 5, .iinc 6 1, .goto (-45)] := (rfl)
theorem j_M_tell_129 (f : List Instr → Prop) : lk1 g_M_tell 129 f = f [.iload 4, .aload_n 0, .getfield 230, .iadd, .aload_n 0, .getfield 259, .if_icmp .le 7, .iconst (-1), .goto 10] := (rfl)
theorem j_M_tell_147 (f : List Instr → Prop) : lk1 g_M_tell 147 f = f [.aload_n 0, .iload_n 2, .iload 5, .invokevirtual 247] := (rfl)
theorem j_M_tell_154 (f : List Instr → Prop) : lk1 g_M_tell 154 f = f [.istore 6, .iload 6, .iconst (-1), .if_icmp .ne 9, .bipush (-100), .iload 4, .isub, .ireturn] := (rfl)
theorem j_M_tell_168 (f : List Instr → Prop) : lk1 g_M_tell 168 f = f [.aload_n 0, .getfield 235, .iconst 1, .isub, .istore 7] := (rfl)
theorem j_M_tell_176 (f : List Instr → Prop) : lk1 g_M_tell 176 f = f [.iload 7, .ifCond .lt 32, .iload_n 3, .sipush 600, .if_icmp .ge 16, .aload_n 0, .getfield 100, .iload_n 3, .iload 6, .iload 7, .ishr, .iconst 1, .iand, .iastore] := (rfl)
theorem j_M_tell_201 (f : List Instr → Prop) : lk1 g_M_tell 201 f = f [.iinc 3 1, .iinc 7 (-1), .goto (-31)] := (rfl)
theorem j_M_tell_210 (f : List Instr → Prop) : lk1 g_M_tell 210 f = f [.aload_n 0, .iload_n 2, .iload 5, .i2l, .aload_n 0, .getfield 230, .invokevirtual 197, .istore_n 2, .iload 4, .aload_n 0, .getfield 230, .iadd, .istore 4, .goto (-166)] := (rfl)
theorem j_M_tell_235 (f : List Instr → Prop) : lk1 g_M_tell 235 f = f [.iload_n 3, .sipush 240, .if_icmp .le 6, .bipush (-4), .ireturn] := (rfl)
theorem j_M_tell_245 (f : List Instr → Prop) : lk1 g_M_tell 245 f = f [.iconst 0, .istore 5] := (rfl)
theorem j_M_tell_248 (f : List Instr → Prop) : lk1 g_M_tell 248 f = f [.iload 5, .iload_n 3, .if_icmp .ge 23, .aload_n 0, .getfield 94, .iload 5, .aload_n 0, .getfield 100, .iload 5, .iaload, .iastore, .iinc 5 1, .goto (-23)] := (rfl)
theorem j_M_tell_274 (f : List Instr → Prop) : lk1 g_M_tell 274 f = f [.aload_n 0, .iload_n 3, .putfield 250, .aload_n 0, .getfield 250, .ireturn] := (rfl)
abbrev b_M_put : ByteArray := prog_11_method_60_code
abbrev y_M_put : MethodName := ⟨RX9, "put", "(JI)I"⟩
def k_M_put_0 : List Instr := [.lload_n 1, .iload_n 3, .invokestatic 193, .ifCond .ne 6, .bipush (-2), .ireturn]
def k_M_put_11 : List Instr := [.aload_n 0, .getfield 259, .iload_n 3, .iadd, .sipush 600, .if_icmp .le 6, .bipush (-4), .ireturn]
def k_M_put_26 : List Instr := [.iload_n 3, .iconst 1, .isub, .istore 4]
def k_M_put_31 : List Instr := [.iload 4, .ifCond .lt 35, .aload_n 0, .getfield 97, .aload_n 0, .getfield 259, .lload_n 1, .iload 4, .lshr, .lconst 1, .land, .l2i, .iastore, .aload_n 0, .dup, .getfield 259, .iconst 1, .iadd, .putfield 259, .iinc 4 (-1), .goto (-34)]
def k_M_put_68 : List Instr := [.aload_n 0, .getfield 259, .ireturn]
def g_M_put : List (Nat × List Instr) := [(0, k_M_put_0), (11, k_M_put_11), (26, k_M_put_26), (31, k_M_put_31), (68, k_M_put_68)]
theorem o_M_put : ∀ q ∈ g_M_put, okB b_M_put q.1 q.2 = true := List.all_eq_true.mp (by decide +kernel : g_M_put.all (fun q => okB b_M_put q.1 q.2) = true)
theorem j_M_put_0 (f : List Instr → Prop) : lk1 g_M_put 0 f = f [.lload_n 1, .iload_n 3, .invokestatic 193, .ifCond .ne 6, .bipush (-2), .ireturn] := (rfl)
theorem j_M_put_11 (f : List Instr → Prop) : lk1 g_M_put 11 f = f [.aload_n 0, .getfield 259, .iload_n 3, .iadd, .sipush 600, .if_icmp .le 6, .bipush (-4), .ireturn] := (rfl)
theorem j_M_put_26 (f : List Instr → Prop) : lk1 g_M_put 26 f = f [.iload_n 3, .iconst 1, .isub, .istore 4] := (rfl)
theorem j_M_put_31 (f : List Instr → Prop) : lk1 g_M_put 31 f = f [.iload 4, .ifCond .lt 35, .aload_n 0, .getfield 97, .aload_n 0, .getfield 259, .lload_n 1, .iload 4, .lshr, .lconst 1, .land, .l2i, .iastore, .aload_n 0, .dup, .getfield 259, .iconst 1, .iadd, .putfield 259, .iinc 4 (-1), .goto (-34)] := (rfl)
theorem j_M_put_68 (f : List Instr → Prop) : lk1 g_M_put 68 f = f [.aload_n 0, .getfield 259, .ireturn] := (rfl)
abbrev b_M_cut : ByteArray := prog_11_method_61_code
abbrev y_M_cut : MethodName := ⟨RX9, "cut", "(I)I"⟩
def k_M_cut_0 : List Instr := [.iload_n 1, .i2l, .lconst 0, .aload_n 0, .getfield 259, .i2l, .invokestatic 108, .ifCond .ne 6, .bipush (-2), .ireturn]
def k_M_cut_17 : List Instr := [.aload_n 0, .getfield 259, .iload_n 1, .isub, .istore_n 2, .aload_n 0, .iload_n 1, .putfield 259, .iload_n 2, .ireturn]
def g_M_cut : List (Nat × List Instr) := [(0, k_M_cut_0), (17, k_M_cut_17)]
theorem o_M_cut : ∀ q ∈ g_M_cut, okB b_M_cut q.1 q.2 = true := List.all_eq_true.mp (by decide +kernel : g_M_cut.all (fun q => okB b_M_cut q.1 q.2) = true)
theorem j_M_cut_0 (f : List Instr → Prop) : lk1 g_M_cut 0 f = f [.iload_n 1, .i2l, .lconst 0, .aload_n 0, .getfield 259, .i2l, .invokestatic 108, .ifCond .ne 6, .bipush (-2), .ireturn] := (rfl)
theorem j_M_cut_17 (f : List Instr → Prop) : lk1 g_M_cut 17 f = f [.aload_n 0, .getfield 259, .iload_n 1, .isub, .istore_n 2, .aload_n 0, .iload_n 1, .putfield 259, .iload_n 2, .ireturn] := (rfl)
abbrev b_M_spoil : ByteArray := prog_11_method_62_code
abbrev y_M_spoil : MethodName := ⟨RX9, "spoil", "(I)I"⟩
def k_M_spoil_0 : List Instr := [.iload_n 1, .i2l, .lconst 0, .aload_n 0, .getfield 259, .iconst 1, .isub, .i2l, .invokestatic 108, .ifCond .ne 6, .bipush (-2), .ireturn]
def k_M_spoil_19 : List Instr := [.aload_n 0, .getfield 97, .iload_n 1, .iconst 1, .aload_n 0, .getfield 97, .iload_n 1, .iaload, .isub, .iastore, .iconst 1, .aload_n 0, .getfield 97, .iload_n 1, .iaload, .isub, .ireturn]
def g_M_spoil : List (Nat × List Instr) := [(0, k_M_spoil_0), (19, k_M_spoil_19)]
theorem o_M_spoil : ∀ q ∈ g_M_spoil, okB b_M_spoil q.1 q.2 = true := List.all_eq_true.mp (by decide +kernel : g_M_spoil.all (fun q => okB b_M_spoil q.1 q.2) = true)
theorem j_M_spoil_0 (f : List Instr → Prop) : lk1 g_M_spoil 0 f = f [.iload_n 1, .i2l, .lconst 0, .aload_n 0, .getfield 259, .iconst 1, .isub, .i2l, .invokestatic 108, .ifCond .ne 6, .bipush (-2), .ireturn] := (rfl)
theorem j_M_spoil_19 (f : List Instr → Prop) : lk1 g_M_spoil 19 f = f [.aload_n 0, .getfield 97, .iload_n 1, .iconst 1, .aload_n 0, .getfield 97, .iload_n 1, .iaload, .isub, .iastore, .iconst 1, .aload_n 0, .getfield 97, .iload_n 1, .iaload, .isub, .ireturn] := (rfl)
abbrev b_M_plate : ByteArray := prog_11_method_63_code
abbrev y_M_plate : MethodName := ⟨RX9, "plate", "(I)I"⟩
def k_M_plate_0 : List Instr := [.iload_n 1, .i2l, .lconst 0, .aload_n 0, .getfield 259, .iconst 1, .isub, .i2l, .invokestatic 108, .ifCond .eq 12, .aload_n 0, .getfield 97, .iload_n 1, .iaload, .goto 5]
def k_M_plate_25 : List Instr := [.bipush (-2)]
def k_M_plate_27 : List Instr := [.ireturn]
def g_M_plate : List (Nat × List Instr) := [(0, k_M_plate_0), (25, k_M_plate_25), (27, k_M_plate_27)]
theorem o_M_plate : ∀ q ∈ g_M_plate, okB b_M_plate q.1 q.2 = true := List.all_eq_true.mp (by decide +kernel : g_M_plate.all (fun q => okB b_M_plate q.1 q.2) = true)
theorem j_M_plate_0 (f : List Instr → Prop) : lk1 g_M_plate 0 f = f [.iload_n 1, .i2l, .lconst 0, .aload_n 0, .getfield 259, .iconst 1, .isub, .i2l, .invokestatic 108, .ifCond .eq 12, .aload_n 0, .getfield 97, .iload_n 1, .iaload, .goto 5] := (rfl)
theorem j_M_plate_25 (f : List Instr → Prop) : lk1 g_M_plate 25 f = f [.bipush (-2)] := (rfl)
theorem j_M_plate_27 (f : List Instr → Prop) : lk1 g_M_plate 27 f = f [.ireturn] := (rfl)
abbrev b_M_check : ByteArray := prog_11_method_64_code
abbrev y_M_check : MethodName := ⟨RX9, "check", "()I"⟩
def k_M_check_0 : List Instr := [.aload_n 0, .getfield 160, .ifCond .ne 6, .bipush (-3), .ireturn]
def k_M_check_10 : List Instr := [.iconst 0, .istore_n 1, .iconst 0, .istore_n 2]
def k_M_check_14 : List Instr := [.iload_n 2, .aload_n 0, .getfield 259, .if_icmp .ge 28, .aload_n 0, .iload_n 1, .aload_n 0, .getfield 97, .iload_n 2, .iaload, .invokevirtual 188, .istore_n 1, .iload_n 1, .iconst (-1), .if_icmp .ne 5, .iload_n 2, .ireturn]
def k_M_check_41 : List Instr := [.iinc 2 1, .goto (-30)]
def k_M_check_47 : List Instr := [.iconst (-1), .ireturn]
def g_M_check : List (Nat × List Instr) := [(0, k_M_check_0), (10, k_M_check_10), (14, k_M_check_14), (41, k_M_check_41), (47, k_M_check_47)]
theorem o_M_check : ∀ q ∈ g_M_check, okB b_M_check q.1 q.2 = true := List.all_eq_true.mp (by decide +kernel : g_M_check.all (fun q => okB b_M_check q.1 q.2) = true)
theorem j_M_check_0 (f : List Instr → Prop) : lk1 g_M_check 0 f = f [.aload_n 0, .getfield 160, .ifCond .ne 6, .bipush (-3), .ireturn] := (rfl)
theorem j_M_check_10 (f : List Instr → Prop) : lk1 g_M_check 10 f = f [.iconst 0, .istore_n 1, .iconst 0, .istore_n 2] := (rfl)
theorem j_M_check_14 (f : List Instr → Prop) : lk1 g_M_check 14 f = f [.iload_n 2, .aload_n 0, .getfield 259, .if_icmp .ge 28, .aload_n 0, .iload_n 1, .aload_n 0, .getfield 97, .iload_n 2, .iaload, .invokevirtual 188, .istore_n 1, .iload_n 1, .iconst (-1), .if_icmp .ne 5, .iload_n 2, .ireturn] := (rfl)
theorem j_M_check_41 (f : List Instr → Prop) : lk1 g_M_check 41 f = f [.iinc 2 1, .goto (-30)] := (rfl)
theorem j_M_check_47 (f : List Instr → Prop) : lk1 g_M_check 47 f = f [.iconst (-1), .ireturn] := (rfl)
abbrev b_M_shape : ByteArray := prog_11_method_65_code
abbrev y_M_shape : MethodName := ⟨RX9, "shape", "(I)I"⟩
def k_M_shape_0 : List Instr := [.iload_n 1, .i2l, .lconst 0, .ldc2_w 262, .invokestatic 108, .ifCond .ne 6, .bipush (-2), .ireturn]
def k_M_shape_15 : List Instr := [.iconst 0, .istore_n 2, .iconst 0, .istore_n 3, .iconst 0, .istore 4, .iconst 0, .istore 5, .iconst 0, .istore 6, .iconst 0, .istore 7, .iconst 0, .istore 8, .iconst 0, .istore 9]
def k_M_shape_37 : List Instr := [.iload 9, .aload_n 0, .getfield 259, .if_icmp .ge 148, .iload 7, .aload_n 0, .getfield 97, .iload 9, .iaload, .iconst 1, .if_icmp .ne 7, .iconst 1, .goto 4]
def k_M_shape_63 : List Instr := [.iconst (-1)]
def k_M_shape_64 : List Instr := [.iadd, .istore 7, .iload 7, .iload_n 2, .if_icmp .ge 8, .iload 7, .goto 4]
def k_M_shape_78 : List Instr := [.iload_n 2]
def k_M_shape_79 : List Instr := [.istore_n 2, .iload 7, .iload_n 3, .if_icmp .le 8, .iload 7, .goto 4]
def k_M_shape_91 : List Instr := [.iload_n 3]
def k_M_shape_92 : List Instr := [.istore_n 3, .iload 4, .iload 7, .iload 7, .imul, .iadd, .istore 4, .iload 9, .ifCond .le 26, .aload_n 0, .getfield 97, .iload 9, .iaload, .aload_n 0, .getfield 97, .iload 9, .iconst 1, .isub, .iaload, .if_icmp .ne 7, .iconst 1, .goto 4]
def k_M_shape_131 : List Instr := [.iconst 0]
def k_M_shape_132 : List Instr := [.istore 10, .iload 10, .ifCond .eq 10, .iload 8, .iconst 1, .iadd, .goto 4]
def k_M_shape_146 : List Instr := [.iconst 1]
def k_M_shape_147 : List Instr := [.istore 8, .iload 8, .iload 5, .if_icmp .le 8, .iload 8, .goto 5]
def k_M_shape_161 : List Instr := [.iload 5]
def k_M_shape_163 : List Instr := [.istore 5, .iload 6, .iload 9, .ifCond .le 12, .iload 10, .ifCond .ne 7, .iconst 1, .goto 4]
def k_M_shape_181 : List Instr := [.iconst 0]
def k_M_shape_182 : List Instr := [.iadd, .istore 6, .iinc 9 1, .goto (-151)]
def k_M_shape_191 : List Instr := [.iload_n 1, .ifCond .ne 7, .iload_n 2, .goto 34]
def k_M_shape_199 : List Instr := [.iload_n 1, .iconst 1, .if_icmp .ne 7, .iload_n 3, .goto 25]
def k_M_shape_208 : List Instr := [.iload_n 1, .iconst 2, .if_icmp .ne 8, .iload 4, .goto 15]
def k_M_shape_218 : List Instr := [.iload_n 1, .iconst 3, .if_icmp .ne 8, .iload 5, .goto 5]
def k_M_shape_228 : List Instr := [.iload 6]
def k_M_shape_230 : List Instr := [.ireturn]
def g_M_shape : List (Nat × List Instr) := [(0, k_M_shape_0), (15, k_M_shape_15), (37, k_M_shape_37), (63, k_M_shape_63), (64, k_M_shape_64), (78, k_M_shape_78), (79, k_M_shape_79), (91, k_M_shape_91), (92, k_M_shape_92), (131, k_M_shape_131), (132, k_M_shape_132), (146, k_M_shape_146), (147, k_M_shape_147), (161, k_M_shape_161), (163, k_M_shape_163), (181, k_M_shape_181), (182, k_M_shape_182), (191, k_M_shape_191), (199, k_M_shape_199), (208, k_M_shape_208), (218, k_M_shape_218), (228, k_M_shape_228), (230, k_M_shape_230)]
theorem o_M_shape : ∀ q ∈ g_M_shape, okB b_M_shape q.1 q.2 = true := List.all_eq_true.mp (by decide +kernel : g_M_shape.all (fun q => okB b_M_shape q.1 q.2) = true)
theorem j_M_shape_0 (f : List Instr → Prop) : lk1 g_M_shape 0 f = f [.iload_n 1, .i2l, .lconst 0, .ldc2_w 262, .invokestatic 108, .ifCond .ne 6, .bipush (-2), .ireturn] := (rfl)
theorem j_M_shape_15 (f : List Instr → Prop) : lk1 g_M_shape 15 f = f [.iconst 0, .istore_n 2, .iconst 0, .istore_n 3, .iconst 0, .istore 4, .iconst 0, .istore 5, .iconst 0, .istore 6, .iconst 0, .istore 7, .iconst 0, .istore 8, .iconst 0, .istore 9] := (rfl)
theorem j_M_shape_37 (f : List Instr → Prop) : lk1 g_M_shape 37 f = f [.iload 9, .aload_n 0, .getfield 259, .if_icmp .ge 148, .iload 7, .aload_n 0, .getfield 97, .iload 9, .iaload, .iconst 1, .if_icmp .ne 7, .iconst 1, .goto 4] := (rfl)
theorem j_M_shape_63 (f : List Instr → Prop) : lk1 g_M_shape 63 f = f [.iconst (-1)] := (rfl)
theorem j_M_shape_64 (f : List Instr → Prop) : lk1 g_M_shape 64 f = f [.iadd, .istore 7, .iload 7, .iload_n 2, .if_icmp .ge 8, .iload 7, .goto 4] := (rfl)
theorem j_M_shape_78 (f : List Instr → Prop) : lk1 g_M_shape 78 f = f [.iload_n 2] := (rfl)
theorem j_M_shape_79 (f : List Instr → Prop) : lk1 g_M_shape 79 f = f [.istore_n 2, .iload 7, .iload_n 3, .if_icmp .le 8, .iload 7, .goto 4] := (rfl)
theorem j_M_shape_91 (f : List Instr → Prop) : lk1 g_M_shape 91 f = f [.iload_n 3] := (rfl)
theorem j_M_shape_92 (f : List Instr → Prop) : lk1 g_M_shape 92 f = f [.istore_n 3, .iload 4, .iload 7, .iload 7, .imul, .iadd, .istore 4, .iload 9, .ifCond .le 26, .aload_n 0, .getfield 97, .iload 9, .iaload, .aload_n 0, .getfield 97, .iload 9, .iconst 1, .isub, .iaload, .if_icmp .ne 7, .iconst 1, .goto 4] := (rfl)
theorem j_M_shape_131 (f : List Instr → Prop) : lk1 g_M_shape 131 f = f [.iconst 0] := (rfl)
theorem j_M_shape_132 (f : List Instr → Prop) : lk1 g_M_shape 132 f = f [.istore 10, .iload 10, .ifCond .eq 10, .iload 8, .iconst 1, .iadd, .goto 4] := (rfl)
theorem j_M_shape_146 (f : List Instr → Prop) : lk1 g_M_shape 146 f = f [.iconst 1] := (rfl)
theorem j_M_shape_147 (f : List Instr → Prop) : lk1 g_M_shape 147 f = f [.istore 8, .iload 8, .iload 5, .if_icmp .le 8, .iload 8, .goto 5] := (rfl)
theorem j_M_shape_161 (f : List Instr → Prop) : lk1 g_M_shape 161 f = f [.iload 5] := (rfl)
theorem j_M_shape_163 (f : List Instr → Prop) : lk1 g_M_shape 163 f = f [.istore 5, .iload 6, .iload 9, .ifCond .le 12, .iload 10, .ifCond .ne 7, .iconst 1, .goto 4] := (rfl)
theorem j_M_shape_181 (f : List Instr → Prop) : lk1 g_M_shape 181 f = f [.iconst 0] := (rfl)
theorem j_M_shape_182 (f : List Instr → Prop) : lk1 g_M_shape 182 f = f [.iadd, .istore 6, .iinc 9 1, .goto (-151)] := (rfl)
theorem j_M_shape_191 (f : List Instr → Prop) : lk1 g_M_shape 191 f = f [.iload_n 1, .ifCond .ne 7, .iload_n 2, .goto 34] := (rfl)
theorem j_M_shape_199 (f : List Instr → Prop) : lk1 g_M_shape 199 f = f [.iload_n 1, .iconst 1, .if_icmp .ne 7, .iload_n 3, .goto 25] := (rfl)
theorem j_M_shape_208 (f : List Instr → Prop) : lk1 g_M_shape 208 f = f [.iload_n 1, .iconst 2, .if_icmp .ne 8, .iload 4, .goto 15] := (rfl)
theorem j_M_shape_218 (f : List Instr → Prop) : lk1 g_M_shape 218 f = f [.iload_n 1, .iconst 3, .if_icmp .ne 8, .iload 5, .goto 5] := (rfl)
theorem j_M_shape_228 (f : List Instr → Prop) : lk1 g_M_shape 228 f = f [.iload 6] := (rfl)
theorem j_M_shape_230 (f : List Instr → Prop) : lk1 g_M_shape 230 f = f [.ireturn] := (rfl)
abbrev b_M_count1 : ByteArray := prog_11_method_66_code
abbrev y_M_count1 : MethodName := ⟨RX9, "count", "(I)I"⟩
def k_M_count1_0 : List Instr := [.iload_n 1, .tableswitch 120 0 7 #[47, 52, 57, 62, 67, 83, 99, 115]]
def k_M_count1_48 : List Instr := [.aload_n 0, .getfield 250, .ireturn]
def k_M_count1_53 : List Instr := [.aload_n 0, .getfield 259, .ireturn]
def k_M_count1_58 : List Instr := [.aload_n 0, .getfield 160, .ireturn]
def k_M_count1_63 : List Instr := [.aload_n 0, .getfield 179, .ireturn]
def k_M_count1_68 : List Instr := [.aload_n 0, .getfield 179, .ifCond .ne 7, .iconst 0, .goto 7]
def k_M_count1_79 : List Instr := [.aload_n 0, .getfield 235]
def k_M_count1_83 : List Instr := [.ireturn]
def k_M_count1_84 : List Instr := [.aload_n 0, .getfield 179, .ifCond .ne 7, .iconst 0, .goto 7]
def k_M_count1_95 : List Instr := [.aload_n 0, .getfield 230]
def k_M_count1_99 : List Instr := [.ireturn]
def k_M_count1_100 : List Instr := [.aload_n 0, .getfield 179, .ifCond .ne 7, .iconst (-1), .goto 7]
def k_M_count1_111 : List Instr := [.aload_n 0, .invokevirtual 253]
def k_M_count1_115 : List Instr := [.ireturn]
def k_M_count1_116 : List Instr := [.aload_n 0, .getfield 163, .ireturn]
def k_M_count1_121 : List Instr := [.bipush (-2), .ireturn]
def g_M_count1 : List (Nat × List Instr) := [(0, k_M_count1_0), (48, k_M_count1_48), (53, k_M_count1_53), (58, k_M_count1_58), (63, k_M_count1_63), (68, k_M_count1_68), (79, k_M_count1_79), (83, k_M_count1_83), (84, k_M_count1_84), (95, k_M_count1_95), (99, k_M_count1_99), (100, k_M_count1_100), (111, k_M_count1_111), (115, k_M_count1_115), (116, k_M_count1_116), (121, k_M_count1_121)]
theorem o_M_count1 : ∀ q ∈ g_M_count1, okB b_M_count1 q.1 q.2 = true := List.all_eq_true.mp (by decide +kernel : g_M_count1.all (fun q => okB b_M_count1 q.1 q.2) = true)
theorem j_M_count1_0 (f : List Instr → Prop) : lk1 g_M_count1 0 f = f [.iload_n 1, .tableswitch 120 0 7 #[47, 52, 57, 62, 67, 83, 99, 115]] := (rfl)
theorem j_M_count1_48 (f : List Instr → Prop) : lk1 g_M_count1 48 f = f [.aload_n 0, .getfield 250, .ireturn] := (rfl)
theorem j_M_count1_53 (f : List Instr → Prop) : lk1 g_M_count1 53 f = f [.aload_n 0, .getfield 259, .ireturn] := (rfl)
theorem j_M_count1_58 (f : List Instr → Prop) : lk1 g_M_count1 58 f = f [.aload_n 0, .getfield 160, .ireturn] := (rfl)
theorem j_M_count1_63 (f : List Instr → Prop) : lk1 g_M_count1 63 f = f [.aload_n 0, .getfield 179, .ireturn] := (rfl)
theorem j_M_count1_68 (f : List Instr → Prop) : lk1 g_M_count1 68 f = f [.aload_n 0, .getfield 179, .ifCond .ne 7, .iconst 0, .goto 7] := (rfl)
theorem j_M_count1_79 (f : List Instr → Prop) : lk1 g_M_count1 79 f = f [.aload_n 0, .getfield 235] := (rfl)
theorem j_M_count1_83 (f : List Instr → Prop) : lk1 g_M_count1 83 f = f [.ireturn] := (rfl)
theorem j_M_count1_84 (f : List Instr → Prop) : lk1 g_M_count1 84 f = f [.aload_n 0, .getfield 179, .ifCond .ne 7, .iconst 0, .goto 7] := (rfl)
theorem j_M_count1_95 (f : List Instr → Prop) : lk1 g_M_count1 95 f = f [.aload_n 0, .getfield 230] := (rfl)
theorem j_M_count1_99 (f : List Instr → Prop) : lk1 g_M_count1 99 f = f [.ireturn] := (rfl)
theorem j_M_count1_100 (f : List Instr → Prop) : lk1 g_M_count1 100 f = f [.aload_n 0, .getfield 179, .ifCond .ne 7, .iconst (-1), .goto 7] := (rfl)
theorem j_M_count1_111 (f : List Instr → Prop) : lk1 g_M_count1 111 f = f [.aload_n 0, .invokevirtual 253] := (rfl)
theorem j_M_count1_115 (f : List Instr → Prop) : lk1 g_M_count1 115 f = f [.ireturn] := (rfl)
theorem j_M_count1_116 (f : List Instr → Prop) : lk1 g_M_count1 116 f = f [.aload_n 0, .getfield 163, .ireturn] := (rfl)
theorem j_M_count1_121 (f : List Instr → Prop) : lk1 g_M_count1 121 f = f [.bipush (-2), .ireturn] := (rfl)
abbrev b_M_digest : ByteArray := prog_11_method_67_code
abbrev y_M_digest : MethodName := ⟨RX9, "digest", "()J"⟩
def k_M_digest_0 : List Instr := [.ldc2_w 264, .lstore_n 1, .iconst 0, .istore_n 3]
def k_M_digest_6 : List Instr := [.iload_n 3, .bipush 8, .if_icmp .ge 22, .ldc2_w 266, .lload_n 1, .lmul, .aload_n 0, .iload_n 3, .invokevirtual 268, .i2l, .ladd, .lstore_n 1, .iinc 3 1, .goto (-22)]
def k_M_digest_31 : List Instr := [.iconst 0, .istore_n 3]
def k_M_digest_33 : List Instr := [.iload_n 3, .aload_n 0, .getfield 160, .if_icmp .ge 51, .ldc2_w 266, .lload_n 1, .lmul, .aload_n 0, .getfield 54, .iload_n 3, .iaload, .i2l, .ladd, .lstore_n 1, .ldc2_w 266, .lload_n 1, .lmul, .aload_n 0, .getfield 57, .iload_n 3, .iaload, .i2l, .ladd, .lstore_n 1, .ldc2_w 266, .lload_n 1, .lmul, .aload_n 0, .getfield 75, .iload_n 3, .iaload, .i2l, .ladd, .lstore_n 1, .iinc 3 1, .goto (-53)]
def k_M_digest_89 : List Instr := [.iconst 0, .istore_n 3]
def k_M_digest_91 : List Instr := [.iload_n 3, .aload_n 0, .getfield 250, .if_icmp .ge 23, .ldc2_w 266, .lload_n 1, .lmul, .aload_n 0, .getfield 94, .iload_n 3, .iaload, .i2l, .ladd, .lstore_n 1, .iinc 3 1, .goto (-25)]
def k_M_digest_119 : List Instr := [.iconst 0, .istore_n 3]
def k_M_digest_121 : List Instr := [.iload_n 3, .aload_n 0, .getfield 259, .if_icmp .ge 23, .ldc2_w 266, .lload_n 1, .lmul, .aload_n 0, .getfield 97, .iload_n 3, .iaload, .i2l, .ladd, .lstore_n 1, .iinc 3 1, .goto (-25)]
def k_M_digest_149 : List Instr := [.lload_n 1, .lreturn]
def g_M_digest : List (Nat × List Instr) := [(0, k_M_digest_0), (6, k_M_digest_6), (31, k_M_digest_31), (33, k_M_digest_33), (89, k_M_digest_89), (91, k_M_digest_91), (119, k_M_digest_119), (121, k_M_digest_121), (149, k_M_digest_149)]
theorem o_M_digest : ∀ q ∈ g_M_digest, okB b_M_digest q.1 q.2 = true := List.all_eq_true.mp (by decide +kernel : g_M_digest.all (fun q => okB b_M_digest q.1 q.2) = true)
theorem j_M_digest_0 (f : List Instr → Prop) : lk1 g_M_digest 0 f = f [.ldc2_w 264, .lstore_n 1, .iconst 0, .istore_n 3] := (rfl)
theorem j_M_digest_6 (f : List Instr → Prop) : lk1 g_M_digest 6 f = f [.iload_n 3, .bipush 8, .if_icmp .ge 22, .ldc2_w 266, .lload_n 1, .lmul, .aload_n 0, .iload_n 3, .invokevirtual 268, .i2l, .ladd, .lstore_n 1, .iinc 3 1, .goto (-22)] := (rfl)
theorem j_M_digest_31 (f : List Instr → Prop) : lk1 g_M_digest 31 f = f [.iconst 0, .istore_n 3] := (rfl)
theorem j_M_digest_33 (f : List Instr → Prop) : lk1 g_M_digest 33 f = f [.iload_n 3, .aload_n 0, .getfield 160, .if_icmp .ge 51, .ldc2_w 266, .lload_n 1, .lmul, .aload_n 0, .getfield 54, .iload_n 3, .iaload, .i2l, .ladd, .lstore_n 1, .ldc2_w 266, .lload_n 1, .lmul, .aload_n 0, .getfield 57, .iload_n 3, .iaload, .i2l, .ladd, .lstore_n 1, .ldc2_w 266, .lload_n 1, .lmul, .aload_n 0, .getfield 75, .iload_n 3, .iaload, .i2l, .ladd, .lstore_n 1, .iinc 3 1, .goto (-53)] := (rfl)
theorem j_M_digest_89 (f : List Instr → Prop) : lk1 g_M_digest 89 f = f [.iconst 0, .istore_n 3] := (rfl)
theorem j_M_digest_91 (f : List Instr → Prop) : lk1 g_M_digest 91 f = f [.iload_n 3, .aload_n 0, .getfield 250, .if_icmp .ge 23, .ldc2_w 266, .lload_n 1, .lmul, .aload_n 0, .getfield 94, .iload_n 3, .iaload, .i2l, .ladd, .lstore_n 1, .iinc 3 1, .goto (-25)] := (rfl)
theorem j_M_digest_119 (f : List Instr → Prop) : lk1 g_M_digest 119 f = f [.iconst 0, .istore_n 3] := (rfl)
theorem j_M_digest_121 (f : List Instr → Prop) : lk1 g_M_digest 121 f = f [.iload_n 3, .aload_n 0, .getfield 259, .if_icmp .ge 23, .ldc2_w 266, .lload_n 1, .lmul, .aload_n 0, .getfield 97, .iload_n 3, .iaload, .i2l, .ladd, .lstore_n 1, .iinc 3 1, .goto (-25)] := (rfl)
theorem j_M_digest_149 (f : List Instr → Prop) : lk1 g_M_digest 149 f = f [.lload_n 1, .lreturn] := (rfl)
abbrev b_S_forget : ByteArray := prog_7_method_2_code
abbrev y_S_forget : MethodName := ⟨RX5, "forget", "()V"⟩
def k_S_forget_0 : List Instr := [.aload_n 0, .iconst 0, .putfield 18, .aload_n 0, .iconst (-1), .putfield 22, .aload_n 0, .iconst 0, .putfield 25, .aload_n 0, .iconst 0, .putfield 28, .return_]
def g_S_forget : List (Nat × List Instr) := [(0, k_S_forget_0)]
theorem o_S_forget : ∀ q ∈ g_S_forget, okB b_S_forget q.1 q.2 = true := List.all_eq_true.mp (by decide +kernel : g_S_forget.all (fun q => okB b_S_forget q.1 q.2) = true)
theorem j_S_forget_0 (f : List Instr → Prop) : lk1 g_S_forget 0 f = f [.aload_n 0, .iconst 0, .putfield 18, .aload_n 0, .iconst (-1), .putfield 22, .aload_n 0, .iconst 0, .putfield 25, .aload_n 0, .iconst 0, .putfield 28, .return_] := (rfl)
abbrev b_S_find : ByteArray := prog_7_method_4_code
abbrev y_S_find : MethodName := ⟨RX5, "find", "(LEvenWire$Wire;I)I"⟩
def k_S_find_0 : List Instr := [.aload_n 0, .getfield 18, .ifCond .ne 8, .aload_n 0, .aload_n 1, .invokevirtual 31]
def k_S_find_12 : List Instr := [.aload_n 0, .getfield 18, .iconst 1, .iadd, .istore_n 3]
def k_S_find_19 : List Instr := [.iload_n 3, .iload_n 2, .if_icmp .gt 34, .iload_n 3, .bipush 12, .if_icmp .gt 28, .aload_n 0, .getfield 22, .iconst (-1), .if_icmp .ne 20, .aload_n 0, .aload_n 1, .iload_n 3, .invokevirtual 35, .aload_n 0, .iload_n 3, .putfield 18, .iinc 3 1, .goto (-33)]
def k_S_find_55 : List Instr := [.aload_n 0, .getfield 22, .iconst (-1), .if_icmp .eq 11, .aload_n 0, .getfield 22, .iload_n 2, .if_icmp .le 5]
def k_S_find_71 : List Instr := [.iconst (-1), .ireturn]
def k_S_find_73 : List Instr := [.aload_n 0, .aload_n 0, .getfield 25, .putfield 28, .aload_n 0, .getfield 22, .ireturn]
def g_S_find : List (Nat × List Instr) := [(0, k_S_find_0), (12, k_S_find_12), (19, k_S_find_19), (55, k_S_find_55), (71, k_S_find_71), (73, k_S_find_73)]
theorem o_S_find : ∀ q ∈ g_S_find, okB b_S_find q.1 q.2 = true := List.all_eq_true.mp (by decide +kernel : g_S_find.all (fun q => okB b_S_find q.1 q.2) = true)
theorem j_S_find_0 (f : List Instr → Prop) : lk1 g_S_find 0 f = f [.aload_n 0, .getfield 18, .ifCond .ne 8, .aload_n 0, .aload_n 1, .invokevirtual 31] := (rfl)
theorem j_S_find_12 (f : List Instr → Prop) : lk1 g_S_find 12 f = f [.aload_n 0, .getfield 18, .iconst 1, .iadd, .istore_n 3] := (rfl)
theorem j_S_find_19 (f : List Instr → Prop) : lk1 g_S_find 19 f = f [.iload_n 3, .iload_n 2, .if_icmp .gt 34, .iload_n 3, .bipush 12, .if_icmp .gt 28, .aload_n 0, .getfield 22, .iconst (-1), .if_icmp .ne 20, .aload_n 0, .aload_n 1, .iload_n 3, .invokevirtual 35, .aload_n 0, .iload_n 3, .putfield 18, .iinc 3 1, .goto (-33)] := (rfl)
theorem j_S_find_55 (f : List Instr → Prop) : lk1 g_S_find 55 f = f [.aload_n 0, .getfield 22, .iconst (-1), .if_icmp .eq 11, .aload_n 0, .getfield 22, .iload_n 2, .if_icmp .le 5] := (rfl)
theorem j_S_find_71 (f : List Instr → Prop) : lk1 g_S_find 71 f = f [.iconst (-1), .ireturn] := (rfl)
theorem j_S_find_73 (f : List Instr → Prop) : lk1 g_S_find 73 f = f [.aload_n 0, .aload_n 0, .getfield 25, .putfield 28, .aload_n 0, .getfield 22, .ireturn] := (rfl)
abbrev b_S_startAnywhere : ByteArray := prog_7_method_5_code
abbrev y_S_startAnywhere : MethodName := ⟨RX5, "startAnywhere", "(LEvenWire$Wire;)V"⟩
def k_S_startAnywhere_0 : List Instr := [.aload_n 0, .getfield 11, .iconst 1, .lconst 0, .lastore, .aload_n 0, .getfield 15, .iconst 1, .lconst 0, .lastore, .iconst 0, .istore_n 2]
def k_S_startAnywhere_16 : List Instr := [.iload_n 2, .aload_n 1, .invokevirtual 39, .if_icmp .ge 15, .aload_n 0, .iconst 1, .iload_n 2, .invokevirtual 45, .iinc 2 1, .goto (-17)]
def k_S_startAnywhere_36 : List Instr := [.return_]
def g_S_startAnywhere : List (Nat × List Instr) := [(0, k_S_startAnywhere_0), (16, k_S_startAnywhere_16), (36, k_S_startAnywhere_36)]
theorem o_S_startAnywhere : ∀ q ∈ g_S_startAnywhere, okB b_S_startAnywhere q.1 q.2 = true := List.all_eq_true.mp (by decide +kernel : g_S_startAnywhere.all (fun q => okB b_S_startAnywhere q.1 q.2) = true)
theorem j_S_startAnywhere_0 (f : List Instr → Prop) : lk1 g_S_startAnywhere 0 f = f [.aload_n 0, .getfield 11, .iconst 1, .lconst 0, .lastore, .aload_n 0, .getfield 15, .iconst 1, .lconst 0, .lastore, .iconst 0, .istore_n 2] := (rfl)
theorem j_S_startAnywhere_16 (f : List Instr → Prop) : lk1 g_S_startAnywhere 16 f = f [.iload_n 2, .aload_n 1, .invokevirtual 39, .if_icmp .ge 15, .aload_n 0, .iconst 1, .iload_n 2, .invokevirtual 45, .iinc 2 1, .goto (-17)] := (rfl)
theorem j_S_startAnywhere_36 (f : List Instr → Prop) : lk1 g_S_startAnywhere 36 f = f [.return_] := (rfl)
abbrev b_S_addEnd : ByteArray := prog_7_method_8_code
abbrev y_S_addEnd : MethodName := ⟨RX5, "addEnd", "(II)V"⟩
def k_S_addEnd_0 : List Instr := [.iload_n 2, .iconst (-1), .if_icmp .ne 4, .return_]
def k_S_addEnd_6 : List Instr := [.iload_n 2, .bipush 64, .if_icmp .ge 18, .aload_n 0, .getfield 11, .iload_n 1, .dup2, .laload, .lconst 1, .iload_n 2, .lshl, .lor, .lastore, .goto 18]
def k_S_addEnd_27 : List Instr := [.aload_n 0, .getfield 15, .iload_n 1, .dup2, .laload, .lconst 1, .iload_n 2, .bipush 64, .isub, .lshl, .lor, .lastore]
def k_S_addEnd_42 : List Instr := [.return_]
def g_S_addEnd : List (Nat × List Instr) := [(0, k_S_addEnd_0), (6, k_S_addEnd_6), (27, k_S_addEnd_27), (42, k_S_addEnd_42)]
theorem o_S_addEnd : ∀ q ∈ g_S_addEnd, okB b_S_addEnd q.1 q.2 = true := List.all_eq_true.mp (by decide +kernel : g_S_addEnd.all (fun q => okB b_S_addEnd q.1 q.2) = true)
theorem j_S_addEnd_0 (f : List Instr → Prop) : lk1 g_S_addEnd 0 f = f [.iload_n 2, .iconst (-1), .if_icmp .ne 4, .return_] := (rfl)
theorem j_S_addEnd_6 (f : List Instr → Prop) : lk1 g_S_addEnd 6 f = f [.iload_n 2, .bipush 64, .if_icmp .ge 18, .aload_n 0, .getfield 11, .iload_n 1, .dup2, .laload, .lconst 1, .iload_n 2, .lshl, .lor, .lastore, .goto 18] := (rfl)
theorem j_S_addEnd_27 (f : List Instr → Prop) : lk1 g_S_addEnd 27 f = f [.aload_n 0, .getfield 15, .iload_n 1, .dup2, .laload, .lconst 1, .iload_n 2, .bipush 64, .isub, .lshl, .lor, .lastore] := (rfl)
theorem j_S_addEnd_42 (f : List Instr → Prop) : lk1 g_S_addEnd 42 f = f [.return_] := (rfl)
abbrev b_S_searchLength : ByteArray := prog_7_method_6_code
abbrev y_S_searchLength : MethodName := ⟨RX5, "searchLength", "(LEvenWire$Wire;I)V"⟩
def k_S_searchLength_0 : List Instr := [.iconst 1, .iload_n 2, .ishl, .istore_n 3, .iconst 0, .istore 4]
def k_S_searchLength_7 : List Instr := [.iload 4, .iload_n 3, .if_icmp .ge 102, .iload_n 3, .iload 4, .iadd, .istore 5, .aload_n 0, .getfield 11, .iload 5, .lconst 0, .lastore, .aload_n 0, .getfield 15, .iload 5, .lconst 0, .lastore, .aload_n 0, .aload_n 1, .iload 5, .aload_n 0, .getfield 11, .iload 5, .iconst 1, .ishr, .laload, .iconst 0, .invokevirtual 49, .aload_n 0, .aload_n 1, .iload 5, .aload_n 0, .getfield 15, .iload 5, .iconst 1, .ishr, .laload, .bipush 64, .invokevirtual 49, .aload_n 0, .getfield 11, .iload 5, .laload, .lconst 0, .lcmp, .ifCond .ne 27, .aload_n 0, .getfield 15, .iload 5, .laload, .lconst 0, .lcmp, .ifCond .ne 15, .aload_n 0, .iload_n 2, .putfield 22, .aload_n 0, .iload 4, .putfield 25, .return_]
def k_S_searchLength_106 : List Instr := [.iinc 4 1, .goto (-102)]
def k_S_searchLength_112 : List Instr := [.return_]
def g_S_searchLength : List (Nat × List Instr) := [(0, k_S_searchLength_0), (7, k_S_searchLength_7), (106, k_S_searchLength_106), (112, k_S_searchLength_112)]
theorem o_S_searchLength : ∀ q ∈ g_S_searchLength, okB b_S_searchLength q.1 q.2 = true := List.all_eq_true.mp (by decide +kernel : g_S_searchLength.all (fun q => okB b_S_searchLength q.1 q.2) = true)
theorem j_S_searchLength_0 (f : List Instr → Prop) : lk1 g_S_searchLength 0 f = f [.iconst 1, .iload_n 2, .ishl, .istore_n 3, .iconst 0, .istore 4] := (rfl)
theorem j_S_searchLength_7 (f : List Instr → Prop) : lk1 g_S_searchLength 7 f = f [.iload 4, .iload_n 3, .if_icmp .ge 102, .iload_n 3, .iload 4, .iadd, .istore 5, .aload_n 0, .getfield 11, .iload 5, .lconst 0, .lastore, .aload_n 0, .getfield 15, .iload 5, .lconst 0, .lastore, .aload_n 0, .aload_n 1, .iload 5, .aload_n 0, .getfield 11, .iload 5, .iconst 1, .ishr, .laload, .iconst 0, .invokevirtual 49, .aload_n 0, .aload_n 1, .iload 5, .aload_n 0, .getfield 15, .iload 5, .iconst 1, .ishr, .laload, .bipush 64, .invokevirtual 49, .aload_n 0, .getfield 11, .iload 5, .laload, .lconst 0, .lcmp, .ifCond .ne 27, .aload_n 0, .getfield 15, .iload 5, .laload, .lconst 0, .lcmp, .ifCond .ne 15, .aload_n 0, .iload_n 2, .putfield 22, .aload_n 0, .iload 4, .putfield 25, .return_] := (rfl)
theorem j_S_searchLength_106 (f : List Instr → Prop) : lk1 g_S_searchLength 106 f = f [.iinc 4 1, .goto (-102)] := (rfl)
theorem j_S_searchLength_112 (f : List Instr → Prop) : lk1 g_S_searchLength 112 f = f [.return_] := (rfl)
abbrev b_S_goOn : ByteArray := prog_7_method_7_code
abbrev y_S_goOn : MethodName := ⟨RX5, "goOn", "(LEvenWire$Wire;IJI)V"⟩
def k_S_goOn_0 : List Instr := [.lload_n 3, .lstore 6, .iconst 0, .istore 8]
def k_S_goOn_6 : List Instr := [.iload 8, .bipush 64, .if_icmp .ge 45, .lload 6, .lconst 0, .lcmp, .ifCond .eq 38, .aload_n 0, .iload_n 2, .aload_n 1, .iload 5, .lload 6, .invokestatic 53, .iadd, .iload_n 2, .iconst 1, .iand, .invokevirtual 59, .invokevirtual 45, .lload 6, .lload 6, .lconst 1, .lsub, .land, .lstore 6, .iinc 8 1, .goto (-46)]
def k_S_goOn_55 : List Instr := [.return_]
def g_S_goOn : List (Nat × List Instr) := [(0, k_S_goOn_0), (6, k_S_goOn_6), (55, k_S_goOn_55)]
theorem o_S_goOn : ∀ q ∈ g_S_goOn, okB b_S_goOn q.1 q.2 = true := List.all_eq_true.mp (by decide +kernel : g_S_goOn.all (fun q => okB b_S_goOn q.1 q.2) = true)
theorem j_S_goOn_0 (f : List Instr → Prop) : lk1 g_S_goOn 0 f = f [.lload_n 3, .lstore 6, .iconst 0, .istore 8] := (rfl)
theorem j_S_goOn_6 (f : List Instr → Prop) : lk1 g_S_goOn 6 f = f [.iload 8, .bipush 64, .if_icmp .ge 45, .lload 6, .lconst 0, .lcmp, .ifCond .eq 38, .aload_n 0, .iload_n 2, .aload_n 1, .iload 5, .lload 6, .invokestatic 53, .iadd, .iload_n 2, .iconst 1, .iand, .invokevirtual 59, .invokevirtual 45, .lload 6, .lload 6, .lconst 1, .lsub, .land, .lstore 6, .iinc 8 1, .goto (-46)] := (rfl)
theorem j_S_goOn_55 (f : List Instr → Prop) : lk1 g_S_goOn 55 f = f [.return_] := (rfl)
abbrev b_S_lastFound : ByteArray := prog_7_method_3_code
abbrev y_S_lastFound : MethodName := ⟨RX5, "lastFound", "()I"⟩
def k_S_lastFound_0 : List Instr := [.aload_n 0, .getfield 28, .ireturn]
def g_S_lastFound : List (Nat × List Instr) := [(0, k_S_lastFound_0)]
theorem o_S_lastFound : ∀ q ∈ g_S_lastFound, okB b_S_lastFound q.1 q.2 = true := List.all_eq_true.mp (by decide +kernel : g_S_lastFound.all (fun q => okB b_S_lastFound q.1 q.2) = true)
theorem j_S_lastFound_0 (f : List Instr → Prop) : lk1 g_S_lastFound 0 f = f [.aload_n 0, .getfield 28, .ireturn] := (rfl)
abbrev b_T_keep : ByteArray := prog_3_method_5_code
abbrev y_T_keep : MethodName := ⟨RX1, "keep", "(I)I"⟩
def k_T_keep_0 : List Instr := [.aload_n 0, .getfield 15, .istore_n 2, .aload_n 0, .iconst 0, .aload_n 0, .getfield 15, .iload_n 1, .invokestatic 19, .invokestatic 25, .putfield 15, .iload_n 2, .aload_n 0, .getfield 15, .isub, .ireturn]
def g_T_keep : List (Nat × List Instr) := [(0, k_T_keep_0)]
theorem o_T_keep : ∀ q ∈ g_T_keep, okB b_T_keep q.1 q.2 = true := List.all_eq_true.mp (by decide +kernel : g_T_keep.all (fun q => okB b_T_keep q.1 q.2) = true)
theorem j_T_keep_0 (f : List Instr → Prop) : lk1 g_T_keep 0 f = f [.aload_n 0, .getfield 15, .istore_n 2, .aload_n 0, .iconst 0, .aload_n 0, .getfield 15, .iload_n 1, .invokestatic 19, .invokestatic 25, .putfield 15, .iload_n 2, .aload_n 0, .getfield 15, .isub, .ireturn] := (rfl)
abbrev b_T_setPath : ByteArray := prog_3_method_8_code
abbrev y_T_setPath : MethodName := ⟨RX1, "setPath", "(LEvenWire$Wire;I)V"⟩
def k_T_setPath_0 : List Instr := [.iload_n 2, .istore_n 3, .aload_n 0, .aload_n 1, .iload_n 2, .invokevirtual 38, .sipush 600, .invokestatic 19, .putfield 15, .aload_n 0, .getfield 15, .iconst 1, .isub, .istore 4]
def k_T_setPath_25 : List Instr := [.iload 4, .ifCond .lt 27, .aload_n 0, .getfield 9, .iload 4, .aload_n 1, .iload_n 3, .invokevirtual 43, .iastore, .aload_n 1, .iload_n 3, .invokevirtual 46, .istore_n 3, .iinc 4 (-1), .goto (-26)]
def k_T_setPath_54 : List Instr := [.return_]
def g_T_setPath : List (Nat × List Instr) := [(0, k_T_setPath_0), (25, k_T_setPath_25), (54, k_T_setPath_54)]
theorem o_T_setPath : ∀ q ∈ g_T_setPath, okB b_T_setPath q.1 q.2 = true := List.all_eq_true.mp (by decide +kernel : g_T_setPath.all (fun q => okB b_T_setPath q.1 q.2) = true)
theorem j_T_setPath_0 (f : List Instr → Prop) : lk1 g_T_setPath 0 f = f [.iload_n 2, .istore_n 3, .aload_n 0, .aload_n 1, .iload_n 2, .invokevirtual 38, .sipush 600, .invokestatic 19, .putfield 15, .aload_n 0, .getfield 15, .iconst 1, .isub, .istore 4] := (rfl)
theorem j_T_setPath_25 (f : List Instr → Prop) : lk1 g_T_setPath 25 f = f [.iload 4, .ifCond .lt 27, .aload_n 0, .getfield 9, .iload 4, .aload_n 1, .iload_n 3, .invokevirtual 43, .iastore, .aload_n 1, .iload_n 3, .invokevirtual 46, .istore_n 3, .iinc 4 (-1), .goto (-26)] := (rfl)
theorem j_T_setPath_54 (f : List Instr → Prop) : lk1 g_T_setPath 54 f = f [.return_] := (rfl)
abbrev b_T_size : ByteArray := prog_3_method_2_code
abbrev y_T_size : MethodName := ⟨RX1, "size", "()I"⟩
def k_T_size_0 : List Instr := [.aload_n 0, .getfield 15, .ireturn]
def g_T_size : List (Nat × List Instr) := [(0, k_T_size_0)]
theorem o_T_size : ∀ q ∈ g_T_size, okB b_T_size q.1 q.2 = true := List.all_eq_true.mp (by decide +kernel : g_T_size.all (fun q => okB b_T_size q.1 q.2) = true)
theorem j_T_size_0 (f : List Instr → Prop) : lk1 g_T_size 0 f = f [.aload_n 0, .getfield 15, .ireturn] := (rfl)
abbrev b_T_add : ByteArray := prog_3_method_4_code
abbrev y_T_add : MethodName := ⟨RX1, "add", "(JI)V"⟩
def k_T_add_0 : List Instr := [.iload_n 3, .iconst 1, .isub, .istore 4]
def k_T_add_5 : List Instr := [.iload 4, .ifCond .lt 45, .aload_n 0, .getfield 15, .sipush 600, .if_icmp .ge 35, .aload_n 0, .getfield 9, .aload_n 0, .getfield 15, .lload_n 1, .iload 4, .lshr, .l2i, .iconst 1, .iand, .iastore, .aload_n 0, .dup, .getfield 15, .iconst 1, .iadd, .putfield 15, .iinc 4 (-1), .goto (-44)]
def k_T_add_52 : List Instr := [.return_]
def g_T_add : List (Nat × List Instr) := [(0, k_T_add_0), (5, k_T_add_5), (52, k_T_add_52)]
theorem o_T_add : ∀ q ∈ g_T_add, okB b_T_add q.1 q.2 = true := List.all_eq_true.mp (by decide +kernel : g_T_add.all (fun q => okB b_T_add q.1 q.2) = true)
theorem j_T_add_0 (f : List Instr → Prop) : lk1 g_T_add 0 f = f [.iload_n 3, .iconst 1, .isub, .istore 4] := (rfl)
theorem j_T_add_5 (f : List Instr → Prop) : lk1 g_T_add 5 f = f [.iload 4, .ifCond .lt 45, .aload_n 0, .getfield 15, .sipush 600, .if_icmp .ge 35, .aload_n 0, .getfield 9, .aload_n 0, .getfield 15, .lload_n 1, .iload 4, .lshr, .l2i, .iconst 1, .iand, .iastore, .aload_n 0, .dup, .getfield 15, .iconst 1, .iadd, .putfield 15, .iinc 4 (-1), .goto (-44)] := (rfl)
theorem j_T_add_52 (f : List Instr → Prop) : lk1 g_T_add 52 f = f [.return_] := (rfl)
abbrev b_T_at : ByteArray := prog_3_method_3_code
abbrev y_T_at : MethodName := ⟨RX1, "at", "(I)I"⟩
def k_T_at_0 : List Instr := [.iload_n 1, .ifCond .lt 20, .iload_n 1, .aload_n 0, .getfield 15, .if_icmp .ge 12, .aload_n 0, .getfield 9, .iload_n 1, .iaload, .goto 5]
def k_T_at_21 : List Instr := [.bipush (-2)]
def k_T_at_23 : List Instr := [.ireturn]
def g_T_at : List (Nat × List Instr) := [(0, k_T_at_0), (21, k_T_at_21), (23, k_T_at_23)]
theorem o_T_at : ∀ q ∈ g_T_at, okB b_T_at q.1 q.2 = true := List.all_eq_true.mp (by decide +kernel : g_T_at.all (fun q => okB b_T_at q.1 q.2) = true)
theorem j_T_at_0 (f : List Instr → Prop) : lk1 g_T_at 0 f = f [.iload_n 1, .ifCond .lt 20, .iload_n 1, .aload_n 0, .getfield 15, .if_icmp .ge 12, .aload_n 0, .getfield 9, .iload_n 1, .iaload, .goto 5] := (rfl)
theorem j_T_at_21 (f : List Instr → Prop) : lk1 g_T_at 21 f = f [.bipush (-2)] := (rfl)
theorem j_T_at_23 (f : List Instr → Prop) : lk1 g_T_at 23 f = f [.ireturn] := (rfl)
abbrev b_T_copy : ByteArray := prog_3_method_7_code
abbrev y_T_copy : MethodName := ⟨RX1, "copy", "(LEvenWire$Bits;)V"⟩
def k_T_copy_0 : List Instr := [.aload_n 1, .getfield 9, .iconst 0, .aload_n 0, .getfield 9, .iconst 0, .aload_n 1, .getfield 15, .invokestatic 32, .aload_n 0, .aload_n 1, .getfield 15, .putfield 15, .return_]
def g_T_copy : List (Nat × List Instr) := [(0, k_T_copy_0)]
theorem o_T_copy : ∀ q ∈ g_T_copy, okB b_T_copy q.1 q.2 = true := List.all_eq_true.mp (by decide +kernel : g_T_copy.all (fun q => okB b_T_copy q.1 q.2) = true)
theorem j_T_copy_0 (f : List Instr → Prop) : lk1 g_T_copy 0 f = f [.aload_n 1, .getfield 9, .iconst 0, .aload_n 0, .getfield 9, .iconst 0, .aload_n 1, .getfield 15, .invokestatic 32, .aload_n 0, .aload_n 1, .getfield 15, .putfield 15, .return_] := (rfl)
abbrev b_T_part : ByteArray := prog_3_method_9_code
abbrev y_T_part : MethodName := ⟨RX1, "part", "(II)I"⟩
def k_T_part_0 : List Instr := [.iconst 0, .istore_n 3, .iload_n 1, .istore 4]
def k_T_part_5 : List Instr := [.iload 4, .iload_n 1, .iload_n 2, .iadd, .if_icmp .ge 29, .iconst 2, .iload_n 3, .imul, .aload_n 0, .iload 4, .invokevirtual 28, .iconst 1, .if_icmp .ne 7, .iconst 1, .goto 4]
def k_T_part_30 : List Instr := [.iconst 0]
def k_T_part_31 : List Instr := [.iadd, .istore_n 3, .iinc 4 1, .goto (-31)]
def k_T_part_39 : List Instr := [.iload_n 3, .ireturn]
def g_T_part : List (Nat × List Instr) := [(0, k_T_part_0), (5, k_T_part_5), (30, k_T_part_30), (31, k_T_part_31), (39, k_T_part_39)]
theorem o_T_part : ∀ q ∈ g_T_part, okB b_T_part q.1 q.2 = true := List.all_eq_true.mp (by decide +kernel : g_T_part.all (fun q => okB b_T_part q.1 q.2) = true)
theorem j_T_part_0 (f : List Instr → Prop) : lk1 g_T_part 0 f = f [.iconst 0, .istore_n 3, .iload_n 1, .istore 4] := (rfl)
theorem j_T_part_5 (f : List Instr → Prop) : lk1 g_T_part 5 f = f [.iload 4, .iload_n 1, .iload_n 2, .iadd, .if_icmp .ge 29, .iconst 2, .iload_n 3, .imul, .aload_n 0, .iload 4, .invokevirtual 28, .iconst 1, .if_icmp .ne 7, .iconst 1, .goto 4] := (rfl)
theorem j_T_part_30 (f : List Instr → Prop) : lk1 g_T_part 30 f = f [.iconst 0] := (rfl)
theorem j_T_part_31 (f : List Instr → Prop) : lk1 g_T_part 31 f = f [.iadd, .istore_n 3, .iinc 4 1, .goto (-31)] := (rfl)
theorem j_T_part_39 (f : List Instr → Prop) : lk1 g_T_part 39 f = f [.iload_n 3, .ireturn] := (rfl)
abbrev b_T_firstUnlike : ByteArray := prog_3_method_10_code
abbrev y_T_firstUnlike : MethodName := ⟨RX1, "firstUnlike", "(LEvenWire$Bits;)I"⟩
def k_T_firstUnlike_0 : List Instr := [.iconst 0, .istore_n 2]
def k_T_firstUnlike_2 : List Instr := [.iload_n 2, .aload_n 0, .getfield 15, .if_icmp .ge 25, .aload_n 1, .iload_n 2, .invokevirtual 28, .aload_n 0, .getfield 9, .iload_n 2, .iaload, .if_icmp .eq 5, .iload_n 2, .ireturn]
def k_T_firstUnlike_26 : List Instr := [.iinc 2 1, .goto (-27)]
def k_T_firstUnlike_32 : List Instr := [.iconst (-1), .ireturn]
def g_T_firstUnlike : List (Nat × List Instr) := [(0, k_T_firstUnlike_0), (2, k_T_firstUnlike_2), (26, k_T_firstUnlike_26), (32, k_T_firstUnlike_32)]
theorem o_T_firstUnlike : ∀ q ∈ g_T_firstUnlike, okB b_T_firstUnlike q.1 q.2 = true := List.all_eq_true.mp (by decide +kernel : g_T_firstUnlike.all (fun q => okB b_T_firstUnlike q.1 q.2) = true)
theorem j_T_firstUnlike_0 (f : List Instr → Prop) : lk1 g_T_firstUnlike 0 f = f [.iconst 0, .istore_n 2] := (rfl)
theorem j_T_firstUnlike_2 (f : List Instr → Prop) : lk1 g_T_firstUnlike 2 f = f [.iload_n 2, .aload_n 0, .getfield 15, .if_icmp .ge 25, .aload_n 1, .iload_n 2, .invokevirtual 28, .aload_n 0, .getfield 9, .iload_n 2, .iaload, .if_icmp .eq 5, .iload_n 2, .ireturn] := (rfl)
theorem j_T_firstUnlike_26 (f : List Instr → Prop) : lk1 g_T_firstUnlike 26 f = f [.iinc 2 1, .goto (-27)] := (rfl)
theorem j_T_firstUnlike_32 (f : List Instr → Prop) : lk1 g_T_firstUnlike 32 f = f [.iconst (-1), .ireturn] := (rfl)
abbrev b_T_flip : ByteArray := prog_3_method_6_code
abbrev y_T_flip : MethodName := ⟨RX1, "flip", "(I)I"⟩
def k_T_flip_0 : List Instr := [.aload_n 0, .iload_n 1, .invokevirtual 28, .istore_n 2, .iload_n 2, .bipush (-2), .if_icmp .eq 12, .aload_n 0, .getfield 9, .iload_n 1, .iconst 1, .iload_n 2, .isub, .iastore]
def k_T_flip_21 : List Instr := [.iload_n 2, .ireturn]
def g_T_flip : List (Nat × List Instr) := [(0, k_T_flip_0), (21, k_T_flip_21)]
theorem o_T_flip : ∀ q ∈ g_T_flip, okB b_T_flip q.1 q.2 = true := List.all_eq_true.mp (by decide +kernel : g_T_flip.all (fun q => okB b_T_flip q.1 q.2) = true)
theorem j_T_flip_0 (f : List Instr → Prop) : lk1 g_T_flip 0 f = f [.aload_n 0, .iload_n 1, .invokevirtual 28, .istore_n 2, .iload_n 2, .bipush (-2), .if_icmp .eq 12, .aload_n 0, .getfield 9, .iload_n 1, .iconst 1, .iload_n 2, .isub, .iastore] := (rfl)
theorem j_T_flip_21 (f : List Instr → Prop) : lk1 g_T_flip 21 f = f [.iload_n 2, .ireturn] := (rfl)
abbrev b_T_leastLean : ByteArray := prog_3_method_11_code
abbrev y_T_leastLean : MethodName := ⟨RX1, "leastLean", "()I"⟩
def k_T_leastLean_0 : List Instr := [.iconst 0, .istore_n 1, .iconst 0, .istore_n 2, .iconst 0, .istore_n 3]
def k_T_leastLean_6 : List Instr := [.iload_n 3, .aload_n 0, .getfield 15, .if_icmp .ge 28, .iload_n 1, .iconst 2, .aload_n 0, .getfield 9, .iload_n 3, .iaload, .imul, .iconst 1, .isub, .iadd, .istore_n 1, .iload_n 2, .iload_n 1, .invokestatic 19, .istore_n 2, .iinc 3 1, .goto (-30)]
def k_T_leastLean_39 : List Instr := [.iload_n 2, .ireturn]
def g_T_leastLean : List (Nat × List Instr) := [(0, k_T_leastLean_0), (6, k_T_leastLean_6), (39, k_T_leastLean_39)]
theorem o_T_leastLean : ∀ q ∈ g_T_leastLean, okB b_T_leastLean q.1 q.2 = true := List.all_eq_true.mp (by decide +kernel : g_T_leastLean.all (fun q => okB b_T_leastLean q.1 q.2) = true)
theorem j_T_leastLean_0 (f : List Instr → Prop) : lk1 g_T_leastLean 0 f = f [.iconst 0, .istore_n 1, .iconst 0, .istore_n 2, .iconst 0, .istore_n 3] := (rfl)
theorem j_T_leastLean_6 (f : List Instr → Prop) : lk1 g_T_leastLean 6 f = f [.iload_n 3, .aload_n 0, .getfield 15, .if_icmp .ge 28, .iload_n 1, .iconst 2, .aload_n 0, .getfield 9, .iload_n 3, .iaload, .imul, .iconst 1, .isub, .iadd, .istore_n 1, .iload_n 2, .iload_n 1, .invokestatic 19, .istore_n 2, .iinc 3 1, .goto (-30)] := (rfl)
theorem j_T_leastLean_39 (f : List Instr → Prop) : lk1 g_T_leastLean 39 f = f [.iload_n 2, .ireturn] := (rfl)
abbrev b_T_greatestLean : ByteArray := prog_3_method_12_code
abbrev y_T_greatestLean : MethodName := ⟨RX1, "greatestLean", "()I"⟩
def k_T_greatestLean_0 : List Instr := [.iconst 0, .istore_n 1, .iconst 0, .istore_n 2, .iconst 0, .istore_n 3]
def k_T_greatestLean_6 : List Instr := [.iload_n 3, .aload_n 0, .getfield 15, .if_icmp .ge 28, .iload_n 1, .iconst 2, .aload_n 0, .getfield 9, .iload_n 3, .iaload, .imul, .iconst 1, .isub, .iadd, .istore_n 1, .iload_n 2, .iload_n 1, .invokestatic 25, .istore_n 2, .iinc 3 1, .goto (-30)]
def k_T_greatestLean_39 : List Instr := [.iload_n 2, .ireturn]
def g_T_greatestLean : List (Nat × List Instr) := [(0, k_T_greatestLean_0), (6, k_T_greatestLean_6), (39, k_T_greatestLean_39)]
theorem o_T_greatestLean : ∀ q ∈ g_T_greatestLean, okB b_T_greatestLean q.1 q.2 = true := List.all_eq_true.mp (by decide +kernel : g_T_greatestLean.all (fun q => okB b_T_greatestLean q.1 q.2) = true)
theorem j_T_greatestLean_0 (f : List Instr → Prop) : lk1 g_T_greatestLean 0 f = f [.iconst 0, .istore_n 1, .iconst 0, .istore_n 2, .iconst 0, .istore_n 3] := (rfl)
theorem j_T_greatestLean_6 (f : List Instr → Prop) : lk1 g_T_greatestLean 6 f = f [.iload_n 3, .aload_n 0, .getfield 15, .if_icmp .ge 28, .iload_n 1, .iconst 2, .aload_n 0, .getfield 9, .iload_n 3, .iaload, .imul, .iconst 1, .isub, .iadd, .istore_n 1, .iload_n 2, .iload_n 1, .invokestatic 25, .istore_n 2, .iinc 3 1, .goto (-30)] := (rfl)
theorem j_T_greatestLean_39 (f : List Instr → Prop) : lk1 g_T_greatestLean 39 f = f [.iload_n 2, .ireturn] := (rfl)
abbrev b_T_leanSquares : ByteArray := prog_3_method_13_code
abbrev y_T_leanSquares : MethodName := ⟨RX1, "leanSquares", "()I"⟩
def k_T_leanSquares_0 : List Instr := [.iconst 0, .istore_n 1, .iconst 0, .istore_n 2, .iconst 0, .istore_n 3]
def k_T_leanSquares_6 : List Instr := [.iload_n 3, .aload_n 0, .getfield 15, .if_icmp .ge 28, .iload_n 1, .iconst 2, .aload_n 0, .getfield 9, .iload_n 3, .iaload, .imul, .iconst 1, .isub, .iadd, .istore_n 1, .iload_n 2, .iload_n 1, .iload_n 1, .imul, .iadd, .istore_n 2, .iinc 3 1, .goto (-30)]
def k_T_leanSquares_39 : List Instr := [.iload_n 2, .ireturn]
def g_T_leanSquares : List (Nat × List Instr) := [(0, k_T_leanSquares_0), (6, k_T_leanSquares_6), (39, k_T_leanSquares_39)]
theorem o_T_leanSquares : ∀ q ∈ g_T_leanSquares, okB b_T_leanSquares q.1 q.2 = true := List.all_eq_true.mp (by decide +kernel : g_T_leanSquares.all (fun q => okB b_T_leanSquares q.1 q.2) = true)
theorem j_T_leanSquares_0 (f : List Instr → Prop) : lk1 g_T_leanSquares 0 f = f [.iconst 0, .istore_n 1, .iconst 0, .istore_n 2, .iconst 0, .istore_n 3] := (rfl)
theorem j_T_leanSquares_6 (f : List Instr → Prop) : lk1 g_T_leanSquares 6 f = f [.iload_n 3, .aload_n 0, .getfield 15, .if_icmp .ge 28, .iload_n 1, .iconst 2, .aload_n 0, .getfield 9, .iload_n 3, .iaload, .imul, .iconst 1, .isub, .iadd, .istore_n 1, .iload_n 2, .iload_n 1, .iload_n 1, .imul, .iadd, .istore_n 2, .iinc 3 1, .goto (-30)] := (rfl)
theorem j_T_leanSquares_39 (f : List Instr → Prop) : lk1 g_T_leanSquares 39 f = f [.iload_n 2, .ireturn] := (rfl)
abbrev b_T_longestRun : ByteArray := prog_3_method_14_code
abbrev y_T_longestRun : MethodName := ⟨RX1, "longestRun", "()I"⟩
def k_T_longestRun_0 : List Instr := [.iconst 0, .istore_n 1, .iconst 0, .istore_n 2, .iconst 0, .istore_n 3]
def k_T_longestRun_6 : List Instr := [.iload_n 3, .aload_n 0, .getfield 15, .if_icmp .ge 44, .iload_n 3, .ifCond .le 26, .aload_n 0, .getfield 9, .iload_n 3, .iaload, .aload_n 0, .getfield 9, .iload_n 3, .iconst 1, .isub, .iaload, .if_icmp .ne 9, .iload_n 1, .iconst 1, .iadd, .goto 4]
def k_T_longestRun_41 : List Instr := [.iconst 1]
def k_T_longestRun_42 : List Instr := [.istore_n 1, .iload_n 2, .iload_n 1, .invokestatic 25, .istore_n 2, .iinc 3 1, .goto (-46)]
def k_T_longestRun_55 : List Instr := [.iload_n 2, .ireturn]
def g_T_longestRun : List (Nat × List Instr) := [(0, k_T_longestRun_0), (6, k_T_longestRun_6), (41, k_T_longestRun_41), (42, k_T_longestRun_42), (55, k_T_longestRun_55)]
theorem o_T_longestRun : ∀ q ∈ g_T_longestRun, okB b_T_longestRun q.1 q.2 = true := List.all_eq_true.mp (by decide +kernel : g_T_longestRun.all (fun q => okB b_T_longestRun q.1 q.2) = true)
theorem j_T_longestRun_0 (f : List Instr → Prop) : lk1 g_T_longestRun 0 f = f [.iconst 0, .istore_n 1, .iconst 0, .istore_n 2, .iconst 0, .istore_n 3] := (rfl)
theorem j_T_longestRun_6 (f : List Instr → Prop) : lk1 g_T_longestRun 6 f = f [.iload_n 3, .aload_n 0, .getfield 15, .if_icmp .ge 44, .iload_n 3, .ifCond .le 26, .aload_n 0, .getfield 9, .iload_n 3, .iaload, .aload_n 0, .getfield 9, .iload_n 3, .iconst 1, .isub, .iaload, .if_icmp .ne 9, .iload_n 1, .iconst 1, .iadd, .goto 4] := (rfl)
theorem j_T_longestRun_41 (f : List Instr → Prop) : lk1 g_T_longestRun 41 f = f [.iconst 1] := (rfl)
theorem j_T_longestRun_42 (f : List Instr → Prop) : lk1 g_T_longestRun 42 f = f [.istore_n 1, .iload_n 2, .iload_n 1, .invokestatic 25, .istore_n 2, .iinc 3 1, .goto (-46)] := (rfl)
theorem j_T_longestRun_55 (f : List Instr → Prop) : lk1 g_T_longestRun 55 f = f [.iload_n 2, .ireturn] := (rfl)
abbrev b_T_turns : ByteArray := prog_3_method_15_code
abbrev y_T_turns : MethodName := ⟨RX1, "turns", "()I"⟩
def k_T_turns_0 : List Instr := [.iconst 0, .istore_n 1, .iconst 1, .istore_n 2]
def k_T_turns_4 : List Instr := [.iload_n 2, .aload_n 0, .getfield 15, .if_icmp .ge 29, .aload_n 0, .getfield 9, .iload_n 2, .iaload, .aload_n 0, .getfield 9, .iload_n 2, .iconst 1, .isub, .iaload, .if_icmp .eq 6, .iinc 1 1]
def k_T_turns_32 : List Instr := [.iinc 2 1, .goto (-31)]
def k_T_turns_38 : List Instr := [.iload_n 1, .ireturn]
def g_T_turns : List (Nat × List Instr) := [(0, k_T_turns_0), (4, k_T_turns_4), (32, k_T_turns_32), (38, k_T_turns_38)]
theorem o_T_turns : ∀ q ∈ g_T_turns, okB b_T_turns q.1 q.2 = true := List.all_eq_true.mp (by decide +kernel : g_T_turns.all (fun q => okB b_T_turns q.1 q.2) = true)
theorem j_T_turns_0 (f : List Instr → Prop) : lk1 g_T_turns 0 f = f [.iconst 0, .istore_n 1, .iconst 1, .istore_n 2] := (rfl)
theorem j_T_turns_4 (f : List Instr → Prop) : lk1 g_T_turns 4 f = f [.iload_n 2, .aload_n 0, .getfield 15, .if_icmp .ge 29, .aload_n 0, .getfield 9, .iload_n 2, .iaload, .aload_n 0, .getfield 9, .iload_n 2, .iconst 1, .isub, .iaload, .if_icmp .eq 6, .iinc 1 1] := (rfl)
theorem j_T_turns_32 (f : List Instr → Prop) : lk1 g_T_turns 32 f = f [.iinc 2 1, .goto (-31)] := (rfl)
theorem j_T_turns_38 (f : List Instr → Prop) : lk1 g_T_turns 38 f = f [.iload_n 1, .ireturn] := (rfl)
abbrev b_T_digestBehind : ByteArray := prog_3_method_16_code
abbrev y_T_digestBehind : MethodName := ⟨RX1, "digestBehind", "(J)J"⟩
def k_T_digestBehind_0 : List Instr := [.lload_n 1, .lstore_n 3, .iconst 0, .istore 5]
def k_T_digestBehind_5 : List Instr := [.iload 5, .aload_n 0, .getfield 15, .if_icmp .ge 24, .ldc2_w 49, .lload_n 3, .lmul, .aload_n 0, .getfield 9, .iload 5, .iaload, .i2l, .ladd, .lstore_n 3, .iinc 5 1, .goto (-27)]
def k_T_digestBehind_35 : List Instr := [.lload_n 3, .lreturn]
def g_T_digestBehind : List (Nat × List Instr) := [(0, k_T_digestBehind_0), (5, k_T_digestBehind_5), (35, k_T_digestBehind_35)]
theorem o_T_digestBehind : ∀ q ∈ g_T_digestBehind, okB b_T_digestBehind q.1 q.2 = true := List.all_eq_true.mp (by decide +kernel : g_T_digestBehind.all (fun q => okB b_T_digestBehind q.1 q.2) = true)
theorem j_T_digestBehind_0 (f : List Instr → Prop) : lk1 g_T_digestBehind 0 f = f [.lload_n 1, .lstore_n 3, .iconst 0, .istore 5] := (rfl)
theorem j_T_digestBehind_5 (f : List Instr → Prop) : lk1 g_T_digestBehind 5 f = f [.iload 5, .aload_n 0, .getfield 15, .if_icmp .ge 24, .ldc2_w 49, .lload_n 3, .lmul, .aload_n 0, .getfield 9, .iload 5, .iaload, .i2l, .ladd, .lstore_n 3, .iinc 5 1, .goto (-27)] := (rfl)
theorem j_T_digestBehind_35 (f : List Instr → Prop) : lk1 g_T_digestBehind 35 f = f [.lload_n 3, .lreturn] := (rfl)
abbrev b_W_take : ByteArray := prog_9_method_2_code
abbrev y_W_take : MethodName := ⟨RX7, "take", "(LEvenWire$Maker;)V"⟩
def k_W_take_0 : List Instr := [.aload_n 0, .aload_n 1, .invokevirtual 28, .bipush 100, .invokestatic 34, .putfield 24, .aload_n 1, .aload_n 0, .getfield 9, .invokevirtual 40, .aload_n 0, .getfield 15, .iconst (-1), .invokestatic 44, .aload_n 0, .getfield 21, .iconst 0, .invokestatic 44, .iconst 0, .istore_n 2]
def k_W_take_39 : List Instr := [.iload_n 2, .aload_n 0, .getfield 24, .if_icmp .ge 21, .aload_n 0, .iload_n 2, .iconst 0, .invokevirtual 49, .aload_n 0, .iload_n 2, .iconst 1, .invokevirtual 49, .iinc 2 1, .goto (-23)]
def k_W_take_65 : List Instr := [.return_]
def g_W_take : List (Nat × List Instr) := [(0, k_W_take_0), (39, k_W_take_39), (65, k_W_take_65)]
theorem o_W_take : ∀ q ∈ g_W_take, okB b_W_take q.1 q.2 = true := List.all_eq_true.mp (by decide +kernel : g_W_take.all (fun q => okB b_W_take q.1 q.2) = true)
theorem j_W_take_0 (f : List Instr → Prop) : lk1 g_W_take 0 f = f [.aload_n 0, .aload_n 1, .invokevirtual 28, .bipush 100, .invokestatic 34, .putfield 24, .aload_n 1, .aload_n 0, .getfield 9, .invokevirtual 40, .aload_n 0, .getfield 15, .iconst (-1), .invokestatic 44, .aload_n 0, .getfield 21, .iconst 0, .invokestatic 44, .iconst 0, .istore_n 2] := (rfl)
theorem j_W_take_39 (f : List Instr → Prop) : lk1 g_W_take 39 f = f [.iload_n 2, .aload_n 0, .getfield 24, .if_icmp .ge 21, .aload_n 0, .iload_n 2, .iconst 0, .invokevirtual 49, .aload_n 0, .iload_n 2, .iconst 1, .invokevirtual 49, .iinc 2 1, .goto (-23)] := (rfl)
theorem j_W_take_65 (f : List Instr → Prop) : lk1 g_W_take 65 f = f [.return_] := (rfl)
abbrev b_W_adopt : ByteArray := prog_9_method_3_code
abbrev y_W_adopt : MethodName := ⟨RX7, "adopt", "(II)V"⟩
def k_W_adopt_0 : List Instr := [.aload_n 0, .iload_n 1, .iload_n 2, .invokevirtual 53, .istore_n 3, .iload_n 3, .ifCond .eq 49, .aload_n 0, .iload_n 3, .invokevirtual 56, .ifCond .eq 41, .aload_n 0, .getfield 15, .iload_n 3, .iaload, .iconst (-1), .if_icmp .ne 31, .aload_n 0, .getfield 15, .iload_n 3, .iload_n 1, .iastore, .aload_n 0, .getfield 18, .iload_n 3, .iload_n 2, .iastore, .aload_n 0, .getfield 21, .iload_n 3, .aload_n 0, .getfield 21, .iload_n 1, .iaload, .iconst 1, .iadd, .iastore]
def k_W_adopt_57 : List Instr := [.return_]
def g_W_adopt : List (Nat × List Instr) := [(0, k_W_adopt_0), (57, k_W_adopt_57)]
theorem o_W_adopt : ∀ q ∈ g_W_adopt, okB b_W_adopt q.1 q.2 = true := List.all_eq_true.mp (by decide +kernel : g_W_adopt.all (fun q => okB b_W_adopt q.1 q.2) = true)
theorem j_W_adopt_0 (f : List Instr → Prop) : lk1 g_W_adopt 0 f = f [.aload_n 0, .iload_n 1, .iload_n 2, .invokevirtual 53, .istore_n 3, .iload_n 3, .ifCond .eq 49, .aload_n 0, .iload_n 3, .invokevirtual 56, .ifCond .eq 41, .aload_n 0, .getfield 15, .iload_n 3, .iaload, .iconst (-1), .if_icmp .ne 31, .aload_n 0, .getfield 15, .iload_n 3, .iload_n 1, .iastore, .aload_n 0, .getfield 18, .iload_n 3, .iload_n 2, .iastore, .aload_n 0, .getfield 21, .iload_n 3, .aload_n 0, .getfield 21, .iload_n 1, .iaload, .iconst 1, .iadd, .iastore] := (rfl)
theorem j_W_adopt_57 (f : List Instr → Prop) : lk1 g_W_adopt 57 f = f [.return_] := (rfl)
abbrev b_W_step : ByteArray := prog_9_method_6_code
abbrev y_W_step : MethodName := ⟨RX7, "step", "(II)I"⟩
def k_W_step_0 : List Instr := [.aload_n 0, .iload_n 1, .invokevirtual 56, .ifCond .eq 12, .iload_n 2, .ifCond .lt 8, .iload_n 2, .iconst 1, .if_icmp .le 5]
def k_W_step_17 : List Instr := [.iconst (-1), .ireturn]
def k_W_step_19 : List Instr := [.aload_n 0, .getfield 9, .iconst 2, .iload_n 1, .imul, .iload_n 2, .iadd, .iaload, .ireturn]
def g_W_step : List (Nat × List Instr) := [(0, k_W_step_0), (17, k_W_step_17), (19, k_W_step_19)]
theorem o_W_step : ∀ q ∈ g_W_step, okB b_W_step q.1 q.2 = true := List.all_eq_true.mp (by decide +kernel : g_W_step.all (fun q => okB b_W_step q.1 q.2) = true)
theorem j_W_step_0 (f : List Instr → Prop) : lk1 g_W_step 0 f = f [.aload_n 0, .iload_n 1, .invokevirtual 56, .ifCond .eq 12, .iload_n 2, .ifCond .lt 8, .iload_n 2, .iconst 1, .if_icmp .le 5] := (rfl)
theorem j_W_step_17 (f : List Instr → Prop) : lk1 g_W_step 17 f = f [.iconst (-1), .ireturn] := (rfl)
theorem j_W_step_19 (f : List Instr → Prop) : lk1 g_W_step 19 f = f [.aload_n 0, .getfield 9, .iconst 2, .iload_n 1, .imul, .iload_n 2, .iadd, .iaload, .ireturn] := (rfl)
abbrev b_W_has : ByteArray := prog_9_method_5_code
abbrev y_W_has : MethodName := ⟨RX7, "has", "(I)Z"⟩
def k_W_has_0 : List Instr := [.iload_n 1, .ifCond .lt 15, .iload_n 1, .aload_n 0, .getfield 24, .if_icmp .ge 7, .iconst 1, .goto 4]
def k_W_has_16 : List Instr := [.iconst 0]
def k_W_has_17 : List Instr := [.ireturn]
def g_W_has : List (Nat × List Instr) := [(0, k_W_has_0), (16, k_W_has_16), (17, k_W_has_17)]
theorem o_W_has : ∀ q ∈ g_W_has, okB b_W_has q.1 q.2 = true := List.all_eq_true.mp (by decide +kernel : g_W_has.all (fun q => okB b_W_has q.1 q.2) = true)
theorem j_W_has_0 (f : List Instr → Prop) : lk1 g_W_has 0 f = f [.iload_n 1, .ifCond .lt 15, .iload_n 1, .aload_n 0, .getfield 24, .if_icmp .ge 7, .iconst 1, .goto 4] := (rfl)
theorem j_W_has_16 (f : List Instr → Prop) : lk1 g_W_has 16 f = f [.iconst 0] := (rfl)
theorem j_W_has_17 (f : List Instr → Prop) : lk1 g_W_has 17 f = f [.ireturn] := (rfl)
abbrev b_W_size : ByteArray := prog_9_method_4_code
abbrev y_W_size : MethodName := ⟨RX7, "size", "()I"⟩
def k_W_size_0 : List Instr := [.aload_n 0, .getfield 24, .ireturn]
def g_W_size : List (Nat × List Instr) := [(0, k_W_size_0)]
theorem o_W_size : ∀ q ∈ g_W_size, okB b_W_size q.1 q.2 = true := List.all_eq_true.mp (by decide +kernel : g_W_size.all (fun q => okB b_W_size q.1 q.2) = true)
theorem j_W_size_0 (f : List Instr → Prop) : lk1 g_W_size 0 f = f [.aload_n 0, .getfield 24, .ireturn] := (rfl)
abbrev b_W_follow : ByteArray := prog_9_method_7_code
abbrev y_W_follow : MethodName := ⟨RX7, "follow", "(IJI)I"⟩
def k_W_follow_0 : List Instr := [.iload_n 1, .istore 5, .iload 4, .iconst 1, .isub, .istore 6]
def k_W_follow_9 : List Instr := [.iload 6, .ifCond .lt 24, .aload_n 0, .iload 5, .lload_n 2, .iload 6, .lshr, .l2i, .iconst 1, .iand, .invokevirtual 53, .istore 5, .iinc 6 (-1), .goto (-23)]
def k_W_follow_35 : List Instr := [.iload 5, .ireturn]
def g_W_follow : List (Nat × List Instr) := [(0, k_W_follow_0), (9, k_W_follow_9), (35, k_W_follow_35)]
theorem o_W_follow : ∀ q ∈ g_W_follow, okB b_W_follow q.1 q.2 = true := List.all_eq_true.mp (by decide +kernel : g_W_follow.all (fun q => okB b_W_follow q.1 q.2) = true)
theorem j_W_follow_0 (f : List Instr → Prop) : lk1 g_W_follow 0 f = f [.iload_n 1, .istore 5, .iload 4, .iconst 1, .isub, .istore 6] := (rfl)
theorem j_W_follow_9 (f : List Instr → Prop) : lk1 g_W_follow 9 f = f [.iload 6, .ifCond .lt 24, .aload_n 0, .iload 5, .lload_n 2, .iload 6, .lshr, .l2i, .iconst 1, .iand, .invokevirtual 53, .istore 5, .iinc 6 (-1), .goto (-23)] := (rfl)
theorem j_W_follow_35 (f : List Instr → Prop) : lk1 g_W_follow 35 f = f [.iload 5, .ireturn] := (rfl)
abbrev b_W_depthOf : ByteArray := prog_9_method_8_code
abbrev y_W_depthOf : MethodName := ⟨RX7, "depthOf", "(I)I"⟩
def k_W_depthOf_0 : List Instr := [.aload_n 0, .iload_n 1, .invokevirtual 56, .ifCond .eq 12, .aload_n 0, .getfield 21, .iload_n 1, .iaload, .goto 4]
def k_W_depthOf_17 : List Instr := [.iconst 0]
def k_W_depthOf_18 : List Instr := [.ireturn]
def g_W_depthOf : List (Nat × List Instr) := [(0, k_W_depthOf_0), (17, k_W_depthOf_17), (18, k_W_depthOf_18)]
theorem o_W_depthOf : ∀ q ∈ g_W_depthOf, okB b_W_depthOf q.1 q.2 = true := List.all_eq_true.mp (by decide +kernel : g_W_depthOf.all (fun q => okB b_W_depthOf q.1 q.2) = true)
theorem j_W_depthOf_0 (f : List Instr → Prop) : lk1 g_W_depthOf 0 f = f [.aload_n 0, .iload_n 1, .invokevirtual 56, .ifCond .eq 12, .aload_n 0, .getfield 21, .iload_n 1, .iaload, .goto 4] := (rfl)
theorem j_W_depthOf_17 (f : List Instr → Prop) : lk1 g_W_depthOf 17 f = f [.iconst 0] := (rfl)
theorem j_W_depthOf_18 (f : List Instr → Prop) : lk1 g_W_depthOf 18 f = f [.ireturn] := (rfl)
abbrev b_W_shortestRow : ByteArray := prog_9_method_11_code
abbrev y_W_shortestRow : MethodName := ⟨RX7, "shortestRow", "(I)J"⟩
def k_W_shortestRow_0 : List Instr := [.aload_n 0, .iload_n 1, .invokevirtual 60, .istore_n 2, .iload_n 2, .bipush 60, .if_icmp .le 7, .ldc2_w 64, .lreturn]
def k_W_shortestRow_16 : List Instr := [.lconst 0, .lstore_n 3, .iload_n 1, .istore 5, .iconst 0, .istore 6]
def k_W_shortestRow_24 : List Instr := [.iload 6, .iload_n 2, .if_icmp .ge 30, .lload_n 3, .aload_n 0, .iload 5, .invokevirtual 66, .i2l, .iload 6, .lshl, .lor, .lstore_n 3, .aload_n 0, .iload 5, .invokevirtual 69, .istore 5, .iinc 6 1, .goto (-30)]
def k_W_shortestRow_57 : List Instr := [.lload_n 3, .lreturn]
def g_W_shortestRow : List (Nat × List Instr) := [(0, k_W_shortestRow_0), (16, k_W_shortestRow_16), (24, k_W_shortestRow_24), (57, k_W_shortestRow_57)]
theorem o_W_shortestRow : ∀ q ∈ g_W_shortestRow, okB b_W_shortestRow q.1 q.2 = true := List.all_eq_true.mp (by decide +kernel : g_W_shortestRow.all (fun q => okB b_W_shortestRow q.1 q.2) = true)
theorem j_W_shortestRow_0 (f : List Instr → Prop) : lk1 g_W_shortestRow 0 f = f [.aload_n 0, .iload_n 1, .invokevirtual 60, .istore_n 2, .iload_n 2, .bipush 60, .if_icmp .le 7, .ldc2_w 64, .lreturn] := (rfl)
theorem j_W_shortestRow_16 (f : List Instr → Prop) : lk1 g_W_shortestRow 16 f = f [.lconst 0, .lstore_n 3, .iload_n 1, .istore 5, .iconst 0, .istore 6] := (rfl)
theorem j_W_shortestRow_24 (f : List Instr → Prop) : lk1 g_W_shortestRow 24 f = f [.iload 6, .iload_n 2, .if_icmp .ge 30, .lload_n 3, .aload_n 0, .iload 5, .invokevirtual 66, .i2l, .iload 6, .lshl, .lor, .lstore_n 3, .aload_n 0, .iload 5, .invokevirtual 69, .istore 5, .iinc 6 1, .goto (-30)] := (rfl)
theorem j_W_shortestRow_57 (f : List Instr → Prop) : lk1 g_W_shortestRow 57 f = f [.lload_n 3, .lreturn] := (rfl)
abbrev b_W_lastBitOf : ByteArray := prog_9_method_10_code
abbrev y_W_lastBitOf : MethodName := ⟨RX7, "lastBitOf", "(I)I"⟩
def k_W_lastBitOf_0 : List Instr := [.aload_n 0, .iload_n 1, .invokevirtual 56, .ifCond .eq 12, .aload_n 0, .getfield 18, .iload_n 1, .iaload, .goto 4]
def k_W_lastBitOf_17 : List Instr := [.iconst 0]
def k_W_lastBitOf_18 : List Instr := [.ireturn]
def g_W_lastBitOf : List (Nat × List Instr) := [(0, k_W_lastBitOf_0), (17, k_W_lastBitOf_17), (18, k_W_lastBitOf_18)]
theorem o_W_lastBitOf : ∀ q ∈ g_W_lastBitOf, okB b_W_lastBitOf q.1 q.2 = true := List.all_eq_true.mp (by decide +kernel : g_W_lastBitOf.all (fun q => okB b_W_lastBitOf q.1 q.2) = true)
theorem j_W_lastBitOf_0 (f : List Instr → Prop) : lk1 g_W_lastBitOf 0 f = f [.aload_n 0, .iload_n 1, .invokevirtual 56, .ifCond .eq 12, .aload_n 0, .getfield 18, .iload_n 1, .iaload, .goto 4] := (rfl)
theorem j_W_lastBitOf_17 (f : List Instr → Prop) : lk1 g_W_lastBitOf 17 f = f [.iconst 0] := (rfl)
theorem j_W_lastBitOf_18 (f : List Instr → Prop) : lk1 g_W_lastBitOf 18 f = f [.ireturn] := (rfl)
abbrev b_W_parentOf : ByteArray := prog_9_method_9_code
abbrev y_W_parentOf : MethodName := ⟨RX7, "parentOf", "(I)I"⟩
def k_W_parentOf_0 : List Instr := [.aload_n 0, .iload_n 1, .invokevirtual 56, .ifCond .eq 12, .aload_n 0, .getfield 15, .iload_n 1, .iaload, .goto 4]
def k_W_parentOf_17 : List Instr := [.iconst (-1)]
def k_W_parentOf_18 : List Instr := [.ireturn]
def g_W_parentOf : List (Nat × List Instr) := [(0, k_W_parentOf_0), (17, k_W_parentOf_17), (18, k_W_parentOf_18)]
theorem o_W_parentOf : ∀ q ∈ g_W_parentOf, okB b_W_parentOf q.1 q.2 = true := List.all_eq_true.mp (by decide +kernel : g_W_parentOf.all (fun q => okB b_W_parentOf q.1 q.2) = true)
theorem j_W_parentOf_0 (f : List Instr → Prop) : lk1 g_W_parentOf 0 f = f [.aload_n 0, .iload_n 1, .invokevirtual 56, .ifCond .eq 12, .aload_n 0, .getfield 15, .iload_n 1, .iaload, .goto 4] := (rfl)
theorem j_W_parentOf_17 (f : List Instr → Prop) : lk1 g_W_parentOf 17 f = f [.iconst (-1)] := (rfl)
theorem j_W_parentOf_18 (f : List Instr → Prop) : lk1 g_W_parentOf 18 f = f [.ireturn] := (rfl)
abbrev b_X_runs : ByteArray := prog_1_method_2_code
abbrev y_X_runs : MethodName := ⟨RX8, "runs", "(II)I"⟩
def k_X_runs_0 : List Instr := [.iload_n 1, .ifCond .ne 12, .iload_n 2, .iconst (-1), .if_icmp .ne 7, .iconst 1, .goto 4]
def k_X_runs_13 : List Instr := [.iconst 0]
def k_X_runs_14 : List Instr := [.istore_n 3, .iload_n 2, .iconst 0, .bipush 7, .invokestatic 74, .ifCond .eq 16, .iload_n 1, .iconst 0, .iload_n 2, .invokestatic 74, .ifCond .eq 7, .iconst 1, .goto 4]
def k_X_runs_38 : List Instr := [.iconst 0]
def k_X_runs_39 : List Instr := [.istore 4, .iload_n 3, .ifCond .ne 11, .iload 4, .ifCond .ne 6, .bipush (-2), .ireturn]
def k_X_runs_53 : List Instr := [.aload_n 0, .getfield 10, .iload_n 1, .iload_n 2, .invokevirtual 78, .iconst 1, .ireturn]
def g_X_runs : List (Nat × List Instr) := [(0, k_X_runs_0), (13, k_X_runs_13), (14, k_X_runs_14), (38, k_X_runs_38), (39, k_X_runs_39), (53, k_X_runs_53)]
theorem o_X_runs : ∀ q ∈ g_X_runs, okB b_X_runs q.1 q.2 = true := List.all_eq_true.mp (by decide +kernel : g_X_runs.all (fun q => okB b_X_runs q.1 q.2) = true)
theorem j_X_runs_0 (f : List Instr → Prop) : lk1 g_X_runs 0 f = f [.iload_n 1, .ifCond .ne 12, .iload_n 2, .iconst (-1), .if_icmp .ne 7, .iconst 1, .goto 4] := (rfl)
theorem j_X_runs_13 (f : List Instr → Prop) : lk1 g_X_runs 13 f = f [.iconst 0] := (rfl)
theorem j_X_runs_14 (f : List Instr → Prop) : lk1 g_X_runs 14 f = f [.istore_n 3, .iload_n 2, .iconst 0, .bipush 7, .invokestatic 74, .ifCond .eq 16, .iload_n 1, .iconst 0, .iload_n 2, .invokestatic 74, .ifCond .eq 7, .iconst 1, .goto 4] := (rfl)
theorem j_X_runs_38 (f : List Instr → Prop) : lk1 g_X_runs 38 f = f [.iconst 0] := (rfl)
theorem j_X_runs_39 (f : List Instr → Prop) : lk1 g_X_runs 39 f = f [.istore 4, .iload_n 3, .ifCond .ne 11, .iload 4, .ifCond .ne 6, .bipush (-2), .ireturn] := (rfl)
theorem j_X_runs_53 (f : List Instr → Prop) : lk1 g_X_runs 53 f = f [.aload_n 0, .getfield 10, .iload_n 1, .iload_n 2, .invokevirtual 78, .iconst 1, .ireturn] := (rfl)
abbrev b_X_isWithin : ByteArray := prog_1_method_39_code
abbrev y_X_isWithin : MethodName := ⟨RX8, "isWithin", "(III)Z"⟩
def k_X_isWithin_0 : List Instr := [.iload_n 0, .iload_n 1, .if_icmp .lt 12, .iload_n 0, .iload_n 2, .if_icmp .gt 7, .iconst 1, .goto 4]
def k_X_isWithin_14 : List Instr := [.iconst 0]
def k_X_isWithin_15 : List Instr := [.ireturn]
def g_X_isWithin : List (Nat × List Instr) := [(0, k_X_isWithin_0), (14, k_X_isWithin_14), (15, k_X_isWithin_15)]
theorem o_X_isWithin : ∀ q ∈ g_X_isWithin, okB b_X_isWithin q.1 q.2 = true := List.all_eq_true.mp (by decide +kernel : g_X_isWithin.all (fun q => okB b_X_isWithin q.1 q.2) = true)
theorem j_X_isWithin_0 (f : List Instr → Prop) : lk1 g_X_isWithin 0 f = f [.iload_n 0, .iload_n 1, .if_icmp .lt 12, .iload_n 0, .iload_n 2, .if_icmp .gt 7, .iconst 1, .goto 4] := (rfl)
theorem j_X_isWithin_14 (f : List Instr → Prop) : lk1 g_X_isWithin 14 f = f [.iconst 0] := (rfl)
theorem j_X_isWithin_15 (f : List Instr → Prop) : lk1 g_X_isWithin 15 f = f [.ireturn] := (rfl)
abbrev b_X_word : ByteArray := prog_1_method_3_code
abbrev y_X_word : MethodName := ⟨RX8, "word", "(II)I"⟩
def k_X_word_0 : List Instr := [.iload_n 2, .iconst 1, .bipush 6, .invokestatic 74, .ifCond .eq 12, .iload_n 1, .i2l, .iload_n 2, .invokestatic 82, .ifCond .ne 6]
def k_X_word_19 : List Instr := [.bipush (-2), .ireturn]
def k_X_word_22 : List Instr := [.aload_n 0, .getfield 10, .iload_n 1, .iload_n 2, .invokevirtual 86, .ireturn]
def g_X_word : List (Nat × List Instr) := [(0, k_X_word_0), (19, k_X_word_19), (22, k_X_word_22)]
theorem o_X_word : ∀ q ∈ g_X_word, okB b_X_word q.1 q.2 = true := List.all_eq_true.mp (by decide +kernel : g_X_word.all (fun q => okB b_X_word q.1 q.2) = true)
theorem j_X_word_0 (f : List Instr → Prop) : lk1 g_X_word 0 f = f [.iload_n 2, .iconst 1, .bipush 6, .invokestatic 74, .ifCond .eq 12, .iload_n 1, .i2l, .iload_n 2, .invokestatic 82, .ifCond .ne 6] := (rfl)
theorem j_X_word_19 (f : List Instr → Prop) : lk1 g_X_word 19 f = f [.bipush (-2), .ireturn] := (rfl)
theorem j_X_word_22 (f : List Instr → Prop) : lk1 g_X_word 22 f = f [.aload_n 0, .getfield 10, .iload_n 1, .iload_n 2, .invokevirtual 86, .ireturn] := (rfl)
abbrev b_X_isRow : ByteArray := prog_1_method_40_code
abbrev y_X_isRow : MethodName := ⟨RX8, "isRow", "(JI)Z"⟩
def k_X_isRow_0 : List Instr := [.iload_n 2, .iconst 0, .bipush 60, .invokestatic 74, .ifCond .eq 21, .lload_n 0, .lconst 0, .lcmp, .ifCond .lt 15, .lload_n 0, .lconst 1, .iload_n 2, .lshl, .lcmp, .ifCond .ge 7, .iconst 1, .goto 4]
def k_X_isRow_28 : List Instr := [.iconst 0]
def k_X_isRow_29 : List Instr := [.ireturn]
def g_X_isRow : List (Nat × List Instr) := [(0, k_X_isRow_0), (28, k_X_isRow_28), (29, k_X_isRow_29)]
theorem o_X_isRow : ∀ q ∈ g_X_isRow, okB b_X_isRow q.1 q.2 = true := List.all_eq_true.mp (by decide +kernel : g_X_isRow.all (fun q => okB b_X_isRow q.1 q.2) = true)
theorem j_X_isRow_0 (f : List Instr → Prop) : lk1 g_X_isRow 0 f = f [.iload_n 2, .iconst 0, .bipush 60, .invokestatic 74, .ifCond .eq 21, .lload_n 0, .lconst 0, .lcmp, .ifCond .lt 15, .lload_n 0, .lconst 1, .iload_n 2, .lshl, .lcmp, .ifCond .ge 7, .iconst 1, .goto 4] := (rfl)
theorem j_X_isRow_28 (f : List Instr → Prop) : lk1 g_X_isRow 28 f = f [.iconst 0] := (rfl)
theorem j_X_isRow_29 (f : List Instr → Prop) : lk1 g_X_isRow 29 f = f [.ireturn] := (rfl)
abbrev b_X_clearWords : ByteArray := prog_1_method_4_code
abbrev y_X_clearWords : MethodName := ⟨RX8, "clearWords", "()I"⟩
def k_X_clearWords_0 : List Instr := [.aload_n 0, .getfield 10, .invokevirtual 90, .ireturn]
def g_X_clearWords : List (Nat × List Instr) := [(0, k_X_clearWords_0)]
theorem o_X_clearWords : ∀ q ∈ g_X_clearWords, okB b_X_clearWords q.1 q.2 = true := List.all_eq_true.mp (by decide +kernel : g_X_clearWords.all (fun q => okB b_X_clearWords q.1 q.2) = true)
theorem j_X_clearWords_0 (f : List Instr → Prop) : lk1 g_X_clearWords 0 f = f [.aload_n 0, .getfield 10, .invokevirtual 90, .ireturn] := (rfl)
abbrev b_X_lean : ByteArray := prog_1_method_5_code
abbrev y_X_lean : MethodName := ⟨RX8, "lean", "(I)I"⟩
def k_X_lean_0 : List Instr := [.iload_n 1, .iconst (-1), .iconst 5, .invokestatic 74, .ifCond .ne 6, .bipush (-2), .ireturn]
def k_X_lean_12 : List Instr := [.aload_n 0, .getfield 10, .iload_n 1, .invokevirtual 94, .iconst 1, .ireturn]
def g_X_lean : List (Nat × List Instr) := [(0, k_X_lean_0), (12, k_X_lean_12)]
theorem o_X_lean : ∀ q ∈ g_X_lean, okB b_X_lean q.1 q.2 = true := List.all_eq_true.mp (by decide +kernel : g_X_lean.all (fun q => okB b_X_lean q.1 q.2) = true)
theorem j_X_lean_0 (f : List Instr → Prop) : lk1 g_X_lean 0 f = f [.iload_n 1, .iconst (-1), .iconst 5, .invokestatic 74, .ifCond .ne 6, .bipush (-2), .ireturn] := (rfl)
theorem j_X_lean_12 (f : List Instr → Prop) : lk1 g_X_lean 12 f = f [.aload_n 0, .getfield 10, .iload_n 1, .invokevirtual 94, .iconst 1, .ireturn] := (rfl)
abbrev b_X_ban : ByteArray := prog_1_method_6_code
abbrev y_X_ban : MethodName := ⟨RX8, "ban", "(I)I"⟩
def k_X_ban_0 : List Instr := [.aload_n 0, .getfield 10, .iload_n 1, .invokevirtual 98, .ireturn]
def g_X_ban : List (Nat × List Instr) := [(0, k_X_ban_0)]
theorem o_X_ban : ∀ q ∈ g_X_ban, okB b_X_ban q.1 q.2 = true := List.all_eq_true.mp (by decide +kernel : g_X_ban.all (fun q => okB b_X_ban q.1 q.2) = true)
theorem j_X_ban_0 (f : List Instr → Prop) : lk1 g_X_ban 0 f = f [.aload_n 0, .getfield 10, .iload_n 1, .invokevirtual 98, .ireturn] := (rfl)
abbrev b_X_build : ByteArray := prog_1_method_7_code
abbrev y_X_build : MethodName := ⟨RX8, "build", "()I"⟩
def k_X_build_0 : List Instr := [.aload_n 0, .getfield 102, .bipush 40, .if_icmp .lt 6, .bipush (-4), .ireturn]
def k_X_build_12 : List Instr := [.aload_n 0, .dup, .getfield 102, .iconst 1, .iadd, .putfield 102, .aload_n 0, .getfield 19, .aload_n 0, .getfield 10, .invokevirtual 106, .ifCond .ne 6, .bipush (-4), .ireturn]
def k_X_build_39 : List Instr := [.aload_n 0, .getfield 26, .aload_n 0, .getfield 19, .invokevirtual 110, .aload_n 0, .getfield 33, .lconst 1, .invokevirtual 114, .aload_n 0, .getfield 33, .aload_n 0, .getfield 26, .bipush 60, .invokevirtual 118, .aload_n 0, .getfield 43, .invokevirtual 122, .aload_n 0, .getfield 50, .iconst 0, .invokevirtual 125, .aload_n 0, .getfield 57, .invokevirtual 127, .aload_n 0, .getfield 26, .invokevirtual 130, .ireturn]
def g_X_build : List (Nat × List Instr) := [(0, k_X_build_0), (12, k_X_build_12), (39, k_X_build_39)]
theorem o_X_build : ∀ q ∈ g_X_build, okB b_X_build q.1 q.2 = true := List.all_eq_true.mp (by decide +kernel : g_X_build.all (fun q => okB b_X_build q.1 q.2) = true)
theorem j_X_build_0 (f : List Instr → Prop) : lk1 g_X_build 0 f = f [.aload_n 0, .getfield 102, .bipush 40, .if_icmp .lt 6, .bipush (-4), .ireturn] := (rfl)
theorem j_X_build_12 (f : List Instr → Prop) : lk1 g_X_build 12 f = f [.aload_n 0, .dup, .getfield 102, .iconst 1, .iadd, .putfield 102, .aload_n 0, .getfield 19, .aload_n 0, .getfield 10, .invokevirtual 106, .ifCond .ne 6, .bipush (-4), .ireturn] := (rfl)
theorem j_X_build_39 (f : List Instr → Prop) : lk1 g_X_build 39 f = f [.aload_n 0, .getfield 26, .aload_n 0, .getfield 19, .invokevirtual 110, .aload_n 0, .getfield 33, .lconst 1, .invokevirtual 114, .aload_n 0, .getfield 33, .aload_n 0, .getfield 26, .bipush 60, .invokevirtual 118, .aload_n 0, .getfield 43, .invokevirtual 122, .aload_n 0, .getfield 50, .iconst 0, .invokevirtual 125, .aload_n 0, .getfield 57, .invokevirtual 127, .aload_n 0, .getfield 26, .invokevirtual 130, .ireturn] := (rfl)
abbrev b_X_states : ByteArray := prog_1_method_8_code
abbrev y_X_states : MethodName := ⟨RX8, "states", "()I"⟩
def k_X_states_0 : List Instr := [.aload_n 0, .getfield 26, .invokevirtual 130, .ireturn]
def g_X_states : List (Nat × List Instr) := [(0, k_X_states_0)]
theorem o_X_states : ∀ q ∈ g_X_states, okB b_X_states q.1 q.2 = true := List.all_eq_true.mp (by decide +kernel : g_X_states.all (fun q => okB b_X_states q.1 q.2) = true)
theorem j_X_states_0 (f : List Instr → Prop) : lk1 g_X_states 0 f = f [.aload_n 0, .getfield 26, .invokevirtual 130, .ireturn] := (rfl)
abbrev b_X_go : ByteArray := prog_1_method_9_code
abbrev y_X_go : MethodName := ⟨RX8, "go", "(II)I"⟩
def k_X_go_0 : List Instr := [.aload_n 0, .getfield 26, .iload_n 1, .invokevirtual 133, .ifCond .eq 12, .iload_n 2, .iconst 0, .iconst 1, .invokestatic 74, .ifCond .ne 6]
def k_X_go_20 : List Instr := [.bipush (-2), .ireturn]
def k_X_go_23 : List Instr := [.aload_n 0, .getfield 26, .iload_n 1, .iload_n 2, .invokevirtual 137, .ireturn]
def g_X_go : List (Nat × List Instr) := [(0, k_X_go_0), (20, k_X_go_20), (23, k_X_go_23)]
theorem o_X_go : ∀ q ∈ g_X_go, okB b_X_go q.1 q.2 = true := List.all_eq_true.mp (by decide +kernel : g_X_go.all (fun q => okB b_X_go q.1 q.2) = true)
theorem j_X_go_0 (f : List Instr → Prop) : lk1 g_X_go 0 f = f [.aload_n 0, .getfield 26, .iload_n 1, .invokevirtual 133, .ifCond .eq 12, .iload_n 2, .iconst 0, .iconst 1, .invokestatic 74, .ifCond .ne 6] := (rfl)
theorem j_X_go_20 (f : List Instr → Prop) : lk1 g_X_go 20 f = f [.bipush (-2), .ireturn] := (rfl)
theorem j_X_go_23 (f : List Instr → Prop) : lk1 g_X_go 23 f = f [.aload_n 0, .getfield 26, .iload_n 1, .iload_n 2, .invokevirtual 137, .ireturn] := (rfl)
abbrev b_X_walk : ByteArray := prog_1_method_10_code
abbrev y_X_walk : MethodName := ⟨RX8, "walk", "(IJI)I"⟩
def k_X_walk_0 : List Instr := [.aload_n 0, .getfield 26, .iload_n 1, .invokevirtual 133, .ifCond .eq 12, .lload_n 2, .iload 4, .invokestatic 82, .ifCond .ne 6]
def k_X_walk_20 : List Instr := [.bipush (-2), .ireturn]
def k_X_walk_23 : List Instr := [.aload_n 0, .getfield 26, .iload_n 1, .lload_n 2, .iload 4, .invokevirtual 140, .ireturn]
def g_X_walk : List (Nat × List Instr) := [(0, k_X_walk_0), (20, k_X_walk_20), (23, k_X_walk_23)]
theorem o_X_walk : ∀ q ∈ g_X_walk, okB b_X_walk q.1 q.2 = true := List.all_eq_true.mp (by decide +kernel : g_X_walk.all (fun q => okB b_X_walk q.1 q.2) = true)
theorem j_X_walk_0 (f : List Instr → Prop) : lk1 g_X_walk 0 f = f [.aload_n 0, .getfield 26, .iload_n 1, .invokevirtual 133, .ifCond .eq 12, .lload_n 2, .iload 4, .invokestatic 82, .ifCond .ne 6] := (rfl)
theorem j_X_walk_20 (f : List Instr → Prop) : lk1 g_X_walk 20 f = f [.bipush (-2), .ireturn] := (rfl)
theorem j_X_walk_23 (f : List Instr → Prop) : lk1 g_X_walk 23 f = f [.aload_n 0, .getfield 26, .iload_n 1, .lload_n 2, .iload 4, .invokevirtual 140, .ireturn] := (rfl)
abbrev b_X_first : ByteArray := prog_1_method_11_code
abbrev y_X_first : MethodName := ⟨RX8, "first", "(II)J"⟩
def k_X_first_0 : List Instr := [.aload_n 0, .getfield 26, .iload_n 1, .invokevirtual 133, .ifCond .eq 12, .iload_n 2, .iconst 0, .iconst 1, .invokestatic 74, .ifCond .ne 7]
def k_X_first_20 : List Instr := [.ldc2_w 144, .lreturn]
def k_X_first_24 : List Instr := [.iload_n 2, .ifCond .ne 15, .aload_n 0, .getfield 26, .iload_n 1, .invokevirtual 146, .i2l, .goto 11]
def k_X_first_40 : List Instr := [.aload_n 0, .getfield 26, .iload_n 1, .invokevirtual 149]
def k_X_first_48 : List Instr := [.lreturn]
def g_X_first : List (Nat × List Instr) := [(0, k_X_first_0), (20, k_X_first_20), (24, k_X_first_24), (40, k_X_first_40), (48, k_X_first_48)]
theorem o_X_first : ∀ q ∈ g_X_first, okB b_X_first q.1 q.2 = true := List.all_eq_true.mp (by decide +kernel : g_X_first.all (fun q => okB b_X_first q.1 q.2) = true)
theorem j_X_first_0 (f : List Instr → Prop) : lk1 g_X_first 0 f = f [.aload_n 0, .getfield 26, .iload_n 1, .invokevirtual 133, .ifCond .eq 12, .iload_n 2, .iconst 0, .iconst 1, .invokestatic 74, .ifCond .ne 7] := (rfl)
theorem j_X_first_20 (f : List Instr → Prop) : lk1 g_X_first 20 f = f [.ldc2_w 144, .lreturn] := (rfl)
theorem j_X_first_24 (f : List Instr → Prop) : lk1 g_X_first 24 f = f [.iload_n 2, .ifCond .ne 15, .aload_n 0, .getfield 26, .iload_n 1, .invokevirtual 146, .i2l, .goto 11] := (rfl)
theorem j_X_first_40 (f : List Instr → Prop) : lk1 g_X_first 40 f = f [.aload_n 0, .getfield 26, .iload_n 1, .invokevirtual 149] := (rfl)
theorem j_X_first_48 (f : List Instr → Prop) : lk1 g_X_first 48 f = f [.lreturn] := (rfl)
abbrev b_X_count : ByteArray := prog_1_method_12_code
abbrev y_X_count : MethodName := ⟨RX8, "count", "(II)J"⟩
def k_X_count_0 : List Instr := [.aload_n 0, .getfield 26, .iload_n 1, .invokevirtual 133, .ifCond .eq 13, .iload_n 2, .iconst 0, .bipush 60, .invokestatic 74, .ifCond .ne 7]
def k_X_count_21 : List Instr := [.ldc2_w 144, .lreturn]
def k_X_count_25 : List Instr := [.aload_n 0, .getfield 33, .iload_n 2, .iload_n 1, .invokevirtual 153, .lreturn]
def g_X_count : List (Nat × List Instr) := [(0, k_X_count_0), (21, k_X_count_21), (25, k_X_count_25)]
theorem o_X_count : ∀ q ∈ g_X_count, okB b_X_count q.1 q.2 = true := List.all_eq_true.mp (by decide +kernel : g_X_count.all (fun q => okB b_X_count q.1 q.2) = true)
theorem j_X_count_0 (f : List Instr → Prop) : lk1 g_X_count 0 f = f [.aload_n 0, .getfield 26, .iload_n 1, .invokevirtual 133, .ifCond .eq 13, .iload_n 2, .iconst 0, .bipush 60, .invokestatic 74, .ifCond .ne 7] := (rfl)
theorem j_X_count_21 (f : List Instr → Prop) : lk1 g_X_count 21 f = f [.ldc2_w 144, .lreturn] := (rfl)
theorem j_X_count_25 (f : List Instr → Prop) : lk1 g_X_count 25 f = f [.aload_n 0, .getfield 33, .iload_n 2, .iload_n 1, .invokevirtual 153, .lreturn] := (rfl)
abbrev b_X_number : ByteArray := prog_1_method_13_code
abbrev y_X_number : MethodName := ⟨RX8, "number", "(IJI)J"⟩
def k_X_number_0 : List Instr := [.aload_n 0, .getfield 26, .iload_n 1, .invokevirtual 133, .ifCond .eq 12, .lload_n 2, .iload 4, .invokestatic 82, .ifCond .ne 7]
def k_X_number_20 : List Instr := [.ldc2_w 144, .lreturn]
def k_X_number_24 : List Instr := [.aload_n 0, .getfield 33, .aload_n 0, .getfield 26, .iload_n 1, .lload_n 2, .iload 4, .invokevirtual 157, .lreturn]
def g_X_number : List (Nat × List Instr) := [(0, k_X_number_0), (20, k_X_number_20), (24, k_X_number_24)]
theorem o_X_number : ∀ q ∈ g_X_number, okB b_X_number q.1 q.2 = true := List.all_eq_true.mp (by decide +kernel : g_X_number.all (fun q => okB b_X_number q.1 q.2) = true)
theorem j_X_number_0 (f : List Instr → Prop) : lk1 g_X_number 0 f = f [.aload_n 0, .getfield 26, .iload_n 1, .invokevirtual 133, .ifCond .eq 12, .lload_n 2, .iload 4, .invokestatic 82, .ifCond .ne 7] := (rfl)
theorem j_X_number_20 (f : List Instr → Prop) : lk1 g_X_number 20 f = f [.ldc2_w 144, .lreturn] := (rfl)
theorem j_X_number_24 (f : List Instr → Prop) : lk1 g_X_number 24 f = f [.aload_n 0, .getfield 33, .aload_n 0, .getfield 26, .iload_n 1, .lload_n 2, .iload 4, .invokevirtual 157, .lreturn] := (rfl)
abbrev b_X_row : ByteArray := prog_1_method_14_code
abbrev y_X_row : MethodName := ⟨RX8, "row", "(IJI)J"⟩
def k_X_row_0 : List Instr := [.aload_n 0, .getfield 26, .iload_n 1, .invokevirtual 133, .ifCond .eq 20, .lload_n 2, .lconst 0, .lcmp, .ifCond .lt 14, .iload 4, .iconst 0, .bipush 60, .invokestatic 74, .ifCond .ne 7]
def k_X_row_28 : List Instr := [.ldc2_w 144, .lreturn]
def k_X_row_32 : List Instr := [.aload_n 0, .getfield 33, .aload_n 0, .getfield 26, .iload_n 1, .lload_n 2, .iload 4, .invokevirtual 161, .lreturn]
def g_X_row : List (Nat × List Instr) := [(0, k_X_row_0), (28, k_X_row_28), (32, k_X_row_32)]
theorem o_X_row : ∀ q ∈ g_X_row, okB b_X_row q.1 q.2 = true := List.all_eq_true.mp (by decide +kernel : g_X_row.all (fun q => okB b_X_row q.1 q.2) = true)
theorem j_X_row_0 (f : List Instr → Prop) : lk1 g_X_row 0 f = f [.aload_n 0, .getfield 26, .iload_n 1, .invokevirtual 133, .ifCond .eq 20, .lload_n 2, .lconst 0, .lcmp, .ifCond .lt 14, .iload 4, .iconst 0, .bipush 60, .invokestatic 74, .ifCond .ne 7] := (rfl)
theorem j_X_row_28 (f : List Instr → Prop) : lk1 g_X_row 28 f = f [.ldc2_w 144, .lreturn] := (rfl)
theorem j_X_row_32 (f : List Instr → Prop) : lk1 g_X_row 32 f = f [.aload_n 0, .getfield 33, .aload_n 0, .getfield 26, .iload_n 1, .lload_n 2, .iload 4, .invokevirtual 161, .lreturn] := (rfl)
abbrev b_X_ways : ByteArray := prog_1_method_15_code
abbrev y_X_ways : MethodName := ⟨RX8, "ways", "(III)I"⟩
def k_X_ways_0 : List Instr := [.aload_n 0, .getfield 26, .iload_n 1, .invokevirtual 133, .ifCond .eq 24, .aload_n 0, .getfield 26, .iload_n 2, .invokevirtual 133, .ifCond .eq 13, .iload_n 3, .iconst 0, .bipush 12, .invokestatic 74, .ifCond .ne 6]
def k_X_ways_32 : List Instr := [.bipush (-2), .ireturn]
def k_X_ways_35 : List Instr := [.aload_n 0, .getfield 37, .lconst 0, .invokevirtual 114, .aload_n 0, .getfield 37, .iload_n 2, .lconst 1, .invokevirtual 164, .aload_n 0, .getfield 37, .aload_n 0, .getfield 26, .iload_n 3, .invokevirtual 118, .aload_n 0, .getfield 37, .iload_n 3, .iload_n 1, .invokevirtual 153, .l2i, .ireturn]
def g_X_ways : List (Nat × List Instr) := [(0, k_X_ways_0), (32, k_X_ways_32), (35, k_X_ways_35)]
theorem o_X_ways : ∀ q ∈ g_X_ways, okB b_X_ways q.1 q.2 = true := List.all_eq_true.mp (by decide +kernel : g_X_ways.all (fun q => okB b_X_ways q.1 q.2) = true)
theorem j_X_ways_0 (f : List Instr → Prop) : lk1 g_X_ways 0 f = f [.aload_n 0, .getfield 26, .iload_n 1, .invokevirtual 133, .ifCond .eq 24, .aload_n 0, .getfield 26, .iload_n 2, .invokevirtual 133, .ifCond .eq 13, .iload_n 3, .iconst 0, .bipush 12, .invokestatic 74, .ifCond .ne 6] := (rfl)
theorem j_X_ways_32 (f : List Instr → Prop) : lk1 g_X_ways 32 f = f [.bipush (-2), .ireturn] := (rfl)
theorem j_X_ways_35 (f : List Instr → Prop) : lk1 g_X_ways 35 f = f [.aload_n 0, .getfield 37, .lconst 0, .invokevirtual 114, .aload_n 0, .getfield 37, .iload_n 2, .lconst 1, .invokevirtual 164, .aload_n 0, .getfield 37, .aload_n 0, .getfield 26, .iload_n 3, .invokevirtual 118, .aload_n 0, .getfield 37, .iload_n 3, .iload_n 1, .invokevirtual 153, .l2i, .ireturn] := (rfl)
abbrev b_X_mark : ByteArray := prog_1_method_16_code
abbrev y_X_mark : MethodName := ⟨RX8, "mark", "(I)I"⟩
def k_X_mark_0 : List Instr := [.iload_n 1, .iconst 1, .bipush 12, .invokestatic 74, .ifCond .ne 6, .bipush (-2), .ireturn]
def k_X_mark_13 : List Instr := [.aload_n 0, .getfield 26, .invokevirtual 130, .ifCond .ne 6, .bipush (-3), .ireturn]
def k_X_mark_26 : List Instr := [.aload_n 0, .getfield 43, .aload_n 0, .getfield 26, .iload_n 1, .invokevirtual 168, .ireturn]
def g_X_mark : List (Nat × List Instr) := [(0, k_X_mark_0), (13, k_X_mark_13), (26, k_X_mark_26)]
theorem o_X_mark : ∀ q ∈ g_X_mark, okB b_X_mark q.1 q.2 = true := List.all_eq_true.mp (by decide +kernel : g_X_mark.all (fun q => okB b_X_mark q.1 q.2) = true)
theorem j_X_mark_0 (f : List Instr → Prop) : lk1 g_X_mark 0 f = f [.iload_n 1, .iconst 1, .bipush 12, .invokestatic 74, .ifCond .ne 6, .bipush (-2), .ireturn] := (rfl)
theorem j_X_mark_13 (f : List Instr → Prop) : lk1 g_X_mark 13 f = f [.aload_n 0, .getfield 26, .invokevirtual 130, .ifCond .ne 6, .bipush (-3), .ireturn] := (rfl)
theorem j_X_mark_26 (f : List Instr → Prop) : lk1 g_X_mark 26 f = f [.aload_n 0, .getfield 43, .aload_n 0, .getfield 26, .iload_n 1, .invokevirtual 168, .ireturn] := (rfl)
abbrev b_X_marked : ByteArray := prog_1_method_17_code
abbrev y_X_marked : MethodName := ⟨RX8, "marked", "()I"⟩
def k_X_marked_0 : List Instr := [.aload_n 0, .getfield 43, .invokevirtual 172, .ireturn]
def g_X_marked : List (Nat × List Instr) := [(0, k_X_marked_0)]
theorem o_X_marked : ∀ q ∈ g_X_marked, okB b_X_marked q.1 q.2 = true := List.all_eq_true.mp (by decide +kernel : g_X_marked.all (fun q => okB b_X_marked q.1 q.2) = true)
theorem j_X_marked_0 (f : List Instr → Prop) : lk1 g_X_marked 0 f = f [.aload_n 0, .getfield 43, .invokevirtual 172, .ireturn] := (rfl)
abbrev b_X_weigh : ByteArray := prog_1_method_18_code
abbrev y_X_weigh : MethodName := ⟨RX8, "weigh", "(II)I"⟩
def k_X_weigh_0 : List Instr := [.aload_n 0, .getfield 26, .iload_n 1, .invokevirtual 133, .ifCond .eq 13, .iload_n 2, .iconst 0, .ldc 175, .invokestatic 74, .ifCond .ne 6]
def k_X_weigh_21 : List Instr := [.bipush (-2), .ireturn]
def k_X_weigh_24 : List Instr := [.aload_n 0, .getfield 50, .iload_n 1, .invokevirtual 176, .istore_n 3, .aload_n 0, .getfield 50, .iload_n 1, .iload_n 2, .invokevirtual 179, .iload_n 3, .ireturn]
def g_X_weigh : List (Nat × List Instr) := [(0, k_X_weigh_0), (21, k_X_weigh_21), (24, k_X_weigh_24)]
theorem o_X_weigh : ∀ q ∈ g_X_weigh, okB b_X_weigh q.1 q.2 = true := List.all_eq_true.mp (by decide +kernel : g_X_weigh.all (fun q => okB b_X_weigh q.1 q.2) = true)
theorem j_X_weigh_0 (f : List Instr → Prop) : lk1 g_X_weigh 0 f = f [.aload_n 0, .getfield 26, .iload_n 1, .invokevirtual 133, .ifCond .eq 13, .iload_n 2, .iconst 0, .ldc 175, .invokestatic 74, .ifCond .ne 6] := (rfl)
theorem j_X_weigh_21 (f : List Instr → Prop) : lk1 g_X_weigh 21 f = f [.bipush (-2), .ireturn] := (rfl)
theorem j_X_weigh_24 (f : List Instr → Prop) : lk1 g_X_weigh 24 f = f [.aload_n 0, .getfield 50, .iload_n 1, .invokevirtual 176, .istore_n 3, .aload_n 0, .getfield 50, .iload_n 1, .iload_n 2, .invokevirtual 179, .iload_n 3, .ireturn] := (rfl)
abbrev b_X_weight : ByteArray := prog_1_method_19_code
abbrev y_X_weight : MethodName := ⟨RX8, "weight", "(I)I"⟩
def k_X_weight_0 : List Instr := [.aload_n 0, .getfield 26, .iload_n 1, .invokevirtual 133, .ifCond .ne 6, .bipush (-2), .ireturn]
def k_X_weight_14 : List Instr := [.aload_n 0, .getfield 50, .iload_n 1, .invokevirtual 176, .ireturn]
def g_X_weight : List (Nat × List Instr) := [(0, k_X_weight_0), (14, k_X_weight_14)]
theorem o_X_weight : ∀ q ∈ g_X_weight, okB b_X_weight q.1 q.2 = true := List.all_eq_true.mp (by decide +kernel : g_X_weight.all (fun q => okB b_X_weight q.1 q.2) = true)
theorem j_X_weight_0 (f : List Instr → Prop) : lk1 g_X_weight 0 f = f [.aload_n 0, .getfield 26, .iload_n 1, .invokevirtual 133, .ifCond .ne 6, .bipush (-2), .ireturn] := (rfl)
theorem j_X_weight_14 (f : List Instr → Prop) : lk1 g_X_weight 14 f = f [.aload_n 0, .getfield 50, .iload_n 1, .invokevirtual 176, .ireturn] := (rfl)
abbrev b_X_judge : ByteArray := prog_1_method_20_code
abbrev y_X_judge : MethodName := ⟨RX8, "judge", "(II)I"⟩
def k_X_judge_0 : List Instr := [.iload_n 1, .iload_n 2, .invokestatic 181, .ifCond .ne 6, .bipush (-2), .ireturn]
def k_X_judge_11 : List Instr := [.aload_n 0, .getfield 26, .invokevirtual 130, .ifCond .ne 6, .bipush (-3), .ireturn]
def k_X_judge_24 : List Instr := [.aload_n 0, .getfield 50, .aload_n 0, .getfield 26, .aload_n 0, .getfield 37, .iload_n 1, .iload_n 2, .invokevirtual 185, .ireturn]
def g_X_judge : List (Nat × List Instr) := [(0, k_X_judge_0), (11, k_X_judge_11), (24, k_X_judge_24)]
theorem o_X_judge : ∀ q ∈ g_X_judge, okB b_X_judge q.1 q.2 = true := List.all_eq_true.mp (by decide +kernel : g_X_judge.all (fun q => okB b_X_judge q.1 q.2) = true)
theorem j_X_judge_0 (f : List Instr → Prop) : lk1 g_X_judge 0 f = f [.iload_n 1, .iload_n 2, .invokestatic 181, .ifCond .ne 6, .bipush (-2), .ireturn] := (rfl)
theorem j_X_judge_11 (f : List Instr → Prop) : lk1 g_X_judge 11 f = f [.aload_n 0, .getfield 26, .invokevirtual 130, .ifCond .ne 6, .bipush (-3), .ireturn] := (rfl)
theorem j_X_judge_24 (f : List Instr → Prop) : lk1 g_X_judge 24 f = f [.aload_n 0, .getfield 50, .aload_n 0, .getfield 26, .aload_n 0, .getfield 37, .iload_n 1, .iload_n 2, .invokevirtual 185, .ireturn] := (rfl)
abbrev b_X_isShowable : ByteArray := prog_1_method_41_code
abbrev y_X_isShowable : MethodName := ⟨RX8, "isShowable", "(II)Z"⟩
def k_X_isShowable_0 : List Instr := [.iload_n 0, .iconst 0, .bipush 12, .invokestatic 74, .ifCond .eq 17, .iload_n 1, .iconst 1, .bipush 12, .invokestatic 74, .ifCond .eq 7, .iconst 1, .goto 4]
def k_X_isShowable_24 : List Instr := [.iconst 0]
def k_X_isShowable_25 : List Instr := [.ireturn]
def g_X_isShowable : List (Nat × List Instr) := [(0, k_X_isShowable_0), (24, k_X_isShowable_24), (25, k_X_isShowable_25)]
theorem o_X_isShowable : ∀ q ∈ g_X_isShowable, okB b_X_isShowable q.1 q.2 = true := List.all_eq_true.mp (by decide +kernel : g_X_isShowable.all (fun q => okB b_X_isShowable q.1 q.2) = true)
theorem j_X_isShowable_0 (f : List Instr → Prop) : lk1 g_X_isShowable 0 f = f [.iload_n 0, .iconst 0, .bipush 12, .invokestatic 74, .ifCond .eq 17, .iload_n 1, .iconst 1, .bipush 12, .invokestatic 74, .ifCond .eq 7, .iconst 1, .goto 4] := (rfl)
theorem j_X_isShowable_24 (f : List Instr → Prop) : lk1 g_X_isShowable 24 f = f [.iconst 0] := (rfl)
theorem j_X_isShowable_25 (f : List Instr → Prop) : lk1 g_X_isShowable 25 f = f [.ireturn] := (rfl)
abbrev b_X_best : ByteArray := prog_1_method_21_code
abbrev y_X_best : MethodName := ⟨RX8, "best", "(III)I"⟩
def k_X_best_0 : List Instr := [.iload_n 1, .iload_n 2, .invokestatic 181, .ifCond .eq 14, .iload_n 3, .iconst 1, .sipush 200, .invokestatic 74, .ifCond .ne 6]
def k_X_best_19 : List Instr := [.bipush (-2), .ireturn]
def k_X_best_22 : List Instr := [.aload_n 0, .getfield 26, .invokevirtual 130, .ifCond .ne 6, .bipush (-3), .ireturn]
def k_X_best_35 : List Instr := [.aload_n 0, .getfield 50, .aload_n 0, .getfield 26, .iload_n 3, .invokevirtual 189, .aload_n 0, .getfield 50, .aload_n 0, .getfield 26, .aload_n 0, .getfield 37, .iload_n 1, .iload_n 2, .invokevirtual 192, .aload_n 0, .getfield 50, .invokevirtual 196, .ireturn]
def g_X_best : List (Nat × List Instr) := [(0, k_X_best_0), (19, k_X_best_19), (22, k_X_best_22), (35, k_X_best_35)]
theorem o_X_best : ∀ q ∈ g_X_best, okB b_X_best q.1 q.2 = true := List.all_eq_true.mp (by decide +kernel : g_X_best.all (fun q => okB b_X_best q.1 q.2) = true)
theorem j_X_best_0 (f : List Instr → Prop) : lk1 g_X_best 0 f = f [.iload_n 1, .iload_n 2, .invokestatic 181, .ifCond .eq 14, .iload_n 3, .iconst 1, .sipush 200, .invokestatic 74, .ifCond .ne 6] := (rfl)
theorem j_X_best_19 (f : List Instr → Prop) : lk1 g_X_best 19 f = f [.bipush (-2), .ireturn] := (rfl)
theorem j_X_best_22 (f : List Instr → Prop) : lk1 g_X_best 22 f = f [.aload_n 0, .getfield 26, .invokevirtual 130, .ifCond .ne 6, .bipush (-3), .ireturn] := (rfl)
theorem j_X_best_35 (f : List Instr → Prop) : lk1 g_X_best 35 f = f [.aload_n 0, .getfield 50, .aload_n 0, .getfield 26, .iload_n 3, .invokevirtual 189, .aload_n 0, .getfield 50, .aload_n 0, .getfield 26, .aload_n 0, .getfield 37, .iload_n 1, .iload_n 2, .invokevirtual 192, .aload_n 0, .getfield 50, .invokevirtual 196, .ireturn] := (rfl)
abbrev b_X_code : ByteArray := prog_1_method_22_code
abbrev y_X_code : MethodName := ⟨RX8, "code", "(II)I"⟩
def k_X_code_0 : List Instr := [.iload_n 1, .iconst 1, .bipush 8, .invokestatic 74, .ifCond .eq 13, .iload_n 2, .iconst 1, .bipush 12, .invokestatic 74, .ifCond .ne 6]
def k_X_code_20 : List Instr := [.bipush (-2), .ireturn]
def k_X_code_23 : List Instr := [.aload_n 0, .getfield 26, .invokevirtual 130, .ifCond .ne 6, .bipush (-3), .ireturn]
def k_X_code_36 : List Instr := [.aload_n 0, .getfield 57, .aload_n 0, .getfield 26, .iload_n 1, .iload_n 2, .invokevirtual 199, .aload_n 0, .getfield 57, .invokevirtual 202, .ireturn]
def g_X_code : List (Nat × List Instr) := [(0, k_X_code_0), (20, k_X_code_20), (23, k_X_code_23), (36, k_X_code_36)]
theorem o_X_code : ∀ q ∈ g_X_code, okB b_X_code q.1 q.2 = true := List.all_eq_true.mp (by decide +kernel : g_X_code.all (fun q => okB b_X_code q.1 q.2) = true)
theorem j_X_code_0 (f : List Instr → Prop) : lk1 g_X_code 0 f = f [.iload_n 1, .iconst 1, .bipush 8, .invokestatic 74, .ifCond .eq 13, .iload_n 2, .iconst 1, .bipush 12, .invokestatic 74, .ifCond .ne 6] := (rfl)
theorem j_X_code_20 (f : List Instr → Prop) : lk1 g_X_code 20 f = f [.bipush (-2), .ireturn] := (rfl)
theorem j_X_code_23 (f : List Instr → Prop) : lk1 g_X_code 23 f = f [.aload_n 0, .getfield 26, .invokevirtual 130, .ifCond .ne 6, .bipush (-3), .ireturn] := (rfl)
theorem j_X_code_36 (f : List Instr → Prop) : lk1 g_X_code 36 f = f [.aload_n 0, .getfield 57, .aload_n 0, .getfield 26, .iload_n 1, .iload_n 2, .invokevirtual 199, .aload_n 0, .getfield 57, .invokevirtual 202, .ireturn] := (rfl)
abbrev b_X_member : ByteArray := prog_1_method_23_code
abbrev y_X_member : MethodName := ⟨RX8, "member", "(I)I"⟩
def k_X_member_0 : List Instr := [.aload_n 0, .getfield 26, .iload_n 1, .invokevirtual 133, .ifCond .ne 6, .bipush (-2), .ireturn]
def k_X_member_14 : List Instr := [.aload_n 0, .getfield 57, .invokevirtual 203, .ifCond .ne 6, .bipush (-3), .ireturn]
def k_X_member_27 : List Instr := [.aload_n 0, .getfield 57, .iload_n 1, .invokevirtual 207, .ifCond .eq 7, .iconst 1, .goto 4]
def k_X_member_42 : List Instr := [.iconst 0]
def k_X_member_43 : List Instr := [.ireturn]
def g_X_member : List (Nat × List Instr) := [(0, k_X_member_0), (14, k_X_member_14), (27, k_X_member_27), (42, k_X_member_42), (43, k_X_member_43)]
theorem o_X_member : ∀ q ∈ g_X_member, okB b_X_member q.1 q.2 = true := List.all_eq_true.mp (by decide +kernel : g_X_member.all (fun q => okB b_X_member q.1 q.2) = true)
theorem j_X_member_0 (f : List Instr → Prop) : lk1 g_X_member 0 f = f [.aload_n 0, .getfield 26, .iload_n 1, .invokevirtual 133, .ifCond .ne 6, .bipush (-2), .ireturn] := (rfl)
theorem j_X_member_14 (f : List Instr → Prop) : lk1 g_X_member 14 f = f [.aload_n 0, .getfield 57, .invokevirtual 203, .ifCond .ne 6, .bipush (-3), .ireturn] := (rfl)
theorem j_X_member_27 (f : List Instr → Prop) : lk1 g_X_member 27 f = f [.aload_n 0, .getfield 57, .iload_n 1, .invokevirtual 207, .ifCond .eq 7, .iconst 1, .goto 4] := (rfl)
theorem j_X_member_42 (f : List Instr → Prop) : lk1 g_X_member 42 f = f [.iconst 0] := (rfl)
theorem j_X_member_43 (f : List Instr → Prop) : lk1 g_X_member 43 f = f [.ireturn] := (rfl)
abbrev b_X_wordOf : ByteArray := prog_1_method_24_code
abbrev y_X_wordOf : MethodName := ⟨RX8, "wordOf", "(II)I"⟩
def k_X_wordOf_0 : List Instr := [.aload_n 0, .getfield 57, .invokevirtual 203, .ifCond .ne 6, .bipush (-3), .ireturn]
def k_X_wordOf_13 : List Instr := [.aload_n 0, .getfield 57, .iload_n 1, .invokevirtual 207, .ifCond .eq 18, .iload_n 2, .i2l, .aload_n 0, .getfield 57, .invokevirtual 210, .invokestatic 82, .ifCond .ne 6]
def k_X_wordOf_39 : List Instr := [.bipush (-2), .ireturn]
def k_X_wordOf_42 : List Instr := [.aload_n 0, .getfield 57, .aload_n 0, .getfield 26, .iload_n 1, .iload_n 2, .invokevirtual 213, .ireturn]
def g_X_wordOf : List (Nat × List Instr) := [(0, k_X_wordOf_0), (13, k_X_wordOf_13), (39, k_X_wordOf_39), (42, k_X_wordOf_42)]
theorem o_X_wordOf : ∀ q ∈ g_X_wordOf, okB b_X_wordOf q.1 q.2 = true := List.all_eq_true.mp (by decide +kernel : g_X_wordOf.all (fun q => okB b_X_wordOf q.1 q.2) = true)
theorem j_X_wordOf_0 (f : List Instr → Prop) : lk1 g_X_wordOf 0 f = f [.aload_n 0, .getfield 57, .invokevirtual 203, .ifCond .ne 6, .bipush (-3), .ireturn] := (rfl)
theorem j_X_wordOf_13 (f : List Instr → Prop) : lk1 g_X_wordOf 13 f = f [.aload_n 0, .getfield 57, .iload_n 1, .invokevirtual 207, .ifCond .eq 18, .iload_n 2, .i2l, .aload_n 0, .getfield 57, .invokevirtual 210, .invokestatic 82, .ifCond .ne 6] := (rfl)
theorem j_X_wordOf_39 (f : List Instr → Prop) : lk1 g_X_wordOf 39 f = f [.bipush (-2), .ireturn] := (rfl)
theorem j_X_wordOf_42 (f : List Instr → Prop) : lk1 g_X_wordOf 42 f = f [.aload_n 0, .getfield 57, .aload_n 0, .getfield 26, .iload_n 1, .iload_n 2, .invokevirtual 213, .ireturn] := (rfl)
abbrev b_X_read : ByteArray := prog_1_method_25_code
abbrev y_X_read : MethodName := ⟨RX8, "read", "(II)I"⟩
def k_X_read_0 : List Instr := [.aload_n 0, .getfield 57, .invokevirtual 203, .ifCond .ne 6, .bipush (-3), .ireturn]
def k_X_read_13 : List Instr := [.aload_n 0, .getfield 57, .iload_n 1, .invokevirtual 207, .ifCond .eq 18, .iload_n 2, .i2l, .aload_n 0, .getfield 57, .invokevirtual 217, .invokestatic 82, .ifCond .ne 6]
def k_X_read_39 : List Instr := [.bipush (-2), .ireturn]
def k_X_read_42 : List Instr := [.aload_n 0, .getfield 57, .aload_n 0, .getfield 26, .iload_n 1, .iload_n 2, .invokevirtual 220, .ireturn]
def g_X_read : List (Nat × List Instr) := [(0, k_X_read_0), (13, k_X_read_13), (39, k_X_read_39), (42, k_X_read_42)]
theorem o_X_read : ∀ q ∈ g_X_read, okB b_X_read q.1 q.2 = true := List.all_eq_true.mp (by decide +kernel : g_X_read.all (fun q => okB b_X_read q.1 q.2) = true)
theorem j_X_read_0 (f : List Instr → Prop) : lk1 g_X_read 0 f = f [.aload_n 0, .getfield 57, .invokevirtual 203, .ifCond .ne 6, .bipush (-3), .ireturn] := (rfl)
theorem j_X_read_13 (f : List Instr → Prop) : lk1 g_X_read 13 f = f [.aload_n 0, .getfield 57, .iload_n 1, .invokevirtual 207, .ifCond .eq 18, .iload_n 2, .i2l, .aload_n 0, .getfield 57, .invokevirtual 217, .invokestatic 82, .ifCond .ne 6] := (rfl)
theorem j_X_read_39 (f : List Instr → Prop) : lk1 g_X_read 39 f = f [.bipush (-2), .ireturn] := (rfl)
theorem j_X_read_42 (f : List Instr → Prop) : lk1 g_X_read 42 f = f [.aload_n 0, .getfield 57, .aload_n 0, .getfield 26, .iload_n 1, .iload_n 2, .invokevirtual 220, .ireturn] := (rfl)
abbrev b_X_say : ByteArray := prog_1_method_26_code
abbrev y_X_say : MethodName := ⟨RX8, "say", "(JI)I"⟩
def k_X_say_0 : List Instr := [.aload_n 0, .getfield 64, .lload_n 1, .iload_n 3, .sipush 240, .invokestatic 223, .ireturn]
def g_X_say : List (Nat × List Instr) := [(0, k_X_say_0)]
theorem o_X_say : ∀ q ∈ g_X_say, okB b_X_say q.1 q.2 = true := List.all_eq_true.mp (by decide +kernel : g_X_say.all (fun q => okB b_X_say q.1 q.2) = true)
theorem j_X_say_0 (f : List Instr → Prop) : lk1 g_X_say 0 f = f [.aload_n 0, .getfield 64, .lload_n 1, .iload_n 3, .sipush 240, .invokestatic 223, .ireturn] := (rfl)
abbrev b_X_append : ByteArray := prog_1_method_42_code
abbrev y_X_append : MethodName := ⟨RX8, "append", "(LEvenWire$Bits;JII)I"⟩
def k_X_append_0 : List Instr := [.lload_n 1, .iload_n 3, .invokestatic 82, .ifCond .ne 6, .bipush (-2), .ireturn]
def k_X_append_11 : List Instr := [.aload_n 0, .invokevirtual 240, .iload_n 3, .iadd, .iload 4, .if_icmp .le 6, .bipush (-4), .ireturn]
def k_X_append_25 : List Instr := [.aload_n 0, .lload_n 1, .iload_n 3, .invokevirtual 281, .aload_n 0, .invokevirtual 240, .ireturn]
def g_X_append : List (Nat × List Instr) := [(0, k_X_append_0), (11, k_X_append_11), (25, k_X_append_25)]
theorem o_X_append : ∀ q ∈ g_X_append, okB b_X_append q.1 q.2 = true := List.all_eq_true.mp (by decide +kernel : g_X_append.all (fun q => okB b_X_append q.1 q.2) = true)
theorem j_X_append_0 (f : List Instr → Prop) : lk1 g_X_append 0 f = f [.lload_n 1, .iload_n 3, .invokestatic 82, .ifCond .ne 6, .bipush (-2), .ireturn] := (rfl)
theorem j_X_append_11 (f : List Instr → Prop) : lk1 g_X_append 11 f = f [.aload_n 0, .invokevirtual 240, .iload_n 3, .iadd, .iload 4, .if_icmp .le 6, .bipush (-4), .ireturn] := (rfl)
theorem j_X_append_25 (f : List Instr → Prop) : lk1 g_X_append 25 f = f [.aload_n 0, .lload_n 1, .iload_n 3, .invokevirtual 281, .aload_n 0, .invokevirtual 240, .ireturn] := (rfl)
abbrev b_X_hush : ByteArray := prog_1_method_27_code
abbrev y_X_hush : MethodName := ⟨RX8, "hush", "()I"⟩
def k_X_hush_0 : List Instr := [.aload_n 0, .getfield 64, .iconst 0, .invokevirtual 227, .ireturn]
def g_X_hush : List (Nat × List Instr) := [(0, k_X_hush_0)]
theorem o_X_hush : ∀ q ∈ g_X_hush, okB b_X_hush q.1 q.2 = true := List.all_eq_true.mp (by decide +kernel : g_X_hush.all (fun q => okB b_X_hush q.1 q.2) = true)
theorem j_X_hush_0 (f : List Instr → Prop) : lk1 g_X_hush 0 f = f [.aload_n 0, .getfield 64, .iconst 0, .invokevirtual 227, .ireturn] := (rfl)
abbrev b_X_message : ByteArray := prog_1_method_28_code
abbrev y_X_message : MethodName := ⟨RX8, "message", "(I)I"⟩
def k_X_message_0 : List Instr := [.aload_n 0, .getfield 64, .iload_n 1, .invokevirtual 230, .ireturn]
def g_X_message : List (Nat × List Instr) := [(0, k_X_message_0)]
theorem o_X_message : ∀ q ∈ g_X_message, okB b_X_message q.1 q.2 = true := List.all_eq_true.mp (by decide +kernel : g_X_message.all (fun q => okB b_X_message q.1 q.2) = true)
theorem j_X_message_0 (f : List Instr → Prop) : lk1 g_X_message 0 f = f [.aload_n 0, .getfield 64, .iload_n 1, .invokevirtual 230, .ireturn] := (rfl)
abbrev b_X_write : ByteArray := prog_1_method_29_code
abbrev y_X_write : MethodName := ⟨RX8, "write", "()I"⟩
def k_X_write_0 : List Instr := [.aload_n 0, .getfield 57, .invokevirtual 203, .ifCond .ne 6, .bipush (-3), .ireturn]
def k_X_write_13 : List Instr := [.aload_n 0, .getfield 57, .aload_n 0, .getfield 64, .invokevirtual 232, .sipush 600, .if_icmp .le 6, .bipush (-4), .ireturn]
def k_X_write_33 : List Instr := [.aload_n 0, .getfield 57, .aload_n 0, .getfield 26, .aload_n 0, .getfield 64, .aload_n 0, .getfield 68, .invokevirtual 236, .aload_n 0, .getfield 68, .invokevirtual 240, .ireturn]
def g_X_write : List (Nat × List Instr) := [(0, k_X_write_0), (13, k_X_write_13), (33, k_X_write_33)]
theorem o_X_write : ∀ q ∈ g_X_write, okB b_X_write q.1 q.2 = true := List.all_eq_true.mp (by decide +kernel : g_X_write.all (fun q => okB b_X_write q.1 q.2) = true)
theorem j_X_write_0 (f : List Instr → Prop) : lk1 g_X_write 0 f = f [.aload_n 0, .getfield 57, .invokevirtual 203, .ifCond .ne 6, .bipush (-3), .ireturn] := (rfl)
theorem j_X_write_13 (f : List Instr → Prop) : lk1 g_X_write 13 f = f [.aload_n 0, .getfield 57, .aload_n 0, .getfield 64, .invokevirtual 232, .sipush 600, .if_icmp .le 6, .bipush (-4), .ireturn] := (rfl)
theorem j_X_write_33 (f : List Instr → Prop) : lk1 g_X_write 33 f = f [.aload_n 0, .getfield 57, .aload_n 0, .getfield 26, .aload_n 0, .getfield 64, .aload_n 0, .getfield 68, .invokevirtual 236, .aload_n 0, .getfield 68, .invokevirtual 240, .ireturn] := (rfl)
abbrev b_X_tell : ByteArray := prog_1_method_30_code
abbrev y_X_tell : MethodName := ⟨RX8, "tell", "()I"⟩
def k_X_tell_0 : List Instr := [.aload_n 0, .getfield 57, .invokevirtual 203, .ifCond .ne 6, .bipush (-3), .ireturn]
def k_X_tell_13 : List Instr := [.aload_n 0, .getfield 57, .aload_n 0, .getfield 26, .aload_n 0, .getfield 68, .aload_n 0, .getfield 71, .invokevirtual 241, .istore_n 1, .iload_n 1, .iconst (-1), .if_icmp .eq 8, .bipush (-100), .iload_n 1, .isub, .ireturn]
def k_X_tell_43 : List Instr := [.aload_n 0, .getfield 71, .invokevirtual 240, .sipush 240, .if_icmp .le 6, .bipush (-4), .ireturn]
def k_X_tell_59 : List Instr := [.aload_n 0, .getfield 64, .aload_n 0, .getfield 71, .invokevirtual 245, .aload_n 0, .getfield 64, .invokevirtual 240, .ireturn]
def g_X_tell : List (Nat × List Instr) := [(0, k_X_tell_0), (13, k_X_tell_13), (43, k_X_tell_43), (59, k_X_tell_59)]
theorem o_X_tell : ∀ q ∈ g_X_tell, okB b_X_tell q.1 q.2 = true := List.all_eq_true.mp (by decide +kernel : g_X_tell.all (fun q => okB b_X_tell q.1 q.2) = true)
theorem j_X_tell_0 (f : List Instr → Prop) : lk1 g_X_tell 0 f = f [.aload_n 0, .getfield 57, .invokevirtual 203, .ifCond .ne 6, .bipush (-3), .ireturn] := (rfl)
theorem j_X_tell_13 (f : List Instr → Prop) : lk1 g_X_tell 13 f = f [.aload_n 0, .getfield 57, .aload_n 0, .getfield 26, .aload_n 0, .getfield 68, .aload_n 0, .getfield 71, .invokevirtual 241, .istore_n 1, .iload_n 1, .iconst (-1), .if_icmp .eq 8, .bipush (-100), .iload_n 1, .isub, .ireturn] := (rfl)
theorem j_X_tell_43 (f : List Instr → Prop) : lk1 g_X_tell 43 f = f [.aload_n 0, .getfield 71, .invokevirtual 240, .sipush 240, .if_icmp .le 6, .bipush (-4), .ireturn] := (rfl)
theorem j_X_tell_59 (f : List Instr → Prop) : lk1 g_X_tell 59 f = f [.aload_n 0, .getfield 64, .aload_n 0, .getfield 71, .invokevirtual 245, .aload_n 0, .getfield 64, .invokevirtual 240, .ireturn] := (rfl)
abbrev b_X_put : ByteArray := prog_1_method_31_code
abbrev y_X_put : MethodName := ⟨RX8, "put", "(JI)I"⟩
def k_X_put_0 : List Instr := [.aload_n 0, .getfield 68, .lload_n 1, .iload_n 3, .sipush 600, .invokestatic 223, .ireturn]
def g_X_put : List (Nat × List Instr) := [(0, k_X_put_0)]
theorem o_X_put : ∀ q ∈ g_X_put, okB b_X_put q.1 q.2 = true := List.all_eq_true.mp (by decide +kernel : g_X_put.all (fun q => okB b_X_put q.1 q.2) = true)
theorem j_X_put_0 (f : List Instr → Prop) : lk1 g_X_put 0 f = f [.aload_n 0, .getfield 68, .lload_n 1, .iload_n 3, .sipush 600, .invokestatic 223, .ireturn] := (rfl)
abbrev b_X_cut : ByteArray := prog_1_method_32_code
abbrev y_X_cut : MethodName := ⟨RX8, "cut", "(I)I"⟩
def k_X_cut_0 : List Instr := [.iload_n 1, .iconst 0, .aload_n 0, .getfield 68, .invokevirtual 240, .invokestatic 74, .ifCond .ne 6, .bipush (-2), .ireturn]
def k_X_cut_18 : List Instr := [.aload_n 0, .getfield 68, .iload_n 1, .invokevirtual 227, .ireturn]
def g_X_cut : List (Nat × List Instr) := [(0, k_X_cut_0), (18, k_X_cut_18)]
theorem o_X_cut : ∀ q ∈ g_X_cut, okB b_X_cut q.1 q.2 = true := List.all_eq_true.mp (by decide +kernel : g_X_cut.all (fun q => okB b_X_cut q.1 q.2) = true)
theorem j_X_cut_0 (f : List Instr → Prop) : lk1 g_X_cut 0 f = f [.iload_n 1, .iconst 0, .aload_n 0, .getfield 68, .invokevirtual 240, .invokestatic 74, .ifCond .ne 6, .bipush (-2), .ireturn] := (rfl)
theorem j_X_cut_18 (f : List Instr → Prop) : lk1 g_X_cut 18 f = f [.aload_n 0, .getfield 68, .iload_n 1, .invokevirtual 227, .ireturn] := (rfl)
abbrev b_X_spoil : ByteArray := prog_1_method_33_code
abbrev y_X_spoil : MethodName := ⟨RX8, "spoil", "(I)I"⟩
def k_X_spoil_0 : List Instr := [.aload_n 0, .getfield 68, .iload_n 1, .invokevirtual 249, .ireturn]
def g_X_spoil : List (Nat × List Instr) := [(0, k_X_spoil_0)]
theorem o_X_spoil : ∀ q ∈ g_X_spoil, okB b_X_spoil q.1 q.2 = true := List.all_eq_true.mp (by decide +kernel : g_X_spoil.all (fun q => okB b_X_spoil q.1 q.2) = true)
theorem j_X_spoil_0 (f : List Instr → Prop) : lk1 g_X_spoil 0 f = f [.aload_n 0, .getfield 68, .iload_n 1, .invokevirtual 249, .ireturn] := (rfl)
abbrev b_X_plate : ByteArray := prog_1_method_34_code
abbrev y_X_plate : MethodName := ⟨RX8, "plate", "(I)I"⟩
def k_X_plate_0 : List Instr := [.aload_n 0, .getfield 68, .iload_n 1, .invokevirtual 230, .ireturn]
def g_X_plate : List (Nat × List Instr) := [(0, k_X_plate_0)]
theorem o_X_plate : ∀ q ∈ g_X_plate, okB b_X_plate q.1 q.2 = true := List.all_eq_true.mp (by decide +kernel : g_X_plate.all (fun q => okB b_X_plate q.1 q.2) = true)
theorem j_X_plate_0 (f : List Instr → Prop) : lk1 g_X_plate 0 f = f [.aload_n 0, .getfield 68, .iload_n 1, .invokevirtual 230, .ireturn] := (rfl)
abbrev b_X_check : ByteArray := prog_1_method_35_code
abbrev y_X_check : MethodName := ⟨RX8, "check", "()I"⟩
def k_X_check_0 : List Instr := [.aload_n 0, .getfield 26, .invokevirtual 130, .ifCond .ne 6, .bipush (-3), .ireturn]
def k_X_check_13 : List Instr := [.iconst 0, .istore_n 1, .iconst 0, .istore_n 2]
def k_X_check_17 : List Instr := [.iload_n 2, .aload_n 0, .getfield 68, .invokevirtual 240, .if_icmp .ge 33, .aload_n 0, .getfield 26, .iload_n 1, .aload_n 0, .getfield 68, .iload_n 2, .invokevirtual 230, .invokevirtual 137, .istore_n 1, .iload_n 1, .iconst (-1), .if_icmp .ne 5, .iload_n 2, .ireturn]
def k_X_check_52 : List Instr := [.iinc 2 1, .goto (-38)]
def k_X_check_58 : List Instr := [.iconst (-1), .ireturn]
def g_X_check : List (Nat × List Instr) := [(0, k_X_check_0), (13, k_X_check_13), (17, k_X_check_17), (52, k_X_check_52), (58, k_X_check_58)]
theorem o_X_check : ∀ q ∈ g_X_check, okB b_X_check q.1 q.2 = true := List.all_eq_true.mp (by decide +kernel : g_X_check.all (fun q => okB b_X_check q.1 q.2) = true)
theorem j_X_check_0 (f : List Instr → Prop) : lk1 g_X_check 0 f = f [.aload_n 0, .getfield 26, .invokevirtual 130, .ifCond .ne 6, .bipush (-3), .ireturn] := (rfl)
theorem j_X_check_13 (f : List Instr → Prop) : lk1 g_X_check 13 f = f [.iconst 0, .istore_n 1, .iconst 0, .istore_n 2] := (rfl)
theorem j_X_check_17 (f : List Instr → Prop) : lk1 g_X_check 17 f = f [.iload_n 2, .aload_n 0, .getfield 68, .invokevirtual 240, .if_icmp .ge 33, .aload_n 0, .getfield 26, .iload_n 1, .aload_n 0, .getfield 68, .iload_n 2, .invokevirtual 230, .invokevirtual 137, .istore_n 1, .iload_n 1, .iconst (-1), .if_icmp .ne 5, .iload_n 2, .ireturn] := (rfl)
theorem j_X_check_52 (f : List Instr → Prop) : lk1 g_X_check 52 f = f [.iinc 2 1, .goto (-38)] := (rfl)
theorem j_X_check_58 (f : List Instr → Prop) : lk1 g_X_check 58 f = f [.iconst (-1), .ireturn] := (rfl)
abbrev b_X_shape : ByteArray := prog_1_method_36_code
abbrev y_X_shape : MethodName := ⟨RX8, "shape", "(I)I"⟩
def k_X_shape_0 : List Instr := [.iload_n 1, .tableswitch 75 0 4 #[35, 43, 51, 59, 67]]
def k_X_shape_36 : List Instr := [.aload_n 0, .getfield 68, .invokevirtual 252, .ireturn]
def k_X_shape_44 : List Instr := [.aload_n 0, .getfield 68, .invokevirtual 255, .ireturn]
def k_X_shape_52 : List Instr := [.aload_n 0, .getfield 68, .invokevirtual 258, .ireturn]
def k_X_shape_60 : List Instr := [.aload_n 0, .getfield 68, .invokevirtual 261, .ireturn]
def k_X_shape_68 : List Instr := [.aload_n 0, .getfield 68, .invokevirtual 264, .ireturn]
def k_X_shape_76 : List Instr := [.bipush (-2), .ireturn]
def g_X_shape : List (Nat × List Instr) := [(0, k_X_shape_0), (36, k_X_shape_36), (44, k_X_shape_44), (52, k_X_shape_52), (60, k_X_shape_60), (68, k_X_shape_68), (76, k_X_shape_76)]
theorem o_X_shape : ∀ q ∈ g_X_shape, okB b_X_shape q.1 q.2 = true := List.all_eq_true.mp (by decide +kernel : g_X_shape.all (fun q => okB b_X_shape q.1 q.2) = true)
theorem j_X_shape_0 (f : List Instr → Prop) : lk1 g_X_shape 0 f = f [.iload_n 1, .tableswitch 75 0 4 #[35, 43, 51, 59, 67]] := (rfl)
theorem j_X_shape_36 (f : List Instr → Prop) : lk1 g_X_shape 36 f = f [.aload_n 0, .getfield 68, .invokevirtual 252, .ireturn] := (rfl)
theorem j_X_shape_44 (f : List Instr → Prop) : lk1 g_X_shape 44 f = f [.aload_n 0, .getfield 68, .invokevirtual 255, .ireturn] := (rfl)
theorem j_X_shape_52 (f : List Instr → Prop) : lk1 g_X_shape 52 f = f [.aload_n 0, .getfield 68, .invokevirtual 258, .ireturn] := (rfl)
theorem j_X_shape_60 (f : List Instr → Prop) : lk1 g_X_shape 60 f = f [.aload_n 0, .getfield 68, .invokevirtual 261, .ireturn] := (rfl)
theorem j_X_shape_68 (f : List Instr → Prop) : lk1 g_X_shape 68 f = f [.aload_n 0, .getfield 68, .invokevirtual 264, .ireturn] := (rfl)
theorem j_X_shape_76 (f : List Instr → Prop) : lk1 g_X_shape 76 f = f [.bipush (-2), .ireturn] := (rfl)
abbrev b_X_count1 : ByteArray := prog_1_method_37_code
abbrev y_X_count1 : MethodName := ⟨RX8, "count", "(I)I"⟩
def k_X_count1_0 : List Instr := [.iload_n 1, .tableswitch 108 0 7 #[47, 55, 63, 71, 79, 87, 95, 103]]
def k_X_count1_48 : List Instr := [.aload_n 0, .getfield 64, .invokevirtual 240, .ireturn]
def k_X_count1_56 : List Instr := [.aload_n 0, .getfield 68, .invokevirtual 240, .ireturn]
def k_X_count1_64 : List Instr := [.aload_n 0, .getfield 26, .invokevirtual 130, .ireturn]
def k_X_count1_72 : List Instr := [.aload_n 0, .getfield 57, .invokevirtual 202, .ireturn]
def k_X_count1_80 : List Instr := [.aload_n 0, .getfield 57, .invokevirtual 210, .ireturn]
def k_X_count1_88 : List Instr := [.aload_n 0, .getfield 57, .invokevirtual 217, .ireturn]
def k_X_count1_96 : List Instr := [.aload_n 0, .getfield 57, .invokevirtual 267, .ireturn]
def k_X_count1_104 : List Instr := [.aload_n 0, .getfield 102, .ireturn]
def k_X_count1_109 : List Instr := [.bipush (-2), .ireturn]
def g_X_count1 : List (Nat × List Instr) := [(0, k_X_count1_0), (48, k_X_count1_48), (56, k_X_count1_56), (64, k_X_count1_64), (72, k_X_count1_72), (80, k_X_count1_80), (88, k_X_count1_88), (96, k_X_count1_96), (104, k_X_count1_104), (109, k_X_count1_109)]
theorem o_X_count1 : ∀ q ∈ g_X_count1, okB b_X_count1 q.1 q.2 = true := List.all_eq_true.mp (by decide +kernel : g_X_count1.all (fun q => okB b_X_count1 q.1 q.2) = true)
theorem j_X_count1_0 (f : List Instr → Prop) : lk1 g_X_count1 0 f = f [.iload_n 1, .tableswitch 108 0 7 #[47, 55, 63, 71, 79, 87, 95, 103]] := (rfl)
theorem j_X_count1_48 (f : List Instr → Prop) : lk1 g_X_count1 48 f = f [.aload_n 0, .getfield 64, .invokevirtual 240, .ireturn] := (rfl)
theorem j_X_count1_56 (f : List Instr → Prop) : lk1 g_X_count1 56 f = f [.aload_n 0, .getfield 68, .invokevirtual 240, .ireturn] := (rfl)
theorem j_X_count1_64 (f : List Instr → Prop) : lk1 g_X_count1 64 f = f [.aload_n 0, .getfield 26, .invokevirtual 130, .ireturn] := (rfl)
theorem j_X_count1_72 (f : List Instr → Prop) : lk1 g_X_count1 72 f = f [.aload_n 0, .getfield 57, .invokevirtual 202, .ireturn] := (rfl)
theorem j_X_count1_80 (f : List Instr → Prop) : lk1 g_X_count1 80 f = f [.aload_n 0, .getfield 57, .invokevirtual 210, .ireturn] := (rfl)
theorem j_X_count1_88 (f : List Instr → Prop) : lk1 g_X_count1 88 f = f [.aload_n 0, .getfield 57, .invokevirtual 217, .ireturn] := (rfl)
theorem j_X_count1_96 (f : List Instr → Prop) : lk1 g_X_count1 96 f = f [.aload_n 0, .getfield 57, .invokevirtual 267, .ireturn] := (rfl)
theorem j_X_count1_104 (f : List Instr → Prop) : lk1 g_X_count1 104 f = f [.aload_n 0, .getfield 102, .ireturn] := (rfl)
theorem j_X_count1_109 (f : List Instr → Prop) : lk1 g_X_count1 109 f = f [.bipush (-2), .ireturn] := (rfl)
abbrev b_X_digest : ByteArray := prog_1_method_38_code
abbrev y_X_digest : MethodName := ⟨RX8, "digest", "()J"⟩
def k_X_digest_0 : List Instr := [.ldc2_w 270, .lstore_n 1, .iconst 0, .istore_n 3]
def k_X_digest_6 : List Instr := [.iload_n 3, .bipush 7, .if_icmp .gt 22, .ldc2_w 272, .lload_n 1, .lmul, .aload_n 0, .iload_n 3, .invokevirtual 274, .i2l, .ladd, .lstore_n 1, .iinc 3 1, .goto (-22)]
def k_X_digest_31 : List Instr := [.iconst 0, .istore_n 3]
def k_X_digest_33 : List Instr := [.iload_n 3, .aload_n 0, .getfield 26, .invokevirtual 130, .if_icmp .ge 59, .ldc2_w 272, .lload_n 1, .lmul, .aload_n 0, .getfield 26, .iload_n 3, .iconst 0, .invokevirtual 137, .i2l, .ladd, .lstore_n 1, .ldc2_w 272, .lload_n 1, .lmul, .aload_n 0, .getfield 26, .iload_n 3, .iconst 1, .invokevirtual 137, .i2l, .ladd, .lstore_n 1, .ldc2_w 272, .lload_n 1, .lmul, .aload_n 0, .getfield 50, .iload_n 3, .invokevirtual 176, .i2l, .ladd, .lstore_n 1, .iinc 3 1, .goto (-64)]
def k_X_digest_100 : List Instr := [.aload_n 0, .getfield 68, .aload_n 0, .getfield 64, .lload_n 1, .invokevirtual 277, .invokevirtual 277, .lreturn]
def g_X_digest : List (Nat × List Instr) := [(0, k_X_digest_0), (6, k_X_digest_6), (31, k_X_digest_31), (33, k_X_digest_33), (100, k_X_digest_100)]
theorem o_X_digest : ∀ q ∈ g_X_digest, okB b_X_digest q.1 q.2 = true := List.all_eq_true.mp (by decide +kernel : g_X_digest.all (fun q => okB b_X_digest q.1 q.2) = true)
theorem j_X_digest_0 (f : List Instr → Prop) : lk1 g_X_digest 0 f = f [.ldc2_w 270, .lstore_n 1, .iconst 0, .istore_n 3] := (rfl)
theorem j_X_digest_6 (f : List Instr → Prop) : lk1 g_X_digest 6 f = f [.iload_n 3, .bipush 7, .if_icmp .gt 22, .ldc2_w 272, .lload_n 1, .lmul, .aload_n 0, .iload_n 3, .invokevirtual 274, .i2l, .ladd, .lstore_n 1, .iinc 3 1, .goto (-22)] := (rfl)
theorem j_X_digest_31 (f : List Instr → Prop) : lk1 g_X_digest 31 f = f [.iconst 0, .istore_n 3] := (rfl)
theorem j_X_digest_33 (f : List Instr → Prop) : lk1 g_X_digest 33 f = f [.iload_n 3, .aload_n 0, .getfield 26, .invokevirtual 130, .if_icmp .ge 59, .ldc2_w 272, .lload_n 1, .lmul, .aload_n 0, .getfield 26, .iload_n 3, .iconst 0, .invokevirtual 137, .i2l, .ladd, .lstore_n 1, .ldc2_w 272, .lload_n 1, .lmul, .aload_n 0, .getfield 26, .iload_n 3, .iconst 1, .invokevirtual 137, .i2l, .ladd, .lstore_n 1, .ldc2_w 272, .lload_n 1, .lmul, .aload_n 0, .getfield 50, .iload_n 3, .invokevirtual 176, .i2l, .ladd, .lstore_n 1, .iinc 3 1, .goto (-64)] := (rfl)
theorem j_X_digest_100 (f : List Instr → Prop) : lk1 g_X_digest 100 f = f [.aload_n 0, .getfield 68, .aload_n 0, .getfield 64, .lload_n 1, .invokevirtual 277, .invokevirtual 277, .lreturn] := (rfl)
