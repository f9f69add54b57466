/-! the law: its loop -/
theorem jV_18 (f : List Instr → Prop) : lk1 gV 18 f = f [.iload_n 3, .aload_n 0, .arraylength, .iconst 5, .isub, .if_icmp .gt 1315, .aload_n 0, .iload_n 3, .iaload, .bipush 63, .iand, .tableswitch 1300 0 36 #[164, 197, 230, 243, 266, 289, 302, 315, 348, 421, 455, 489, 563, 637, 680, 703, 716, 749, 772, 805, 848, 881, 904, 937, 970, 1033, 1046, 1069, 1082, 1095, 1158, 1181, 1204, 1227, 1240, 1263, 1286]] := (rfl)
theorem jV_196 (f : List Instr → Prop) : lk1 gV 196 f = f [.aload_n 1, .aload_n 0, .iload_n 3, .iconst 1, .iadd, .iaload, .aload_n 0, .iload_n 3, .iconst 2, .iadd, .iaload, .invokevirtual 13, .aload_n 2, .aload_n 0, .iload_n 3, .iconst 1, .iadd, .iaload, .aload_n 0, .iload_n 3, .iconst 2, .iadd, .iaload, .invokevirtual 17, .if_icmp .eq 1108, .iconst 0, .ireturn] := (rfl)
theorem jV_229 (f : List Instr → Prop) : lk1 gV 229 f = f [.aload_n 1, .aload_n 0, .iload_n 3, .iconst 1, .iadd, .iaload, .aload_n 0, .iload_n 3, .iconst 2, .iadd, .iaload, .invokevirtual 18, .aload_n 2, .aload_n 0, .iload_n 3, .iconst 1, .iadd, .iaload, .aload_n 0, .iload_n 3, .iconst 2, .iadd, .iaload, .invokevirtual 21, .if_icmp .eq 1075, .iconst 0, .ireturn] := (rfl)
theorem jV_262 (f : List Instr → Prop) : lk1 gV 262 f = f [.aload_n 1, .invokevirtual 22, .aload_n 2, .invokevirtual 26, .if_icmp .eq 1062, .iconst 0, .ireturn] := (rfl)
theorem jV_275 (f : List Instr → Prop) : lk1 gV 275 f = f [.aload_n 1, .aload_n 0, .iload_n 3, .iconst 1, .iadd, .iaload, .invokevirtual 27, .aload_n 2, .aload_n 0, .iload_n 3, .iconst 1, .iadd, .iaload, .invokevirtual 31, .if_icmp .eq 1039, .iconst 0, .ireturn] := (rfl)
theorem jV_298 (f : List Instr → Prop) : lk1 gV 298 f = f [.aload_n 1, .aload_n 0, .iload_n 3, .iconst 1, .iadd, .iaload, .invokevirtual 32, .aload_n 2, .aload_n 0, .iload_n 3, .iconst 1, .iadd, .iaload, .invokevirtual 35, .if_icmp .eq 1016, .iconst 0, .ireturn] := (rfl)
theorem jV_321 (f : List Instr → Prop) : lk1 gV 321 f = f [.aload_n 1, .invokevirtual 36, .aload_n 2, .invokevirtual 39, .if_icmp .eq 1003, .iconst 0, .ireturn] := (rfl)
theorem jV_334 (f : List Instr → Prop) : lk1 gV 334 f = f [.aload_n 1, .invokevirtual 40, .aload_n 2, .invokevirtual 43, .if_icmp .eq 990, .iconst 0, .ireturn] := (rfl)
theorem jV_347 (f : List Instr → Prop) : lk1 gV 347 f = f [.aload_n 1, .aload_n 0, .iload_n 3, .iconst 1, .iadd, .iaload, .aload_n 0, .iload_n 3, .iconst 2, .iadd, .iaload, .invokevirtual 44, .aload_n 2, .aload_n 0, .iload_n 3, .iconst 1, .iadd, .iaload, .aload_n 0, .iload_n 3, .iconst 2, .iadd, .iaload, .invokevirtual 47, .if_icmp .eq 957, .iconst 0, .ireturn] := (rfl)
theorem jV_380 (f : List Instr → Prop) : lk1 gV 380 f = f (.aload_n 1 :: .aload_n 0 :: .iload_n 3 :: .iconst 1 :: .iadd :: .iaload :: .aload_n 0 :: .iload_n 3 :: .iconst 2 :: .iadd :: .iaload :: .i2l :: .bipush 32 :: .lshl :: .aload_n 0 :: .iload_n 3 :: .iconst 3 :: .iadd :: .iaload :: .i2l :: .ldc2_w 48 :: .land :: .lor :: .aload_n 0 :: .iload_n 3 :: .iconst 4 :: .iadd :: .iaload :: .invokevirtual 50 :: .aload_n 2 :: .aload_n 0 :: .iload_n 3 :: .iconst 1 :: .iadd :: .iaload :: .aload_n 0 :: .iload_n 3 :: .iconst 2 :: .iadd :: .iaload :: .i2l :: .bipush 32 :: .lshl :: .aload_n 0 :: .iload_n 3 :: .iconst 3 :: .iadd :: .iaload :: .i2l :: .ldc2_w 48 :: .land :: .lor :: .aload_n 0 :: .iload_n 3 :: .iconst 4 :: .iadd :: .iaload :: .invokevirtual 54 :: .if_icmp .eq 884 :: .iconst 0 :: .ireturn :: []) := (rfl)
theorem jV_453 (f : List Instr → Prop) : lk1 gV 453 f = f [.aload_n 1, .aload_n 0, .iload_n 3, .iconst 1, .iadd, .iaload, .aload_n 0, .iload_n 3, .iconst 2, .iadd, .iaload, .invokevirtual 55, .aload_n 2, .aload_n 0, .iload_n 3, .iconst 1, .iadd, .iaload, .aload_n 0, .iload_n 3, .iconst 2, .iadd, .iaload, .invokevirtual 59, .lcmp, .ifCond .eq 850, .iconst 0, .ireturn] := (rfl)
theorem jV_487 (f : List Instr → Prop) : lk1 gV 487 f = f [.aload_n 1, .aload_n 0, .iload_n 3, .iconst 1, .iadd, .iaload, .aload_n 0, .iload_n 3, .iconst 2, .iadd, .iaload, .invokevirtual 60, .aload_n 2, .aload_n 0, .iload_n 3, .iconst 1, .iadd, .iaload, .aload_n 0, .iload_n 3, .iconst 2, .iadd, .iaload, .invokevirtual 63, .lcmp, .ifCond .eq 816, .iconst 0, .ireturn] := (rfl)
theorem jV_521 (f : List Instr → Prop) : lk1 gV 521 f = f (.aload_n 1 :: .aload_n 0 :: .iload_n 3 :: .iconst 1 :: .iadd :: .iaload :: .aload_n 0 :: .iload_n 3 :: .iconst 2 :: .iadd :: .iaload :: .i2l :: .bipush 32 :: .lshl :: .aload_n 0 :: .iload_n 3 :: .iconst 3 :: .iadd :: .iaload :: .i2l :: .ldc2_w 48 :: .land :: .lor :: .aload_n 0 :: .iload_n 3 :: .iconst 4 :: .iadd :: .iaload :: .invokevirtual 64 :: .aload_n 2 :: .aload_n 0 :: .iload_n 3 :: .iconst 1 :: .iadd :: .iaload :: .aload_n 0 :: .iload_n 3 :: .iconst 2 :: .iadd :: .iaload :: .i2l :: .bipush 32 :: .lshl :: .aload_n 0 :: .iload_n 3 :: .iconst 3 :: .iadd :: .iaload :: .i2l :: .ldc2_w 48 :: .land :: .lor :: .aload_n 0 :: .iload_n 3 :: .iconst 4 :: .iadd :: .iaload :: .invokevirtual 68 :: .lcmp :: .ifCond .eq 742 :: .iconst 0 :: .ireturn :: []) := (rfl)
theorem jV_595 (f : List Instr → Prop) : lk1 gV 595 f = f (.aload_n 1 :: .aload_n 0 :: .iload_n 3 :: .iconst 1 :: .iadd :: .iaload :: .aload_n 0 :: .iload_n 3 :: .iconst 2 :: .iadd :: .iaload :: .i2l :: .bipush 32 :: .lshl :: .aload_n 0 :: .iload_n 3 :: .iconst 3 :: .iadd :: .iaload :: .i2l :: .ldc2_w 48 :: .land :: .lor :: .aload_n 0 :: .iload_n 3 :: .iconst 4 :: .iadd :: .iaload :: .invokevirtual 69 :: .aload_n 2 :: .aload_n 0 :: .iload_n 3 :: .iconst 1 :: .iadd :: .iaload :: .aload_n 0 :: .iload_n 3 :: .iconst 2 :: .iadd :: .iaload :: .i2l :: .bipush 32 :: .lshl :: .aload_n 0 :: .iload_n 3 :: .iconst 3 :: .iadd :: .iaload :: .i2l :: .ldc2_w 48 :: .land :: .lor :: .aload_n 0 :: .iload_n 3 :: .iconst 4 :: .iadd :: .iaload :: .invokevirtual 72 :: .lcmp :: .ifCond .eq 668 :: .iconst 0 :: .ireturn :: []) := (rfl)
theorem jV_669 (f : List Instr → Prop) : lk1 gV 669 f = f (.aload_n 1 :: .aload_n 0 :: .iload_n 3 :: .iconst 1 :: .iadd :: .iaload :: .aload_n 0 :: .iload_n 3 :: .iconst 2 :: .iadd :: .iaload :: .aload_n 0 :: .iload_n 3 :: .iconst 3 :: .iadd :: .iaload :: .invokevirtual 73 :: .aload_n 2 :: .aload_n 0 :: .iload_n 3 :: .iconst 1 :: .iadd :: .iaload :: .aload_n 0 :: .iload_n 3 :: .iconst 2 :: .iadd :: .iaload :: .aload_n 0 :: .iload_n 3 :: .iconst 3 :: .iadd :: .iaload :: .invokevirtual 77 :: .if_icmp .eq 625 :: .iconst 0 :: .ireturn :: []) := (rfl)
theorem jV_712 (f : List Instr → Prop) : lk1 gV 712 f = f [.aload_n 1, .aload_n 0, .iload_n 3, .iconst 1, .iadd, .iaload, .invokevirtual 78, .aload_n 2, .aload_n 0, .iload_n 3, .iconst 1, .iadd, .iaload, .invokevirtual 81, .if_icmp .eq 602, .iconst 0, .ireturn] := (rfl)
theorem jV_735 (f : List Instr → Prop) : lk1 gV 735 f = f [.aload_n 1, .invokevirtual 82, .aload_n 2, .invokevirtual 85, .if_icmp .eq 589, .iconst 0, .ireturn] := (rfl)
theorem jV_748 (f : List Instr → Prop) : lk1 gV 748 f = f [.aload_n 1, .aload_n 0, .iload_n 3, .iconst 1, .iadd, .iaload, .aload_n 0, .iload_n 3, .iconst 2, .iadd, .iaload, .invokevirtual 86, .aload_n 2, .aload_n 0, .iload_n 3, .iconst 1, .iadd, .iaload, .aload_n 0, .iload_n 3, .iconst 2, .iadd, .iaload, .invokevirtual 89, .if_icmp .eq 556, .iconst 0, .ireturn] := (rfl)
theorem jV_781 (f : List Instr → Prop) : lk1 gV 781 f = f [.aload_n 1, .aload_n 0, .iload_n 3, .iconst 1, .iadd, .iaload, .invokevirtual 90, .aload_n 2, .aload_n 0, .iload_n 3, .iconst 1, .iadd, .iaload, .invokevirtual 93, .if_icmp .eq 533, .iconst 0, .ireturn] := (rfl)
theorem jV_804 (f : List Instr → Prop) : lk1 gV 804 f = f [.aload_n 1, .aload_n 0, .iload_n 3, .iconst 1, .iadd, .iaload, .aload_n 0, .iload_n 3, .iconst 2, .iadd, .iaload, .invokevirtual 94, .aload_n 2, .aload_n 0, .iload_n 3, .iconst 1, .iadd, .iaload, .aload_n 0, .iload_n 3, .iconst 2, .iadd, .iaload, .invokevirtual 97, .if_icmp .eq 500, .iconst 0, .ireturn] := (rfl)
theorem jV_837 (f : List Instr → Prop) : lk1 gV 837 f = f (.aload_n 1 :: .aload_n 0 :: .iload_n 3 :: .iconst 1 :: .iadd :: .iaload :: .aload_n 0 :: .iload_n 3 :: .iconst 2 :: .iadd :: .iaload :: .aload_n 0 :: .iload_n 3 :: .iconst 3 :: .iadd :: .iaload :: .invokevirtual 98 :: .aload_n 2 :: .aload_n 0 :: .iload_n 3 :: .iconst 1 :: .iadd :: .iaload :: .aload_n 0 :: .iload_n 3 :: .iconst 2 :: .iadd :: .iaload :: .aload_n 0 :: .iload_n 3 :: .iconst 3 :: .iadd :: .iaload :: .invokevirtual 101 :: .if_icmp .eq 457 :: .iconst 0 :: .ireturn :: []) := (rfl)
theorem jV_880 (f : List Instr → Prop) : lk1 gV 880 f = f [.aload_n 1, .aload_n 0, .iload_n 3, .iconst 1, .iadd, .iaload, .aload_n 0, .iload_n 3, .iconst 2, .iadd, .iaload, .invokevirtual 102, .aload_n 2, .aload_n 0, .iload_n 3, .iconst 1, .iadd, .iaload, .aload_n 0, .iload_n 3, .iconst 2, .iadd, .iaload, .invokevirtual 105, .if_icmp .eq 424, .iconst 0, .ireturn] := (rfl)
theorem jV_913 (f : List Instr → Prop) : lk1 gV 913 f = f [.aload_n 1, .aload_n 0, .iload_n 3, .iconst 1, .iadd, .iaload, .invokevirtual 106, .aload_n 2, .aload_n 0, .iload_n 3, .iconst 1, .iadd, .iaload, .invokevirtual 109, .if_icmp .eq 401, .iconst 0, .ireturn] := (rfl)
theorem jV_936 (f : List Instr → Prop) : lk1 gV 936 f = f [.aload_n 1, .aload_n 0, .iload_n 3, .iconst 1, .iadd, .iaload, .aload_n 0, .iload_n 3, .iconst 2, .iadd, .iaload, .invokevirtual 110, .aload_n 2, .aload_n 0, .iload_n 3, .iconst 1, .iadd, .iaload, .aload_n 0, .iload_n 3, .iconst 2, .iadd, .iaload, .invokevirtual 113, .if_icmp .eq 368, .iconst 0, .ireturn] := (rfl)
theorem jV_969 (f : List Instr → Prop) : lk1 gV 969 f = f [.aload_n 1, .aload_n 0, .iload_n 3, .iconst 1, .iadd, .iaload, .aload_n 0, .iload_n 3, .iconst 2, .iadd, .iaload, .invokevirtual 114, .aload_n 2, .aload_n 0, .iload_n 3, .iconst 1, .iadd, .iaload, .aload_n 0, .iload_n 3, .iconst 2, .iadd, .iaload, .invokevirtual 117, .if_icmp .eq 335, .iconst 0, .ireturn] := (rfl)
theorem jV_1002 (f : List Instr → Prop) : lk1 gV 1002 f = f (.aload_n 1 :: .aload_n 0 :: .iload_n 3 :: .iconst 1 :: .iadd :: .iaload :: .i2l :: .bipush 32 :: .lshl :: .aload_n 0 :: .iload_n 3 :: .iconst 2 :: .iadd :: .iaload :: .i2l :: .ldc2_w 48 :: .land :: .lor :: .aload_n 0 :: .iload_n 3 :: .iconst 3 :: .iadd :: .iaload :: .invokevirtual 118 :: .aload_n 2 :: .aload_n 0 :: .iload_n 3 :: .iconst 1 :: .iadd :: .iaload :: .i2l :: .bipush 32 :: .lshl :: .aload_n 0 :: .iload_n 3 :: .iconst 2 :: .iadd :: .iaload :: .i2l :: .ldc2_w 48 :: .land :: .lor :: .aload_n 0 :: .iload_n 3 :: .iconst 3 :: .iadd :: .iaload :: .invokevirtual 122 :: .if_icmp .eq 272 :: .iconst 0 :: .ireturn :: []) := (rfl)
theorem jV_1065 (f : List Instr → Prop) : lk1 gV 1065 f = f [.aload_n 1, .invokevirtual 123, .aload_n 2, .invokevirtual 126, .if_icmp .eq 259, .iconst 0, .ireturn] := (rfl)
theorem jV_1078 (f : List Instr → Prop) : lk1 gV 1078 f = f [.aload_n 1, .aload_n 0, .iload_n 3, .iconst 1, .iadd, .iaload, .invokevirtual 127, .aload_n 2, .aload_n 0, .iload_n 3, .iconst 1, .iadd, .iaload, .invokevirtual 130, .if_icmp .eq 236, .iconst 0, .ireturn] := (rfl)
theorem jV_1101 (f : List Instr → Prop) : lk1 gV 1101 f = f [.aload_n 1, .invokevirtual 131, .aload_n 2, .invokevirtual 134, .if_icmp .eq 223, .iconst 0, .ireturn] := (rfl)
theorem jV_1114 (f : List Instr → Prop) : lk1 gV 1114 f = f [.aload_n 1, .invokevirtual 135, .aload_n 2, .invokevirtual 138, .if_icmp .eq 210, .iconst 0, .ireturn] := (rfl)
theorem jV_1127 (f : List Instr → Prop) : lk1 gV 1127 f = f (.aload_n 1 :: .aload_n 0 :: .iload_n 3 :: .iconst 1 :: .iadd :: .iaload :: .i2l :: .bipush 32 :: .lshl :: .aload_n 0 :: .iload_n 3 :: .iconst 2 :: .iadd :: .iaload :: .i2l :: .ldc2_w 48 :: .land :: .lor :: .aload_n 0 :: .iload_n 3 :: .iconst 3 :: .iadd :: .iaload :: .invokevirtual 139 :: .aload_n 2 :: .aload_n 0 :: .iload_n 3 :: .iconst 1 :: .iadd :: .iaload :: .i2l :: .bipush 32 :: .lshl :: .aload_n 0 :: .iload_n 3 :: .iconst 2 :: .iadd :: .iaload :: .i2l :: .ldc2_w 48 :: .land :: .lor :: .aload_n 0 :: .iload_n 3 :: .iconst 3 :: .iadd :: .iaload :: .invokevirtual 142 :: .if_icmp .eq 147 :: .iconst 0 :: .ireturn :: []) := (rfl)
theorem jV_1190 (f : List Instr → Prop) : lk1 gV 1190 f = f [.aload_n 1, .aload_n 0, .iload_n 3, .iconst 1, .iadd, .iaload, .invokevirtual 143, .aload_n 2, .aload_n 0, .iload_n 3, .iconst 1, .iadd, .iaload, .invokevirtual 146, .if_icmp .eq 124, .iconst 0, .ireturn] := (rfl)
theorem jV_1213 (f : List Instr → Prop) : lk1 gV 1213 f = f [.aload_n 1, .aload_n 0, .iload_n 3, .iconst 1, .iadd, .iaload, .invokevirtual 147, .aload_n 2, .aload_n 0, .iload_n 3, .iconst 1, .iadd, .iaload, .invokevirtual 150, .if_icmp .eq 101, .iconst 0, .ireturn] := (rfl)
theorem jV_1236 (f : List Instr → Prop) : lk1 gV 1236 f = f [.aload_n 1, .aload_n 0, .iload_n 3, .iconst 1, .iadd, .iaload, .invokevirtual 151, .aload_n 2, .aload_n 0, .iload_n 3, .iconst 1, .iadd, .iaload, .invokevirtual 154, .if_icmp .eq 78, .iconst 0, .ireturn] := (rfl)
theorem jV_1259 (f : List Instr → Prop) : lk1 gV 1259 f = f [.aload_n 1, .invokevirtual 155, .aload_n 2, .invokevirtual 158, .if_icmp .eq 65, .iconst 0, .ireturn] := (rfl)
theorem jV_1272 (f : List Instr → Prop) : lk1 gV 1272 f = f [.aload_n 1, .aload_n 0, .iload_n 3, .iconst 1, .iadd, .iaload, .invokevirtual 159, .aload_n 2, .aload_n 0, .iload_n 3, .iconst 1, .iadd, .iaload, .invokevirtual 162, .if_icmp .eq 42, .iconst 0, .ireturn] := (rfl)
theorem jV_1295 (f : List Instr → Prop) : lk1 gV 1295 f = f [.aload_n 1, .aload_n 0, .iload_n 3, .iconst 1, .iadd, .iaload, .invokevirtual 163, .aload_n 2, .aload_n 0, .iload_n 3, .iconst 1, .iadd, .iaload, .invokevirtual 165, .if_icmp .eq 19, .iconst 0, .ireturn] := (rfl)
theorem jV_1318 (f : List Instr → Prop) : lk1 gV 1318 f = f [.aload_n 1, .invokevirtual 166, .aload_n 2, .invokevirtual 170, .lcmp, .ifCond .eq 5, .iconst 0, .ireturn] := (rfl)
theorem jV_1332 (f : List Instr → Prop) : lk1 gV 1332 f = f [.iinc 3 5, .goto (-1317)] := (rfl)
theorem jV_1338 (f : List Instr → Prop) : lk1 gV 1338 f = f [.iconst 1, .ireturn] := (rfl)
def ΓV : List (Nat × Nat × Nat × Spec) := ((13, 9, 2, s_X_runs) :: (17, 10, 2, s_M_runs) :: (18, 9, 2, s_X_word) :: (21, 10, 2, s_M_word) :: (22, 9, 0, s_X_clearWords) :: (26, 10, 0, s_M_clearWords) :: (27, 9, 1, s_X_lean) :: (31, 10, 1, s_M_lean) :: (32, 9, 1, s_X_ban) :: (35, 10, 1, s_M_ban) :: (36, 9, 0, s_X_build) :: (39, 10, 0, s_M_build) :: (40, 9, 0, s_X_states) :: (43, 10, 0, s_M_states) :: (44, 9, 2, s_X_go) :: (47, 10, 2, s_M_go) :: (50, 9, 3, s_X_walk) :: (54, 10, 3, s_M_walk) :: (55, 9, 2, s_X_first) :: (59, 10, 2, s_M_first) :: (60, 9, 2, s_X_count) :: (63, 10, 2, s_M_count) :: (64, 9, 3, s_X_number) :: (68, 10, 3, s_M_number) :: (69, 9, 3, s_X_row) :: (72, 10, 3, s_M_row) :: (73, 9, 3, s_X_ways) :: (77, 10, 3, s_M_ways) :: (78, 9, 1, s_X_mark) :: (81, 10, 1, s_M_mark) :: (82, 9, 0, s_X_marked) :: (85, 10, 0, s_M_marked) :: (86, 9, 2, s_X_weigh) :: (89, 10, 2, s_M_weigh) :: (90, 9, 1, s_X_weight) :: (93, 10, 1, s_M_weight) :: (94, 9, 2, s_X_judge) :: (97, 10, 2, s_M_judge) :: (98, 9, 3, s_X_bestA) :: (101, 10, 3, s_M_best) :: (102, 9, 2, s_X_code) :: (105, 10, 2, s_M_code) :: (106, 9, 1, s_X_member) :: (109, 10, 1, s_M_member) :: (110, 9, 2, s_X_wordOf) :: (113, 10, 2, s_M_wordOf) :: (114, 9, 2, s_X_read) :: (117, 10, 2, s_M_read) :: (118, 9, 2, s_X_say) :: (122, 10, 2, s_M_say) :: (123, 9, 0, s_X_hush) :: (126, 10, 0, s_M_hush) :: (127, 9, 1, s_X_message) :: (130, 10, 1, s_M_message) :: (131, 9, 0, s_X_write) :: (134, 10, 0, s_M_write) :: (135, 9, 0, s_X_tell) :: (138, 10, 0, s_M_tell) :: (139, 9, 2, s_X_put) :: (142, 10, 2, s_M_put) :: (143, 9, 1, s_X_cut) :: (146, 10, 1, s_M_cut) :: (147, 9, 1, s_X_spoil) :: (150, 10, 1, s_M_spoil) :: (151, 9, 1, s_X_plate) :: (154, 10, 1, s_M_plate) :: (155, 9, 0, s_X_check) :: (158, 10, 0, s_M_check) :: (159, 9, 1, s_X_shape) :: (162, 10, 1, s_M_shape) :: (163, 9, 1, s_X_count1) :: (165, 10, 1, s_M_count1) :: (166, 9, 0, s_X_digestW) :: (170, 10, 0, s_M_digestW) :: [])
set_option maxRecDepth 20000 in
theorem ΓV_ok {l : Launch} : ∀ g ∈ ΓV, CalleeOK l R_lawV room_1 g := by
  refine List.forall_mem_cons.mpr ⟨?_, List.forall_mem_cons.mpr ⟨?_, List.forall_mem_cons.mpr ⟨?_, List.forall_mem_cons.mpr ⟨?_, List.forall_mem_cons.mpr ⟨?_, List.forall_mem_cons.mpr ⟨?_, List.forall_mem_cons.mpr ⟨?_, List.forall_mem_cons.mpr ⟨?_, List.forall_mem_cons.mpr ⟨?_, List.forall_mem_cons.mpr ⟨?_, List.forall_mem_cons.mpr ⟨?_, List.forall_mem_cons.mpr ⟨?_, List.forall_mem_cons.mpr ⟨?_, List.forall_mem_cons.mpr ⟨?_, List.forall_mem_cons.mpr ⟨?_, List.forall_mem_cons.mpr ⟨?_, List.forall_mem_cons.mpr ⟨?_, List.forall_mem_cons.mpr ⟨?_, List.forall_mem_cons.mpr ⟨?_, List.forall_mem_cons.mpr ⟨?_, List.forall_mem_cons.mpr ⟨?_, List.forall_mem_cons.mpr ⟨?_, List.forall_mem_cons.mpr ⟨?_, List.forall_mem_cons.mpr ⟨?_, List.forall_mem_cons.mpr ⟨?_, List.forall_mem_cons.mpr ⟨?_, List.forall_mem_cons.mpr ⟨?_, List.forall_mem_cons.mpr ⟨?_, List.forall_mem_cons.mpr ⟨?_, List.forall_mem_cons.mpr ⟨?_, List.forall_mem_cons.mpr ⟨?_, List.forall_mem_cons.mpr ⟨?_, List.forall_mem_cons.mpr ⟨?_, List.forall_mem_cons.mpr ⟨?_, List.forall_mem_cons.mpr ⟨?_, List.forall_mem_cons.mpr ⟨?_, List.forall_mem_cons.mpr ⟨?_, List.forall_mem_cons.mpr ⟨?_, List.forall_mem_cons.mpr ⟨?_, List.forall_mem_cons.mpr ⟨?_, List.forall_mem_cons.mpr ⟨?_, List.forall_mem_cons.mpr ⟨?_, List.forall_mem_cons.mpr ⟨?_, List.forall_mem_cons.mpr ⟨?_, List.forall_mem_cons.mpr ⟨?_, List.forall_mem_cons.mpr ⟨?_, List.forall_mem_cons.mpr ⟨?_, List.forall_mem_cons.mpr ⟨?_, List.forall_mem_cons.mpr ⟨?_, List.forall_mem_cons.mpr ⟨?_, List.forall_mem_cons.mpr ⟨?_, List.forall_mem_cons.mpr ⟨?_, List.forall_mem_cons.mpr ⟨?_, List.forall_mem_cons.mpr ⟨?_, List.forall_mem_cons.mpr ⟨?_, List.forall_mem_cons.mpr ⟨?_, List.forall_mem_cons.mpr ⟨?_, List.forall_mem_cons.mpr ⟨?_, List.forall_mem_cons.mpr ⟨?_, List.forall_mem_cons.mpr ⟨?_, List.forall_mem_cons.mpr ⟨?_, List.forall_mem_cons.mpr ⟨?_, List.forall_mem_cons.mpr ⟨?_, List.forall_mem_cons.mpr ⟨?_, List.forall_mem_cons.mpr ⟨?_, List.forall_mem_cons.mpr ⟨?_, List.forall_mem_cons.mpr ⟨?_, List.forall_mem_cons.mpr ⟨?_, List.forall_mem_cons.mpr ⟨?_, List.forall_mem_cons.mpr ⟨?_, List.forall_mem_cons.mpr ⟨?_, List.forall_mem_cons.mpr ⟨?_, List.forall_mem_cons.mpr ⟨?_, List.forall_mem_cons.mpr ⟨?_, fun _ h => absurd h List.not_mem_nil⟩⟩⟩⟩⟩⟩⟩⟩⟩⟩⟩⟩⟩⟩⟩⟩⟩⟩⟩⟩⟩⟩⟩⟩⟩⟩⟩⟩⟩⟩⟩⟩⟩⟩⟩⟩⟩⟩⟩⟩⟩⟩⟩⟩⟩⟩⟩⟩⟩⟩⟩⟩⟩⟩⟩⟩⟩⟩⟩⟩⟩⟩⟩⟩⟩⟩⟩⟩⟩⟩⟩⟩⟩⟩
  · exact m_X_runs S_X_runs (by decide) l_V_13
  · exact m_M_runs S_M_runs (by decide) l_V_17
  · exact m_X_word S_X_word (by decide) l_V_18
  · exact m_M_word S_M_word (by decide) l_V_21
  · exact m_X_clearWords S_X_clearWords (by decide) l_V_22
  · exact m_M_clearWords S_M_clearWords (by decide) l_V_26
  · exact m_X_lean S_X_lean (by decide) l_V_27
  · exact m_M_lean S_M_lean (by decide) l_V_31
  · exact m_X_ban S_X_ban (by decide) l_V_32
  · exact m_M_ban S_M_ban (by decide) l_V_35
  · exact m_X_build S_X_build (by decide) l_V_36
  · exact m_M_build S_M_build (by decide) l_V_39
  · exact m_X_states S_X_states (by decide) l_V_40
  · exact m_M_states S_M_states (by decide) l_V_43
  · exact m_X_go S_X_go (by decide) l_V_44
  · exact m_M_go S_M_go (by decide) l_V_47
  · exact m_X_walk S_X_walk (by decide) l_V_50
  · exact m_M_walk S_M_walk (by decide) l_V_54
  · exact m_X_first S_X_first (by decide) l_V_55
  · exact m_M_first S_M_first (by decide) l_V_59
  · exact m_X_count S_X_count (by decide) l_V_60
  · exact m_M_count S_M_count (by decide) l_V_63
  · exact m_X_number S_X_number (by decide) l_V_64
  · exact m_M_number S_M_number (by decide) l_V_68
  · exact m_X_row S_X_row (by decide) l_V_69
  · exact m_M_row S_M_row (by decide) l_V_72
  · exact m_X_ways S_X_ways (by decide) l_V_73
  · exact m_M_ways S_M_ways (by decide) l_V_77
  · exact m_X_mark S_X_mark (by decide) l_V_78
  · exact m_M_mark S_M_mark (by decide) l_V_81
  · exact m_X_marked S_X_marked (by decide) l_V_82
  · exact m_M_marked S_M_marked (by decide) l_V_85
  · exact m_X_weigh S_X_weigh (by decide) l_V_86
  · exact m_M_weigh S_M_weigh (by decide) l_V_89
  · exact m_X_weight S_X_weight (by decide) l_V_90
  · exact m_M_weight S_M_weight (by decide) l_V_93
  · exact m_X_judge S_X_judge (by decide) l_V_94
  · exact m_M_judge S_M_judge (by decide) l_V_97
  · exact m_X_best S_X_bestA (by decide) l_V_98
  · exact m_M_best S_M_best (by decide) l_V_101
  · exact m_X_code S_X_code (by decide) l_V_102
  · exact m_M_code S_M_code (by decide) l_V_105
  · exact m_X_member S_X_member (by decide) l_V_106
  · exact m_M_member S_M_member (by decide) l_V_109
  · exact m_X_wordOf S_X_wordOf (by decide) l_V_110
  · exact m_M_wordOf S_M_wordOf (by decide) l_V_113
  · exact m_X_read S_X_read (by decide) l_V_114
  · exact m_M_read S_M_read (by decide) l_V_117
  · exact m_X_say S_X_say (by decide) l_V_118
  · exact m_M_say S_M_say (by decide) l_V_122
  · exact m_X_hush S_X_hush (by decide) l_V_123
  · exact m_M_hush S_M_hush (by decide) l_V_126
  · exact m_X_message S_X_message (by decide) l_V_127
  · exact m_M_message S_M_message (by decide) l_V_130
  · exact m_X_write S_X_write (by decide) l_V_131
  · exact m_M_write S_M_write (by decide) l_V_134
  · exact m_X_tell S_X_tell (by decide) l_V_135
  · exact m_M_tell S_M_tell (by decide) l_V_138
  · exact m_X_put S_X_put (by decide) l_V_139
  · exact m_M_put S_M_put (by decide) l_V_142
  · exact m_X_cut S_X_cut (by decide) l_V_143
  · exact m_M_cut S_M_cut (by decide) l_V_146
  · exact m_X_spoil S_X_spoil (by decide) l_V_147
  · exact m_M_spoil S_M_spoil (by decide) l_V_150
  · exact m_X_plate S_X_plate (by decide) l_V_151
  · exact m_M_plate S_M_plate (by decide) l_V_154
  · exact m_X_check S_X_check (by decide) l_V_155
  · exact m_M_check S_M_check (by decide) l_V_158
  · exact m_X_shape S_X_shape (by decide) l_V_159
  · exact m_M_shape S_M_shape (by decide) l_V_162
  · exact m_X_count1 S_X_count1 (by decide) l_V_163
  · exact m_M_count1 S_M_count1 (by decide) l_V_165
  · exact m_X_digest S_X_digestW (by decide) l_V_166
  · exact m_M_digest S_M_digestW (by decide) l_V_170
theorem hV_13 (f : Nat × Nat × Spec → Prop) : lk1 ΓV 13 f = f (9, 2, s_X_runs) := (rfl)
theorem hV_17 (f : Nat × Nat × Spec → Prop) : lk1 ΓV 17 f = f (10, 2, s_M_runs) := (rfl)
theorem hV_18 (f : Nat × Nat × Spec → Prop) : lk1 ΓV 18 f = f (9, 2, s_X_word) := (rfl)
theorem hV_21 (f : Nat × Nat × Spec → Prop) : lk1 ΓV 21 f = f (10, 2, s_M_word) := (rfl)
theorem hV_22 (f : Nat × Nat × Spec → Prop) : lk1 ΓV 22 f = f (9, 0, s_X_clearWords) := (rfl)
theorem hV_26 (f : Nat × Nat × Spec → Prop) : lk1 ΓV 26 f = f (10, 0, s_M_clearWords) := (rfl)
theorem hV_27 (f : Nat × Nat × Spec → Prop) : lk1 ΓV 27 f = f (9, 1, s_X_lean) := (rfl)
theorem hV_31 (f : Nat × Nat × Spec → Prop) : lk1 ΓV 31 f = f (10, 1, s_M_lean) := (rfl)
theorem hV_32 (f : Nat × Nat × Spec → Prop) : lk1 ΓV 32 f = f (9, 1, s_X_ban) := (rfl)
theorem hV_35 (f : Nat × Nat × Spec → Prop) : lk1 ΓV 35 f = f (10, 1, s_M_ban) := (rfl)
theorem hV_36 (f : Nat × Nat × Spec → Prop) : lk1 ΓV 36 f = f (9, 0, s_X_build) := (rfl)
theorem hV_39 (f : Nat × Nat × Spec → Prop) : lk1 ΓV 39 f = f (10, 0, s_M_build) := (rfl)
theorem hV_40 (f : Nat × Nat × Spec → Prop) : lk1 ΓV 40 f = f (9, 0, s_X_states) := (rfl)
theorem hV_43 (f : Nat × Nat × Spec → Prop) : lk1 ΓV 43 f = f (10, 0, s_M_states) := (rfl)
theorem hV_44 (f : Nat × Nat × Spec → Prop) : lk1 ΓV 44 f = f (9, 2, s_X_go) := (rfl)
theorem hV_47 (f : Nat × Nat × Spec → Prop) : lk1 ΓV 47 f = f (10, 2, s_M_go) := (rfl)
theorem hV_50 (f : Nat × Nat × Spec → Prop) : lk1 ΓV 50 f = f (9, 3, s_X_walk) := (rfl)
theorem hV_54 (f : Nat × Nat × Spec → Prop) : lk1 ΓV 54 f = f (10, 3, s_M_walk) := (rfl)
theorem hV_55 (f : Nat × Nat × Spec → Prop) : lk1 ΓV 55 f = f (9, 2, s_X_first) := (rfl)
theorem hV_59 (f : Nat × Nat × Spec → Prop) : lk1 ΓV 59 f = f (10, 2, s_M_first) := (rfl)
theorem hV_60 (f : Nat × Nat × Spec → Prop) : lk1 ΓV 60 f = f (9, 2, s_X_count) := (rfl)
theorem hV_63 (f : Nat × Nat × Spec → Prop) : lk1 ΓV 63 f = f (10, 2, s_M_count) := (rfl)
theorem hV_64 (f : Nat × Nat × Spec → Prop) : lk1 ΓV 64 f = f (9, 3, s_X_number) := (rfl)
theorem hV_68 (f : Nat × Nat × Spec → Prop) : lk1 ΓV 68 f = f (10, 3, s_M_number) := (rfl)
theorem hV_69 (f : Nat × Nat × Spec → Prop) : lk1 ΓV 69 f = f (9, 3, s_X_row) := (rfl)
theorem hV_72 (f : Nat × Nat × Spec → Prop) : lk1 ΓV 72 f = f (10, 3, s_M_row) := (rfl)
theorem hV_73 (f : Nat × Nat × Spec → Prop) : lk1 ΓV 73 f = f (9, 3, s_X_ways) := (rfl)
theorem hV_77 (f : Nat × Nat × Spec → Prop) : lk1 ΓV 77 f = f (10, 3, s_M_ways) := (rfl)
theorem hV_78 (f : Nat × Nat × Spec → Prop) : lk1 ΓV 78 f = f (9, 1, s_X_mark) := (rfl)
theorem hV_81 (f : Nat × Nat × Spec → Prop) : lk1 ΓV 81 f = f (10, 1, s_M_mark) := (rfl)
theorem hV_82 (f : Nat × Nat × Spec → Prop) : lk1 ΓV 82 f = f (9, 0, s_X_marked) := (rfl)
theorem hV_85 (f : Nat × Nat × Spec → Prop) : lk1 ΓV 85 f = f (10, 0, s_M_marked) := (rfl)
theorem hV_86 (f : Nat × Nat × Spec → Prop) : lk1 ΓV 86 f = f (9, 2, s_X_weigh) := (rfl)
theorem hV_89 (f : Nat × Nat × Spec → Prop) : lk1 ΓV 89 f = f (10, 2, s_M_weigh) := (rfl)
theorem hV_90 (f : Nat × Nat × Spec → Prop) : lk1 ΓV 90 f = f (9, 1, s_X_weight) := (rfl)
theorem hV_93 (f : Nat × Nat × Spec → Prop) : lk1 ΓV 93 f = f (10, 1, s_M_weight) := (rfl)
theorem hV_94 (f : Nat × Nat × Spec → Prop) : lk1 ΓV 94 f = f (9, 2, s_X_judge) := (rfl)
theorem hV_97 (f : Nat × Nat × Spec → Prop) : lk1 ΓV 97 f = f (10, 2, s_M_judge) := (rfl)
theorem hV_98 (f : Nat × Nat × Spec → Prop) : lk1 ΓV 98 f = f (9, 3, s_X_bestA) := (rfl)
theorem hV_101 (f : Nat × Nat × Spec → Prop) : lk1 ΓV 101 f = f (10, 3, s_M_best) := (rfl)
theorem hV_102 (f : Nat × Nat × Spec → Prop) : lk1 ΓV 102 f = f (9, 2, s_X_code) := (rfl)
theorem hV_105 (f : Nat × Nat × Spec → Prop) : lk1 ΓV 105 f = f (10, 2, s_M_code) := (rfl)
theorem hV_106 (f : Nat × Nat × Spec → Prop) : lk1 ΓV 106 f = f (9, 1, s_X_member) := (rfl)
theorem hV_109 (f : Nat × Nat × Spec → Prop) : lk1 ΓV 109 f = f (10, 1, s_M_member) := (rfl)
theorem hV_110 (f : Nat × Nat × Spec → Prop) : lk1 ΓV 110 f = f (9, 2, s_X_wordOf) := (rfl)
theorem hV_113 (f : Nat × Nat × Spec → Prop) : lk1 ΓV 113 f = f (10, 2, s_M_wordOf) := (rfl)
theorem hV_114 (f : Nat × Nat × Spec → Prop) : lk1 ΓV 114 f = f (9, 2, s_X_read) := (rfl)
theorem hV_117 (f : Nat × Nat × Spec → Prop) : lk1 ΓV 117 f = f (10, 2, s_M_read) := (rfl)
theorem hV_118 (f : Nat × Nat × Spec → Prop) : lk1 ΓV 118 f = f (9, 2, s_X_say) := (rfl)
theorem hV_122 (f : Nat × Nat × Spec → Prop) : lk1 ΓV 122 f = f (10, 2, s_M_say) := (rfl)
theorem hV_123 (f : Nat × Nat × Spec → Prop) : lk1 ΓV 123 f = f (9, 0, s_X_hush) := (rfl)
theorem hV_126 (f : Nat × Nat × Spec → Prop) : lk1 ΓV 126 f = f (10, 0, s_M_hush) := (rfl)
theorem hV_127 (f : Nat × Nat × Spec → Prop) : lk1 ΓV 127 f = f (9, 1, s_X_message) := (rfl)
theorem hV_130 (f : Nat × Nat × Spec → Prop) : lk1 ΓV 130 f = f (10, 1, s_M_message) := (rfl)
theorem hV_131 (f : Nat × Nat × Spec → Prop) : lk1 ΓV 131 f = f (9, 0, s_X_write) := (rfl)
theorem hV_134 (f : Nat × Nat × Spec → Prop) : lk1 ΓV 134 f = f (10, 0, s_M_write) := (rfl)
theorem hV_135 (f : Nat × Nat × Spec → Prop) : lk1 ΓV 135 f = f (9, 0, s_X_tell) := (rfl)
theorem hV_138 (f : Nat × Nat × Spec → Prop) : lk1 ΓV 138 f = f (10, 0, s_M_tell) := (rfl)
theorem hV_139 (f : Nat × Nat × Spec → Prop) : lk1 ΓV 139 f = f (9, 2, s_X_put) := (rfl)
theorem hV_142 (f : Nat × Nat × Spec → Prop) : lk1 ΓV 142 f = f (10, 2, s_M_put) := (rfl)
theorem hV_143 (f : Nat × Nat × Spec → Prop) : lk1 ΓV 143 f = f (9, 1, s_X_cut) := (rfl)
theorem hV_146 (f : Nat × Nat × Spec → Prop) : lk1 ΓV 146 f = f (10, 1, s_M_cut) := (rfl)
theorem hV_147 (f : Nat × Nat × Spec → Prop) : lk1 ΓV 147 f = f (9, 1, s_X_spoil) := (rfl)
theorem hV_150 (f : Nat × Nat × Spec → Prop) : lk1 ΓV 150 f = f (10, 1, s_M_spoil) := (rfl)
theorem hV_151 (f : Nat × Nat × Spec → Prop) : lk1 ΓV 151 f = f (9, 1, s_X_plate) := (rfl)
theorem hV_154 (f : Nat × Nat × Spec → Prop) : lk1 ΓV 154 f = f (10, 1, s_M_plate) := (rfl)
theorem hV_155 (f : Nat × Nat × Spec → Prop) : lk1 ΓV 155 f = f (9, 0, s_X_check) := (rfl)
theorem hV_158 (f : Nat × Nat × Spec → Prop) : lk1 ΓV 158 f = f (10, 0, s_M_check) := (rfl)
theorem hV_159 (f : Nat × Nat × Spec → Prop) : lk1 ΓV 159 f = f (9, 1, s_X_shape) := (rfl)
theorem hV_162 (f : Nat × Nat × Spec → Prop) : lk1 ΓV 162 f = f (10, 1, s_M_shape) := (rfl)
theorem hV_163 (f : Nat × Nat × Spec → Prop) : lk1 ΓV 163 f = f (9, 1, s_X_count1) := (rfl)
theorem hV_165 (f : Nat × Nat × Spec → Prop) : lk1 ΓV 165 f = f (10, 1, s_M_count1) := (rfl)
theorem hV_166 (f : Nat × Nat × Spec → Prop) : lk1 ΓV 166 f = f (9, 0, s_X_digestW) := (rfl)
theorem hV_170 (f : Nat × Nat × Spec → Prop) : lk1 ΓV 170 f = f (10, 0, s_M_digestW) := (rfl)
def QV : Option AV → St → Prop := fun v _ => v = some (.inl 1)
abbrev LvV (i : Int) : List AV := [.inr (.inr (some 1000)), .inr (.inr (some 0)), .inr (.inr (some 37)), .inl i]
def SC (xs : Nat → Int) (n : Int) (σ : St) : Prop := σ 1000 = xs ∧ σ 1001 0 = n
def cutV (xs : Nat → Int) (n : Int) : Cuts := [(18, mkC (fun L st u => ∃ i : Int, L = LvV i ∧ st = [] ∧ Inv u ∧ SC xs n u ∧ 0 ≤ i ∧ i ≤ n) (fun L _ _ => ((n - gI L 3).toNat, 0, 0)))]
abbrev wV (xs : Nat → Int) (n : Int) (μ : Option M3) (k pc : Nat) (L st : List AV) (σ : St) : Prop := wpN True [] Q_V ΓV 3 QV gV (cutV xs n) μ k pc L st σ
abbrev bV (xs : Nat → Int) (n : Int) (μ : Option M3) (k pc : Nat) (blk : List Instr) (L st : List AV) (σ : St) : Prop := wpB True [] Q_V ΓV 3 QV (jmp True [] Q_V ΓV 3 QV gV (cutV xs n) μ k) pc blk L st σ
def rm (n i : Int) : Option M3 := some ((n - i).toNat, 0, 0)
theorem at_n {xs : Nat → Int} {n : Int} {μ : Option M3} {pc : Nat} {L st : List AV} {σ : St} {P : Prop} (h : pc ≠ 18) : atC (cutV xs n) μ pc L st σ P = P := by
  unfold cutV
  rw [atC_m h, atC_n]
theorem v_1332 {xs : Nat → Int} {n i : Int} {k : Nat} {σ : St} (hI : Inv σ) (hs : SC xs n σ) (hi : 0 ≤ i ∧ i + 5 ≤ n) : wV xs n (rm n i) (k + 1) 1332 (LvV i) [] σ := by
  unfold wV
  rw [wpN_go, jV_1332]
  show 0 ≤ (1335 : Int) + -1317 ∧ jmp True [] Q_V ΓV 3 QV gV (cutV xs n) (rm n i) k 18 (LvV (i + 5)) [] σ
  refine ⟨by decide, ?_⟩
  rw [jmp_e]
  unfold cutV
  rw [atC_h]
  refine ⟨?_, i + 5, rfl, rfl, hI, hs, by omega, by omega⟩
  show ltM ((n - (i + 5)).toNat, 0, 0) ((n - i).toNat, 0, 0)
  exact Or.inl (by show (n - (i + 5)).toNat < (n - i).toNat; omega)
theorem j_1332 {xs : Nat → Int} {n i : Int} {k : Nat} {σ : St} (hI : Inv σ) (hs : SC xs n σ) (hi : 0 ≤ i ∧ i + 5 ≤ n) : jmp True [] Q_V ΓV 3 QV gV (cutV xs n) (rm n i) (k + 1) 1332 (LvV i) [] σ := by
  rw [jmp_e, at_n (by decide)]
  exact v_1332 hI hs hi
theorem fin_I {xs : Nat → Int} {n i z off : Int} {k pc : Nat} {σ : St} (hz : rI z) (hI : Inv σ) (hs : SC xs n σ) (hi : 0 ≤ i ∧ i + 5 ≤ n) (ho : (pc : Int) + off = 1332) : bV xs n (rm n i) (k + 1) pc [.if_icmp .eq off, .iconst 0, .ireturn] (LvV i) [.inl z, .inl z] σ := by
  unfold bV
  rw [wp_icmp_eq, tgt_e]
  rw [ho]
  exact ⟨by decide, hz, hz, fun _ => j_1332 hI hs hi, fun h => absurd rfl h⟩
theorem fin_L {xs : Nat → Int} {n i z off : Int} {k pc : Nat} {σ : St} (hz : rL z) (hI : Inv σ) (hs : SC xs n σ) (hi : 0 ≤ i ∧ i + 5 ≤ n) (ho : ((pc + 1 : Nat) : Int) + off = 1332) : bV xs n (rm n i) (k + 1) pc [.lcmp, .ifCond .eq off, .iconst 0, .ireturn] (LvV i) [.inr (.inl z), .inr (.inl z)] σ := by
  unfold bV
  rw [wp_lcmp]
  refine ⟨hz, hz, ?_⟩
  have e : cmpZ z z = 0 := by unfold cmpZ; rw [if_neg (Int.lt_irrefl z), if_pos rfl]
  rw [e, wp_if_eq, tgt_e]
  rw [ho]
  exact ⟨by decide, rIc (by decide), fun _ => j_1332 hI hs hi, fun h => absurd rfl h⟩
def lgV (x y : Int) : Int := lorZ (x * 2 ^ 32) (landZ y 4294967295)
theorem smS {xs : Nat → Int} {n : Int} {σ u : St} (h : SC xs n σ) (hs : Sm σ u) : SC xs n u := ⟨hs.1.trans h.1, by rw [hs.2]; exact h.2⟩
set_option maxHeartbeats 4000000 in
theorem sh_0 {xs : Nat → Int} {n i off : Int} {k pc x y : Nat} {SX SM : Spec} {σ : St} (hxs : ∀ j, rI (xs j)) (hI : Inv σ) (hs : SC xs n σ) (hi : 0 ≤ i ∧ i + 5 ≤ n) (hb : ∀ f : List Instr → Prop, lk1 gV pc f = f [.aload_n 1, .invokevirtual x, .aload_n 2, .invokevirtual y, .if_icmp .eq off, .iconst 0, .ireturn]) (hx : ∀ f : Nat × Nat × Spec → Prop, lk1 ΓV x f = f (9, 0, SX)) (hy : ∀ f : Nat × Nat × Spec → Prop, lk1 ΓV y f = f (10, 0, SM)) (ho : ((pc + 8 : Nat) : Int) + off = 1332)
    (hop : OpI σ (SX [.inr (.inr (some 0))] σ) (fun u => SM [.inr (.inr (some 37))] u)) : wV xs n (rm n i) (k + 2) pc (LvV i) [] σ := by
  unfold wV
  rw [wpN_go, hb]
  obtain ⟨hs1, hs2⟩ := id hs
  simp only [hs1, hs2, ↓wp_aload_n0, ↓wp_aload_n1, ↓wp_aload_n2, ↓wp_iload_n3, ↓wp_iconst, ↓wp_iadd, ↓wp_iaload_s, ↓wp_i2l, ↓wp_bipush, ↓wp_lshl, ↓wp_ldc2_w, ↓wp_land, ↓wp_lor, ↓wp_invokevirtual, ↓ldI_0, ↓ldI_s, ↓ldR_0, ↓ldR_s, ↓popI_c, ↓popL_c, ↓popR_c, ↓popN_0, ↓popN_s, catS_n, catS_c, psh_s, psh_n, isLong_i, isLong_l, isLong_r, ↓c_V_100048, hx, hy, reduceIte, true_and, and_true, true_implies, Nat.reduceAdd, Nat.reduceSub, Nat.reduceLT, Nat.reduceLeDiff, Int.reduceLE, Int.reduceLT, Int.reduceNeg, oC_0, oC_37, Nat.zero_add, Nat.add_zero, Nat.lt_add_one, Bool.false_eq_true, Nat.zero_lt_succ, Int.reduceToNat]
  repeat' (with_reducible apply And.intro)
  all_goals first | omega | exact hxs _ | skip
  refine hop _ (fun z u hz hsm hM => ?_)
  have hsu := smS hs hsm
  refine ⟨⟨hsu.1, hsm.2⟩, ?_⟩
  obtain ⟨hs1, hs2⟩ := id hsu
  simp only [hs1, hs2, ↓wp_aload_n0, ↓wp_aload_n1, ↓wp_aload_n2, ↓wp_iload_n3, ↓wp_iconst, ↓wp_iadd, ↓wp_iaload_s, ↓wp_i2l, ↓wp_bipush, ↓wp_lshl, ↓wp_ldc2_w, ↓wp_land, ↓wp_lor, ↓wp_invokevirtual, ↓ldI_0, ↓ldI_s, ↓ldR_0, ↓ldR_s, ↓popI_c, ↓popL_c, ↓popR_c, ↓popN_0, ↓popN_s, catS_n, catS_c, psh_s, psh_n, isLong_i, isLong_l, isLong_r, ↓c_V_100048, hx, hy, reduceIte, true_and, and_true, true_implies, Nat.reduceAdd, Nat.reduceSub, Nat.reduceLT, Nat.reduceLeDiff, Int.reduceLE, Int.reduceLT, Int.reduceNeg, oC_0, oC_37, Nat.zero_add, Nat.add_zero, Nat.lt_add_one, Bool.false_eq_true, Nat.zero_lt_succ, Int.reduceToNat]
  repeat' (with_reducible apply And.intro)
  all_goals first | omega | exact hxs _ | skip
  refine hM _ (fun u2 hsm2 hI2 => ⟨⟨?_, ?_⟩, ?_⟩)
  · exact hsm2.1.trans hs.1
  · exact hsm2.2.trans hsm.2.symm
  · exact fin_I (pc := pc + 8) hz hI2 (smS hs hsm2) hi ho
set_option maxHeartbeats 4000000 in
theorem sh_1 {xs : Nat → Int} {n i off : Int} {k pc x y : Nat} {SX SM : Spec} {σ : St} (hxs : ∀ j, rI (xs j)) (hI : Inv σ) (hs : SC xs n σ) (hi : 0 ≤ i ∧ i + 5 ≤ n) (hb : ∀ f : List Instr → Prop, lk1 gV pc f = f [.aload_n 1, .aload_n 0, .iload_n 3, .iconst 1, .iadd, .iaload, .invokevirtual x, .aload_n 2, .aload_n 0, .iload_n 3, .iconst 1, .iadd, .iaload, .invokevirtual y, .if_icmp .eq off, .iconst 0, .ireturn]) (hx : ∀ f : Nat × Nat × Spec → Prop, lk1 ΓV x f = f (9, 1, SX)) (hy : ∀ f : Nat × Nat × Spec → Prop, lk1 ΓV y f = f (10, 1, SM)) (ho : ((pc + 18 : Nat) : Int) + off = 1332)
    (hop : OpI σ (SX [.inr (.inr (some 0)), .inl (xs (i + 1).toNat)] σ) (fun u => SM [.inr (.inr (some 37)), .inl (xs (i + 1).toNat)] u)) : wV xs n (rm n i) (k + 2) pc (LvV i) [] σ := by
  unfold wV
  rw [wpN_go, hb]
  obtain ⟨hs1, hs2⟩ := id hs
  simp only [hs1, hs2, ↓wp_aload_n0, ↓wp_aload_n1, ↓wp_aload_n2, ↓wp_iload_n3, ↓wp_iconst, ↓wp_iadd, ↓wp_iaload_s, ↓wp_i2l, ↓wp_bipush, ↓wp_lshl, ↓wp_ldc2_w, ↓wp_land, ↓wp_lor, ↓wp_invokevirtual, ↓ldI_0, ↓ldI_s, ↓ldR_0, ↓ldR_s, ↓popI_c, ↓popL_c, ↓popR_c, ↓popN_0, ↓popN_s, catS_n, catS_c, psh_s, psh_n, isLong_i, isLong_l, isLong_r, ↓c_V_100048, hx, hy, reduceIte, true_and, and_true, true_implies, Nat.reduceAdd, Nat.reduceSub, Nat.reduceLT, Nat.reduceLeDiff, Int.reduceLE, Int.reduceLT, Int.reduceNeg, oC_0, oC_37, Nat.zero_add, Nat.add_zero, Nat.lt_add_one, Bool.false_eq_true, Nat.zero_lt_succ, Int.reduceToNat]
  repeat' (with_reducible apply And.intro)
  all_goals first | omega | exact hxs _ | skip
  refine hop _ (fun z u hz hsm hM => ?_)
  have hsu := smS hs hsm
  refine ⟨⟨hsu.1, hsm.2⟩, ?_⟩
  obtain ⟨hs1, hs2⟩ := id hsu
  simp only [hs1, hs2, ↓wp_aload_n0, ↓wp_aload_n1, ↓wp_aload_n2, ↓wp_iload_n3, ↓wp_iconst, ↓wp_iadd, ↓wp_iaload_s, ↓wp_i2l, ↓wp_bipush, ↓wp_lshl, ↓wp_ldc2_w, ↓wp_land, ↓wp_lor, ↓wp_invokevirtual, ↓ldI_0, ↓ldI_s, ↓ldR_0, ↓ldR_s, ↓popI_c, ↓popL_c, ↓popR_c, ↓popN_0, ↓popN_s, catS_n, catS_c, psh_s, psh_n, isLong_i, isLong_l, isLong_r, ↓c_V_100048, hx, hy, reduceIte, true_and, and_true, true_implies, Nat.reduceAdd, Nat.reduceSub, Nat.reduceLT, Nat.reduceLeDiff, Int.reduceLE, Int.reduceLT, Int.reduceNeg, oC_0, oC_37, Nat.zero_add, Nat.add_zero, Nat.lt_add_one, Bool.false_eq_true, Nat.zero_lt_succ, Int.reduceToNat]
  repeat' (with_reducible apply And.intro)
  all_goals first | omega | exact hxs _ | skip
  refine hM _ (fun u2 hsm2 hI2 => ⟨⟨?_, ?_⟩, ?_⟩)
  · exact hsm2.1.trans hs.1
  · exact hsm2.2.trans hsm.2.symm
  · exact fin_I (pc := pc + 18) hz hI2 (smS hs hsm2) hi ho
set_option maxHeartbeats 4000000 in
theorem sh_2 {xs : Nat → Int} {n i off : Int} {k pc x y : Nat} {SX SM : Spec} {σ : St} (hxs : ∀ j, rI (xs j)) (hI : Inv σ) (hs : SC xs n σ) (hi : 0 ≤ i ∧ i + 5 ≤ n) (hb : ∀ f : List Instr → Prop, lk1 gV pc f = f [.aload_n 1, .aload_n 0, .iload_n 3, .iconst 1, .iadd, .iaload, .aload_n 0, .iload_n 3, .iconst 2, .iadd, .iaload, .invokevirtual x, .aload_n 2, .aload_n 0, .iload_n 3, .iconst 1, .iadd, .iaload, .aload_n 0, .iload_n 3, .iconst 2, .iadd, .iaload, .invokevirtual y, .if_icmp .eq off, .iconst 0, .ireturn]) (hx : ∀ f : Nat × Nat × Spec → Prop, lk1 ΓV x f = f (9, 2, SX)) (hy : ∀ f : Nat × Nat × Spec → Prop, lk1 ΓV y f = f (10, 2, SM)) (ho : ((pc + 28 : Nat) : Int) + off = 1332)
    (hop : OpI σ (SX [.inr (.inr (some 0)), .inl (xs (i + 1).toNat), .inl (xs (i + 2).toNat)] σ) (fun u => SM [.inr (.inr (some 37)), .inl (xs (i + 1).toNat), .inl (xs (i + 2).toNat)] u)) : wV xs n (rm n i) (k + 2) pc (LvV i) [] σ := by
  unfold wV
  rw [wpN_go, hb]
  obtain ⟨hs1, hs2⟩ := id hs
  simp only [hs1, hs2, ↓wp_aload_n0, ↓wp_aload_n1, ↓wp_aload_n2, ↓wp_iload_n3, ↓wp_iconst, ↓wp_iadd, ↓wp_iaload_s, ↓wp_i2l, ↓wp_bipush, ↓wp_lshl, ↓wp_ldc2_w, ↓wp_land, ↓wp_lor, ↓wp_invokevirtual, ↓ldI_0, ↓ldI_s, ↓ldR_0, ↓ldR_s, ↓popI_c, ↓popL_c, ↓popR_c, ↓popN_0, ↓popN_s, catS_n, catS_c, psh_s, psh_n, isLong_i, isLong_l, isLong_r, ↓c_V_100048, hx, hy, reduceIte, true_and, and_true, true_implies, Nat.reduceAdd, Nat.reduceSub, Nat.reduceLT, Nat.reduceLeDiff, Int.reduceLE, Int.reduceLT, Int.reduceNeg, oC_0, oC_37, Nat.zero_add, Nat.add_zero, Nat.lt_add_one, Bool.false_eq_true, Nat.zero_lt_succ, Int.reduceToNat]
  repeat' (with_reducible apply And.intro)
  all_goals first | omega | exact hxs _ | skip
  refine hop _ (fun z u hz hsm hM => ?_)
  have hsu := smS hs hsm
  refine ⟨⟨hsu.1, hsm.2⟩, ?_⟩
  obtain ⟨hs1, hs2⟩ := id hsu
  simp only [hs1, hs2, ↓wp_aload_n0, ↓wp_aload_n1, ↓wp_aload_n2, ↓wp_iload_n3, ↓wp_iconst, ↓wp_iadd, ↓wp_iaload_s, ↓wp_i2l, ↓wp_bipush, ↓wp_lshl, ↓wp_ldc2_w, ↓wp_land, ↓wp_lor, ↓wp_invokevirtual, ↓ldI_0, ↓ldI_s, ↓ldR_0, ↓ldR_s, ↓popI_c, ↓popL_c, ↓popR_c, ↓popN_0, ↓popN_s, catS_n, catS_c, psh_s, psh_n, isLong_i, isLong_l, isLong_r, ↓c_V_100048, hx, hy, reduceIte, true_and, and_true, true_implies, Nat.reduceAdd, Nat.reduceSub, Nat.reduceLT, Nat.reduceLeDiff, Int.reduceLE, Int.reduceLT, Int.reduceNeg, oC_0, oC_37, Nat.zero_add, Nat.add_zero, Nat.lt_add_one, Bool.false_eq_true, Nat.zero_lt_succ, Int.reduceToNat]
  repeat' (with_reducible apply And.intro)
  all_goals first | omega | exact hxs _ | skip
  refine hM _ (fun u2 hsm2 hI2 => ⟨⟨?_, ?_⟩, ?_⟩)
  · exact hsm2.1.trans hs.1
  · exact hsm2.2.trans hsm.2.symm
  · exact fin_I (pc := pc + 28) hz hI2 (smS hs hsm2) hi ho
set_option maxHeartbeats 4000000 in
theorem sh_3 {xs : Nat → Int} {n i off : Int} {k pc x y : Nat} {SX SM : Spec} {σ : St} (hxs : ∀ j, rI (xs j)) (hI : Inv σ) (hs : SC xs n σ) (hi : 0 ≤ i ∧ i + 5 ≤ n) (hb : ∀ f : List Instr → Prop, lk1 gV pc f = f (.aload_n 1 :: .aload_n 0 :: .iload_n 3 :: .iconst 1 :: .iadd :: .iaload :: .aload_n 0 :: .iload_n 3 :: .iconst 2 :: .iadd :: .iaload :: .aload_n 0 :: .iload_n 3 :: .iconst 3 :: .iadd :: .iaload :: .invokevirtual x :: .aload_n 2 :: .aload_n 0 :: .iload_n 3 :: .iconst 1 :: .iadd :: .iaload :: .aload_n 0 :: .iload_n 3 :: .iconst 2 :: .iadd :: .iaload :: .aload_n 0 :: .iload_n 3 :: .iconst 3 :: .iadd :: .iaload :: .invokevirtual y :: .if_icmp .eq off :: .iconst 0 :: .ireturn :: [])) (hx : ∀ f : Nat × Nat × Spec → Prop, lk1 ΓV x f = f (9, 3, SX)) (hy : ∀ f : Nat × Nat × Spec → Prop, lk1 ΓV y f = f (10, 3, SM)) (ho : ((pc + 38 : Nat) : Int) + off = 1332)
    (hop : OpI σ (SX [.inr (.inr (some 0)), .inl (xs (i + 1).toNat), .inl (xs (i + 2).toNat), .inl (xs (i + 3).toNat)] σ) (fun u => SM [.inr (.inr (some 37)), .inl (xs (i + 1).toNat), .inl (xs (i + 2).toNat), .inl (xs (i + 3).toNat)] u)) : wV xs n (rm n i) (k + 2) pc (LvV i) [] σ := by
  unfold wV
  rw [wpN_go, hb]
  obtain ⟨hs1, hs2⟩ := id hs
  simp only [hs1, hs2, ↓wp_aload_n0, ↓wp_aload_n1, ↓wp_aload_n2, ↓wp_iload_n3, ↓wp_iconst, ↓wp_iadd, ↓wp_iaload_s, ↓wp_i2l, ↓wp_bipush, ↓wp_lshl, ↓wp_ldc2_w, ↓wp_land, ↓wp_lor, ↓wp_invokevirtual, ↓ldI_0, ↓ldI_s, ↓ldR_0, ↓ldR_s, ↓popI_c, ↓popL_c, ↓popR_c, ↓popN_0, ↓popN_s, catS_n, catS_c, psh_s, psh_n, isLong_i, isLong_l, isLong_r, ↓c_V_100048, hx, hy, reduceIte, true_and, and_true, true_implies, Nat.reduceAdd, Nat.reduceSub, Nat.reduceLT, Nat.reduceLeDiff, Int.reduceLE, Int.reduceLT, Int.reduceNeg, oC_0, oC_37, Nat.zero_add, Nat.add_zero, Nat.lt_add_one, Bool.false_eq_true, Nat.zero_lt_succ, Int.reduceToNat]
  repeat' (with_reducible apply And.intro)
  all_goals first | omega | exact hxs _ | skip
  refine hop _ (fun z u hz hsm hM => ?_)
  have hsu := smS hs hsm
  refine ⟨⟨hsu.1, hsm.2⟩, ?_⟩
  obtain ⟨hs1, hs2⟩ := id hsu
  simp only [hs1, hs2, ↓wp_aload_n0, ↓wp_aload_n1, ↓wp_aload_n2, ↓wp_iload_n3, ↓wp_iconst, ↓wp_iadd, ↓wp_iaload_s, ↓wp_i2l, ↓wp_bipush, ↓wp_lshl, ↓wp_ldc2_w, ↓wp_land, ↓wp_lor, ↓wp_invokevirtual, ↓ldI_0, ↓ldI_s, ↓ldR_0, ↓ldR_s, ↓popI_c, ↓popL_c, ↓popR_c, ↓popN_0, ↓popN_s, catS_n, catS_c, psh_s, psh_n, isLong_i, isLong_l, isLong_r, ↓c_V_100048, hx, hy, reduceIte, true_and, and_true, true_implies, Nat.reduceAdd, Nat.reduceSub, Nat.reduceLT, Nat.reduceLeDiff, Int.reduceLE, Int.reduceLT, Int.reduceNeg, oC_0, oC_37, Nat.zero_add, Nat.add_zero, Nat.lt_add_one, Bool.false_eq_true, Nat.zero_lt_succ, Int.reduceToNat]
  repeat' (with_reducible apply And.intro)
  all_goals first | omega | exact hxs _ | skip
  refine hM _ (fun u2 hsm2 hI2 => ⟨⟨?_, ?_⟩, ?_⟩)
  · exact hsm2.1.trans hs.1
  · exact hsm2.2.trans hsm.2.symm
  · exact fin_I (pc := pc + 38) hz hI2 (smS hs hsm2) hi ho
set_option maxHeartbeats 4000000 in
theorem sh_w {xs : Nat → Int} {n i off : Int} {k pc x y : Nat} {SX SM : Spec} {σ : St} (hxs : ∀ j, rI (xs j)) (hI : Inv σ) (hs : SC xs n σ) (hi : 0 ≤ i ∧ i + 5 ≤ n) (hb : ∀ f : List Instr → Prop, lk1 gV pc f = f (.aload_n 1 :: .aload_n 0 :: .iload_n 3 :: .iconst 1 :: .iadd :: .iaload :: .aload_n 0 :: .iload_n 3 :: .iconst 2 :: .iadd :: .iaload :: .i2l :: .bipush 32 :: .lshl :: .aload_n 0 :: .iload_n 3 :: .iconst 3 :: .iadd :: .iaload :: .i2l :: .ldc2_w 48 :: .land :: .lor :: .aload_n 0 :: .iload_n 3 :: .iconst 4 :: .iadd :: .iaload :: .invokevirtual x :: .aload_n 2 :: .aload_n 0 :: .iload_n 3 :: .iconst 1 :: .iadd :: .iaload :: .aload_n 0 :: .iload_n 3 :: .iconst 2 :: .iadd :: .iaload :: .i2l :: .bipush 32 :: .lshl :: .aload_n 0 :: .iload_n 3 :: .iconst 3 :: .iadd :: .iaload :: .i2l :: .ldc2_w 48 :: .land :: .lor :: .aload_n 0 :: .iload_n 3 :: .iconst 4 :: .iadd :: .iaload :: .invokevirtual y :: .if_icmp .eq off :: .iconst 0 :: .ireturn :: [])) (hx : ∀ f : Nat × Nat × Spec → Prop, lk1 ΓV x f = f (9, 3, SX)) (hy : ∀ f : Nat × Nat × Spec → Prop, lk1 ΓV y f = f (10, 3, SM)) (ho : ((pc + 68 : Nat) : Int) + off = 1332)
    (hop : OpI σ (SX [.inr (.inr (some 0)), .inl (xs (i + 1).toNat), .inr (.inl (lgV (xs (i + 2).toNat) (xs (i + 3).toNat))), .inl (xs (i + 4).toNat)] σ) (fun u => SM [.inr (.inr (some 37)), .inl (xs (i + 1).toNat), .inr (.inl (lgV (xs (i + 2).toNat) (xs (i + 3).toNat))), .inl (xs (i + 4).toNat)] u)) : wV xs n (rm n i) (k + 2) pc (LvV i) [] σ := by
  unfold wV
  rw [wpN_go, hb]
  obtain ⟨hs1, hs2⟩ := id hs
  simp only [hs1, hs2, ↓wp_aload_n0, ↓wp_aload_n1, ↓wp_aload_n2, ↓wp_iload_n3, ↓wp_iconst, ↓wp_iadd, ↓wp_iaload_s, ↓wp_i2l, ↓wp_bipush, ↓wp_lshl, ↓wp_ldc2_w, ↓wp_land, ↓wp_lor, ↓wp_invokevirtual, ↓ldI_0, ↓ldI_s, ↓ldR_0, ↓ldR_s, ↓popI_c, ↓popL_c, ↓popR_c, ↓popN_0, ↓popN_s, catS_n, catS_c, psh_s, psh_n, isLong_i, isLong_l, isLong_r, ↓c_V_100048, hx, hy, reduceIte, true_and, and_true, true_implies, Nat.reduceAdd, Nat.reduceSub, Nat.reduceLT, Nat.reduceLeDiff, Int.reduceLE, Int.reduceLT, Int.reduceNeg, oC_0, oC_37, Nat.zero_add, Nat.add_zero, Nat.lt_add_one, Bool.false_eq_true, Nat.zero_lt_succ, Int.reduceToNat]
  repeat' (with_reducible apply And.intro)
  all_goals first | omega | exact hxs _ | skip
  refine hop _ (fun z u hz hsm hM => ?_)
  have hsu := smS hs hsm
  refine ⟨⟨hsu.1, hsm.2⟩, ?_⟩
  obtain ⟨hs1, hs2⟩ := id hsu
  simp only [hs1, hs2, ↓wp_aload_n0, ↓wp_aload_n1, ↓wp_aload_n2, ↓wp_iload_n3, ↓wp_iconst, ↓wp_iadd, ↓wp_iaload_s, ↓wp_i2l, ↓wp_bipush, ↓wp_lshl, ↓wp_ldc2_w, ↓wp_land, ↓wp_lor, ↓wp_invokevirtual, ↓ldI_0, ↓ldI_s, ↓ldR_0, ↓ldR_s, ↓popI_c, ↓popL_c, ↓popR_c, ↓popN_0, ↓popN_s, catS_n, catS_c, psh_s, psh_n, isLong_i, isLong_l, isLong_r, ↓c_V_100048, hx, hy, reduceIte, true_and, and_true, true_implies, Nat.reduceAdd, Nat.reduceSub, Nat.reduceLT, Nat.reduceLeDiff, Int.reduceLE, Int.reduceLT, Int.reduceNeg, oC_0, oC_37, Nat.zero_add, Nat.add_zero, Nat.lt_add_one, Bool.false_eq_true, Nat.zero_lt_succ, Int.reduceToNat]
  repeat' (with_reducible apply And.intro)
  all_goals first | omega | exact hxs _ | skip
  refine hM _ (fun u2 hsm2 hI2 => ⟨⟨?_, ?_⟩, ?_⟩)
  · exact hsm2.1.trans hs.1
  · exact hsm2.2.trans hsm.2.symm
  · exact fin_I (pc := pc + 68) hz hI2 (smS hs hsm2) hi ho
set_option maxHeartbeats 4000000 in
theorem sh_s {xs : Nat → Int} {n i off : Int} {k pc x y : Nat} {SX SM : Spec} {σ : St} (hxs : ∀ j, rI (xs j)) (hI : Inv σ) (hs : SC xs n σ) (hi : 0 ≤ i ∧ i + 5 ≤ n) (hb : ∀ f : List Instr → Prop, lk1 gV pc f = f (.aload_n 1 :: .aload_n 0 :: .iload_n 3 :: .iconst 1 :: .iadd :: .iaload :: .i2l :: .bipush 32 :: .lshl :: .aload_n 0 :: .iload_n 3 :: .iconst 2 :: .iadd :: .iaload :: .i2l :: .ldc2_w 48 :: .land :: .lor :: .aload_n 0 :: .iload_n 3 :: .iconst 3 :: .iadd :: .iaload :: .invokevirtual x :: .aload_n 2 :: .aload_n 0 :: .iload_n 3 :: .iconst 1 :: .iadd :: .iaload :: .i2l :: .bipush 32 :: .lshl :: .aload_n 0 :: .iload_n 3 :: .iconst 2 :: .iadd :: .iaload :: .i2l :: .ldc2_w 48 :: .land :: .lor :: .aload_n 0 :: .iload_n 3 :: .iconst 3 :: .iadd :: .iaload :: .invokevirtual y :: .if_icmp .eq off :: .iconst 0 :: .ireturn :: [])) (hx : ∀ f : Nat × Nat × Spec → Prop, lk1 ΓV x f = f (9, 2, SX)) (hy : ∀ f : Nat × Nat × Spec → Prop, lk1 ΓV y f = f (10, 2, SM)) (ho : ((pc + 58 : Nat) : Int) + off = 1332)
    (hop : OpI σ (SX [.inr (.inr (some 0)), .inr (.inl (lgV (xs (i + 1).toNat) (xs (i + 2).toNat))), .inl (xs (i + 3).toNat)] σ) (fun u => SM [.inr (.inr (some 37)), .inr (.inl (lgV (xs (i + 1).toNat) (xs (i + 2).toNat))), .inl (xs (i + 3).toNat)] u)) : wV xs n (rm n i) (k + 2) pc (LvV i) [] σ := by
  unfold wV
  rw [wpN_go, hb]
  obtain ⟨hs1, hs2⟩ := id hs
  simp only [hs1, hs2, ↓wp_aload_n0, ↓wp_aload_n1, ↓wp_aload_n2, ↓wp_iload_n3, ↓wp_iconst, ↓wp_iadd, ↓wp_iaload_s, ↓wp_i2l, ↓wp_bipush, ↓wp_lshl, ↓wp_ldc2_w, ↓wp_land, ↓wp_lor, ↓wp_invokevirtual, ↓ldI_0, ↓ldI_s, ↓ldR_0, ↓ldR_s, ↓popI_c, ↓popL_c, ↓popR_c, ↓popN_0, ↓popN_s, catS_n, catS_c, psh_s, psh_n, isLong_i, isLong_l, isLong_r, ↓c_V_100048, hx, hy, reduceIte, true_and, and_true, true_implies, Nat.reduceAdd, Nat.reduceSub, Nat.reduceLT, Nat.reduceLeDiff, Int.reduceLE, Int.reduceLT, Int.reduceNeg, oC_0, oC_37, Nat.zero_add, Nat.add_zero, Nat.lt_add_one, Bool.false_eq_true, Nat.zero_lt_succ, Int.reduceToNat]
  repeat' (with_reducible apply And.intro)
  all_goals first | omega | exact hxs _ | skip
  refine hop _ (fun z u hz hsm hM => ?_)
  have hsu := smS hs hsm
  refine ⟨⟨hsu.1, hsm.2⟩, ?_⟩
  obtain ⟨hs1, hs2⟩ := id hsu
  simp only [hs1, hs2, ↓wp_aload_n0, ↓wp_aload_n1, ↓wp_aload_n2, ↓wp_iload_n3, ↓wp_iconst, ↓wp_iadd, ↓wp_iaload_s, ↓wp_i2l, ↓wp_bipush, ↓wp_lshl, ↓wp_ldc2_w, ↓wp_land, ↓wp_lor, ↓wp_invokevirtual, ↓ldI_0, ↓ldI_s, ↓ldR_0, ↓ldR_s, ↓popI_c, ↓popL_c, ↓popR_c, ↓popN_0, ↓popN_s, catS_n, catS_c, psh_s, psh_n, isLong_i, isLong_l, isLong_r, ↓c_V_100048, hx, hy, reduceIte, true_and, and_true, true_implies, Nat.reduceAdd, Nat.reduceSub, Nat.reduceLT, Nat.reduceLeDiff, Int.reduceLE, Int.reduceLT, Int.reduceNeg, oC_0, oC_37, Nat.zero_add, Nat.add_zero, Nat.lt_add_one, Bool.false_eq_true, Nat.zero_lt_succ, Int.reduceToNat]
  repeat' (with_reducible apply And.intro)
  all_goals first | omega | exact hxs _ | skip
  refine hM _ (fun u2 hsm2 hI2 => ⟨⟨?_, ?_⟩, ?_⟩)
  · exact hsm2.1.trans hs.1
  · exact hsm2.2.trans hsm.2.symm
  · exact fin_I (pc := pc + 58) hz hI2 (smS hs hsm2) hi ho
set_option maxHeartbeats 4000000 in
theorem sh_0L {xs : Nat → Int} {n i off : Int} {k pc x y : Nat} {SX SM : Spec} {σ : St} (hxs : ∀ j, rI (xs j)) (hI : Inv σ) (hs : SC xs n σ) (hi : 0 ≤ i ∧ i + 5 ≤ n) (hb : ∀ f : List Instr → Prop, lk1 gV pc f = f [.aload_n 1, .invokevirtual x, .aload_n 2, .invokevirtual y, .lcmp, .ifCond .eq off, .iconst 0, .ireturn]) (hx : ∀ f : Nat × Nat × Spec → Prop, lk1 ΓV x f = f (9, 0, SX)) (hy : ∀ f : Nat × Nat × Spec → Prop, lk1 ΓV y f = f (10, 0, SM)) (ho : ((pc + 9 : Nat) : Int) + off = 1332)
    (hop : OpL σ (SX [.inr (.inr (some 0))] σ) (fun u => SM [.inr (.inr (some 37))] u)) : wV xs n (rm n i) (k + 2) pc (LvV i) [] σ := by
  unfold wV
  rw [wpN_go, hb]
  obtain ⟨hs1, hs2⟩ := id hs
  simp only [hs1, hs2, ↓wp_aload_n0, ↓wp_aload_n1, ↓wp_aload_n2, ↓wp_iload_n3, ↓wp_iconst, ↓wp_iadd, ↓wp_iaload_s, ↓wp_i2l, ↓wp_bipush, ↓wp_lshl, ↓wp_ldc2_w, ↓wp_land, ↓wp_lor, ↓wp_invokevirtual, ↓ldI_0, ↓ldI_s, ↓ldR_0, ↓ldR_s, ↓popI_c, ↓popL_c, ↓popR_c, ↓popN_0, ↓popN_s, catS_n, catS_c, psh_s, psh_n, isLong_i, isLong_l, isLong_r, ↓c_V_100048, hx, hy, reduceIte, true_and, and_true, true_implies, Nat.reduceAdd, Nat.reduceSub, Nat.reduceLT, Nat.reduceLeDiff, Int.reduceLE, Int.reduceLT, Int.reduceNeg, oC_0, oC_37, Nat.zero_add, Nat.add_zero, Nat.lt_add_one, Bool.false_eq_true, Nat.zero_lt_succ, Int.reduceToNat]
  repeat' (with_reducible apply And.intro)
  all_goals first | omega | exact hxs _ | skip
  refine hop _ (fun z u hz hsm hM => ?_)
  have hsu := smS hs hsm
  refine ⟨⟨hsu.1, hsm.2⟩, ?_⟩
  obtain ⟨hs1, hs2⟩ := id hsu
  simp only [hs1, hs2, ↓wp_aload_n0, ↓wp_aload_n1, ↓wp_aload_n2, ↓wp_iload_n3, ↓wp_iconst, ↓wp_iadd, ↓wp_iaload_s, ↓wp_i2l, ↓wp_bipush, ↓wp_lshl, ↓wp_ldc2_w, ↓wp_land, ↓wp_lor, ↓wp_invokevirtual, ↓ldI_0, ↓ldI_s, ↓ldR_0, ↓ldR_s, ↓popI_c, ↓popL_c, ↓popR_c, ↓popN_0, ↓popN_s, catS_n, catS_c, psh_s, psh_n, isLong_i, isLong_l, isLong_r, ↓c_V_100048, hx, hy, reduceIte, true_and, and_true, true_implies, Nat.reduceAdd, Nat.reduceSub, Nat.reduceLT, Nat.reduceLeDiff, Int.reduceLE, Int.reduceLT, Int.reduceNeg, oC_0, oC_37, Nat.zero_add, Nat.add_zero, Nat.lt_add_one, Bool.false_eq_true, Nat.zero_lt_succ, Int.reduceToNat]
  repeat' (with_reducible apply And.intro)
  all_goals first | omega | exact hxs _ | skip
  refine hM _ (fun u2 hsm2 hI2 => ⟨⟨?_, ?_⟩, ?_⟩)
  · exact hsm2.1.trans hs.1
  · exact hsm2.2.trans hsm.2.symm
  · exact fin_L (pc := pc + 8) hz hI2 (smS hs hsm2) hi ho
set_option maxHeartbeats 4000000 in
theorem sh_2L {xs : Nat → Int} {n i off : Int} {k pc x y : Nat} {SX SM : Spec} {σ : St} (hxs : ∀ j, rI (xs j)) (hI : Inv σ) (hs : SC xs n σ) (hi : 0 ≤ i ∧ i + 5 ≤ n) (hb : ∀ f : List Instr → Prop, lk1 gV pc f = f [.aload_n 1, .aload_n 0, .iload_n 3, .iconst 1, .iadd, .iaload, .aload_n 0, .iload_n 3, .iconst 2, .iadd, .iaload, .invokevirtual x, .aload_n 2, .aload_n 0, .iload_n 3, .iconst 1, .iadd, .iaload, .aload_n 0, .iload_n 3, .iconst 2, .iadd, .iaload, .invokevirtual y, .lcmp, .ifCond .eq off, .iconst 0, .ireturn]) (hx : ∀ f : Nat × Nat × Spec → Prop, lk1 ΓV x f = f (9, 2, SX)) (hy : ∀ f : Nat × Nat × Spec → Prop, lk1 ΓV y f = f (10, 2, SM)) (ho : ((pc + 29 : Nat) : Int) + off = 1332)
    (hop : OpL σ (SX [.inr (.inr (some 0)), .inl (xs (i + 1).toNat), .inl (xs (i + 2).toNat)] σ) (fun u => SM [.inr (.inr (some 37)), .inl (xs (i + 1).toNat), .inl (xs (i + 2).toNat)] u)) : wV xs n (rm n i) (k + 2) pc (LvV i) [] σ := by
  unfold wV
  rw [wpN_go, hb]
  obtain ⟨hs1, hs2⟩ := id hs
  simp only [hs1, hs2, ↓wp_aload_n0, ↓wp_aload_n1, ↓wp_aload_n2, ↓wp_iload_n3, ↓wp_iconst, ↓wp_iadd, ↓wp_iaload_s, ↓wp_i2l, ↓wp_bipush, ↓wp_lshl, ↓wp_ldc2_w, ↓wp_land, ↓wp_lor, ↓wp_invokevirtual, ↓ldI_0, ↓ldI_s, ↓ldR_0, ↓ldR_s, ↓popI_c, ↓popL_c, ↓popR_c, ↓popN_0, ↓popN_s, catS_n, catS_c, psh_s, psh_n, isLong_i, isLong_l, isLong_r, ↓c_V_100048, hx, hy, reduceIte, true_and, and_true, true_implies, Nat.reduceAdd, Nat.reduceSub, Nat.reduceLT, Nat.reduceLeDiff, Int.reduceLE, Int.reduceLT, Int.reduceNeg, oC_0, oC_37, Nat.zero_add, Nat.add_zero, Nat.lt_add_one, Bool.false_eq_true, Nat.zero_lt_succ, Int.reduceToNat]
  repeat' (with_reducible apply And.intro)
  all_goals first | omega | exact hxs _ | skip
  refine hop _ (fun z u hz hsm hM => ?_)
  have hsu := smS hs hsm
  refine ⟨⟨hsu.1, hsm.2⟩, ?_⟩
  obtain ⟨hs1, hs2⟩ := id hsu
  simp only [hs1, hs2, ↓wp_aload_n0, ↓wp_aload_n1, ↓wp_aload_n2, ↓wp_iload_n3, ↓wp_iconst, ↓wp_iadd, ↓wp_iaload_s, ↓wp_i2l, ↓wp_bipush, ↓wp_lshl, ↓wp_ldc2_w, ↓wp_land, ↓wp_lor, ↓wp_invokevirtual, ↓ldI_0, ↓ldI_s, ↓ldR_0, ↓ldR_s, ↓popI_c, ↓popL_c, ↓popR_c, ↓popN_0, ↓popN_s, catS_n, catS_c, psh_s, psh_n, isLong_i, isLong_l, isLong_r, ↓c_V_100048, hx, hy, reduceIte, true_and, and_true, true_implies, Nat.reduceAdd, Nat.reduceSub, Nat.reduceLT, Nat.reduceLeDiff, Int.reduceLE, Int.reduceLT, Int.reduceNeg, oC_0, oC_37, Nat.zero_add, Nat.add_zero, Nat.lt_add_one, Bool.false_eq_true, Nat.zero_lt_succ, Int.reduceToNat]
  repeat' (with_reducible apply And.intro)
  all_goals first | omega | exact hxs _ | skip
  refine hM _ (fun u2 hsm2 hI2 => ⟨⟨?_, ?_⟩, ?_⟩)
  · exact hsm2.1.trans hs.1
  · exact hsm2.2.trans hsm.2.symm
  · exact fin_L (pc := pc + 28) hz hI2 (smS hs hsm2) hi ho
set_option maxHeartbeats 4000000 in
theorem sh_wL {xs : Nat → Int} {n i off : Int} {k pc x y : Nat} {SX SM : Spec} {σ : St} (hxs : ∀ j, rI (xs j)) (hI : Inv σ) (hs : SC xs n σ) (hi : 0 ≤ i ∧ i + 5 ≤ n) (hb : ∀ f : List Instr → Prop, lk1 gV pc f = f (.aload_n 1 :: .aload_n 0 :: .iload_n 3 :: .iconst 1 :: .iadd :: .iaload :: .aload_n 0 :: .iload_n 3 :: .iconst 2 :: .iadd :: .iaload :: .i2l :: .bipush 32 :: .lshl :: .aload_n 0 :: .iload_n 3 :: .iconst 3 :: .iadd :: .iaload :: .i2l :: .ldc2_w 48 :: .land :: .lor :: .aload_n 0 :: .iload_n 3 :: .iconst 4 :: .iadd :: .iaload :: .invokevirtual x :: .aload_n 2 :: .aload_n 0 :: .iload_n 3 :: .iconst 1 :: .iadd :: .iaload :: .aload_n 0 :: .iload_n 3 :: .iconst 2 :: .iadd :: .iaload :: .i2l :: .bipush 32 :: .lshl :: .aload_n 0 :: .iload_n 3 :: .iconst 3 :: .iadd :: .iaload :: .i2l :: .ldc2_w 48 :: .land :: .lor :: .aload_n 0 :: .iload_n 3 :: .iconst 4 :: .iadd :: .iaload :: .invokevirtual y :: .lcmp :: .ifCond .eq off :: .iconst 0 :: .ireturn :: [])) (hx : ∀ f : Nat × Nat × Spec → Prop, lk1 ΓV x f = f (9, 3, SX)) (hy : ∀ f : Nat × Nat × Spec → Prop, lk1 ΓV y f = f (10, 3, SM)) (ho : ((pc + 69 : Nat) : Int) + off = 1332)
    (hop : OpL σ (SX [.inr (.inr (some 0)), .inl (xs (i + 1).toNat), .inr (.inl (lgV (xs (i + 2).toNat) (xs (i + 3).toNat))), .inl (xs (i + 4).toNat)] σ) (fun u => SM [.inr (.inr (some 37)), .inl (xs (i + 1).toNat), .inr (.inl (lgV (xs (i + 2).toNat) (xs (i + 3).toNat))), .inl (xs (i + 4).toNat)] u)) : wV xs n (rm n i) (k + 2) pc (LvV i) [] σ := by
  unfold wV
  rw [wpN_go, hb]
  obtain ⟨hs1, hs2⟩ := id hs
  simp only [hs1, hs2, ↓wp_aload_n0, ↓wp_aload_n1, ↓wp_aload_n2, ↓wp_iload_n3, ↓wp_iconst, ↓wp_iadd, ↓wp_iaload_s, ↓wp_i2l, ↓wp_bipush, ↓wp_lshl, ↓wp_ldc2_w, ↓wp_land, ↓wp_lor, ↓wp_invokevirtual, ↓ldI_0, ↓ldI_s, ↓ldR_0, ↓ldR_s, ↓popI_c, ↓popL_c, ↓popR_c, ↓popN_0, ↓popN_s, catS_n, catS_c, psh_s, psh_n, isLong_i, isLong_l, isLong_r, ↓c_V_100048, hx, hy, reduceIte, true_and, and_true, true_implies, Nat.reduceAdd, Nat.reduceSub, Nat.reduceLT, Nat.reduceLeDiff, Int.reduceLE, Int.reduceLT, Int.reduceNeg, oC_0, oC_37, Nat.zero_add, Nat.add_zero, Nat.lt_add_one, Bool.false_eq_true, Nat.zero_lt_succ, Int.reduceToNat]
  repeat' (with_reducible apply And.intro)
  all_goals first | omega | exact hxs _ | skip
  refine hop _ (fun z u hz hsm hM => ?_)
  have hsu := smS hs hsm
  refine ⟨⟨hsu.1, hsm.2⟩, ?_⟩
  obtain ⟨hs1, hs2⟩ := id hsu
  simp only [hs1, hs2, ↓wp_aload_n0, ↓wp_aload_n1, ↓wp_aload_n2, ↓wp_iload_n3, ↓wp_iconst, ↓wp_iadd, ↓wp_iaload_s, ↓wp_i2l, ↓wp_bipush, ↓wp_lshl, ↓wp_ldc2_w, ↓wp_land, ↓wp_lor, ↓wp_invokevirtual, ↓ldI_0, ↓ldI_s, ↓ldR_0, ↓ldR_s, ↓popI_c, ↓popL_c, ↓popR_c, ↓popN_0, ↓popN_s, catS_n, catS_c, psh_s, psh_n, isLong_i, isLong_l, isLong_r, ↓c_V_100048, hx, hy, reduceIte, true_and, and_true, true_implies, Nat.reduceAdd, Nat.reduceSub, Nat.reduceLT, Nat.reduceLeDiff, Int.reduceLE, Int.reduceLT, Int.reduceNeg, oC_0, oC_37, Nat.zero_add, Nat.add_zero, Nat.lt_add_one, Bool.false_eq_true, Nat.zero_lt_succ, Int.reduceToNat]
  repeat' (with_reducible apply And.intro)
  all_goals first | omega | exact hxs _ | skip
  refine hM _ (fun u2 hsm2 hI2 => ⟨⟨?_, ?_⟩, ?_⟩)
  · exact hsm2.1.trans hs.1
  · exact hsm2.2.trans hsm.2.symm
  · exact fin_L (pc := pc + 68) hz hI2 (smS hs hsm2) hi ho
theorem andZ_r (x y : Int) : rI (iandZ x y) := ⟨by unfold iandZ; have := Int32.le_toInt (Int32.ofInt x &&& Int32.ofInt y); omega, by unfold iandZ; have := Int32.toInt_lt (Int32.ofInt x &&& Int32.ofInt y); omega⟩
theorem xs_L {x y : Int} : rL (lgV x y) := lorZ_r _ _
set_option maxHeartbeats 4000000 in
theorem head_V {xs : Nat → Int} {n i : Int} {σ : St} (hxs : ∀ j, rI (xs j)) (hn : n ≤ 2560) (hI : Inv σ) (hs : SC xs n σ) (hi : 0 ≤ i ∧ i ≤ n) : wV xs n (rm n i) 14 18 (LvV i) [] σ := by
  unfold wV
  rw [wpN_go, jV_18]
  obtain ⟨hs1, hs2⟩ := id hs
  simp only [hs1, hs2, ↓wp_aload_n0, ↓wp_iload_n3, ↓wp_arraylength_s, ↓wp_iconst, ↓wp_isub, ↓wp_icmp_gt, ↓wp_iaload_s, ↓wp_bipush, ↓wp_iand, ↓wp_tableswitch, ↓tgt_e, sw_n, ↓sw_c, jmp_e, reduceIte, true_and, and_true, true_implies]
  refine ⟨by decide, rIc (by omega), rIc (by omega), fun _ => ?_, fun hle => ⟨by omega, by omega, by decide, by decide, andZ_r _ _, by decide, fun _ => ⟨by decide, ?_⟩, ?_⟩⟩
  · rw [at_n (by decide), wpN_go]
    show (([] : List AV) = [] ∧ ((3 : Nat) = 1 ∨ ((3 : Nat) = 3 ∧ ((1 : Int) = 0 ∨ (1 : Int) = 1))) ∧ QV (some (.inl 1)) σ)
    exact ⟨rfl, Or.inr ⟨rfl, Or.inr rfl⟩, rfl⟩
  · rw [at_n (by decide)]
    exact v_1332 hI hs ⟨hi.1, by omega⟩
  have hi5 : 0 ≤ i ∧ i + 5 ≤ n := ⟨hi.1, by omega⟩
  refine ⟨fun _ => ⟨by decide, ?_⟩, fun _ => ⟨by decide, ?_⟩, fun _ => ⟨by decide, ?_⟩, fun _ => ⟨by decide, ?_⟩, fun _ => ⟨by decide, ?_⟩, fun _ => ⟨by decide, ?_⟩, fun _ => ⟨by decide, ?_⟩, fun _ => ⟨by decide, ?_⟩, fun _ => ⟨by decide, ?_⟩, fun _ => ⟨by decide, ?_⟩, fun _ => ⟨by decide, ?_⟩, fun _ => ⟨by decide, ?_⟩, fun _ => ⟨by decide, ?_⟩, fun _ => ⟨by decide, ?_⟩, fun _ => ⟨by decide, ?_⟩, fun _ => ⟨by decide, ?_⟩, fun _ => ⟨by decide, ?_⟩, fun _ => ⟨by decide, ?_⟩, fun _ => ⟨by decide, ?_⟩, fun _ => ⟨by decide, ?_⟩, fun _ => ⟨by decide, ?_⟩, fun _ => ⟨by decide, ?_⟩, fun _ => ⟨by decide, ?_⟩, fun _ => ⟨by decide, ?_⟩, fun _ => ⟨by decide, ?_⟩, fun _ => ⟨by decide, ?_⟩, fun _ => ⟨by decide, ?_⟩, fun _ => ⟨by decide, ?_⟩, fun _ => ⟨by decide, ?_⟩, fun _ => ⟨by decide, ?_⟩, fun _ => ⟨by decide, ?_⟩, fun _ => ⟨by decide, ?_⟩, fun _ => ⟨by decide, ?_⟩, fun _ => ⟨by decide, ?_⟩, fun _ => ⟨by decide, ?_⟩, fun _ => ⟨by decide, ?_⟩, fun _ => ⟨by decide, ?_⟩⟩
  · rw [at_n (by decide)]
    exact sh_2 (off := 1108) hxs hI hs hi5 jV_196 hV_13 hV_17 (by decide) (o_runs hI (hxs _) (hxs _))
  · rw [at_n (by decide)]
    exact sh_2 (off := 1075) hxs hI hs hi5 jV_229 hV_18 hV_21 (by decide) (o_word hI (hxs _) (hxs _))
  · rw [at_n (by decide)]
    exact sh_0 (off := 1062) hxs hI hs hi5 jV_262 hV_22 hV_26 (by decide) (o_clearWords hI )
  · rw [at_n (by decide)]
    exact sh_1 (off := 1039) hxs hI hs hi5 jV_275 hV_27 hV_31 (by decide) (o_lean hI (hxs _))
  · rw [at_n (by decide)]
    exact sh_1 (off := 1016) hxs hI hs hi5 jV_298 hV_32 hV_35 (by decide) (o_ban hI (hxs _))
  · rw [at_n (by decide)]
    exact sh_0 (off := 1003) hxs hI hs hi5 jV_321 hV_36 hV_39 (by decide) (o_build hI )
  · rw [at_n (by decide)]
    exact sh_0 (off := 990) hxs hI hs hi5 jV_334 hV_40 hV_43 (by decide) (o_states hI )
  · rw [at_n (by decide)]
    exact sh_2 (off := 957) hxs hI hs hi5 jV_347 hV_44 hV_47 (by decide) (o_go hI (hxs _) (hxs _))
  · rw [at_n (by decide)]
    exact sh_w (off := 884) hxs hI hs hi5 jV_380 hV_50 hV_54 (by decide) (o_walk hI (hxs _) xs_L (hxs _))
  · rw [at_n (by decide)]
    exact sh_2L (off := 850) hxs hI hs hi5 jV_453 hV_55 hV_59 (by decide) (o_first hI (hxs _) (hxs _))
  · rw [at_n (by decide)]
    exact sh_2L (off := 816) hxs hI hs hi5 jV_487 hV_60 hV_63 (by decide) (o_count hI (hxs _) (hxs _))
  · rw [at_n (by decide)]
    exact sh_wL (off := 742) hxs hI hs hi5 jV_521 hV_64 hV_68 (by decide) (o_number hI (hxs _) xs_L (hxs _))
  · rw [at_n (by decide)]
    exact sh_wL (off := 668) hxs hI hs hi5 jV_595 hV_69 hV_72 (by decide) (o_row hI (hxs _) xs_L (hxs _))
  · rw [at_n (by decide)]
    exact sh_3 (off := 625) hxs hI hs hi5 jV_669 hV_73 hV_77 (by decide) (o_ways hI (hxs _) (hxs _) (hxs _))
  · rw [at_n (by decide)]
    exact sh_1 (off := 602) hxs hI hs hi5 jV_712 hV_78 hV_81 (by decide) (o_mark hI (hxs _))
  · rw [at_n (by decide)]
    exact sh_0 (off := 589) hxs hI hs hi5 jV_735 hV_82 hV_85 (by decide) (o_marked hI )
  · rw [at_n (by decide)]
    exact sh_2 (off := 556) hxs hI hs hi5 jV_748 hV_86 hV_89 (by decide) (o_weigh hI (hxs _) (hxs _))
  · rw [at_n (by decide)]
    exact sh_1 (off := 533) hxs hI hs hi5 jV_781 hV_90 hV_93 (by decide) (o_weight hI (hxs _))
  · rw [at_n (by decide)]
    exact sh_2 (off := 500) hxs hI hs hi5 jV_804 hV_94 hV_97 (by decide) (o_judge hI (hxs _) (hxs _))
  · rw [at_n (by decide)]
    exact sh_3 (off := 457) hxs hI hs hi5 jV_837 hV_98 hV_101 (by decide) (o_best hI (hxs _) (hxs _) (hxs _))
  · rw [at_n (by decide)]
    exact sh_2 (off := 424) hxs hI hs hi5 jV_880 hV_102 hV_105 (by decide) (o_code hI (hxs _) (hxs _))
  · rw [at_n (by decide)]
    exact sh_1 (off := 401) hxs hI hs hi5 jV_913 hV_106 hV_109 (by decide) (o_member hI (hxs _))
  · rw [at_n (by decide)]
    exact sh_2 (off := 368) hxs hI hs hi5 jV_936 hV_110 hV_113 (by decide) (o_wordOf hI (hxs _) (hxs _))
  · rw [at_n (by decide)]
    exact sh_2 (off := 335) hxs hI hs hi5 jV_969 hV_114 hV_117 (by decide) (o_read hI (hxs _) (hxs _))
  · rw [at_n (by decide)]
    exact sh_s (off := 272) hxs hI hs hi5 jV_1002 hV_118 hV_122 (by decide) (o_say hI xs_L (hxs _))
  · rw [at_n (by decide)]
    exact sh_0 (off := 259) hxs hI hs hi5 jV_1065 hV_123 hV_126 (by decide) (o_hush hI )
  · rw [at_n (by decide)]
    exact sh_1 (off := 236) hxs hI hs hi5 jV_1078 hV_127 hV_130 (by decide) (o_message hI (hxs _))
  · rw [at_n (by decide)]
    exact sh_0 (off := 223) hxs hI hs hi5 jV_1101 hV_131 hV_134 (by decide) (o_write hI )
  · rw [at_n (by decide)]
    exact sh_0 (off := 210) hxs hI hs hi5 jV_1114 hV_135 hV_138 (by decide) (o_tell hI )
  · rw [at_n (by decide)]
    exact sh_s (off := 147) hxs hI hs hi5 jV_1127 hV_139 hV_142 (by decide) (o_put hI xs_L (hxs _))
  · rw [at_n (by decide)]
    exact sh_1 (off := 124) hxs hI hs hi5 jV_1190 hV_143 hV_146 (by decide) (o_cut hI (hxs _))
  · rw [at_n (by decide)]
    exact sh_1 (off := 101) hxs hI hs hi5 jV_1213 hV_147 hV_150 (by decide) (o_spoil hI (hxs _))
  · rw [at_n (by decide)]
    exact sh_1 (off := 78) hxs hI hs hi5 jV_1236 hV_151 hV_154 (by decide) (o_plate hI (hxs _))
  · rw [at_n (by decide)]
    exact sh_0 (off := 65) hxs hI hs hi5 jV_1259 hV_155 hV_158 (by decide) (o_check hI )
  · rw [at_n (by decide)]
    exact sh_1 (off := 42) hxs hI hs hi5 jV_1272 hV_159 hV_162 (by decide) (o_shape hI (hxs _))
  · rw [at_n (by decide)]
    exact sh_1 (off := 19) hxs hI hs hi5 jV_1295 hV_163 hV_165 (by decide) (o_count1 hI (hxs _))
  · rw [at_n (by decide)]
    exact sh_0L (off := 5) hxs hI hs hi5 jV_1318 hV_166 hV_170 (by decide) (o_digest hI )
theorem cuts_V {xs : Nat → Int} {n : Int} (hxs : ∀ j, rI (xs j)) (hn : n ≤ 2560) : ∀ q ∈ cutV xs n, ∀ L st σ ν, q.2 L st σ ν → wpN True [] Q_V ΓV 3 QV gV (cutV xs n) (some ν) 14 q.1 L st σ := by
  refine cuts1 (fun L st σ h => ?_) cuts0
  obtain ⟨i, rfl, rfl, hI, hs, hi⟩ := h
  exact head_V hxs hn hI hs hi
