/-! the reference's constructor -/
def yI_M : MethodName := ⟨RX9, "<init>", "()V"⟩
abbrev bI_M : ByteArray := prog_11_method_1_code
theorem dI_M_0 : decode bI_M 0 = .ok (.aload_n 0, 1) := by decide +kernel
theorem dI_M_1 : decode bI_M 1 = .ok (.invokespecial 1, 3) := by decide +kernel
theorem dI_M_4 : decode bI_M 4 = .ok (.aload_n 0, 1) := by decide +kernel
theorem dI_M_5 : decode bI_M 5 = .ok (.iconst (-1), 1) := by decide +kernel
theorem dI_M_6 : decode bI_M 6 = .ok (.putfield 7, 3) := by decide +kernel
theorem dI_M_9 : decode bI_M 9 = .ok (.aload_n 0, 1) := by decide +kernel
theorem dI_M_10 : decode bI_M 10 = .ok (.iconst 4, 1) := by decide +kernel
theorem dI_M_11 : decode bI_M 11 = .ok (.newarray .int, 2) := by decide +kernel
theorem dI_M_13 : decode bI_M 13 = .ok (.putfield 13, 3) := by decide +kernel
theorem dI_M_16 : decode bI_M 16 = .ok (.aload_n 0, 1) := by decide +kernel
theorem dI_M_17 : decode bI_M 17 = .ok (.iconst 4, 1) := by decide +kernel
theorem dI_M_18 : decode bI_M 18 = .ok (.newarray .int, 2) := by decide +kernel
theorem dI_M_20 : decode bI_M 20 = .ok (.putfield 17, 3) := by decide +kernel
theorem dI_M_23 : decode bI_M 23 = .ok (.aload_n 0, 1) := by decide +kernel
theorem dI_M_24 : decode bI_M 24 = .ok (.iconst (-1), 1) := by decide +kernel
theorem dI_M_25 : decode bI_M 25 = .ok (.putfield 20, 3) := by decide +kernel
theorem dI_M_28 : decode bI_M 28 = .ok (.aload_n 0, 1) := by decide +kernel
theorem dI_M_29 : decode bI_M 29 = .ok (.sipush 11264, 3) := by decide +kernel
theorem dI_M_32 : decode bI_M 32 = .ok (.newarray .int, 2) := by decide +kernel
theorem dI_M_34 : decode bI_M 34 = .ok (.putfield 23, 3) := by decide +kernel
theorem dI_M_37 : decode bI_M 37 = .ok (.aload_n 0, 1) := by decide +kernel
theorem dI_M_38 : decode bI_M 38 = .ok (.sipush 11264, 3) := by decide +kernel
theorem dI_M_41 : decode bI_M 41 = .ok (.newarray .int, 2) := by decide +kernel
theorem dI_M_43 : decode bI_M 43 = .ok (.putfield 26, 3) := by decide +kernel
theorem dI_M_46 : decode bI_M 46 = .ok (.aload_n 0, 1) := by decide +kernel
theorem dI_M_47 : decode bI_M 47 = .ok (.sipush 11264, 3) := by decide +kernel
theorem dI_M_50 : decode bI_M 50 = .ok (.newarray .int, 2) := by decide +kernel
theorem dI_M_52 : decode bI_M 52 = .ok (.putfield 29, 3) := by decide +kernel
theorem dI_M_55 : decode bI_M 55 = .ok (.aload_n 0, 1) := by decide +kernel
theorem dI_M_56 : decode bI_M 56 = .ok (.sipush 11264, 3) := by decide +kernel
theorem dI_M_59 : decode bI_M 59 = .ok (.newarray .int, 2) := by decide +kernel
theorem dI_M_61 : decode bI_M 61 = .ok (.putfield 32, 3) := by decide +kernel
theorem dI_M_64 : decode bI_M 64 = .ok (.aload_n 0, 1) := by decide +kernel
theorem dI_M_65 : decode bI_M 65 = .ok (.sipush 11264, 3) := by decide +kernel
theorem dI_M_68 : decode bI_M 68 = .ok (.newarray .boolean, 2) := by decide +kernel
theorem dI_M_70 : decode bI_M 70 = .ok (.putfield 35, 3) := by decide +kernel
theorem dI_M_73 : decode bI_M 73 = .ok (.aload_n 0, 1) := by decide +kernel
theorem dI_M_74 : decode bI_M 74 = .ok (.sipush 11264, 3) := by decide +kernel
theorem dI_M_77 : decode bI_M 77 = .ok (.newarray .int, 2) := by decide +kernel
theorem dI_M_79 : decode bI_M 79 = .ok (.putfield 39, 3) := by decide +kernel
theorem dI_M_82 : decode bI_M 82 = .ok (.aload_n 0, 1) := by decide +kernel
theorem dI_M_83 : decode bI_M 83 = .ok (.sipush 11264, 3) := by decide +kernel
theorem dI_M_86 : decode bI_M 86 = .ok (.newarray .int, 2) := by decide +kernel
theorem dI_M_88 : decode bI_M 88 = .ok (.putfield 42, 3) := by decide +kernel
theorem dI_M_91 : decode bI_M 91 = .ok (.aload_n 0, 1) := by decide +kernel
theorem dI_M_92 : decode bI_M 92 = .ok (.bipush 101, 2) := by decide +kernel
theorem dI_M_94 : decode bI_M 94 = .ok (.newarray .int, 2) := by decide +kernel
theorem dI_M_96 : decode bI_M 96 = .ok (.putfield 45, 3) := by decide +kernel
theorem dI_M_99 : decode bI_M 99 = .ok (.aload_n 0, 1) := by decide +kernel
theorem dI_M_100 : decode bI_M 100 = .ok (.bipush 101, 2) := by decide +kernel
theorem dI_M_102 : decode bI_M 102 = .ok (.newarray .int, 2) := by decide +kernel
theorem dI_M_104 : decode bI_M 104 = .ok (.putfield 48, 3) := by decide +kernel
theorem dI_M_107 : decode bI_M 107 = .ok (.aload_n 0, 1) := by decide +kernel
theorem dI_M_108 : decode bI_M 108 = .ok (.bipush 101, 2) := by decide +kernel
theorem dI_M_110 : decode bI_M 110 = .ok (.newarray .int, 2) := by decide +kernel
theorem dI_M_112 : decode bI_M 112 = .ok (.putfield 51, 3) := by decide +kernel
theorem dI_M_115 : decode bI_M 115 = .ok (.aload_n 0, 1) := by decide +kernel
theorem dI_M_116 : decode bI_M 116 = .ok (.bipush 100, 2) := by decide +kernel
theorem dI_M_118 : decode bI_M 118 = .ok (.newarray .int, 2) := by decide +kernel
theorem dI_M_120 : decode bI_M 120 = .ok (.putfield 54, 3) := by decide +kernel
theorem dI_M_123 : decode bI_M 123 = .ok (.aload_n 0, 1) := by decide +kernel
theorem dI_M_124 : decode bI_M 124 = .ok (.bipush 100, 2) := by decide +kernel
theorem dI_M_126 : decode bI_M 126 = .ok (.newarray .int, 2) := by decide +kernel
theorem dI_M_128 : decode bI_M 128 = .ok (.putfield 57, 3) := by decide +kernel
theorem dI_M_131 : decode bI_M 131 = .ok (.aload_n 0, 1) := by decide +kernel
theorem dI_M_132 : decode bI_M 132 = .ok (.bipush 100, 2) := by decide +kernel
theorem dI_M_134 : decode bI_M 134 = .ok (.newarray .int, 2) := by decide +kernel
theorem dI_M_136 : decode bI_M 136 = .ok (.putfield 60, 3) := by decide +kernel
theorem dI_M_139 : decode bI_M 139 = .ok (.aload_n 0, 1) := by decide +kernel
theorem dI_M_140 : decode bI_M 140 = .ok (.bipush 100, 2) := by decide +kernel
theorem dI_M_142 : decode bI_M 142 = .ok (.newarray .int, 2) := by decide +kernel
theorem dI_M_144 : decode bI_M 144 = .ok (.putfield 63, 3) := by decide +kernel
theorem dI_M_147 : decode bI_M 147 = .ok (.aload_n 0, 1) := by decide +kernel
theorem dI_M_148 : decode bI_M 148 = .ok (.bipush 100, 2) := by decide +kernel
theorem dI_M_150 : decode bI_M 150 = .ok (.newarray .int, 2) := by decide +kernel
theorem dI_M_152 : decode bI_M 152 = .ok (.putfield 66, 3) := by decide +kernel
theorem dI_M_155 : decode bI_M 155 = .ok (.aload_n 0, 1) := by decide +kernel
theorem dI_M_156 : decode bI_M 156 = .ok (.bipush 101, 2) := by decide +kernel
theorem dI_M_158 : decode bI_M 158 = .ok (.newarray .int, 2) := by decide +kernel
theorem dI_M_160 : decode bI_M 160 = .ok (.putfield 69, 3) := by decide +kernel
theorem dI_M_163 : decode bI_M 163 = .ok (.aload_n 0, 1) := by decide +kernel
theorem dI_M_164 : decode bI_M 164 = .ok (.bipush 100, 2) := by decide +kernel
theorem dI_M_166 : decode bI_M 166 = .ok (.newarray .int, 2) := by decide +kernel
theorem dI_M_168 : decode bI_M 168 = .ok (.putfield 72, 3) := by decide +kernel
theorem dI_M_171 : decode bI_M 171 = .ok (.aload_n 0, 1) := by decide +kernel
theorem dI_M_172 : decode bI_M 172 = .ok (.bipush 100, 2) := by decide +kernel
theorem dI_M_174 : decode bI_M 174 = .ok (.newarray .int, 2) := by decide +kernel
theorem dI_M_176 : decode bI_M 176 = .ok (.putfield 75, 3) := by decide +kernel
theorem dI_M_179 : decode bI_M 179 = .ok (.aload_n 0, 1) := by decide +kernel
theorem dI_M_180 : decode bI_M 180 = .ok (.sipush 6100, 3) := by decide +kernel
theorem dI_M_183 : decode bI_M 183 = .ok (.newarray .long, 2) := by decide +kernel
theorem dI_M_185 : decode bI_M 185 = .ok (.putfield 78, 3) := by decide +kernel
theorem dI_M_188 : decode bI_M 188 = .ok (.aload_n 0, 1) := by decide +kernel
theorem dI_M_189 : decode bI_M 189 = .ok (.bipush 100, 2) := by decide +kernel
theorem dI_M_191 : decode bI_M 191 = .ok (.newarray .int, 2) := by decide +kernel
theorem dI_M_193 : decode bI_M 193 = .ok (.putfield 82, 3) := by decide +kernel
theorem dI_M_196 : decode bI_M 196 = .ok (.aload_n 0, 1) := by decide +kernel
theorem dI_M_197 : decode bI_M 197 = .ok (.bipush 100, 2) := by decide +kernel
theorem dI_M_199 : decode bI_M 199 = .ok (.newarray .int, 2) := by decide +kernel
theorem dI_M_201 : decode bI_M 201 = .ok (.putfield 85, 3) := by decide +kernel
theorem dI_M_204 : decode bI_M 204 = .ok (.aload_n 0, 1) := by decide +kernel
theorem dI_M_205 : decode bI_M 205 = .ok (.sipush 10000, 3) := by decide +kernel
theorem dI_M_208 : decode bI_M 208 = .ok (.newarray .int, 2) := by decide +kernel
theorem dI_M_210 : decode bI_M 210 = .ok (.putfield 88, 3) := by decide +kernel
theorem dI_M_213 : decode bI_M 213 = .ok (.aload_n 0, 1) := by decide +kernel
theorem dI_M_214 : decode bI_M 214 = .ok (.bipush 100, 2) := by decide +kernel
theorem dI_M_216 : decode bI_M 216 = .ok (.newarray .boolean, 2) := by decide +kernel
theorem dI_M_218 : decode bI_M 218 = .ok (.putfield 91, 3) := by decide +kernel
theorem dI_M_221 : decode bI_M 221 = .ok (.aload_n 0, 1) := by decide +kernel
theorem dI_M_222 : decode bI_M 222 = .ok (.sipush 240, 3) := by decide +kernel
theorem dI_M_225 : decode bI_M 225 = .ok (.newarray .int, 2) := by decide +kernel
theorem dI_M_227 : decode bI_M 227 = .ok (.putfield 94, 3) := by decide +kernel
theorem dI_M_230 : decode bI_M 230 = .ok (.aload_n 0, 1) := by decide +kernel
theorem dI_M_231 : decode bI_M 231 = .ok (.sipush 600, 3) := by decide +kernel
theorem dI_M_234 : decode bI_M 234 = .ok (.newarray .int, 2) := by decide +kernel
theorem dI_M_236 : decode bI_M 236 = .ok (.putfield 97, 3) := by decide +kernel
theorem dI_M_239 : decode bI_M 239 = .ok (.aload_n 0, 1) := by decide +kernel
theorem dI_M_240 : decode bI_M 240 = .ok (.sipush 600, 3) := by decide +kernel
theorem dI_M_243 : decode bI_M 243 = .ok (.newarray .int, 2) := by decide +kernel
theorem dI_M_245 : decode bI_M 245 = .ok (.putfield 100, 3) := by decide +kernel
theorem dI_M_248 : decode bI_M 248 = .ok (.aload_n 0, 1) := by decide +kernel
theorem dI_M_249 : decode bI_M 249 = .ok (.bipush 100, 2) := by decide +kernel
theorem dI_M_251 : decode bI_M 251 = .ok (.newarray .int, 2) := by decide +kernel
theorem dI_M_253 : decode bI_M 253 = .ok (.putfield 103, 3) := by decide +kernel
theorem dI_M_256 : decode bI_M 256 = .ok (.return_, 1) := by decide +kernel
theorem df_M : ∀ j, j < 42 → defaultValue (tyX9 j) = vp_V [.int (Int32.ofInt 0), .int (Int32.ofInt 0), .int (Int32.ofInt 0), .null, .null, .int (Int32.ofInt 0), .null, .int (Int32.ofInt 0), .null, .null, .null, .null, .null, .null, .null, .null, .null, .int (Int32.ofInt 0), .null, .null, .null, .null, .null, .null, .null, .null, .int (Int32.ofInt 0), .int (Int32.ofInt 0), .null, .null, .null, .null, .int (Int32.ofInt 0), .int (Int32.ofInt 0), .int (Int32.ofInt 0), .null, .int (Int32.ofInt 0), .null, .int (Int32.ofInt 0), .null, .null, .null] j := fun j hj => match j, hj with
  | 0, _ => rfl
  | 1, _ => rfl
  | 2, _ => rfl
  | 3, _ => rfl
  | 4, _ => rfl
  | 5, _ => rfl
  | 6, _ => rfl
  | 7, _ => rfl
  | 8, _ => rfl
  | 9, _ => rfl
  | 10, _ => rfl
  | 11, _ => rfl
  | 12, _ => rfl
  | 13, _ => rfl
  | 14, _ => rfl
  | 15, _ => rfl
  | 16, _ => rfl
  | 17, _ => rfl
  | 18, _ => rfl
  | 19, _ => rfl
  | 20, _ => rfl
  | 21, _ => rfl
  | 22, _ => rfl
  | 23, _ => rfl
  | 24, _ => rfl
  | 25, _ => rfl
  | 26, _ => rfl
  | 27, _ => rfl
  | 28, _ => rfl
  | 29, _ => rfl
  | 30, _ => rfl
  | 31, _ => rfl
  | 32, _ => rfl
  | 33, _ => rfl
  | 34, _ => rfl
  | 35, _ => rfl
  | 36, _ => rfl
  | 37, _ => rfl
  | 38, _ => rfl
  | 39, _ => rfl
  | 40, _ => rfl
  | 41, _ => rfl
  | j + 42, hj => absurd hj (by omega)
def WI_M (cA : Nat → ClassId) (h : Nat) (w : va_W) : Prop := ∃ q1 q2 q3 q4 q5 q6 q7 q8 q9 q10 q11 q12 q13 q14 q15 q16 q17 q18 q19 q20 q21 q22 q23 q24 q25 q26 q27 q28 q29 : Nat, w = [(h, .inr (9, [.int (Int32.ofInt 0), .int (Int32.ofInt (-1)), .int (Int32.ofInt 0), .ref q1, .ref q2, .int (Int32.ofInt (-1)), .ref q3, .int (Int32.ofInt 0), .ref q4, .ref q5, .ref q6, .ref q7, .ref q8, .ref q9, .ref q10, .ref q11, .ref q12, .int (Int32.ofInt 0), .ref q13, .ref q14, .ref q15, .ref q16, .ref q17, .ref q18, .ref q19, .ref q20, .int (Int32.ofInt 0), .int (Int32.ofInt 0), .ref q21, .ref q22, .ref q23, .ref q24, .int (Int32.ofInt 0), .int (Int32.ofInt 0), .int (Int32.ofInt 0), .ref q25, .int (Int32.ofInt 0), .ref q26, .int (Int32.ofInt 0), .ref q27, .ref q28, .ref q29])), (q1, .inl (cA 0, 4, .inl (fun _ => Int32.ofInt 0))), (q2, .inl (cA 0, 4, .inl (fun _ => Int32.ofInt 0))), (q3, .inl (cA 0, 11264, .inl (fun _ => Int32.ofInt 0))), (q4, .inl (cA 0, 11264, .inl (fun _ => Int32.ofInt 0))), (q5, .inl (cA 0, 11264, .inl (fun _ => Int32.ofInt 0))), (q6, .inl (cA 0, 11264, .inl (fun _ => Int32.ofInt 0))), (q7, .inl (cA 2, 11264, .inl (fun _ => Int32.ofInt 0))), (q8, .inl (cA 0, 11264, .inl (fun _ => Int32.ofInt 0))), (q9, .inl (cA 0, 11264, .inl (fun _ => Int32.ofInt 0))), (q10, .inl (cA 0, 101, .inl (fun _ => Int32.ofInt 0))), (q11, .inl (cA 0, 101, .inl (fun _ => Int32.ofInt 0))), (q12, .inl (cA 0, 101, .inl (fun _ => Int32.ofInt 0))), (q13, .inl (cA 0, 100, .inl (fun _ => Int32.ofInt 0))), (q14, .inl (cA 0, 100, .inl (fun _ => Int32.ofInt 0))), (q15, .inl (cA 0, 100, .inl (fun _ => Int32.ofInt 0))), (q16, .inl (cA 0, 100, .inl (fun _ => Int32.ofInt 0))), (q17, .inl (cA 0, 100, .inl (fun _ => Int32.ofInt 0))), (q18, .inl (cA 0, 101, .inl (fun _ => Int32.ofInt 0))), (q19, .inl (cA 0, 100, .inl (fun _ => Int32.ofInt 0))), (q20, .inl (cA 0, 100, .inl (fun _ => Int32.ofInt 0))), (q21, .inl (cA 1, 6100, .inr (.inl (fun _ => Int64.ofInt 0)))), (q22, .inl (cA 0, 100, .inl (fun _ => Int32.ofInt 0))), (q23, .inl (cA 0, 100, .inl (fun _ => Int32.ofInt 0))), (q24, .inl (cA 0, 10000, .inl (fun _ => Int32.ofInt 0))), (q25, .inl (cA 2, 100, .inl (fun _ => Int32.ofInt 0))), (q26, .inl (cA 0, 240, .inl (fun _ => Int32.ofInt 0))), (q27, .inl (cA 0, 600, .inl (fun _ => Int32.ofInt 0))), (q28, .inl (cA 0, 600, .inl (fun _ => Int32.ofInt 0))), (q29, .inl (cA 0, 100, .inl (fun _ => Int32.ofInt 0)))]
set_option maxHeartbeats 40000000 in
set_option maxRecDepth 100000 in
theorem ct_M {l : Launch} : Ct l yI_M bI_M 1 29 97900 9 [.int (Int32.ofInt 0), .int (Int32.ofInt 0), .int (Int32.ofInt 0), .null, .null, .int (Int32.ofInt 0), .null, .int (Int32.ofInt 0), .null, .null, .null, .null, .null, .null, .null, .null, .null, .int (Int32.ofInt 0), .null, .null, .null, .null, .null, .null, .null, .null, .int (Int32.ofInt 0), .int (Int32.ofInt 0), .null, .null, .null, .null, .int (Int32.ofInt 0), .int (Int32.ofInt 0), .int (Int32.ofInt 0), .null, .int (Int32.ofInt 0), .null, .int (Int32.ofInt 0), .null, .null, .null] [] WI_M := by
  intro D cA h sz
  refine Met.ofW (cc := bI_M) (maxL := 1) (ret := none) (by decide) rfl ?_
  intro p e s m args below meth c s₁ B hml hv
  obtain ⟨rfl, hsz, hP, hK, hD0, hNw⟩ := hv
  have hx := B.exec
  have hb := B.bytes
  have hr := B.returns
  have hts0 := atoms_spec (ws := Jvm.Cond.code yI_M bI_M 1 none :: TG) B.pre
  have hown : s.vm.findClass RX9 = some m.cls := findClass_of_methodNamed B.named
  have hlocks := B.notSynchronized
  have hin : meth.name = "<init>" := (name_of_methodNamed B.named B.method).1
  subst hsz
  have hD := hD0.self (sz := s.heap.size)
  generalize hAe : va_A [(h, .inr (9, [.int (Int32.ofInt 0), .int (Int32.ofInt 0), .int (Int32.ofInt 0), .null, .null, .int (Int32.ofInt 0), .null, .int (Int32.ofInt 0), .null, .null, .null, .null, .null, .null, .null, .null, .null, .int (Int32.ofInt 0), .null, .null, .null, .null, .null, .null, .null, .null, .int (Int32.ofInt 0), .int (Int32.ofInt 0), .null, .null, .null, .null, .int (Int32.ofInt 0), .int (Int32.ofInt 0), .int (Int32.ofInt 0), .null, .int (Int32.ofInt 0), .null, .int (Int32.ofInt 0), .null, .null, .null]))] s.heap.size = A at hD ⊢
  have hA : ∀ q : Nat, s.heap.size ≤ q → A q := fun q h => by rw [← hAe]; exact Or.inr h
  have hS : va_S A s.heap s.heap [] := va_S.rf
  have hl := lv_entry ([.ref h]) (n := 1) (Nat.le_of_ble_eq_true rfl)
  rw [lg_entry_eq]
  generalize (lg_sl ([.ref h]) ++ List.replicate (1 - (lg_sl ([.ref h])).length) Slot.unset).toArray = ls at hl ⊢
  have hl : lv_has ls 1 [(0, .ref h)] := hl
  have hts : ∀ w ∈ TG, w.before ([Value.ref h]).toArray s = true := fun w hw => hts0 w (List.mem_cons_of_mem _ hw)
  have En0 : En p s m ([Value.ref h]).toArray c bI_M D cA A s.heap RX9 1 := ⟨hx, hb, hml, hown, hts, hK, hA⟩
  have hW : Wd D A s.heap [(h, .inr (9, [.int (Int32.ofInt 0), .int (Int32.ofInt 0), .int (Int32.ofInt 0), .null, .null, .int (Int32.ofInt 0), .null, .int (Int32.ofInt 0), .null, .null, .null, .null, .null, .null, .null, .null, .null, .int (Int32.ofInt 0), .null, .null, .null, .null, .null, .null, .null, .null, .int (Int32.ofInt 0), .int (Int32.ofInt 0), .null, .null, .null, .null, .int (Int32.ofInt 0), .int (Int32.ofInt 0), .int (Int32.ofInt 0), .null, .int (Int32.ofInt 0), .null, .int (Int32.ofInt 0), .null, .null, .null]))] s.heap [] := ⟨hP, hD, hS⟩
  refine lv_aload_n hx hb dI_M_0 rfl (lv_at hl 0 rfl) ?_
  refine cn_init En0 (tg_in 858 (by decide +kernel) (by decide +kernel)) ⟨Nat.le_of_ble_eq_true rfl, Nat.le_of_ble_eq_true rfl⟩ hl.1 dI_M_1 ?_
  refine lv_aload_n hx hb dI_M_4 rfl (lv_at hl 0 rfl) ?_
  refine lv_iconst (v := Int32.ofInt (-1)) hx hb dI_M_5 (by decide +kernel) ?_
  refine cn_put (ty0 := tyX9) (k := 1) (C := RX9) (T := TX9) (N := 42) (ci := 9) (fs' := [.int (Int32.ofInt 0), .int (Int32.ofInt (-1)), .int (Int32.ofInt 0), .null, .null, .int (Int32.ofInt 0), .null, .int (Int32.ofInt 0), .null, .null, .null, .null, .null, .null, .null, .null, .null, .int (Int32.ofInt 0), .null, .null, .null, .null, .null, .null, .null, .null, .int (Int32.ofInt 0), .int (Int32.ofInt 0), .null, .null, .null, .null, .int (Int32.ofInt 0), .int (Int32.ofInt 0), .int (Int32.ofInt 0), .null, .int (Int32.ofInt 0), .null, .int (Int32.ofInt 0), .null, .null, .null]) En0 rfl in_M tyX9_ok nmX9 (Nat.le_of_ble_eq_true rfl) rfl (tg_in 860 (by decide +kernel) (by decide +kernel)) (Or.inl rfl) rfl rfl (Nat.le_of_ble_eq_true rfl) rfl hW dI_M_6 (fun H locs hW => ?_)
  refine lv_aload_n hx hb dI_M_9 rfl (lv_at hl 0 rfl) ?_
  refine lv_iconst (v := Int32.ofInt 4) hx hb dI_M_10 (by decide +kernel) ?_
  refine cn_newa (k := 0) (ty := .int) (atype := .int) (N' := 4) (a0 := (4, .inl (fun _ => Int32.ofInt 0))) En0 rfl (tg_in 95 (by decide +kernel) (by decide +kernel)) rfl (fun _ _ h => h) (fun _ => rfl) (by decide +kernel) (by decide +kernel) (Nat.le_of_ble_eq_true rfl) (Nat.le_of_ble_eq_true rfl) (Nat.le_of_ble_eq_true rfl) hW dI_M_11 (fun q1 H hW => ?_)
  refine cn_put (ty0 := tyX9) (k := 3) (C := RX9) (T := TX9) (N := 42) (ci := 9) (fs' := [.int (Int32.ofInt 0), .int (Int32.ofInt (-1)), .int (Int32.ofInt 0), .ref q1, .null, .int (Int32.ofInt 0), .null, .int (Int32.ofInt 0), .null, .null, .null, .null, .null, .null, .null, .null, .null, .int (Int32.ofInt 0), .null, .null, .null, .null, .null, .null, .null, .null, .int (Int32.ofInt 0), .int (Int32.ofInt 0), .null, .null, .null, .null, .int (Int32.ofInt 0), .int (Int32.ofInt 0), .int (Int32.ofInt 0), .null, .int (Int32.ofInt 0), .null, .int (Int32.ofInt 0), .null, .null, .null]) En0 rfl in_M tyX9_ok nmX9 (Nat.le_of_ble_eq_true rfl) rfl (tg_in 862 (by decide +kernel) (by decide +kernel)) (Or.inr ⟨rfl, hin, rfl⟩) rfl rfl (Nat.le_of_ble_eq_true rfl) rfl hW dI_M_13 (fun H locs hW => ?_)
  refine lv_aload_n hx hb dI_M_16 rfl (lv_at hl 0 rfl) ?_
  refine lv_iconst (v := Int32.ofInt 4) hx hb dI_M_17 (by decide +kernel) ?_
  refine cn_newa (k := 0) (ty := .int) (atype := .int) (N' := 4) (a0 := (4, .inl (fun _ => Int32.ofInt 0))) En0 rfl (tg_in 95 (by decide +kernel) (by decide +kernel)) rfl (fun _ _ h => h) (fun _ => rfl) (by decide +kernel) (by decide +kernel) (Nat.le_of_ble_eq_true rfl) (Nat.le_of_ble_eq_true rfl) (Nat.le_of_ble_eq_true rfl) hW dI_M_18 (fun q2 H hW => ?_)
  refine cn_put (ty0 := tyX9) (k := 4) (C := RX9) (T := TX9) (N := 42) (ci := 9) (fs' := [.int (Int32.ofInt 0), .int (Int32.ofInt (-1)), .int (Int32.ofInt 0), .ref q1, .ref q2, .int (Int32.ofInt 0), .null, .int (Int32.ofInt 0), .null, .null, .null, .null, .null, .null, .null, .null, .null, .int (Int32.ofInt 0), .null, .null, .null, .null, .null, .null, .null, .null, .int (Int32.ofInt 0), .int (Int32.ofInt 0), .null, .null, .null, .null, .int (Int32.ofInt 0), .int (Int32.ofInt 0), .int (Int32.ofInt 0), .null, .int (Int32.ofInt 0), .null, .int (Int32.ofInt 0), .null, .null, .null]) En0 rfl in_M tyX9_ok nmX9 (Nat.le_of_ble_eq_true rfl) rfl (tg_in 863 (by decide +kernel) (by decide +kernel)) (Or.inr ⟨rfl, hin, rfl⟩) rfl rfl (Nat.le_of_ble_eq_true rfl) rfl hW dI_M_20 (fun H locs hW => ?_)
  refine lv_aload_n hx hb dI_M_23 rfl (lv_at hl 0 rfl) ?_
  refine lv_iconst (v := Int32.ofInt (-1)) hx hb dI_M_24 (by decide +kernel) ?_
  refine cn_put (ty0 := tyX9) (k := 5) (C := RX9) (T := TX9) (N := 42) (ci := 9) (fs' := [.int (Int32.ofInt 0), .int (Int32.ofInt (-1)), .int (Int32.ofInt 0), .ref q1, .ref q2, .int (Int32.ofInt (-1)), .null, .int (Int32.ofInt 0), .null, .null, .null, .null, .null, .null, .null, .null, .null, .int (Int32.ofInt 0), .null, .null, .null, .null, .null, .null, .null, .null, .int (Int32.ofInt 0), .int (Int32.ofInt 0), .null, .null, .null, .null, .int (Int32.ofInt 0), .int (Int32.ofInt 0), .int (Int32.ofInt 0), .null, .int (Int32.ofInt 0), .null, .int (Int32.ofInt 0), .null, .null, .null]) En0 rfl in_M tyX9_ok nmX9 (Nat.le_of_ble_eq_true rfl) rfl (tg_in 864 (by decide +kernel) (by decide +kernel)) (Or.inl rfl) rfl rfl (Nat.le_of_ble_eq_true rfl) rfl hW dI_M_25 (fun H locs hW => ?_)
  refine lv_aload_n hx hb dI_M_28 rfl (lv_at hl 0 rfl) ?_
  refine lv_sipush (v := Int32.ofInt 11264) hx hb dI_M_29 (by decide +kernel) ?_
  refine cn_newa (k := 0) (ty := .int) (atype := .int) (N' := 11264) (a0 := (11264, .inl (fun _ => Int32.ofInt 0))) En0 rfl (tg_in 95 (by decide +kernel) (by decide +kernel)) rfl (fun _ _ h => h) (fun _ => rfl) (by decide +kernel) (by decide +kernel) (Nat.le_of_ble_eq_true rfl) (Nat.le_of_ble_eq_true rfl) (Nat.le_of_ble_eq_true rfl) hW dI_M_32 (fun q3 H hW => ?_)
  refine cn_put (ty0 := tyX9) (k := 6) (C := RX9) (T := TX9) (N := 42) (ci := 9) (fs' := [.int (Int32.ofInt 0), .int (Int32.ofInt (-1)), .int (Int32.ofInt 0), .ref q1, .ref q2, .int (Int32.ofInt (-1)), .ref q3, .int (Int32.ofInt 0), .null, .null, .null, .null, .null, .null, .null, .null, .null, .int (Int32.ofInt 0), .null, .null, .null, .null, .null, .null, .null, .null, .int (Int32.ofInt 0), .int (Int32.ofInt 0), .null, .null, .null, .null, .int (Int32.ofInt 0), .int (Int32.ofInt 0), .int (Int32.ofInt 0), .null, .int (Int32.ofInt 0), .null, .int (Int32.ofInt 0), .null, .null, .null]) En0 rfl in_M tyX9_ok nmX9 (Nat.le_of_ble_eq_true rfl) rfl (tg_in 865 (by decide +kernel) (by decide +kernel)) (Or.inr ⟨rfl, hin, rfl⟩) rfl rfl (Nat.le_of_ble_eq_true rfl) rfl hW dI_M_34 (fun H locs hW => ?_)
  refine lv_aload_n hx hb dI_M_37 rfl (lv_at hl 0 rfl) ?_
  refine lv_sipush (v := Int32.ofInt 11264) hx hb dI_M_38 (by decide +kernel) ?_
  refine cn_newa (k := 0) (ty := .int) (atype := .int) (N' := 11264) (a0 := (11264, .inl (fun _ => Int32.ofInt 0))) En0 rfl (tg_in 95 (by decide +kernel) (by decide +kernel)) rfl (fun _ _ h => h) (fun _ => rfl) (by decide +kernel) (by decide +kernel) (Nat.le_of_ble_eq_true rfl) (Nat.le_of_ble_eq_true rfl) (Nat.le_of_ble_eq_true rfl) hW dI_M_41 (fun q4 H hW => ?_)
  refine cn_put (ty0 := tyX9) (k := 8) (C := RX9) (T := TX9) (N := 42) (ci := 9) (fs' := [.int (Int32.ofInt 0), .int (Int32.ofInt (-1)), .int (Int32.ofInt 0), .ref q1, .ref q2, .int (Int32.ofInt (-1)), .ref q3, .int (Int32.ofInt 0), .ref q4, .null, .null, .null, .null, .null, .null, .null, .null, .int (Int32.ofInt 0), .null, .null, .null, .null, .null, .null, .null, .null, .int (Int32.ofInt 0), .int (Int32.ofInt 0), .null, .null, .null, .null, .int (Int32.ofInt 0), .int (Int32.ofInt 0), .int (Int32.ofInt 0), .null, .int (Int32.ofInt 0), .null, .int (Int32.ofInt 0), .null, .null, .null]) En0 rfl in_M tyX9_ok nmX9 (Nat.le_of_ble_eq_true rfl) rfl (tg_in 867 (by decide +kernel) (by decide +kernel)) (Or.inr ⟨rfl, hin, rfl⟩) rfl rfl (Nat.le_of_ble_eq_true rfl) rfl hW dI_M_43 (fun H locs hW => ?_)
  refine lv_aload_n hx hb dI_M_46 rfl (lv_at hl 0 rfl) ?_
  refine lv_sipush (v := Int32.ofInt 11264) hx hb dI_M_47 (by decide +kernel) ?_
  refine cn_newa (k := 0) (ty := .int) (atype := .int) (N' := 11264) (a0 := (11264, .inl (fun _ => Int32.ofInt 0))) En0 rfl (tg_in 95 (by decide +kernel) (by decide +kernel)) rfl (fun _ _ h => h) (fun _ => rfl) (by decide +kernel) (by decide +kernel) (Nat.le_of_ble_eq_true rfl) (Nat.le_of_ble_eq_true rfl) (Nat.le_of_ble_eq_true rfl) hW dI_M_50 (fun q5 H hW => ?_)
  refine cn_put (ty0 := tyX9) (k := 9) (C := RX9) (T := TX9) (N := 42) (ci := 9) (fs' := [.int (Int32.ofInt 0), .int (Int32.ofInt (-1)), .int (Int32.ofInt 0), .ref q1, .ref q2, .int (Int32.ofInt (-1)), .ref q3, .int (Int32.ofInt 0), .ref q4, .ref q5, .null, .null, .null, .null, .null, .null, .null, .int (Int32.ofInt 0), .null, .null, .null, .null, .null, .null, .null, .null, .int (Int32.ofInt 0), .int (Int32.ofInt 0), .null, .null, .null, .null, .int (Int32.ofInt 0), .int (Int32.ofInt 0), .int (Int32.ofInt 0), .null, .int (Int32.ofInt 0), .null, .int (Int32.ofInt 0), .null, .null, .null]) En0 rfl in_M tyX9_ok nmX9 (Nat.le_of_ble_eq_true rfl) rfl (tg_in 868 (by decide +kernel) (by decide +kernel)) (Or.inr ⟨rfl, hin, rfl⟩) rfl rfl (Nat.le_of_ble_eq_true rfl) rfl hW dI_M_52 (fun H locs hW => ?_)
  refine lv_aload_n hx hb dI_M_55 rfl (lv_at hl 0 rfl) ?_
  refine lv_sipush (v := Int32.ofInt 11264) hx hb dI_M_56 (by decide +kernel) ?_
  refine cn_newa (k := 0) (ty := .int) (atype := .int) (N' := 11264) (a0 := (11264, .inl (fun _ => Int32.ofInt 0))) En0 rfl (tg_in 95 (by decide +kernel) (by decide +kernel)) rfl (fun _ _ h => h) (fun _ => rfl) (by decide +kernel) (by decide +kernel) (Nat.le_of_ble_eq_true rfl) (Nat.le_of_ble_eq_true rfl) (Nat.le_of_ble_eq_true rfl) hW dI_M_59 (fun q6 H hW => ?_)
  refine cn_put (ty0 := tyX9) (k := 10) (C := RX9) (T := TX9) (N := 42) (ci := 9) (fs' := [.int (Int32.ofInt 0), .int (Int32.ofInt (-1)), .int (Int32.ofInt 0), .ref q1, .ref q2, .int (Int32.ofInt (-1)), .ref q3, .int (Int32.ofInt 0), .ref q4, .ref q5, .ref q6, .null, .null, .null, .null, .null, .null, .int (Int32.ofInt 0), .null, .null, .null, .null, .null, .null, .null, .null, .int (Int32.ofInt 0), .int (Int32.ofInt 0), .null, .null, .null, .null, .int (Int32.ofInt 0), .int (Int32.ofInt 0), .int (Int32.ofInt 0), .null, .int (Int32.ofInt 0), .null, .int (Int32.ofInt 0), .null, .null, .null]) En0 rfl in_M tyX9_ok nmX9 (Nat.le_of_ble_eq_true rfl) rfl (tg_in 869 (by decide +kernel) (by decide +kernel)) (Or.inr ⟨rfl, hin, rfl⟩) rfl rfl (Nat.le_of_ble_eq_true rfl) rfl hW dI_M_61 (fun H locs hW => ?_)
  refine lv_aload_n hx hb dI_M_64 rfl (lv_at hl 0 rfl) ?_
  refine lv_sipush (v := Int32.ofInt 11264) hx hb dI_M_65 (by decide +kernel) ?_
  refine cn_newa (k := 2) (ty := .boolean) (atype := .boolean) (N' := 11264) (a0 := (11264, .inl (fun _ => Int32.ofInt 0))) En0 rfl (tg_in 986 (by decide +kernel) (by decide +kernel)) rfl (fun _ _ h => h) (fun _ => rfl) (by decide +kernel) (by decide +kernel) (Nat.le_of_ble_eq_true rfl) (Nat.le_of_ble_eq_true rfl) (Nat.le_of_ble_eq_true rfl) hW dI_M_68 (fun q7 H hW => ?_)
  refine cn_put (ty0 := tyX9) (k := 11) (C := RX9) (T := TX9) (N := 42) (ci := 9) (fs' := [.int (Int32.ofInt 0), .int (Int32.ofInt (-1)), .int (Int32.ofInt 0), .ref q1, .ref q2, .int (Int32.ofInt (-1)), .ref q3, .int (Int32.ofInt 0), .ref q4, .ref q5, .ref q6, .ref q7, .null, .null, .null, .null, .null, .int (Int32.ofInt 0), .null, .null, .null, .null, .null, .null, .null, .null, .int (Int32.ofInt 0), .int (Int32.ofInt 0), .null, .null, .null, .null, .int (Int32.ofInt 0), .int (Int32.ofInt 0), .int (Int32.ofInt 0), .null, .int (Int32.ofInt 0), .null, .int (Int32.ofInt 0), .null, .null, .null]) En0 rfl in_M tyX9_ok nmX9 (Nat.le_of_ble_eq_true rfl) rfl (tg_in 870 (by decide +kernel) (by decide +kernel)) (Or.inr ⟨rfl, hin, rfl⟩) rfl rfl (Nat.le_of_ble_eq_true rfl) rfl hW dI_M_70 (fun H locs hW => ?_)
  refine lv_aload_n hx hb dI_M_73 rfl (lv_at hl 0 rfl) ?_
  refine lv_sipush (v := Int32.ofInt 11264) hx hb dI_M_74 (by decide +kernel) ?_
  refine cn_newa (k := 0) (ty := .int) (atype := .int) (N' := 11264) (a0 := (11264, .inl (fun _ => Int32.ofInt 0))) En0 rfl (tg_in 95 (by decide +kernel) (by decide +kernel)) rfl (fun _ _ h => h) (fun _ => rfl) (by decide +kernel) (by decide +kernel) (Nat.le_of_ble_eq_true rfl) (Nat.le_of_ble_eq_true rfl) (Nat.le_of_ble_eq_true rfl) hW dI_M_77 (fun q8 H hW => ?_)
  refine cn_put (ty0 := tyX9) (k := 12) (C := RX9) (T := TX9) (N := 42) (ci := 9) (fs' := [.int (Int32.ofInt 0), .int (Int32.ofInt (-1)), .int (Int32.ofInt 0), .ref q1, .ref q2, .int (Int32.ofInt (-1)), .ref q3, .int (Int32.ofInt 0), .ref q4, .ref q5, .ref q6, .ref q7, .ref q8, .null, .null, .null, .null, .int (Int32.ofInt 0), .null, .null, .null, .null, .null, .null, .null, .null, .int (Int32.ofInt 0), .int (Int32.ofInt 0), .null, .null, .null, .null, .int (Int32.ofInt 0), .int (Int32.ofInt 0), .int (Int32.ofInt 0), .null, .int (Int32.ofInt 0), .null, .int (Int32.ofInt 0), .null, .null, .null]) En0 rfl in_M tyX9_ok nmX9 (Nat.le_of_ble_eq_true rfl) rfl (tg_in 871 (by decide +kernel) (by decide +kernel)) (Or.inr ⟨rfl, hin, rfl⟩) rfl rfl (Nat.le_of_ble_eq_true rfl) rfl hW dI_M_79 (fun H locs hW => ?_)
  refine lv_aload_n hx hb dI_M_82 rfl (lv_at hl 0 rfl) ?_
  refine lv_sipush (v := Int32.ofInt 11264) hx hb dI_M_83 (by decide +kernel) ?_
  refine cn_newa (k := 0) (ty := .int) (atype := .int) (N' := 11264) (a0 := (11264, .inl (fun _ => Int32.ofInt 0))) En0 rfl (tg_in 95 (by decide +kernel) (by decide +kernel)) rfl (fun _ _ h => h) (fun _ => rfl) (by decide +kernel) (by decide +kernel) (Nat.le_of_ble_eq_true rfl) (Nat.le_of_ble_eq_true rfl) (Nat.le_of_ble_eq_true rfl) hW dI_M_86 (fun q9 H hW => ?_)
  refine cn_put (ty0 := tyX9) (k := 13) (C := RX9) (T := TX9) (N := 42) (ci := 9) (fs' := [.int (Int32.ofInt 0), .int (Int32.ofInt (-1)), .int (Int32.ofInt 0), .ref q1, .ref q2, .int (Int32.ofInt (-1)), .ref q3, .int (Int32.ofInt 0), .ref q4, .ref q5, .ref q6, .ref q7, .ref q8, .ref q9, .null, .null, .null, .int (Int32.ofInt 0), .null, .null, .null, .null, .null, .null, .null, .null, .int (Int32.ofInt 0), .int (Int32.ofInt 0), .null, .null, .null, .null, .int (Int32.ofInt 0), .int (Int32.ofInt 0), .int (Int32.ofInt 0), .null, .int (Int32.ofInt 0), .null, .int (Int32.ofInt 0), .null, .null, .null]) En0 rfl in_M tyX9_ok nmX9 (Nat.le_of_ble_eq_true rfl) rfl (tg_in 872 (by decide +kernel) (by decide +kernel)) (Or.inr ⟨rfl, hin, rfl⟩) rfl rfl (Nat.le_of_ble_eq_true rfl) rfl hW dI_M_88 (fun H locs hW => ?_)
  refine lv_aload_n hx hb dI_M_91 rfl (lv_at hl 0 rfl) ?_
  refine lv_bipush (v := Int32.ofInt 101) hx hb dI_M_92 (by decide +kernel) ?_
  refine cn_newa (k := 0) (ty := .int) (atype := .int) (N' := 101) (a0 := (101, .inl (fun _ => Int32.ofInt 0))) En0 rfl (tg_in 95 (by decide +kernel) (by decide +kernel)) rfl (fun _ _ h => h) (fun _ => rfl) (by decide +kernel) (by decide +kernel) (Nat.le_of_ble_eq_true rfl) (Nat.le_of_ble_eq_true rfl) (Nat.le_of_ble_eq_true rfl) hW dI_M_94 (fun q10 H hW => ?_)
  refine cn_put (ty0 := tyX9) (k := 14) (C := RX9) (T := TX9) (N := 42) (ci := 9) (fs' := [.int (Int32.ofInt 0), .int (Int32.ofInt (-1)), .int (Int32.ofInt 0), .ref q1, .ref q2, .int (Int32.ofInt (-1)), .ref q3, .int (Int32.ofInt 0), .ref q4, .ref q5, .ref q6, .ref q7, .ref q8, .ref q9, .ref q10, .null, .null, .int (Int32.ofInt 0), .null, .null, .null, .null, .null, .null, .null, .null, .int (Int32.ofInt 0), .int (Int32.ofInt 0), .null, .null, .null, .null, .int (Int32.ofInt 0), .int (Int32.ofInt 0), .int (Int32.ofInt 0), .null, .int (Int32.ofInt 0), .null, .int (Int32.ofInt 0), .null, .null, .null]) En0 rfl in_M tyX9_ok nmX9 (Nat.le_of_ble_eq_true rfl) rfl (tg_in 873 (by decide +kernel) (by decide +kernel)) (Or.inr ⟨rfl, hin, rfl⟩) rfl rfl (Nat.le_of_ble_eq_true rfl) rfl hW dI_M_96 (fun H locs hW => ?_)
  refine lv_aload_n hx hb dI_M_99 rfl (lv_at hl 0 rfl) ?_
  refine lv_bipush (v := Int32.ofInt 101) hx hb dI_M_100 (by decide +kernel) ?_
  refine cn_newa (k := 0) (ty := .int) (atype := .int) (N' := 101) (a0 := (101, .inl (fun _ => Int32.ofInt 0))) En0 rfl (tg_in 95 (by decide +kernel) (by decide +kernel)) rfl (fun _ _ h => h) (fun _ => rfl) (by decide +kernel) (by decide +kernel) (Nat.le_of_ble_eq_true rfl) (Nat.le_of_ble_eq_true rfl) (Nat.le_of_ble_eq_true rfl) hW dI_M_102 (fun q11 H hW => ?_)
  refine cn_put (ty0 := tyX9) (k := 15) (C := RX9) (T := TX9) (N := 42) (ci := 9) (fs' := [.int (Int32.ofInt 0), .int (Int32.ofInt (-1)), .int (Int32.ofInt 0), .ref q1, .ref q2, .int (Int32.ofInt (-1)), .ref q3, .int (Int32.ofInt 0), .ref q4, .ref q5, .ref q6, .ref q7, .ref q8, .ref q9, .ref q10, .ref q11, .null, .int (Int32.ofInt 0), .null, .null, .null, .null, .null, .null, .null, .null, .int (Int32.ofInt 0), .int (Int32.ofInt 0), .null, .null, .null, .null, .int (Int32.ofInt 0), .int (Int32.ofInt 0), .int (Int32.ofInt 0), .null, .int (Int32.ofInt 0), .null, .int (Int32.ofInt 0), .null, .null, .null]) En0 rfl in_M tyX9_ok nmX9 (Nat.le_of_ble_eq_true rfl) rfl (tg_in 874 (by decide +kernel) (by decide +kernel)) (Or.inr ⟨rfl, hin, rfl⟩) rfl rfl (Nat.le_of_ble_eq_true rfl) rfl hW dI_M_104 (fun H locs hW => ?_)
  refine lv_aload_n hx hb dI_M_107 rfl (lv_at hl 0 rfl) ?_
  refine lv_bipush (v := Int32.ofInt 101) hx hb dI_M_108 (by decide +kernel) ?_
  refine cn_newa (k := 0) (ty := .int) (atype := .int) (N' := 101) (a0 := (101, .inl (fun _ => Int32.ofInt 0))) En0 rfl (tg_in 95 (by decide +kernel) (by decide +kernel)) rfl (fun _ _ h => h) (fun _ => rfl) (by decide +kernel) (by decide +kernel) (Nat.le_of_ble_eq_true rfl) (Nat.le_of_ble_eq_true rfl) (Nat.le_of_ble_eq_true rfl) hW dI_M_110 (fun q12 H hW => ?_)
  refine cn_put (ty0 := tyX9) (k := 16) (C := RX9) (T := TX9) (N := 42) (ci := 9) (fs' := [.int (Int32.ofInt 0), .int (Int32.ofInt (-1)), .int (Int32.ofInt 0), .ref q1, .ref q2, .int (Int32.ofInt (-1)), .ref q3, .int (Int32.ofInt 0), .ref q4, .ref q5, .ref q6, .ref q7, .ref q8, .ref q9, .ref q10, .ref q11, .ref q12, .int (Int32.ofInt 0), .null, .null, .null, .null, .null, .null, .null, .null, .int (Int32.ofInt 0), .int (Int32.ofInt 0), .null, .null, .null, .null, .int (Int32.ofInt 0), .int (Int32.ofInt 0), .int (Int32.ofInt 0), .null, .int (Int32.ofInt 0), .null, .int (Int32.ofInt 0), .null, .null, .null]) En0 rfl in_M tyX9_ok nmX9 (Nat.le_of_ble_eq_true rfl) rfl (tg_in 875 (by decide +kernel) (by decide +kernel)) (Or.inr ⟨rfl, hin, rfl⟩) rfl rfl (Nat.le_of_ble_eq_true rfl) rfl hW dI_M_112 (fun H locs hW => ?_)
  refine lv_aload_n hx hb dI_M_115 rfl (lv_at hl 0 rfl) ?_
  refine lv_bipush (v := Int32.ofInt 100) hx hb dI_M_116 (by decide +kernel) ?_
  refine cn_newa (k := 0) (ty := .int) (atype := .int) (N' := 100) (a0 := (100, .inl (fun _ => Int32.ofInt 0))) En0 rfl (tg_in 95 (by decide +kernel) (by decide +kernel)) rfl (fun _ _ h => h) (fun _ => rfl) (by decide +kernel) (by decide +kernel) (Nat.le_of_ble_eq_true rfl) (Nat.le_of_ble_eq_true rfl) (Nat.le_of_ble_eq_true rfl) hW dI_M_118 (fun q13 H hW => ?_)
  refine cn_put (ty0 := tyX9) (k := 18) (C := RX9) (T := TX9) (N := 42) (ci := 9) (fs' := [.int (Int32.ofInt 0), .int (Int32.ofInt (-1)), .int (Int32.ofInt 0), .ref q1, .ref q2, .int (Int32.ofInt (-1)), .ref q3, .int (Int32.ofInt 0), .ref q4, .ref q5, .ref q6, .ref q7, .ref q8, .ref q9, .ref q10, .ref q11, .ref q12, .int (Int32.ofInt 0), .ref q13, .null, .null, .null, .null, .null, .null, .null, .int (Int32.ofInt 0), .int (Int32.ofInt 0), .null, .null, .null, .null, .int (Int32.ofInt 0), .int (Int32.ofInt 0), .int (Int32.ofInt 0), .null, .int (Int32.ofInt 0), .null, .int (Int32.ofInt 0), .null, .null, .null]) En0 rfl in_M tyX9_ok nmX9 (Nat.le_of_ble_eq_true rfl) rfl (tg_in 877 (by decide +kernel) (by decide +kernel)) (Or.inr ⟨rfl, hin, rfl⟩) rfl rfl (Nat.le_of_ble_eq_true rfl) rfl hW dI_M_120 (fun H locs hW => ?_)
  refine lv_aload_n hx hb dI_M_123 rfl (lv_at hl 0 rfl) ?_
  refine lv_bipush (v := Int32.ofInt 100) hx hb dI_M_124 (by decide +kernel) ?_
  refine cn_newa (k := 0) (ty := .int) (atype := .int) (N' := 100) (a0 := (100, .inl (fun _ => Int32.ofInt 0))) En0 rfl (tg_in 95 (by decide +kernel) (by decide +kernel)) rfl (fun _ _ h => h) (fun _ => rfl) (by decide +kernel) (by decide +kernel) (Nat.le_of_ble_eq_true rfl) (Nat.le_of_ble_eq_true rfl) (Nat.le_of_ble_eq_true rfl) hW dI_M_126 (fun q14 H hW => ?_)
  refine cn_put (ty0 := tyX9) (k := 19) (C := RX9) (T := TX9) (N := 42) (ci := 9) (fs' := [.int (Int32.ofInt 0), .int (Int32.ofInt (-1)), .int (Int32.ofInt 0), .ref q1, .ref q2, .int (Int32.ofInt (-1)), .ref q3, .int (Int32.ofInt 0), .ref q4, .ref q5, .ref q6, .ref q7, .ref q8, .ref q9, .ref q10, .ref q11, .ref q12, .int (Int32.ofInt 0), .ref q13, .ref q14, .null, .null, .null, .null, .null, .null, .int (Int32.ofInt 0), .int (Int32.ofInt 0), .null, .null, .null, .null, .int (Int32.ofInt 0), .int (Int32.ofInt 0), .int (Int32.ofInt 0), .null, .int (Int32.ofInt 0), .null, .int (Int32.ofInt 0), .null, .null, .null]) En0 rfl in_M tyX9_ok nmX9 (Nat.le_of_ble_eq_true rfl) rfl (tg_in 878 (by decide +kernel) (by decide +kernel)) (Or.inr ⟨rfl, hin, rfl⟩) rfl rfl (Nat.le_of_ble_eq_true rfl) rfl hW dI_M_128 (fun H locs hW => ?_)
  refine lv_aload_n hx hb dI_M_131 rfl (lv_at hl 0 rfl) ?_
  refine lv_bipush (v := Int32.ofInt 100) hx hb dI_M_132 (by decide +kernel) ?_
  refine cn_newa (k := 0) (ty := .int) (atype := .int) (N' := 100) (a0 := (100, .inl (fun _ => Int32.ofInt 0))) En0 rfl (tg_in 95 (by decide +kernel) (by decide +kernel)) rfl (fun _ _ h => h) (fun _ => rfl) (by decide +kernel) (by decide +kernel) (Nat.le_of_ble_eq_true rfl) (Nat.le_of_ble_eq_true rfl) (Nat.le_of_ble_eq_true rfl) hW dI_M_134 (fun q15 H hW => ?_)
  refine cn_put (ty0 := tyX9) (k := 20) (C := RX9) (T := TX9) (N := 42) (ci := 9) (fs' := [.int (Int32.ofInt 0), .int (Int32.ofInt (-1)), .int (Int32.ofInt 0), .ref q1, .ref q2, .int (Int32.ofInt (-1)), .ref q3, .int (Int32.ofInt 0), .ref q4, .ref q5, .ref q6, .ref q7, .ref q8, .ref q9, .ref q10, .ref q11, .ref q12, .int (Int32.ofInt 0), .ref q13, .ref q14, .ref q15, .null, .null, .null, .null, .null, .int (Int32.ofInt 0), .int (Int32.ofInt 0), .null, .null, .null, .null, .int (Int32.ofInt 0), .int (Int32.ofInt 0), .int (Int32.ofInt 0), .null, .int (Int32.ofInt 0), .null, .int (Int32.ofInt 0), .null, .null, .null]) En0 rfl in_M tyX9_ok nmX9 (Nat.le_of_ble_eq_true rfl) rfl (tg_in 879 (by decide +kernel) (by decide +kernel)) (Or.inr ⟨rfl, hin, rfl⟩) rfl rfl (Nat.le_of_ble_eq_true rfl) rfl hW dI_M_136 (fun H locs hW => ?_)
  refine lv_aload_n hx hb dI_M_139 rfl (lv_at hl 0 rfl) ?_
  refine lv_bipush (v := Int32.ofInt 100) hx hb dI_M_140 (by decide +kernel) ?_
  refine cn_newa (k := 0) (ty := .int) (atype := .int) (N' := 100) (a0 := (100, .inl (fun _ => Int32.ofInt 0))) En0 rfl (tg_in 95 (by decide +kernel) (by decide +kernel)) rfl (fun _ _ h => h) (fun _ => rfl) (by decide +kernel) (by decide +kernel) (Nat.le_of_ble_eq_true rfl) (Nat.le_of_ble_eq_true rfl) (Nat.le_of_ble_eq_true rfl) hW dI_M_142 (fun q16 H hW => ?_)
  refine cn_put (ty0 := tyX9) (k := 21) (C := RX9) (T := TX9) (N := 42) (ci := 9) (fs' := [.int (Int32.ofInt 0), .int (Int32.ofInt (-1)), .int (Int32.ofInt 0), .ref q1, .ref q2, .int (Int32.ofInt (-1)), .ref q3, .int (Int32.ofInt 0), .ref q4, .ref q5, .ref q6, .ref q7, .ref q8, .ref q9, .ref q10, .ref q11, .ref q12, .int (Int32.ofInt 0), .ref q13, .ref q14, .ref q15, .ref q16, .null, .null, .null, .null, .int (Int32.ofInt 0), .int (Int32.ofInt 0), .null, .null, .null, .null, .int (Int32.ofInt 0), .int (Int32.ofInt 0), .int (Int32.ofInt 0), .null, .int (Int32.ofInt 0), .null, .int (Int32.ofInt 0), .null, .null, .null]) En0 rfl in_M tyX9_ok nmX9 (Nat.le_of_ble_eq_true rfl) rfl (tg_in 880 (by decide +kernel) (by decide +kernel)) (Or.inr ⟨rfl, hin, rfl⟩) rfl rfl (Nat.le_of_ble_eq_true rfl) rfl hW dI_M_144 (fun H locs hW => ?_)
  refine lv_aload_n hx hb dI_M_147 rfl (lv_at hl 0 rfl) ?_
  refine lv_bipush (v := Int32.ofInt 100) hx hb dI_M_148 (by decide +kernel) ?_
  refine cn_newa (k := 0) (ty := .int) (atype := .int) (N' := 100) (a0 := (100, .inl (fun _ => Int32.ofInt 0))) En0 rfl (tg_in 95 (by decide +kernel) (by decide +kernel)) rfl (fun _ _ h => h) (fun _ => rfl) (by decide +kernel) (by decide +kernel) (Nat.le_of_ble_eq_true rfl) (Nat.le_of_ble_eq_true rfl) (Nat.le_of_ble_eq_true rfl) hW dI_M_150 (fun q17 H hW => ?_)
  refine cn_put (ty0 := tyX9) (k := 22) (C := RX9) (T := TX9) (N := 42) (ci := 9) (fs' := [.int (Int32.ofInt 0), .int (Int32.ofInt (-1)), .int (Int32.ofInt 0), .ref q1, .ref q2, .int (Int32.ofInt (-1)), .ref q3, .int (Int32.ofInt 0), .ref q4, .ref q5, .ref q6, .ref q7, .ref q8, .ref q9, .ref q10, .ref q11, .ref q12, .int (Int32.ofInt 0), .ref q13, .ref q14, .ref q15, .ref q16, .ref q17, .null, .null, .null, .int (Int32.ofInt 0), .int (Int32.ofInt 0), .null, .null, .null, .null, .int (Int32.ofInt 0), .int (Int32.ofInt 0), .int (Int32.ofInt 0), .null, .int (Int32.ofInt 0), .null, .int (Int32.ofInt 0), .null, .null, .null]) En0 rfl in_M tyX9_ok nmX9 (Nat.le_of_ble_eq_true rfl) rfl (tg_in 881 (by decide +kernel) (by decide +kernel)) (Or.inr ⟨rfl, hin, rfl⟩) rfl rfl (Nat.le_of_ble_eq_true rfl) rfl hW dI_M_152 (fun H locs hW => ?_)
  refine lv_aload_n hx hb dI_M_155 rfl (lv_at hl 0 rfl) ?_
  refine lv_bipush (v := Int32.ofInt 101) hx hb dI_M_156 (by decide +kernel) ?_
  refine cn_newa (k := 0) (ty := .int) (atype := .int) (N' := 101) (a0 := (101, .inl (fun _ => Int32.ofInt 0))) En0 rfl (tg_in 95 (by decide +kernel) (by decide +kernel)) rfl (fun _ _ h => h) (fun _ => rfl) (by decide +kernel) (by decide +kernel) (Nat.le_of_ble_eq_true rfl) (Nat.le_of_ble_eq_true rfl) (Nat.le_of_ble_eq_true rfl) hW dI_M_158 (fun q18 H hW => ?_)
  refine cn_put (ty0 := tyX9) (k := 23) (C := RX9) (T := TX9) (N := 42) (ci := 9) (fs' := [.int (Int32.ofInt 0), .int (Int32.ofInt (-1)), .int (Int32.ofInt 0), .ref q1, .ref q2, .int (Int32.ofInt (-1)), .ref q3, .int (Int32.ofInt 0), .ref q4, .ref q5, .ref q6, .ref q7, .ref q8, .ref q9, .ref q10, .ref q11, .ref q12, .int (Int32.ofInt 0), .ref q13, .ref q14, .ref q15, .ref q16, .ref q17, .ref q18, .null, .null, .int (Int32.ofInt 0), .int (Int32.ofInt 0), .null, .null, .null, .null, .int (Int32.ofInt 0), .int (Int32.ofInt 0), .int (Int32.ofInt 0), .null, .int (Int32.ofInt 0), .null, .int (Int32.ofInt 0), .null, .null, .null]) En0 rfl in_M tyX9_ok nmX9 (Nat.le_of_ble_eq_true rfl) rfl (tg_in 882 (by decide +kernel) (by decide +kernel)) (Or.inr ⟨rfl, hin, rfl⟩) rfl rfl (Nat.le_of_ble_eq_true rfl) rfl hW dI_M_160 (fun H locs hW => ?_)
  refine lv_aload_n hx hb dI_M_163 rfl (lv_at hl 0 rfl) ?_
  refine lv_bipush (v := Int32.ofInt 100) hx hb dI_M_164 (by decide +kernel) ?_
  refine cn_newa (k := 0) (ty := .int) (atype := .int) (N' := 100) (a0 := (100, .inl (fun _ => Int32.ofInt 0))) En0 rfl (tg_in 95 (by decide +kernel) (by decide +kernel)) rfl (fun _ _ h => h) (fun _ => rfl) (by decide +kernel) (by decide +kernel) (Nat.le_of_ble_eq_true rfl) (Nat.le_of_ble_eq_true rfl) (Nat.le_of_ble_eq_true rfl) hW dI_M_166 (fun q19 H hW => ?_)
  refine cn_put (ty0 := tyX9) (k := 24) (C := RX9) (T := TX9) (N := 42) (ci := 9) (fs' := [.int (Int32.ofInt 0), .int (Int32.ofInt (-1)), .int (Int32.ofInt 0), .ref q1, .ref q2, .int (Int32.ofInt (-1)), .ref q3, .int (Int32.ofInt 0), .ref q4, .ref q5, .ref q6, .ref q7, .ref q8, .ref q9, .ref q10, .ref q11, .ref q12, .int (Int32.ofInt 0), .ref q13, .ref q14, .ref q15, .ref q16, .ref q17, .ref q18, .ref q19, .null, .int (Int32.ofInt 0), .int (Int32.ofInt 0), .null, .null, .null, .null, .int (Int32.ofInt 0), .int (Int32.ofInt 0), .int (Int32.ofInt 0), .null, .int (Int32.ofInt 0), .null, .int (Int32.ofInt 0), .null, .null, .null]) En0 rfl in_M tyX9_ok nmX9 (Nat.le_of_ble_eq_true rfl) rfl (tg_in 883 (by decide +kernel) (by decide +kernel)) (Or.inr ⟨rfl, hin, rfl⟩) rfl rfl (Nat.le_of_ble_eq_true rfl) rfl hW dI_M_168 (fun H locs hW => ?_)
  refine lv_aload_n hx hb dI_M_171 rfl (lv_at hl 0 rfl) ?_
  refine lv_bipush (v := Int32.ofInt 100) hx hb dI_M_172 (by decide +kernel) ?_
  refine cn_newa (k := 0) (ty := .int) (atype := .int) (N' := 100) (a0 := (100, .inl (fun _ => Int32.ofInt 0))) En0 rfl (tg_in 95 (by decide +kernel) (by decide +kernel)) rfl (fun _ _ h => h) (fun _ => rfl) (by decide +kernel) (by decide +kernel) (Nat.le_of_ble_eq_true rfl) (Nat.le_of_ble_eq_true rfl) (Nat.le_of_ble_eq_true rfl) hW dI_M_174 (fun q20 H hW => ?_)
  refine cn_put (ty0 := tyX9) (k := 25) (C := RX9) (T := TX9) (N := 42) (ci := 9) (fs' := [.int (Int32.ofInt 0), .int (Int32.ofInt (-1)), .int (Int32.ofInt 0), .ref q1, .ref q2, .int (Int32.ofInt (-1)), .ref q3, .int (Int32.ofInt 0), .ref q4, .ref q5, .ref q6, .ref q7, .ref q8, .ref q9, .ref q10, .ref q11, .ref q12, .int (Int32.ofInt 0), .ref q13, .ref q14, .ref q15, .ref q16, .ref q17, .ref q18, .ref q19, .ref q20, .int (Int32.ofInt 0), .int (Int32.ofInt 0), .null, .null, .null, .null, .int (Int32.ofInt 0), .int (Int32.ofInt 0), .int (Int32.ofInt 0), .null, .int (Int32.ofInt 0), .null, .int (Int32.ofInt 0), .null, .null, .null]) En0 rfl in_M tyX9_ok nmX9 (Nat.le_of_ble_eq_true rfl) rfl (tg_in 884 (by decide +kernel) (by decide +kernel)) (Or.inr ⟨rfl, hin, rfl⟩) rfl rfl (Nat.le_of_ble_eq_true rfl) rfl hW dI_M_176 (fun H locs hW => ?_)
  refine lv_aload_n hx hb dI_M_179 rfl (lv_at hl 0 rfl) ?_
  refine lv_sipush (v := Int32.ofInt 6100) hx hb dI_M_180 (by decide +kernel) ?_
  refine cn_newa (k := 1) (ty := .long) (atype := .long) (N' := 6100) (a0 := (6100, .inr (.inl (fun _ => Int64.ofInt 0)))) En0 rfl (tg_in 162 (by decide +kernel) (by decide +kernel)) rfl (fun _ _ h => h) (fun _ => rfl) (by decide +kernel) (by decide +kernel) (Nat.le_of_ble_eq_true rfl) (Nat.le_of_ble_eq_true rfl) (Nat.le_of_ble_eq_true rfl) hW dI_M_183 (fun q21 H hW => ?_)
  refine cn_put (ty0 := tyX9) (k := 28) (C := RX9) (T := TX9) (N := 42) (ci := 9) (fs' := [.int (Int32.ofInt 0), .int (Int32.ofInt (-1)), .int (Int32.ofInt 0), .ref q1, .ref q2, .int (Int32.ofInt (-1)), .ref q3, .int (Int32.ofInt 0), .ref q4, .ref q5, .ref q6, .ref q7, .ref q8, .ref q9, .ref q10, .ref q11, .ref q12, .int (Int32.ofInt 0), .ref q13, .ref q14, .ref q15, .ref q16, .ref q17, .ref q18, .ref q19, .ref q20, .int (Int32.ofInt 0), .int (Int32.ofInt 0), .ref q21, .null, .null, .null, .int (Int32.ofInt 0), .int (Int32.ofInt 0), .int (Int32.ofInt 0), .null, .int (Int32.ofInt 0), .null, .int (Int32.ofInt 0), .null, .null, .null]) En0 rfl in_M tyX9_ok nmX9 (Nat.le_of_ble_eq_true rfl) rfl (tg_in 887 (by decide +kernel) (by decide +kernel)) (Or.inr ⟨rfl, hin, rfl⟩) rfl rfl (Nat.le_of_ble_eq_true rfl) rfl hW dI_M_185 (fun H locs hW => ?_)
  refine lv_aload_n hx hb dI_M_188 rfl (lv_at hl 0 rfl) ?_
  refine lv_bipush (v := Int32.ofInt 100) hx hb dI_M_189 (by decide +kernel) ?_
  refine cn_newa (k := 0) (ty := .int) (atype := .int) (N' := 100) (a0 := (100, .inl (fun _ => Int32.ofInt 0))) En0 rfl (tg_in 95 (by decide +kernel) (by decide +kernel)) rfl (fun _ _ h => h) (fun _ => rfl) (by decide +kernel) (by decide +kernel) (Nat.le_of_ble_eq_true rfl) (Nat.le_of_ble_eq_true rfl) (Nat.le_of_ble_eq_true rfl) hW dI_M_191 (fun q22 H hW => ?_)
  refine cn_put (ty0 := tyX9) (k := 29) (C := RX9) (T := TX9) (N := 42) (ci := 9) (fs' := [.int (Int32.ofInt 0), .int (Int32.ofInt (-1)), .int (Int32.ofInt 0), .ref q1, .ref q2, .int (Int32.ofInt (-1)), .ref q3, .int (Int32.ofInt 0), .ref q4, .ref q5, .ref q6, .ref q7, .ref q8, .ref q9, .ref q10, .ref q11, .ref q12, .int (Int32.ofInt 0), .ref q13, .ref q14, .ref q15, .ref q16, .ref q17, .ref q18, .ref q19, .ref q20, .int (Int32.ofInt 0), .int (Int32.ofInt 0), .ref q21, .ref q22, .null, .null, .int (Int32.ofInt 0), .int (Int32.ofInt 0), .int (Int32.ofInt 0), .null, .int (Int32.ofInt 0), .null, .int (Int32.ofInt 0), .null, .null, .null]) En0 rfl in_M tyX9_ok nmX9 (Nat.le_of_ble_eq_true rfl) rfl (tg_in 888 (by decide +kernel) (by decide +kernel)) (Or.inr ⟨rfl, hin, rfl⟩) rfl rfl (Nat.le_of_ble_eq_true rfl) rfl hW dI_M_193 (fun H locs hW => ?_)
  refine lv_aload_n hx hb dI_M_196 rfl (lv_at hl 0 rfl) ?_
  refine lv_bipush (v := Int32.ofInt 100) hx hb dI_M_197 (by decide +kernel) ?_
  refine cn_newa (k := 0) (ty := .int) (atype := .int) (N' := 100) (a0 := (100, .inl (fun _ => Int32.ofInt 0))) En0 rfl (tg_in 95 (by decide +kernel) (by decide +kernel)) rfl (fun _ _ h => h) (fun _ => rfl) (by decide +kernel) (by decide +kernel) (Nat.le_of_ble_eq_true rfl) (Nat.le_of_ble_eq_true rfl) (Nat.le_of_ble_eq_true rfl) hW dI_M_199 (fun q23 H hW => ?_)
  refine cn_put (ty0 := tyX9) (k := 30) (C := RX9) (T := TX9) (N := 42) (ci := 9) (fs' := [.int (Int32.ofInt 0), .int (Int32.ofInt (-1)), .int (Int32.ofInt 0), .ref q1, .ref q2, .int (Int32.ofInt (-1)), .ref q3, .int (Int32.ofInt 0), .ref q4, .ref q5, .ref q6, .ref q7, .ref q8, .ref q9, .ref q10, .ref q11, .ref q12, .int (Int32.ofInt 0), .ref q13, .ref q14, .ref q15, .ref q16, .ref q17, .ref q18, .ref q19, .ref q20, .int (Int32.ofInt 0), .int (Int32.ofInt 0), .ref q21, .ref q22, .ref q23, .null, .int (Int32.ofInt 0), .int (Int32.ofInt 0), .int (Int32.ofInt 0), .null, .int (Int32.ofInt 0), .null, .int (Int32.ofInt 0), .null, .null, .null]) En0 rfl in_M tyX9_ok nmX9 (Nat.le_of_ble_eq_true rfl) rfl (tg_in 889 (by decide +kernel) (by decide +kernel)) (Or.inr ⟨rfl, hin, rfl⟩) rfl rfl (Nat.le_of_ble_eq_true rfl) rfl hW dI_M_201 (fun H locs hW => ?_)
  refine lv_aload_n hx hb dI_M_204 rfl (lv_at hl 0 rfl) ?_
  refine lv_sipush (v := Int32.ofInt 10000) hx hb dI_M_205 (by decide +kernel) ?_
  refine cn_newa (k := 0) (ty := .int) (atype := .int) (N' := 10000) (a0 := (10000, .inl (fun _ => Int32.ofInt 0))) En0 rfl (tg_in 95 (by decide +kernel) (by decide +kernel)) rfl (fun _ _ h => h) (fun _ => rfl) (by decide +kernel) (by decide +kernel) (Nat.le_of_ble_eq_true rfl) (Nat.le_of_ble_eq_true rfl) (Nat.le_of_ble_eq_true rfl) hW dI_M_208 (fun q24 H hW => ?_)
  refine cn_put (ty0 := tyX9) (k := 31) (C := RX9) (T := TX9) (N := 42) (ci := 9) (fs' := [.int (Int32.ofInt 0), .int (Int32.ofInt (-1)), .int (Int32.ofInt 0), .ref q1, .ref q2, .int (Int32.ofInt (-1)), .ref q3, .int (Int32.ofInt 0), .ref q4, .ref q5, .ref q6, .ref q7, .ref q8, .ref q9, .ref q10, .ref q11, .ref q12, .int (Int32.ofInt 0), .ref q13, .ref q14, .ref q15, .ref q16, .ref q17, .ref q18, .ref q19, .ref q20, .int (Int32.ofInt 0), .int (Int32.ofInt 0), .ref q21, .ref q22, .ref q23, .ref q24, .int (Int32.ofInt 0), .int (Int32.ofInt 0), .int (Int32.ofInt 0), .null, .int (Int32.ofInt 0), .null, .int (Int32.ofInt 0), .null, .null, .null]) En0 rfl in_M tyX9_ok nmX9 (Nat.le_of_ble_eq_true rfl) rfl (tg_in 890 (by decide +kernel) (by decide +kernel)) (Or.inr ⟨rfl, hin, rfl⟩) rfl rfl (Nat.le_of_ble_eq_true rfl) rfl hW dI_M_210 (fun H locs hW => ?_)
  refine lv_aload_n hx hb dI_M_213 rfl (lv_at hl 0 rfl) ?_
  refine lv_bipush (v := Int32.ofInt 100) hx hb dI_M_214 (by decide +kernel) ?_
  refine cn_newa (k := 2) (ty := .boolean) (atype := .boolean) (N' := 100) (a0 := (100, .inl (fun _ => Int32.ofInt 0))) En0 rfl (tg_in 986 (by decide +kernel) (by decide +kernel)) rfl (fun _ _ h => h) (fun _ => rfl) (by decide +kernel) (by decide +kernel) (Nat.le_of_ble_eq_true rfl) (Nat.le_of_ble_eq_true rfl) (Nat.le_of_ble_eq_true rfl) hW dI_M_216 (fun q25 H hW => ?_)
  refine cn_put (ty0 := tyX9) (k := 35) (C := RX9) (T := TX9) (N := 42) (ci := 9) (fs' := [.int (Int32.ofInt 0), .int (Int32.ofInt (-1)), .int (Int32.ofInt 0), .ref q1, .ref q2, .int (Int32.ofInt (-1)), .ref q3, .int (Int32.ofInt 0), .ref q4, .ref q5, .ref q6, .ref q7, .ref q8, .ref q9, .ref q10, .ref q11, .ref q12, .int (Int32.ofInt 0), .ref q13, .ref q14, .ref q15, .ref q16, .ref q17, .ref q18, .ref q19, .ref q20, .int (Int32.ofInt 0), .int (Int32.ofInt 0), .ref q21, .ref q22, .ref q23, .ref q24, .int (Int32.ofInt 0), .int (Int32.ofInt 0), .int (Int32.ofInt 0), .ref q25, .int (Int32.ofInt 0), .null, .int (Int32.ofInt 0), .null, .null, .null]) En0 rfl in_M tyX9_ok nmX9 (Nat.le_of_ble_eq_true rfl) rfl (tg_in 894 (by decide +kernel) (by decide +kernel)) (Or.inr ⟨rfl, hin, rfl⟩) rfl rfl (Nat.le_of_ble_eq_true rfl) rfl hW dI_M_218 (fun H locs hW => ?_)
  refine lv_aload_n hx hb dI_M_221 rfl (lv_at hl 0 rfl) ?_
  refine lv_sipush (v := Int32.ofInt 240) hx hb dI_M_222 (by decide +kernel) ?_
  refine cn_newa (k := 0) (ty := .int) (atype := .int) (N' := 240) (a0 := (240, .inl (fun _ => Int32.ofInt 0))) En0 rfl (tg_in 95 (by decide +kernel) (by decide +kernel)) rfl (fun _ _ h => h) (fun _ => rfl) (by decide +kernel) (by decide +kernel) (Nat.le_of_ble_eq_true rfl) (Nat.le_of_ble_eq_true rfl) (Nat.le_of_ble_eq_true rfl) hW dI_M_225 (fun q26 H hW => ?_)
  refine cn_put (ty0 := tyX9) (k := 37) (C := RX9) (T := TX9) (N := 42) (ci := 9) (fs' := [.int (Int32.ofInt 0), .int (Int32.ofInt (-1)), .int (Int32.ofInt 0), .ref q1, .ref q2, .int (Int32.ofInt (-1)), .ref q3, .int (Int32.ofInt 0), .ref q4, .ref q5, .ref q6, .ref q7, .ref q8, .ref q9, .ref q10, .ref q11, .ref q12, .int (Int32.ofInt 0), .ref q13, .ref q14, .ref q15, .ref q16, .ref q17, .ref q18, .ref q19, .ref q20, .int (Int32.ofInt 0), .int (Int32.ofInt 0), .ref q21, .ref q22, .ref q23, .ref q24, .int (Int32.ofInt 0), .int (Int32.ofInt 0), .int (Int32.ofInt 0), .ref q25, .int (Int32.ofInt 0), .ref q26, .int (Int32.ofInt 0), .null, .null, .null]) En0 rfl in_M tyX9_ok nmX9 (Nat.le_of_ble_eq_true rfl) rfl (tg_in 896 (by decide +kernel) (by decide +kernel)) (Or.inr ⟨rfl, hin, rfl⟩) rfl rfl (Nat.le_of_ble_eq_true rfl) rfl hW dI_M_227 (fun H locs hW => ?_)
  refine lv_aload_n hx hb dI_M_230 rfl (lv_at hl 0 rfl) ?_
  refine lv_sipush (v := Int32.ofInt 600) hx hb dI_M_231 (by decide +kernel) ?_
  refine cn_newa (k := 0) (ty := .int) (atype := .int) (N' := 600) (a0 := (600, .inl (fun _ => Int32.ofInt 0))) En0 rfl (tg_in 95 (by decide +kernel) (by decide +kernel)) rfl (fun _ _ h => h) (fun _ => rfl) (by decide +kernel) (by decide +kernel) (Nat.le_of_ble_eq_true rfl) (Nat.le_of_ble_eq_true rfl) (Nat.le_of_ble_eq_true rfl) hW dI_M_234 (fun q27 H hW => ?_)
  refine cn_put (ty0 := tyX9) (k := 39) (C := RX9) (T := TX9) (N := 42) (ci := 9) (fs' := [.int (Int32.ofInt 0), .int (Int32.ofInt (-1)), .int (Int32.ofInt 0), .ref q1, .ref q2, .int (Int32.ofInt (-1)), .ref q3, .int (Int32.ofInt 0), .ref q4, .ref q5, .ref q6, .ref q7, .ref q8, .ref q9, .ref q10, .ref q11, .ref q12, .int (Int32.ofInt 0), .ref q13, .ref q14, .ref q15, .ref q16, .ref q17, .ref q18, .ref q19, .ref q20, .int (Int32.ofInt 0), .int (Int32.ofInt 0), .ref q21, .ref q22, .ref q23, .ref q24, .int (Int32.ofInt 0), .int (Int32.ofInt 0), .int (Int32.ofInt 0), .ref q25, .int (Int32.ofInt 0), .ref q26, .int (Int32.ofInt 0), .ref q27, .null, .null]) En0 rfl in_M tyX9_ok nmX9 (Nat.le_of_ble_eq_true rfl) rfl (tg_in 898 (by decide +kernel) (by decide +kernel)) (Or.inr ⟨rfl, hin, rfl⟩) rfl rfl (Nat.le_of_ble_eq_true rfl) rfl hW dI_M_236 (fun H locs hW => ?_)
  refine lv_aload_n hx hb dI_M_239 rfl (lv_at hl 0 rfl) ?_
  refine lv_sipush (v := Int32.ofInt 600) hx hb dI_M_240 (by decide +kernel) ?_
  refine cn_newa (k := 0) (ty := .int) (atype := .int) (N' := 600) (a0 := (600, .inl (fun _ => Int32.ofInt 0))) En0 rfl (tg_in 95 (by decide +kernel) (by decide +kernel)) rfl (fun _ _ h => h) (fun _ => rfl) (by decide +kernel) (by decide +kernel) (Nat.le_of_ble_eq_true rfl) (Nat.le_of_ble_eq_true rfl) (Nat.le_of_ble_eq_true rfl) hW dI_M_243 (fun q28 H hW => ?_)
  refine cn_put (ty0 := tyX9) (k := 40) (C := RX9) (T := TX9) (N := 42) (ci := 9) (fs' := [.int (Int32.ofInt 0), .int (Int32.ofInt (-1)), .int (Int32.ofInt 0), .ref q1, .ref q2, .int (Int32.ofInt (-1)), .ref q3, .int (Int32.ofInt 0), .ref q4, .ref q5, .ref q6, .ref q7, .ref q8, .ref q9, .ref q10, .ref q11, .ref q12, .int (Int32.ofInt 0), .ref q13, .ref q14, .ref q15, .ref q16, .ref q17, .ref q18, .ref q19, .ref q20, .int (Int32.ofInt 0), .int (Int32.ofInt 0), .ref q21, .ref q22, .ref q23, .ref q24, .int (Int32.ofInt 0), .int (Int32.ofInt 0), .int (Int32.ofInt 0), .ref q25, .int (Int32.ofInt 0), .ref q26, .int (Int32.ofInt 0), .ref q27, .ref q28, .null]) En0 rfl in_M tyX9_ok nmX9 (Nat.le_of_ble_eq_true rfl) rfl (tg_in 899 (by decide +kernel) (by decide +kernel)) (Or.inr ⟨rfl, hin, rfl⟩) rfl rfl (Nat.le_of_ble_eq_true rfl) rfl hW dI_M_245 (fun H locs hW => ?_)
  refine lv_aload_n hx hb dI_M_248 rfl (lv_at hl 0 rfl) ?_
  refine lv_bipush (v := Int32.ofInt 100) hx hb dI_M_249 (by decide +kernel) ?_
  refine cn_newa (k := 0) (ty := .int) (atype := .int) (N' := 100) (a0 := (100, .inl (fun _ => Int32.ofInt 0))) En0 rfl (tg_in 95 (by decide +kernel) (by decide +kernel)) rfl (fun _ _ h => h) (fun _ => rfl) (by decide +kernel) (by decide +kernel) (Nat.le_of_ble_eq_true rfl) (Nat.le_of_ble_eq_true rfl) (Nat.le_of_ble_eq_true rfl) hW dI_M_251 (fun q29 H hW => ?_)
  refine cn_put (ty0 := tyX9) (k := 41) (C := RX9) (T := TX9) (N := 42) (ci := 9) (fs' := [.int (Int32.ofInt 0), .int (Int32.ofInt (-1)), .int (Int32.ofInt 0), .ref q1, .ref q2, .int (Int32.ofInt (-1)), .ref q3, .int (Int32.ofInt 0), .ref q4, .ref q5, .ref q6, .ref q7, .ref q8, .ref q9, .ref q10, .ref q11, .ref q12, .int (Int32.ofInt 0), .ref q13, .ref q14, .ref q15, .ref q16, .ref q17, .ref q18, .ref q19, .ref q20, .int (Int32.ofInt 0), .int (Int32.ofInt 0), .ref q21, .ref q22, .ref q23, .ref q24, .int (Int32.ofInt 0), .int (Int32.ofInt 0), .int (Int32.ofInt 0), .ref q25, .int (Int32.ofInt 0), .ref q26, .int (Int32.ofInt 0), .ref q27, .ref q28, .ref q29]) En0 rfl in_M tyX9_ok nmX9 (Nat.le_of_ble_eq_true rfl) rfl (tg_in 900 (by decide +kernel) (by decide +kernel)) (Or.inr ⟨rfl, hin, rfl⟩) rfl rfl (Nat.le_of_ble_eq_true rfl) rfl hW dI_M_253 (fun H locs hW => ?_)
  obtain ⟨hP, hD, hS⟩ := hW
  refine W.widen (k := 29) (n := 97900) (Nat.le_of_ble_eq_true rfl) (Nat.le_of_ble_eq_true rfl) ?_
  exact W.vret hx hb hr (fun t ht hW => ⟨⟨_, rfl, ⟨q1, q2, q3, q4, q5, q6, q7, q8, q9, q10, q11, q12, q13, q14, q15, q16, q17, q18, q19, q20, q21, q22, q23, q24, q25, q26, q27, q28, q29, rfl⟩, by rw [ht]; exact hP, va_K.moved hW.alike hK, hD⟩, hS.F ht⟩) hS.2.2 dI_M_256
