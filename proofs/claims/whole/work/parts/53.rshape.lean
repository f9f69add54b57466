/-! the reference: shape -/
theorem lean_r {f : Nat → Int} : ∀ n : Nat, (∀ j, j < n → f j = 0 ∨ f j = 1) → -(n : Int) ≤ leanF f n ∧ leanF f n ≤ n
  | 0, _ => by rw [leanF]; omega
  | n + 1, h => by
    have h1 := lean_r n (fun j hj => h j (by omega))
    have h2 := h n (by omega)
    rw [leanF]
    omega
theorem shp_r {f : Nat → Int} : ∀ n : Nat, (∀ j, j < n → f j = 0 ∨ f j = 1) → (-(n : Int) ≤ leastF f n ∧ leastF f n ≤ n) ∧ (-(n : Int) ≤ greatF f n ∧ greatF f n ≤ n) ∧ (0 ≤ runF f n ∧ runF f n ≤ n) ∧ (0 ≤ longF f n ∧ longF f n ≤ n)
  | 0, _ => by rw [leastF, greatF, runF, longF]; omega
  | n + 1, h => by
    have h1 := shp_r n (fun j hj => h j (by omega))
    have h2 := lean_r (n + 1) h
    have h3 : 0 ≤ runF f (n + 1) ∧ runF f (n + 1) ≤ n + 1 := by
      rw [runF]
      split <;> omega
    rw [leastF, greatF, longF]
    omega
theorem lean_s {f : Nat → Int} {n : Nat} (h : f n = 0 ∨ f n = 1) : leanF f (n + 1) = leanF f n + (if f n = 1 then 1 else -1) := by
  rw [leanF]
  split <;> omega
def likeF (f : Nat → Int) (n : Nat) : Int := if 0 < n ∧ f n = f (n - 1) then 1 else 0
def s_M_shape : Spec := fun as σ Q => popR as fun c0 r0 => popI r0 fun w r1 => r1 = [] ∧ c0 = 37 ∧ (0 ≤ σ 37 38 ∧ σ 37 38 ≤ 600) ∧ (∀ t : Nat, (t : Int) < σ 37 38 → σ 64 t = 0 ∨ σ 64 t = 1) ∧ (rI w) ∧ Q (some (.inl (if w = 0 then leastF (σ 64) (σ 37 38).toNat else if w = 1 then greatF (σ 64) (σ 37 38).toNat else if w = 2 then sqF (σ 64) (σ 37 38).toNat else if w = 3 then longF (σ 64) (σ 37 38).toNat else if w = 4 then turnF (σ 64) (σ 37 38).toNat else -2))) σ
theorem e_M_shape (w : Int) (σ : St) (Q : Option AV → St → Prop) : s_M_shape [.inr (.inr (some 37)), .inl w] σ Q = ((0 ≤ σ 37 38 ∧ σ 37 38 ≤ 600) ∧ (∀ t : Nat, (t : Int) < σ 37 38 → σ 64 t = 0 ∨ σ 64 t = 1) ∧ (rI w) ∧ Q (some (.inl (if w = 0 then leastF (σ 64) (σ 37 38).toNat else if w = 1 then greatF (σ 64) (σ 37 38).toNat else if w = 2 then sqF (σ 64) (σ 37 38).toNat else if w = 3 then longF (σ 64) (σ 37 38).toNat else if w = 4 then turnF (σ 64) (σ 37 38).toNat else -2))) σ) := by
  show ([] = [] ∧ _) = _
  simp only [true_and]
set_option maxHeartbeats 8000000 in
set_option maxRecDepth 20000 in
theorem S_M_shape {l : Launch} : Sat l y_M_shape b_M_shape 11 (some .int) 1 s_M_shape := by
  refine sat_of (Φ := P_M) (κ := Q_M) (Γ := [(108, 0, 3, s_M_in)]) (rt := 1) (by decide +kernel) P_M_ok Q_M_ok (by
    refine List.forall_mem_cons.mpr ⟨?_, fun _ h => absurd h List.not_mem_nil⟩
    · exact m_M_in S_M_in (by decide) l_M_108) (by simp) o_M_shape ?_
  intro as σ Q hh0
  obtain ⟨c0, rr0, rfl, hh1⟩ := popR_inv hh0
  obtain ⟨w, rr1, rfl, hh2⟩ := popI_inv hh1
  obtain ⟨hrE, rfl, h33, hb, hrw, hQ⟩ := hh2
  subst hrE
  clear hh0 hh1
  refine ⟨Nat.le_of_ble_eq_true rfl, [(37, mkC (fun L st u => ∃ (i a b c d e f g : Int) (v10 : AV), L = [.inr (.inr (some 37)), .inl w, .inl a, .inl b, .inl c, .inl d, .inl e, .inl f, .inl g, .inl i, v10] ∧ st = [] ∧ (0 ≤ w ∧ w ≤ 4) ∧ (0 ≤ i ∧ i ≤ σ 37 38) ∧ (a = leastF (σ 64) i.toNat) ∧ (b = greatF (σ 64) i.toNat) ∧ (c = sqF (σ 64) i.toNat) ∧ (d = longF (σ 64) i.toNat) ∧ (e = turnF (σ 64) i.toNat) ∧ (f = leanF (σ 64) i.toNat) ∧ (g = runF (σ 64) i.toNat) ∧ (u = σ)) (fun L st u => ((601 - gI L 9).toNat, 10, 0))),
    (79, mkC (fun L st u => ∃ (i a b c d e f g x : Int) (v10 : AV), L = [.inr (.inr (some 37)), .inl w, .inl a, .inl b, .inl c, .inl d, .inl e, .inl f, .inl g, .inl i, v10] ∧ st = [.inl x] ∧ (0 ≤ w ∧ w ≤ 4) ∧ (0 ≤ i ∧ i < σ 37 38) ∧ (a = leastF (σ 64) i.toNat) ∧ (b = greatF (σ 64) i.toNat) ∧ (c = sqF (σ 64) i.toNat) ∧ (d = longF (σ 64) i.toNat) ∧ (e = turnF (σ 64) i.toNat) ∧ (f = leanF (σ 64) (i.toNat + 1)) ∧ (g = runF (σ 64) i.toNat) ∧ (x = leastF (σ 64) (i.toNat + 1)) ∧ (u = σ)) (fun L st u => ((601 - gI L 9).toNat, 8, 0))),
    (92, mkC (fun L st u => ∃ (i a b c d e f g x : Int) (v10 : AV), L = [.inr (.inr (some 37)), .inl w, .inl a, .inl b, .inl c, .inl d, .inl e, .inl f, .inl g, .inl i, v10] ∧ st = [.inl x] ∧ (0 ≤ w ∧ w ≤ 4) ∧ (0 ≤ i ∧ i < σ 37 38) ∧ (a = leastF (σ 64) (i.toNat + 1)) ∧ (b = greatF (σ 64) i.toNat) ∧ (c = sqF (σ 64) i.toNat) ∧ (d = longF (σ 64) i.toNat) ∧ (e = turnF (σ 64) i.toNat) ∧ (f = leanF (σ 64) (i.toNat + 1)) ∧ (g = runF (σ 64) i.toNat) ∧ (x = greatF (σ 64) (i.toNat + 1)) ∧ (u = σ)) (fun L st u => ((601 - gI L 9).toNat, 7, 0))),
    (132, mkC (fun L st u => ∃ (i a b c d e f g x : Int) (v10 : AV), L = [.inr (.inr (some 37)), .inl w, .inl a, .inl b, .inl c, .inl d, .inl e, .inl f, .inl g, .inl i, v10] ∧ st = [.inl x] ∧ (0 ≤ w ∧ w ≤ 4) ∧ (0 ≤ i ∧ i < σ 37 38) ∧ (a = leastF (σ 64) (i.toNat + 1)) ∧ (b = greatF (σ 64) (i.toNat + 1)) ∧ (c = sqF (σ 64) (i.toNat + 1)) ∧ (d = longF (σ 64) i.toNat) ∧ (e = turnF (σ 64) i.toNat) ∧ (f = leanF (σ 64) (i.toNat + 1)) ∧ (g = runF (σ 64) i.toNat) ∧ (x = likeF (σ 64) i.toNat) ∧ (u = σ)) (fun L st u => ((601 - gI L 9).toNat, 6, 0))),
    (147, mkC (fun L st u => ∃ (i a b c d e f g x y : Int), L = [.inr (.inr (some 37)), .inl w, .inl a, .inl b, .inl c, .inl d, .inl e, .inl f, .inl g, .inl i, .inl y] ∧ st = [.inl x] ∧ (0 ≤ w ∧ w ≤ 4) ∧ (0 ≤ i ∧ i < σ 37 38) ∧ (a = leastF (σ 64) (i.toNat + 1)) ∧ (b = greatF (σ 64) (i.toNat + 1)) ∧ (c = sqF (σ 64) (i.toNat + 1)) ∧ (d = longF (σ 64) i.toNat) ∧ (e = turnF (σ 64) i.toNat) ∧ (f = leanF (σ 64) (i.toNat + 1)) ∧ (g = runF (σ 64) i.toNat) ∧ (x = runF (σ 64) (i.toNat + 1)) ∧ (y = likeF (σ 64) i.toNat) ∧ (u = σ)) (fun L st u => ((601 - gI L 9).toNat, 5, 0))),
    (163, mkC (fun L st u => ∃ (i a b c d e f g x y : Int), L = [.inr (.inr (some 37)), .inl w, .inl a, .inl b, .inl c, .inl d, .inl e, .inl f, .inl g, .inl i, .inl y] ∧ st = [.inl x] ∧ (0 ≤ w ∧ w ≤ 4) ∧ (0 ≤ i ∧ i < σ 37 38) ∧ (a = leastF (σ 64) (i.toNat + 1)) ∧ (b = greatF (σ 64) (i.toNat + 1)) ∧ (c = sqF (σ 64) (i.toNat + 1)) ∧ (d = longF (σ 64) i.toNat) ∧ (e = turnF (σ 64) i.toNat) ∧ (f = leanF (σ 64) (i.toNat + 1)) ∧ (g = runF (σ 64) (i.toNat + 1)) ∧ (x = longF (σ 64) (i.toNat + 1)) ∧ (y = likeF (σ 64) i.toNat) ∧ (u = σ)) (fun L st u => ((601 - gI L 9).toNat, 4, 0))),
    (182, mkC (fun L st u => ∃ (i a b c d e f g x y z : Int), L = [.inr (.inr (some 37)), .inl w, .inl a, .inl b, .inl c, .inl d, .inl e, .inl f, .inl g, .inl i, .inl y] ∧ st = [.inl x, .inl z] ∧ (0 ≤ w ∧ w ≤ 4) ∧ (0 ≤ i ∧ i < σ 37 38) ∧ (a = leastF (σ 64) (i.toNat + 1)) ∧ (b = greatF (σ 64) (i.toNat + 1)) ∧ (c = sqF (σ 64) (i.toNat + 1)) ∧ (d = longF (σ 64) (i.toNat + 1)) ∧ (e = turnF (σ 64) i.toNat) ∧ (f = leanF (σ 64) (i.toNat + 1)) ∧ (g = runF (σ 64) (i.toNat + 1)) ∧ (z + x = turnF (σ 64) (i.toNat + 1)) ∧ (y = likeF (σ 64) i.toNat) ∧ (u = σ)) (fun L st u => ((601 - gI L 9).toNat, 3, 0)))], 14, ?_, cuts1 ?_ (cuts1 ?_ (cuts1 ?_ (cuts1 ?_ (cuts1 ?_ (cuts1 ?_ (cuts1 ?_ (cuts0)))))))⟩
  · rw [show entL 11 [.inr (.inr (some 37)), .inl w] = [.inr (.inr (some 37)), .inl w, .inr (.inr none), .inr (.inr none), .inr (.inr none), .inr (.inr none), .inr (.inr none), .inr (.inr none), .inr (.inr none), .inr (.inr none), .inr (.inr none)] from rfl]
    simp only [↓wpN_go, jmp_e, ↓wp_aload_n0, ↓wp_bipush, ↓wp_getfield, ↓wp_goto, ↓wp_i2l, ↓wp_iadd, ↓wp_iaload, ↓wp_icmp_ge, ↓wp_icmp_le, ↓wp_icmp_ne, ↓wp_iconst, ↓wp_if_eq, ↓wp_if_le, ↓wp_if_ne, ↓wp_iinc, ↓wp_iload, ↓wp_iload_n1, ↓wp_iload_n2, ↓wp_iload_n3, ↓wp_imul, ↓wp_invokestatic, ↓wp_ireturn1, ↓wp_istore, ↓wp_istore_n2, ↓wp_istore_n3, ↓wp_isub, ↓wp_lconst0, ↓wp_ldc2_w, wp_nil, ↓ldI_0, ↓ldI_s, ↓ldL_0, ↓ldL_s, ↓ldR_0, ↓ldR_s, sto1_0, sto1_1, sto1_s, sto2_0, sto2_1, sto2_s, isLong_i, isLong_l, isLong_r, ↓popI_c, ↓popL_c, ↓popR_c, ↓popN_0, ↓popN_s, catS_n, catS_c, psh_s, psh_n, fldV_n, fldV_s, ↓tgt_e, sw_n, ↓sw_c, ↓lk1_h, ↓lk1_m, ↓atC_h, ↓atC_m, ↓atC_n, ltO_n, ltO_s, updR_eq, updR_ne, gI_0i, gI_0l, gI_s, ltM_iff, List.cons.injEq, Sum.inl.injEq, Sum.inr.injEq, Option.some.injEq, exists_eq_left, exists_eq_left', exists_eq_right, exists_eq_right', exists_and_left, exists_and_right, exists_eq, exists_const, and_assoc, ↓j_M_shape_0, ↓j_M_shape_15, ↓j_M_shape_37, ↓j_M_shape_63, ↓j_M_shape_64, ↓j_M_shape_78, ↓j_M_shape_79, ↓j_M_shape_91, ↓j_M_shape_92, ↓j_M_shape_131, ↓j_M_shape_132, ↓j_M_shape_146, ↓j_M_shape_147, ↓j_M_shape_161, ↓j_M_shape_163, ↓j_M_shape_181, ↓j_M_shape_182, ↓j_M_shape_191, ↓j_M_shape_199, ↓j_M_shape_208, ↓j_M_shape_218, ↓j_M_shape_228, ↓j_M_shape_230, ↓c_M_100262, ↓f_M_259, ↓f_M_97, List.length_cons, List.length_nil, Nat.zero_add, Nat.reduceAdd, Int.reduceAdd, Int.reduceNeg, Int.reduceToNat, Int.reduceLE, Int.reduceLT, true_and, and_true, Nat.reduceLT, reduceIte, Nat.reduceEqDiff, ne_eq, not_false_eq_true, false_implies, true_implies, Bool.false_eq_true, reduceCtorEq, List.cons_append, List.nil_append, Nat.reduceSub, Nat.reduceLeDiff, Fin.isValue, Int.reduceNatCast', Int.zero_add, Int.add_zero, decide_true, decide_false, implies_true, forall_const, true_or, or_true, or_false, false_or, false_and, and_false, Int.toNat_natCast, ↓oF_37_0, ↓oF_37_1, ↓oF_37_2, ↓oF_37_3, ↓aF_38, ↓oF_37_4, ↓aF_39, ↓oF_37_5, ↓oF_37_6, ↓aF_40, ↓oF_37_7, ↓oF_37_8, ↓aF_41, ↓oF_37_9, ↓aF_42, ↓oF_37_10, ↓aF_43, ↓oF_37_11, ↓aF_44, ↓oF_37_12, ↓aF_45, ↓oF_37_13, ↓aF_46, ↓oF_37_14, ↓aF_47, ↓oF_37_15, ↓aF_48, ↓oF_37_16, ↓aF_49, ↓oF_37_17, ↓oF_37_18, ↓aF_50, ↓oF_37_19, ↓aF_51, ↓oF_37_20, ↓aF_52, ↓oF_37_21, ↓aF_53, ↓oF_37_22, ↓aF_54, ↓oF_37_23, ↓aF_55, ↓oF_37_24, ↓aF_56, ↓oF_37_25, ↓aF_57, ↓oF_37_26, ↓oF_37_27, ↓oF_37_28, ↓aF_58, ↓oF_37_29, ↓aF_59, ↓oF_37_30, ↓aF_60, ↓oF_37_31, ↓aF_61, ↓oF_37_32, ↓oF_37_33, ↓oF_37_34, ↓oF_37_35, ↓aF_62, ↓oF_37_36, ↓oF_37_37, ↓aF_63, ↓oF_37_38, ↓oF_37_39, ↓aF_64, ↓oF_37_40, ↓aF_65, ↓oF_37_41, ↓aF_66, oC_0, oC_1, oC_4, oC_11, oC_16, oC_18, oC_20, oC_23, oC_25, oC_26, oC_29, oC_31, oC_33, oC_35, oC_37, isT_29, isT_31, isT_33, isT_35, isL_16, isL_18, isL_26, b2i_0, b2i_1, b2i_01, b2i_r, ↓e_M_in]
    have q1 : ¬ (0 ≤ w ∧ w ≤ 4) → Q (some (.inl (-2))) σ := fun h => by
      rw [if_neg (by omega), if_neg (by omega), if_neg (by omega), if_neg (by omega), if_neg (by omega)] at hQ
      exact hQ
    clear hQ
    (try simp only [rI_iff, rL_iff] at *)
    repeat' (with_reducible (first | assumption | apply And.intro | intro _))
    all_goals first | omega | with_reducible assumption | exact True.intro | skip
    all_goals first
      | exact q1 (by omega)
      | rfl
      | omega
      | trace_state
  · intro L st u hI
    obtain ⟨i, a, b, c, d, e, f, g, v10, rfl, rfl, hw, hi, ha, hb2, hc2, hd, he, hf2, hg, hu⟩ := hI
    simp only [↓wpN_go, jmp_e, ↓wp_aload_n0, ↓wp_bipush, ↓wp_getfield, ↓wp_goto, ↓wp_i2l, ↓wp_iadd, ↓wp_iaload, ↓wp_icmp_ge, ↓wp_icmp_le, ↓wp_icmp_ne, ↓wp_iconst, ↓wp_if_eq, ↓wp_if_le, ↓wp_if_ne, ↓wp_iinc, ↓wp_iload, ↓wp_iload_n1, ↓wp_iload_n2, ↓wp_iload_n3, ↓wp_imul, ↓wp_invokestatic, ↓wp_ireturn1, ↓wp_istore, ↓wp_istore_n2, ↓wp_istore_n3, ↓wp_isub, ↓wp_lconst0, ↓wp_ldc2_w, wp_nil, ↓ldI_0, ↓ldI_s, ↓ldL_0, ↓ldL_s, ↓ldR_0, ↓ldR_s, sto1_0, sto1_1, sto1_s, sto2_0, sto2_1, sto2_s, isLong_i, isLong_l, isLong_r, ↓popI_c, ↓popL_c, ↓popR_c, ↓popN_0, ↓popN_s, catS_n, catS_c, psh_s, psh_n, fldV_n, fldV_s, ↓tgt_e, sw_n, ↓sw_c, ↓lk1_h, ↓lk1_m, ↓atC_h, ↓atC_m, ↓atC_n, ltO_n, ltO_s, updR_eq, updR_ne, gI_0i, gI_0l, gI_s, ltM_iff, List.cons.injEq, Sum.inl.injEq, Sum.inr.injEq, Option.some.injEq, exists_eq_left, exists_eq_left', exists_eq_right, exists_eq_right', exists_and_left, exists_and_right, exists_eq, exists_const, and_assoc, ↓j_M_shape_0, ↓j_M_shape_15, ↓j_M_shape_37, ↓j_M_shape_63, ↓j_M_shape_64, ↓j_M_shape_78, ↓j_M_shape_79, ↓j_M_shape_91, ↓j_M_shape_92, ↓j_M_shape_131, ↓j_M_shape_132, ↓j_M_shape_146, ↓j_M_shape_147, ↓j_M_shape_161, ↓j_M_shape_163, ↓j_M_shape_181, ↓j_M_shape_182, ↓j_M_shape_191, ↓j_M_shape_199, ↓j_M_shape_208, ↓j_M_shape_218, ↓j_M_shape_228, ↓j_M_shape_230, ↓c_M_100262, ↓f_M_259, ↓f_M_97, List.length_cons, List.length_nil, Nat.zero_add, Nat.reduceAdd, Int.reduceAdd, Int.reduceNeg, Int.reduceToNat, Int.reduceLE, Int.reduceLT, true_and, and_true, Nat.reduceLT, reduceIte, Nat.reduceEqDiff, ne_eq, not_false_eq_true, false_implies, true_implies, Bool.false_eq_true, reduceCtorEq, List.cons_append, List.nil_append, Nat.reduceSub, Nat.reduceLeDiff, Fin.isValue, Int.reduceNatCast', Int.zero_add, Int.add_zero, decide_true, decide_false, implies_true, forall_const, true_or, or_true, or_false, false_or, false_and, and_false, Int.toNat_natCast, ↓oF_37_0, ↓oF_37_1, ↓oF_37_2, ↓oF_37_3, ↓aF_38, ↓oF_37_4, ↓aF_39, ↓oF_37_5, ↓oF_37_6, ↓aF_40, ↓oF_37_7, ↓oF_37_8, ↓aF_41, ↓oF_37_9, ↓aF_42, ↓oF_37_10, ↓aF_43, ↓oF_37_11, ↓aF_44, ↓oF_37_12, ↓aF_45, ↓oF_37_13, ↓aF_46, ↓oF_37_14, ↓aF_47, ↓oF_37_15, ↓aF_48, ↓oF_37_16, ↓aF_49, ↓oF_37_17, ↓oF_37_18, ↓aF_50, ↓oF_37_19, ↓aF_51, ↓oF_37_20, ↓aF_52, ↓oF_37_21, ↓aF_53, ↓oF_37_22, ↓aF_54, ↓oF_37_23, ↓aF_55, ↓oF_37_24, ↓aF_56, ↓oF_37_25, ↓aF_57, ↓oF_37_26, ↓oF_37_27, ↓oF_37_28, ↓aF_58, ↓oF_37_29, ↓aF_59, ↓oF_37_30, ↓aF_60, ↓oF_37_31, ↓aF_61, ↓oF_37_32, ↓oF_37_33, ↓oF_37_34, ↓oF_37_35, ↓aF_62, ↓oF_37_36, ↓oF_37_37, ↓aF_63, ↓oF_37_38, ↓oF_37_39, ↓aF_64, ↓oF_37_40, ↓aF_65, ↓oF_37_41, ↓aF_66, oC_0, oC_1, oC_4, oC_11, oC_16, oC_18, oC_20, oC_23, oC_25, oC_26, oC_29, oC_31, oC_33, oC_35, oC_37, isT_29, isT_31, isT_33, isT_35, isL_16, isL_18, isL_26, b2i_0, b2i_1, b2i_01, b2i_r, ↓e_M_in]
    subst hu
    have e1 : (i + 1).toNat = i.toNat + 1 := by omega
    have e5 : (i - 1).toNat = i.toNat - 1 := by omega
    have hbi := hb i.toNat
    have hbj := hb (i.toNat - 1)
    have hl0 := lean_r (f := u 64) i.toNat (fun j hj => hb j (by omega))
    have hs0 := shp_r (f := u 64) i.toNat (fun j hj => hb j (by omega))
    have hl1 := fun hc : i < u 37 38 => lean_r (f := u 64) (i.toNat + 1) (fun j hj => hb j (by omega))
    have hs1 := fun hc : i < u 37 38 => shp_r (f := u 64) (i.toNat + 1) (fun j hj => hb j (by omega))
    have x0 := fun hc : i < u 37 38 => lean_s (hbi (by omega))
    have x1 : leastF (u 64) (i.toNat + 1) = min (leastF (u 64) i.toNat) (leanF (u 64) (i.toNat + 1)) := rfl
    have x2 : greatF (u 64) (i.toNat + 1) = max (greatF (u 64) i.toNat) (leanF (u 64) (i.toNat + 1)) := rfl
    have x3 : sqF (u 64) (i.toNat + 1) = sqF (u 64) i.toNat + leanF (u 64) (i.toNat + 1) * leanF (u 64) (i.toNat + 1) := rfl
    have x4 : runF (u 64) (i.toNat + 1) = if 0 < i.toNat ∧ u 64 i.toNat = u 64 (i.toNat - 1) then runF (u 64) i.toNat + 1 else 1 := rfl
    have x5 : longF (u 64) (i.toNat + 1) = max (longF (u 64) i.toNat) (runF (u 64) (i.toNat + 1)) := rfl
    have x6 : turnF (u 64) (i.toNat + 1) = turnF (u 64) i.toNat + (if 0 < i.toNat ∧ u 64 i.toNat ≠ u 64 (i.toNat - 1) then 1 else 0) := rfl
    have x7 : likeF (u 64) i.toNat = if 0 < i.toNat ∧ u 64 i.toNat = u 64 (i.toNat - 1) then 1 else 0 := rfl
    simp only [e5]
    subst ha hb2 hc2 hd he hf2 hg
    by_cases hcc : i < u 37 38
    · have hl1 := hl1 hcc
      have hs1 := hs1 hcc
      have x0 := x0 hcc
      have hbi := hbi (by omega)
      have hbj := hbj (by omega)
      clear hQ
      (try simp only [rI_iff, rL_iff] at *)
      repeat' (with_reducible (first | assumption | apply And.intro | intro _))
      all_goals first | omega | with_reducible assumption | exact True.intro | skip
      all_goals first
        | omega
        | grind
        | trace_state
    · have hi2 : i = u 37 38 := by omega
      rw [← hi2] at hQ
      (try simp only [rI_iff, rL_iff] at *)
      repeat' (with_reducible (first | assumption | apply And.intro | intro _))
      all_goals first | omega | with_reducible assumption | exact True.intro | skip
      all_goals first
        | omega
        | grind
        | trace_state
  · intro L st u hI
    obtain ⟨i, a, b, c, d, e, f, g, x, v10, rfl, rfl, hw, hi, ha, hb2, hc2, hd, he, hf2, hg, hx, hu⟩ := hI
    simp only [↓wpN_go, jmp_e, ↓wp_aload_n0, ↓wp_bipush, ↓wp_getfield, ↓wp_goto, ↓wp_i2l, ↓wp_iadd, ↓wp_iaload, ↓wp_icmp_ge, ↓wp_icmp_le, ↓wp_icmp_ne, ↓wp_iconst, ↓wp_if_eq, ↓wp_if_le, ↓wp_if_ne, ↓wp_iinc, ↓wp_iload, ↓wp_iload_n1, ↓wp_iload_n2, ↓wp_iload_n3, ↓wp_imul, ↓wp_invokestatic, ↓wp_ireturn1, ↓wp_istore, ↓wp_istore_n2, ↓wp_istore_n3, ↓wp_isub, ↓wp_lconst0, ↓wp_ldc2_w, wp_nil, ↓ldI_0, ↓ldI_s, ↓ldL_0, ↓ldL_s, ↓ldR_0, ↓ldR_s, sto1_0, sto1_1, sto1_s, sto2_0, sto2_1, sto2_s, isLong_i, isLong_l, isLong_r, ↓popI_c, ↓popL_c, ↓popR_c, ↓popN_0, ↓popN_s, catS_n, catS_c, psh_s, psh_n, fldV_n, fldV_s, ↓tgt_e, sw_n, ↓sw_c, ↓lk1_h, ↓lk1_m, ↓atC_h, ↓atC_m, ↓atC_n, ltO_n, ltO_s, updR_eq, updR_ne, gI_0i, gI_0l, gI_s, ltM_iff, List.cons.injEq, Sum.inl.injEq, Sum.inr.injEq, Option.some.injEq, exists_eq_left, exists_eq_left', exists_eq_right, exists_eq_right', exists_and_left, exists_and_right, exists_eq, exists_const, and_assoc, ↓j_M_shape_0, ↓j_M_shape_15, ↓j_M_shape_37, ↓j_M_shape_63, ↓j_M_shape_64, ↓j_M_shape_78, ↓j_M_shape_79, ↓j_M_shape_91, ↓j_M_shape_92, ↓j_M_shape_131, ↓j_M_shape_132, ↓j_M_shape_146, ↓j_M_shape_147, ↓j_M_shape_161, ↓j_M_shape_163, ↓j_M_shape_181, ↓j_M_shape_182, ↓j_M_shape_191, ↓j_M_shape_199, ↓j_M_shape_208, ↓j_M_shape_218, ↓j_M_shape_228, ↓j_M_shape_230, ↓c_M_100262, ↓f_M_259, ↓f_M_97, List.length_cons, List.length_nil, Nat.zero_add, Nat.reduceAdd, Int.reduceAdd, Int.reduceNeg, Int.reduceToNat, Int.reduceLE, Int.reduceLT, true_and, and_true, Nat.reduceLT, reduceIte, Nat.reduceEqDiff, ne_eq, not_false_eq_true, false_implies, true_implies, Bool.false_eq_true, reduceCtorEq, List.cons_append, List.nil_append, Nat.reduceSub, Nat.reduceLeDiff, Fin.isValue, Int.reduceNatCast', Int.zero_add, Int.add_zero, decide_true, decide_false, implies_true, forall_const, true_or, or_true, or_false, false_or, false_and, and_false, Int.toNat_natCast, ↓oF_37_0, ↓oF_37_1, ↓oF_37_2, ↓oF_37_3, ↓aF_38, ↓oF_37_4, ↓aF_39, ↓oF_37_5, ↓oF_37_6, ↓aF_40, ↓oF_37_7, ↓oF_37_8, ↓aF_41, ↓oF_37_9, ↓aF_42, ↓oF_37_10, ↓aF_43, ↓oF_37_11, ↓aF_44, ↓oF_37_12, ↓aF_45, ↓oF_37_13, ↓aF_46, ↓oF_37_14, ↓aF_47, ↓oF_37_15, ↓aF_48, ↓oF_37_16, ↓aF_49, ↓oF_37_17, ↓oF_37_18, ↓aF_50, ↓oF_37_19, ↓aF_51, ↓oF_37_20, ↓aF_52, ↓oF_37_21, ↓aF_53, ↓oF_37_22, ↓aF_54, ↓oF_37_23, ↓aF_55, ↓oF_37_24, ↓aF_56, ↓oF_37_25, ↓aF_57, ↓oF_37_26, ↓oF_37_27, ↓oF_37_28, ↓aF_58, ↓oF_37_29, ↓aF_59, ↓oF_37_30, ↓aF_60, ↓oF_37_31, ↓aF_61, ↓oF_37_32, ↓oF_37_33, ↓oF_37_34, ↓oF_37_35, ↓aF_62, ↓oF_37_36, ↓oF_37_37, ↓aF_63, ↓oF_37_38, ↓oF_37_39, ↓aF_64, ↓oF_37_40, ↓aF_65, ↓oF_37_41, ↓aF_66, oC_0, oC_1, oC_4, oC_11, oC_16, oC_18, oC_20, oC_23, oC_25, oC_26, oC_29, oC_31, oC_33, oC_35, oC_37, isT_29, isT_31, isT_33, isT_35, isL_16, isL_18, isL_26, b2i_0, b2i_1, b2i_01, b2i_r, ↓e_M_in]
    subst hu
    have e1 : (i + 1).toNat = i.toNat + 1 := by omega
    have e5 : (i - 1).toNat = i.toNat - 1 := by omega
    have hbi := hb i.toNat
    have hbj := hb (i.toNat - 1)
    have hl0 := lean_r (f := u 64) i.toNat (fun j hj => hb j (by omega))
    have hs0 := shp_r (f := u 64) i.toNat (fun j hj => hb j (by omega))
    have hl1 := fun hc : i < u 37 38 => lean_r (f := u 64) (i.toNat + 1) (fun j hj => hb j (by omega))
    have hs1 := fun hc : i < u 37 38 => shp_r (f := u 64) (i.toNat + 1) (fun j hj => hb j (by omega))
    have x0 := fun hc : i < u 37 38 => lean_s (hbi (by omega))
    have x1 : leastF (u 64) (i.toNat + 1) = min (leastF (u 64) i.toNat) (leanF (u 64) (i.toNat + 1)) := rfl
    have x2 : greatF (u 64) (i.toNat + 1) = max (greatF (u 64) i.toNat) (leanF (u 64) (i.toNat + 1)) := rfl
    have x3 : sqF (u 64) (i.toNat + 1) = sqF (u 64) i.toNat + leanF (u 64) (i.toNat + 1) * leanF (u 64) (i.toNat + 1) := rfl
    have x4 : runF (u 64) (i.toNat + 1) = if 0 < i.toNat ∧ u 64 i.toNat = u 64 (i.toNat - 1) then runF (u 64) i.toNat + 1 else 1 := rfl
    have x5 : longF (u 64) (i.toNat + 1) = max (longF (u 64) i.toNat) (runF (u 64) (i.toNat + 1)) := rfl
    have x6 : turnF (u 64) (i.toNat + 1) = turnF (u 64) i.toNat + (if 0 < i.toNat ∧ u 64 i.toNat ≠ u 64 (i.toNat - 1) then 1 else 0) := rfl
    have x7 : likeF (u 64) i.toNat = if 0 < i.toNat ∧ u 64 i.toNat = u 64 (i.toNat - 1) then 1 else 0 := rfl
    simp only [e5]
    subst ha hb2 hc2 hd he hf2 hg
    have hcc : i < u 37 38 := hi.2
    have hl1 := hl1 hcc
    have hs1 := hs1 hcc
    have x0 := x0 hcc
    have hbi := hbi (by omega)
    have hbj := hbj (by omega)
    clear hQ
    (try simp only [rI_iff, rL_iff] at *)
    repeat' (with_reducible (first | assumption | apply And.intro | intro _))
    all_goals first | omega | with_reducible assumption | exact True.intro | skip
    all_goals first
      | omega
      | grind
      | trace_state
  · intro L st u hI
    obtain ⟨i, a, b, c, d, e, f, g, x, v10, rfl, rfl, hw, hi, ha, hb2, hc2, hd, he, hf2, hg, hx, hu⟩ := hI
    simp only [↓wpN_go, jmp_e, ↓wp_aload_n0, ↓wp_bipush, ↓wp_getfield, ↓wp_goto, ↓wp_i2l, ↓wp_iadd, ↓wp_iaload, ↓wp_icmp_ge, ↓wp_icmp_le, ↓wp_icmp_ne, ↓wp_iconst, ↓wp_if_eq, ↓wp_if_le, ↓wp_if_ne, ↓wp_iinc, ↓wp_iload, ↓wp_iload_n1, ↓wp_iload_n2, ↓wp_iload_n3, ↓wp_imul, ↓wp_invokestatic, ↓wp_ireturn1, ↓wp_istore, ↓wp_istore_n2, ↓wp_istore_n3, ↓wp_isub, ↓wp_lconst0, ↓wp_ldc2_w, wp_nil, ↓ldI_0, ↓ldI_s, ↓ldL_0, ↓ldL_s, ↓ldR_0, ↓ldR_s, sto1_0, sto1_1, sto1_s, sto2_0, sto2_1, sto2_s, isLong_i, isLong_l, isLong_r, ↓popI_c, ↓popL_c, ↓popR_c, ↓popN_0, ↓popN_s, catS_n, catS_c, psh_s, psh_n, fldV_n, fldV_s, ↓tgt_e, sw_n, ↓sw_c, ↓lk1_h, ↓lk1_m, ↓atC_h, ↓atC_m, ↓atC_n, ltO_n, ltO_s, updR_eq, updR_ne, gI_0i, gI_0l, gI_s, ltM_iff, List.cons.injEq, Sum.inl.injEq, Sum.inr.injEq, Option.some.injEq, exists_eq_left, exists_eq_left', exists_eq_right, exists_eq_right', exists_and_left, exists_and_right, exists_eq, exists_const, and_assoc, ↓j_M_shape_0, ↓j_M_shape_15, ↓j_M_shape_37, ↓j_M_shape_63, ↓j_M_shape_64, ↓j_M_shape_78, ↓j_M_shape_79, ↓j_M_shape_91, ↓j_M_shape_92, ↓j_M_shape_131, ↓j_M_shape_132, ↓j_M_shape_146, ↓j_M_shape_147, ↓j_M_shape_161, ↓j_M_shape_163, ↓j_M_shape_181, ↓j_M_shape_182, ↓j_M_shape_191, ↓j_M_shape_199, ↓j_M_shape_208, ↓j_M_shape_218, ↓j_M_shape_228, ↓j_M_shape_230, ↓c_M_100262, ↓f_M_259, ↓f_M_97, List.length_cons, List.length_nil, Nat.zero_add, Nat.reduceAdd, Int.reduceAdd, Int.reduceNeg, Int.reduceToNat, Int.reduceLE, Int.reduceLT, true_and, and_true, Nat.reduceLT, reduceIte, Nat.reduceEqDiff, ne_eq, not_false_eq_true, false_implies, true_implies, Bool.false_eq_true, reduceCtorEq, List.cons_append, List.nil_append, Nat.reduceSub, Nat.reduceLeDiff, Fin.isValue, Int.reduceNatCast', Int.zero_add, Int.add_zero, decide_true, decide_false, implies_true, forall_const, true_or, or_true, or_false, false_or, false_and, and_false, Int.toNat_natCast, ↓oF_37_0, ↓oF_37_1, ↓oF_37_2, ↓oF_37_3, ↓aF_38, ↓oF_37_4, ↓aF_39, ↓oF_37_5, ↓oF_37_6, ↓aF_40, ↓oF_37_7, ↓oF_37_8, ↓aF_41, ↓oF_37_9, ↓aF_42, ↓oF_37_10, ↓aF_43, ↓oF_37_11, ↓aF_44, ↓oF_37_12, ↓aF_45, ↓oF_37_13, ↓aF_46, ↓oF_37_14, ↓aF_47, ↓oF_37_15, ↓aF_48, ↓oF_37_16, ↓aF_49, ↓oF_37_17, ↓oF_37_18, ↓aF_50, ↓oF_37_19, ↓aF_51, ↓oF_37_20, ↓aF_52, ↓oF_37_21, ↓aF_53, ↓oF_37_22, ↓aF_54, ↓oF_37_23, ↓aF_55, ↓oF_37_24, ↓aF_56, ↓oF_37_25, ↓aF_57, ↓oF_37_26, ↓oF_37_27, ↓oF_37_28, ↓aF_58, ↓oF_37_29, ↓aF_59, ↓oF_37_30, ↓aF_60, ↓oF_37_31, ↓aF_61, ↓oF_37_32, ↓oF_37_33, ↓oF_37_34, ↓oF_37_35, ↓aF_62, ↓oF_37_36, ↓oF_37_37, ↓aF_63, ↓oF_37_38, ↓oF_37_39, ↓aF_64, ↓oF_37_40, ↓aF_65, ↓oF_37_41, ↓aF_66, oC_0, oC_1, oC_4, oC_11, oC_16, oC_18, oC_20, oC_23, oC_25, oC_26, oC_29, oC_31, oC_33, oC_35, oC_37, isT_29, isT_31, isT_33, isT_35, isL_16, isL_18, isL_26, b2i_0, b2i_1, b2i_01, b2i_r, ↓e_M_in]
    subst hu
    have e1 : (i + 1).toNat = i.toNat + 1 := by omega
    have e5 : (i - 1).toNat = i.toNat - 1 := by omega
    have hbi := hb i.toNat
    have hbj := hb (i.toNat - 1)
    have hl0 := lean_r (f := u 64) i.toNat (fun j hj => hb j (by omega))
    have hs0 := shp_r (f := u 64) i.toNat (fun j hj => hb j (by omega))
    have hl1 := fun hc : i < u 37 38 => lean_r (f := u 64) (i.toNat + 1) (fun j hj => hb j (by omega))
    have hs1 := fun hc : i < u 37 38 => shp_r (f := u 64) (i.toNat + 1) (fun j hj => hb j (by omega))
    have x0 := fun hc : i < u 37 38 => lean_s (hbi (by omega))
    have x1 : leastF (u 64) (i.toNat + 1) = min (leastF (u 64) i.toNat) (leanF (u 64) (i.toNat + 1)) := rfl
    have x2 : greatF (u 64) (i.toNat + 1) = max (greatF (u 64) i.toNat) (leanF (u 64) (i.toNat + 1)) := rfl
    have x3 : sqF (u 64) (i.toNat + 1) = sqF (u 64) i.toNat + leanF (u 64) (i.toNat + 1) * leanF (u 64) (i.toNat + 1) := rfl
    have x4 : runF (u 64) (i.toNat + 1) = if 0 < i.toNat ∧ u 64 i.toNat = u 64 (i.toNat - 1) then runF (u 64) i.toNat + 1 else 1 := rfl
    have x5 : longF (u 64) (i.toNat + 1) = max (longF (u 64) i.toNat) (runF (u 64) (i.toNat + 1)) := rfl
    have x6 : turnF (u 64) (i.toNat + 1) = turnF (u 64) i.toNat + (if 0 < i.toNat ∧ u 64 i.toNat ≠ u 64 (i.toNat - 1) then 1 else 0) := rfl
    have x7 : likeF (u 64) i.toNat = if 0 < i.toNat ∧ u 64 i.toNat = u 64 (i.toNat - 1) then 1 else 0 := rfl
    simp only [e5]
    subst ha hb2 hc2 hd he hf2 hg
    have hcc : i < u 37 38 := hi.2
    have hl1 := hl1 hcc
    have hs1 := hs1 hcc
    have x0 := x0 hcc
    have hbi := hbi (by omega)
    have hbj := hbj (by omega)
    clear hQ
    (try simp only [rI_iff, rL_iff] at *)
    repeat' (with_reducible (first | assumption | apply And.intro | intro _))
    all_goals first | omega | with_reducible assumption | exact True.intro | skip
    all_goals first
      | omega
      | grind
      | trace_state
  · intro L st u hI
    obtain ⟨i, a, b, c, d, e, f, g, x, v10, rfl, rfl, hw, hi, ha, hb2, hc2, hd, he, hf2, hg, hx, hu⟩ := hI
    simp only [↓wpN_go, jmp_e, ↓wp_aload_n0, ↓wp_bipush, ↓wp_getfield, ↓wp_goto, ↓wp_i2l, ↓wp_iadd, ↓wp_iaload, ↓wp_icmp_ge, ↓wp_icmp_le, ↓wp_icmp_ne, ↓wp_iconst, ↓wp_if_eq, ↓wp_if_le, ↓wp_if_ne, ↓wp_iinc, ↓wp_iload, ↓wp_iload_n1, ↓wp_iload_n2, ↓wp_iload_n3, ↓wp_imul, ↓wp_invokestatic, ↓wp_ireturn1, ↓wp_istore, ↓wp_istore_n2, ↓wp_istore_n3, ↓wp_isub, ↓wp_lconst0, ↓wp_ldc2_w, wp_nil, ↓ldI_0, ↓ldI_s, ↓ldL_0, ↓ldL_s, ↓ldR_0, ↓ldR_s, sto1_0, sto1_1, sto1_s, sto2_0, sto2_1, sto2_s, isLong_i, isLong_l, isLong_r, ↓popI_c, ↓popL_c, ↓popR_c, ↓popN_0, ↓popN_s, catS_n, catS_c, psh_s, psh_n, fldV_n, fldV_s, ↓tgt_e, sw_n, ↓sw_c, ↓lk1_h, ↓lk1_m, ↓atC_h, ↓atC_m, ↓atC_n, ltO_n, ltO_s, updR_eq, updR_ne, gI_0i, gI_0l, gI_s, ltM_iff, List.cons.injEq, Sum.inl.injEq, Sum.inr.injEq, Option.some.injEq, exists_eq_left, exists_eq_left', exists_eq_right, exists_eq_right', exists_and_left, exists_and_right, exists_eq, exists_const, and_assoc, ↓j_M_shape_0, ↓j_M_shape_15, ↓j_M_shape_37, ↓j_M_shape_63, ↓j_M_shape_64, ↓j_M_shape_78, ↓j_M_shape_79, ↓j_M_shape_91, ↓j_M_shape_92, ↓j_M_shape_131, ↓j_M_shape_132, ↓j_M_shape_146, ↓j_M_shape_147, ↓j_M_shape_161, ↓j_M_shape_163, ↓j_M_shape_181, ↓j_M_shape_182, ↓j_M_shape_191, ↓j_M_shape_199, ↓j_M_shape_208, ↓j_M_shape_218, ↓j_M_shape_228, ↓j_M_shape_230, ↓c_M_100262, ↓f_M_259, ↓f_M_97, List.length_cons, List.length_nil, Nat.zero_add, Nat.reduceAdd, Int.reduceAdd, Int.reduceNeg, Int.reduceToNat, Int.reduceLE, Int.reduceLT, true_and, and_true, Nat.reduceLT, reduceIte, Nat.reduceEqDiff, ne_eq, not_false_eq_true, false_implies, true_implies, Bool.false_eq_true, reduceCtorEq, List.cons_append, List.nil_append, Nat.reduceSub, Nat.reduceLeDiff, Fin.isValue, Int.reduceNatCast', Int.zero_add, Int.add_zero, decide_true, decide_false, implies_true, forall_const, true_or, or_true, or_false, false_or, false_and, and_false, Int.toNat_natCast, ↓oF_37_0, ↓oF_37_1, ↓oF_37_2, ↓oF_37_3, ↓aF_38, ↓oF_37_4, ↓aF_39, ↓oF_37_5, ↓oF_37_6, ↓aF_40, ↓oF_37_7, ↓oF_37_8, ↓aF_41, ↓oF_37_9, ↓aF_42, ↓oF_37_10, ↓aF_43, ↓oF_37_11, ↓aF_44, ↓oF_37_12, ↓aF_45, ↓oF_37_13, ↓aF_46, ↓oF_37_14, ↓aF_47, ↓oF_37_15, ↓aF_48, ↓oF_37_16, ↓aF_49, ↓oF_37_17, ↓oF_37_18, ↓aF_50, ↓oF_37_19, ↓aF_51, ↓oF_37_20, ↓aF_52, ↓oF_37_21, ↓aF_53, ↓oF_37_22, ↓aF_54, ↓oF_37_23, ↓aF_55, ↓oF_37_24, ↓aF_56, ↓oF_37_25, ↓aF_57, ↓oF_37_26, ↓oF_37_27, ↓oF_37_28, ↓aF_58, ↓oF_37_29, ↓aF_59, ↓oF_37_30, ↓aF_60, ↓oF_37_31, ↓aF_61, ↓oF_37_32, ↓oF_37_33, ↓oF_37_34, ↓oF_37_35, ↓aF_62, ↓oF_37_36, ↓oF_37_37, ↓aF_63, ↓oF_37_38, ↓oF_37_39, ↓aF_64, ↓oF_37_40, ↓aF_65, ↓oF_37_41, ↓aF_66, oC_0, oC_1, oC_4, oC_11, oC_16, oC_18, oC_20, oC_23, oC_25, oC_26, oC_29, oC_31, oC_33, oC_35, oC_37, isT_29, isT_31, isT_33, isT_35, isL_16, isL_18, isL_26, b2i_0, b2i_1, b2i_01, b2i_r, ↓e_M_in]
    subst hu
    have e1 : (i + 1).toNat = i.toNat + 1 := by omega
    have e5 : (i - 1).toNat = i.toNat - 1 := by omega
    have hbi := hb i.toNat
    have hbj := hb (i.toNat - 1)
    have hl0 := lean_r (f := u 64) i.toNat (fun j hj => hb j (by omega))
    have hs0 := shp_r (f := u 64) i.toNat (fun j hj => hb j (by omega))
    have hl1 := fun hc : i < u 37 38 => lean_r (f := u 64) (i.toNat + 1) (fun j hj => hb j (by omega))
    have hs1 := fun hc : i < u 37 38 => shp_r (f := u 64) (i.toNat + 1) (fun j hj => hb j (by omega))
    have x0 := fun hc : i < u 37 38 => lean_s (hbi (by omega))
    have x1 : leastF (u 64) (i.toNat + 1) = min (leastF (u 64) i.toNat) (leanF (u 64) (i.toNat + 1)) := rfl
    have x2 : greatF (u 64) (i.toNat + 1) = max (greatF (u 64) i.toNat) (leanF (u 64) (i.toNat + 1)) := rfl
    have x3 : sqF (u 64) (i.toNat + 1) = sqF (u 64) i.toNat + leanF (u 64) (i.toNat + 1) * leanF (u 64) (i.toNat + 1) := rfl
    have x4 : runF (u 64) (i.toNat + 1) = if 0 < i.toNat ∧ u 64 i.toNat = u 64 (i.toNat - 1) then runF (u 64) i.toNat + 1 else 1 := rfl
    have x5 : longF (u 64) (i.toNat + 1) = max (longF (u 64) i.toNat) (runF (u 64) (i.toNat + 1)) := rfl
    have x6 : turnF (u 64) (i.toNat + 1) = turnF (u 64) i.toNat + (if 0 < i.toNat ∧ u 64 i.toNat ≠ u 64 (i.toNat - 1) then 1 else 0) := rfl
    have x7 : likeF (u 64) i.toNat = if 0 < i.toNat ∧ u 64 i.toNat = u 64 (i.toNat - 1) then 1 else 0 := rfl
    simp only [e5]
    subst ha hb2 hc2 hd he hf2 hg
    have hcc : i < u 37 38 := hi.2
    have hl1 := hl1 hcc
    have hs1 := hs1 hcc
    have x0 := x0 hcc
    have hbi := hbi (by omega)
    have hbj := hbj (by omega)
    clear hQ
    (try simp only [rI_iff, rL_iff] at *)
    repeat' (with_reducible (first | assumption | apply And.intro | intro _))
    all_goals first | omega | with_reducible assumption | exact True.intro | skip
    all_goals first
      | omega
      | grind
      | trace_state
  · intro L st u hI
    obtain ⟨i, a, b, c, d, e, f, g, x, y, rfl, rfl, hw, hi, ha, hb2, hc2, hd, he, hf2, hg, hx, hy, hu⟩ := hI
    simp only [↓wpN_go, jmp_e, ↓wp_aload_n0, ↓wp_bipush, ↓wp_getfield, ↓wp_goto, ↓wp_i2l, ↓wp_iadd, ↓wp_iaload, ↓wp_icmp_ge, ↓wp_icmp_le, ↓wp_icmp_ne, ↓wp_iconst, ↓wp_if_eq, ↓wp_if_le, ↓wp_if_ne, ↓wp_iinc, ↓wp_iload, ↓wp_iload_n1, ↓wp_iload_n2, ↓wp_iload_n3, ↓wp_imul, ↓wp_invokestatic, ↓wp_ireturn1, ↓wp_istore, ↓wp_istore_n2, ↓wp_istore_n3, ↓wp_isub, ↓wp_lconst0, ↓wp_ldc2_w, wp_nil, ↓ldI_0, ↓ldI_s, ↓ldL_0, ↓ldL_s, ↓ldR_0, ↓ldR_s, sto1_0, sto1_1, sto1_s, sto2_0, sto2_1, sto2_s, isLong_i, isLong_l, isLong_r, ↓popI_c, ↓popL_c, ↓popR_c, ↓popN_0, ↓popN_s, catS_n, catS_c, psh_s, psh_n, fldV_n, fldV_s, ↓tgt_e, sw_n, ↓sw_c, ↓lk1_h, ↓lk1_m, ↓atC_h, ↓atC_m, ↓atC_n, ltO_n, ltO_s, updR_eq, updR_ne, gI_0i, gI_0l, gI_s, ltM_iff, List.cons.injEq, Sum.inl.injEq, Sum.inr.injEq, Option.some.injEq, exists_eq_left, exists_eq_left', exists_eq_right, exists_eq_right', exists_and_left, exists_and_right, exists_eq, exists_const, and_assoc, ↓j_M_shape_0, ↓j_M_shape_15, ↓j_M_shape_37, ↓j_M_shape_63, ↓j_M_shape_64, ↓j_M_shape_78, ↓j_M_shape_79, ↓j_M_shape_91, ↓j_M_shape_92, ↓j_M_shape_131, ↓j_M_shape_132, ↓j_M_shape_146, ↓j_M_shape_147, ↓j_M_shape_161, ↓j_M_shape_163, ↓j_M_shape_181, ↓j_M_shape_182, ↓j_M_shape_191, ↓j_M_shape_199, ↓j_M_shape_208, ↓j_M_shape_218, ↓j_M_shape_228, ↓j_M_shape_230, ↓c_M_100262, ↓f_M_259, ↓f_M_97, List.length_cons, List.length_nil, Nat.zero_add, Nat.reduceAdd, Int.reduceAdd, Int.reduceNeg, Int.reduceToNat, Int.reduceLE, Int.reduceLT, true_and, and_true, Nat.reduceLT, reduceIte, Nat.reduceEqDiff, ne_eq, not_false_eq_true, false_implies, true_implies, Bool.false_eq_true, reduceCtorEq, List.cons_append, List.nil_append, Nat.reduceSub, Nat.reduceLeDiff, Fin.isValue, Int.reduceNatCast', Int.zero_add, Int.add_zero, decide_true, decide_false, implies_true, forall_const, true_or, or_true, or_false, false_or, false_and, and_false, Int.toNat_natCast, ↓oF_37_0, ↓oF_37_1, ↓oF_37_2, ↓oF_37_3, ↓aF_38, ↓oF_37_4, ↓aF_39, ↓oF_37_5, ↓oF_37_6, ↓aF_40, ↓oF_37_7, ↓oF_37_8, ↓aF_41, ↓oF_37_9, ↓aF_42, ↓oF_37_10, ↓aF_43, ↓oF_37_11, ↓aF_44, ↓oF_37_12, ↓aF_45, ↓oF_37_13, ↓aF_46, ↓oF_37_14, ↓aF_47, ↓oF_37_15, ↓aF_48, ↓oF_37_16, ↓aF_49, ↓oF_37_17, ↓oF_37_18, ↓aF_50, ↓oF_37_19, ↓aF_51, ↓oF_37_20, ↓aF_52, ↓oF_37_21, ↓aF_53, ↓oF_37_22, ↓aF_54, ↓oF_37_23, ↓aF_55, ↓oF_37_24, ↓aF_56, ↓oF_37_25, ↓aF_57, ↓oF_37_26, ↓oF_37_27, ↓oF_37_28, ↓aF_58, ↓oF_37_29, ↓aF_59, ↓oF_37_30, ↓aF_60, ↓oF_37_31, ↓aF_61, ↓oF_37_32, ↓oF_37_33, ↓oF_37_34, ↓oF_37_35, ↓aF_62, ↓oF_37_36, ↓oF_37_37, ↓aF_63, ↓oF_37_38, ↓oF_37_39, ↓aF_64, ↓oF_37_40, ↓aF_65, ↓oF_37_41, ↓aF_66, oC_0, oC_1, oC_4, oC_11, oC_16, oC_18, oC_20, oC_23, oC_25, oC_26, oC_29, oC_31, oC_33, oC_35, oC_37, isT_29, isT_31, isT_33, isT_35, isL_16, isL_18, isL_26, b2i_0, b2i_1, b2i_01, b2i_r, ↓e_M_in]
    subst hu
    have e1 : (i + 1).toNat = i.toNat + 1 := by omega
    have e5 : (i - 1).toNat = i.toNat - 1 := by omega
    have hbi := hb i.toNat
    have hbj := hb (i.toNat - 1)
    have hl0 := lean_r (f := u 64) i.toNat (fun j hj => hb j (by omega))
    have hs0 := shp_r (f := u 64) i.toNat (fun j hj => hb j (by omega))
    have hl1 := fun hc : i < u 37 38 => lean_r (f := u 64) (i.toNat + 1) (fun j hj => hb j (by omega))
    have hs1 := fun hc : i < u 37 38 => shp_r (f := u 64) (i.toNat + 1) (fun j hj => hb j (by omega))
    have x0 := fun hc : i < u 37 38 => lean_s (hbi (by omega))
    have x1 : leastF (u 64) (i.toNat + 1) = min (leastF (u 64) i.toNat) (leanF (u 64) (i.toNat + 1)) := rfl
    have x2 : greatF (u 64) (i.toNat + 1) = max (greatF (u 64) i.toNat) (leanF (u 64) (i.toNat + 1)) := rfl
    have x3 : sqF (u 64) (i.toNat + 1) = sqF (u 64) i.toNat + leanF (u 64) (i.toNat + 1) * leanF (u 64) (i.toNat + 1) := rfl
    have x4 : runF (u 64) (i.toNat + 1) = if 0 < i.toNat ∧ u 64 i.toNat = u 64 (i.toNat - 1) then runF (u 64) i.toNat + 1 else 1 := rfl
    have x5 : longF (u 64) (i.toNat + 1) = max (longF (u 64) i.toNat) (runF (u 64) (i.toNat + 1)) := rfl
    have x6 : turnF (u 64) (i.toNat + 1) = turnF (u 64) i.toNat + (if 0 < i.toNat ∧ u 64 i.toNat ≠ u 64 (i.toNat - 1) then 1 else 0) := rfl
    have x7 : likeF (u 64) i.toNat = if 0 < i.toNat ∧ u 64 i.toNat = u 64 (i.toNat - 1) then 1 else 0 := rfl
    simp only [e5]
    subst ha hb2 hc2 hd he hf2 hg
    have hcc : i < u 37 38 := hi.2
    have hl1 := hl1 hcc
    have hs1 := hs1 hcc
    have x0 := x0 hcc
    have hbi := hbi (by omega)
    have hbj := hbj (by omega)
    clear hQ
    (try simp only [rI_iff, rL_iff] at *)
    repeat' (with_reducible (first | assumption | apply And.intro | intro _))
    all_goals first | omega | with_reducible assumption | exact True.intro | skip
    all_goals first
      | omega
      | grind
      | trace_state
  · intro L st u hI
    obtain ⟨i, a, b, c, d, e, f, g, x, y, rfl, rfl, hw, hi, ha, hb2, hc2, hd, he, hf2, hg, hx, hy, hu⟩ := hI
    simp only [↓wpN_go, jmp_e, ↓wp_aload_n0, ↓wp_bipush, ↓wp_getfield, ↓wp_goto, ↓wp_i2l, ↓wp_iadd, ↓wp_iaload, ↓wp_icmp_ge, ↓wp_icmp_le, ↓wp_icmp_ne, ↓wp_iconst, ↓wp_if_eq, ↓wp_if_le, ↓wp_if_ne, ↓wp_iinc, ↓wp_iload, ↓wp_iload_n1, ↓wp_iload_n2, ↓wp_iload_n3, ↓wp_imul, ↓wp_invokestatic, ↓wp_ireturn1, ↓wp_istore, ↓wp_istore_n2, ↓wp_istore_n3, ↓wp_isub, ↓wp_lconst0, ↓wp_ldc2_w, wp_nil, ↓ldI_0, ↓ldI_s, ↓ldL_0, ↓ldL_s, ↓ldR_0, ↓ldR_s, sto1_0, sto1_1, sto1_s, sto2_0, sto2_1, sto2_s, isLong_i, isLong_l, isLong_r, ↓popI_c, ↓popL_c, ↓popR_c, ↓popN_0, ↓popN_s, catS_n, catS_c, psh_s, psh_n, fldV_n, fldV_s, ↓tgt_e, sw_n, ↓sw_c, ↓lk1_h, ↓lk1_m, ↓atC_h, ↓atC_m, ↓atC_n, ltO_n, ltO_s, updR_eq, updR_ne, gI_0i, gI_0l, gI_s, ltM_iff, List.cons.injEq, Sum.inl.injEq, Sum.inr.injEq, Option.some.injEq, exists_eq_left, exists_eq_left', exists_eq_right, exists_eq_right', exists_and_left, exists_and_right, exists_eq, exists_const, and_assoc, ↓j_M_shape_0, ↓j_M_shape_15, ↓j_M_shape_37, ↓j_M_shape_63, ↓j_M_shape_64, ↓j_M_shape_78, ↓j_M_shape_79, ↓j_M_shape_91, ↓j_M_shape_92, ↓j_M_shape_131, ↓j_M_shape_132, ↓j_M_shape_146, ↓j_M_shape_147, ↓j_M_shape_161, ↓j_M_shape_163, ↓j_M_shape_181, ↓j_M_shape_182, ↓j_M_shape_191, ↓j_M_shape_199, ↓j_M_shape_208, ↓j_M_shape_218, ↓j_M_shape_228, ↓j_M_shape_230, ↓c_M_100262, ↓f_M_259, ↓f_M_97, List.length_cons, List.length_nil, Nat.zero_add, Nat.reduceAdd, Int.reduceAdd, Int.reduceNeg, Int.reduceToNat, Int.reduceLE, Int.reduceLT, true_and, and_true, Nat.reduceLT, reduceIte, Nat.reduceEqDiff, ne_eq, not_false_eq_true, false_implies, true_implies, Bool.false_eq_true, reduceCtorEq, List.cons_append, List.nil_append, Nat.reduceSub, Nat.reduceLeDiff, Fin.isValue, Int.reduceNatCast', Int.zero_add, Int.add_zero, decide_true, decide_false, implies_true, forall_const, true_or, or_true, or_false, false_or, false_and, and_false, Int.toNat_natCast, ↓oF_37_0, ↓oF_37_1, ↓oF_37_2, ↓oF_37_3, ↓aF_38, ↓oF_37_4, ↓aF_39, ↓oF_37_5, ↓oF_37_6, ↓aF_40, ↓oF_37_7, ↓oF_37_8, ↓aF_41, ↓oF_37_9, ↓aF_42, ↓oF_37_10, ↓aF_43, ↓oF_37_11, ↓aF_44, ↓oF_37_12, ↓aF_45, ↓oF_37_13, ↓aF_46, ↓oF_37_14, ↓aF_47, ↓oF_37_15, ↓aF_48, ↓oF_37_16, ↓aF_49, ↓oF_37_17, ↓oF_37_18, ↓aF_50, ↓oF_37_19, ↓aF_51, ↓oF_37_20, ↓aF_52, ↓oF_37_21, ↓aF_53, ↓oF_37_22, ↓aF_54, ↓oF_37_23, ↓aF_55, ↓oF_37_24, ↓aF_56, ↓oF_37_25, ↓aF_57, ↓oF_37_26, ↓oF_37_27, ↓oF_37_28, ↓aF_58, ↓oF_37_29, ↓aF_59, ↓oF_37_30, ↓aF_60, ↓oF_37_31, ↓aF_61, ↓oF_37_32, ↓oF_37_33, ↓oF_37_34, ↓oF_37_35, ↓aF_62, ↓oF_37_36, ↓oF_37_37, ↓aF_63, ↓oF_37_38, ↓oF_37_39, ↓aF_64, ↓oF_37_40, ↓aF_65, ↓oF_37_41, ↓aF_66, oC_0, oC_1, oC_4, oC_11, oC_16, oC_18, oC_20, oC_23, oC_25, oC_26, oC_29, oC_31, oC_33, oC_35, oC_37, isT_29, isT_31, isT_33, isT_35, isL_16, isL_18, isL_26, b2i_0, b2i_1, b2i_01, b2i_r, ↓e_M_in]
    subst hu
    have e1 : (i + 1).toNat = i.toNat + 1 := by omega
    have e5 : (i - 1).toNat = i.toNat - 1 := by omega
    have hbi := hb i.toNat
    have hbj := hb (i.toNat - 1)
    have hl0 := lean_r (f := u 64) i.toNat (fun j hj => hb j (by omega))
    have hs0 := shp_r (f := u 64) i.toNat (fun j hj => hb j (by omega))
    have hl1 := fun hc : i < u 37 38 => lean_r (f := u 64) (i.toNat + 1) (fun j hj => hb j (by omega))
    have hs1 := fun hc : i < u 37 38 => shp_r (f := u 64) (i.toNat + 1) (fun j hj => hb j (by omega))
    have x0 := fun hc : i < u 37 38 => lean_s (hbi (by omega))
    have x1 : leastF (u 64) (i.toNat + 1) = min (leastF (u 64) i.toNat) (leanF (u 64) (i.toNat + 1)) := rfl
    have x2 : greatF (u 64) (i.toNat + 1) = max (greatF (u 64) i.toNat) (leanF (u 64) (i.toNat + 1)) := rfl
    have x3 : sqF (u 64) (i.toNat + 1) = sqF (u 64) i.toNat + leanF (u 64) (i.toNat + 1) * leanF (u 64) (i.toNat + 1) := rfl
    have x4 : runF (u 64) (i.toNat + 1) = if 0 < i.toNat ∧ u 64 i.toNat = u 64 (i.toNat - 1) then runF (u 64) i.toNat + 1 else 1 := rfl
    have x5 : longF (u 64) (i.toNat + 1) = max (longF (u 64) i.toNat) (runF (u 64) (i.toNat + 1)) := rfl
    have x6 : turnF (u 64) (i.toNat + 1) = turnF (u 64) i.toNat + (if 0 < i.toNat ∧ u 64 i.toNat ≠ u 64 (i.toNat - 1) then 1 else 0) := rfl
    have x7 : likeF (u 64) i.toNat = if 0 < i.toNat ∧ u 64 i.toNat = u 64 (i.toNat - 1) then 1 else 0 := rfl
    simp only [e5]
    subst ha hb2 hc2 hd he hf2 hg
    have hcc : i < u 37 38 := hi.2
    have hl1 := hl1 hcc
    have hs1 := hs1 hcc
    have x0 := x0 hcc
    have hbi := hbi (by omega)
    have hbj := hbj (by omega)
    clear hQ
    (try simp only [rI_iff, rL_iff] at *)
    repeat' (with_reducible (first | assumption | apply And.intro | intro _))
    all_goals first | omega | with_reducible assumption | exact True.intro | skip
    all_goals first
      | omega
      | grind
      | trace_state
  · intro L st u hI
    obtain ⟨i, a, b, c, d, e, f, g, x, y, z, rfl, rfl, hw, hi, ha, hb2, hc2, hd, he, hf2, hg, hx, hy, hu⟩ := hI
    simp only [↓wpN_go, jmp_e, ↓wp_aload_n0, ↓wp_bipush, ↓wp_getfield, ↓wp_goto, ↓wp_i2l, ↓wp_iadd, ↓wp_iaload, ↓wp_icmp_ge, ↓wp_icmp_le, ↓wp_icmp_ne, ↓wp_iconst, ↓wp_if_eq, ↓wp_if_le, ↓wp_if_ne, ↓wp_iinc, ↓wp_iload, ↓wp_iload_n1, ↓wp_iload_n2, ↓wp_iload_n3, ↓wp_imul, ↓wp_invokestatic, ↓wp_ireturn1, ↓wp_istore, ↓wp_istore_n2, ↓wp_istore_n3, ↓wp_isub, ↓wp_lconst0, ↓wp_ldc2_w, wp_nil, ↓ldI_0, ↓ldI_s, ↓ldL_0, ↓ldL_s, ↓ldR_0, ↓ldR_s, sto1_0, sto1_1, sto1_s, sto2_0, sto2_1, sto2_s, isLong_i, isLong_l, isLong_r, ↓popI_c, ↓popL_c, ↓popR_c, ↓popN_0, ↓popN_s, catS_n, catS_c, psh_s, psh_n, fldV_n, fldV_s, ↓tgt_e, sw_n, ↓sw_c, ↓lk1_h, ↓lk1_m, ↓atC_h, ↓atC_m, ↓atC_n, ltO_n, ltO_s, updR_eq, updR_ne, gI_0i, gI_0l, gI_s, ltM_iff, List.cons.injEq, Sum.inl.injEq, Sum.inr.injEq, Option.some.injEq, exists_eq_left, exists_eq_left', exists_eq_right, exists_eq_right', exists_and_left, exists_and_right, exists_eq, exists_const, and_assoc, ↓j_M_shape_0, ↓j_M_shape_15, ↓j_M_shape_37, ↓j_M_shape_63, ↓j_M_shape_64, ↓j_M_shape_78, ↓j_M_shape_79, ↓j_M_shape_91, ↓j_M_shape_92, ↓j_M_shape_131, ↓j_M_shape_132, ↓j_M_shape_146, ↓j_M_shape_147, ↓j_M_shape_161, ↓j_M_shape_163, ↓j_M_shape_181, ↓j_M_shape_182, ↓j_M_shape_191, ↓j_M_shape_199, ↓j_M_shape_208, ↓j_M_shape_218, ↓j_M_shape_228, ↓j_M_shape_230, ↓c_M_100262, ↓f_M_259, ↓f_M_97, List.length_cons, List.length_nil, Nat.zero_add, Nat.reduceAdd, Int.reduceAdd, Int.reduceNeg, Int.reduceToNat, Int.reduceLE, Int.reduceLT, true_and, and_true, Nat.reduceLT, reduceIte, Nat.reduceEqDiff, ne_eq, not_false_eq_true, false_implies, true_implies, Bool.false_eq_true, reduceCtorEq, List.cons_append, List.nil_append, Nat.reduceSub, Nat.reduceLeDiff, Fin.isValue, Int.reduceNatCast', Int.zero_add, Int.add_zero, decide_true, decide_false, implies_true, forall_const, true_or, or_true, or_false, false_or, false_and, and_false, Int.toNat_natCast, ↓oF_37_0, ↓oF_37_1, ↓oF_37_2, ↓oF_37_3, ↓aF_38, ↓oF_37_4, ↓aF_39, ↓oF_37_5, ↓oF_37_6, ↓aF_40, ↓oF_37_7, ↓oF_37_8, ↓aF_41, ↓oF_37_9, ↓aF_42, ↓oF_37_10, ↓aF_43, ↓oF_37_11, ↓aF_44, ↓oF_37_12, ↓aF_45, ↓oF_37_13, ↓aF_46, ↓oF_37_14, ↓aF_47, ↓oF_37_15, ↓aF_48, ↓oF_37_16, ↓aF_49, ↓oF_37_17, ↓oF_37_18, ↓aF_50, ↓oF_37_19, ↓aF_51, ↓oF_37_20, ↓aF_52, ↓oF_37_21, ↓aF_53, ↓oF_37_22, ↓aF_54, ↓oF_37_23, ↓aF_55, ↓oF_37_24, ↓aF_56, ↓oF_37_25, ↓aF_57, ↓oF_37_26, ↓oF_37_27, ↓oF_37_28, ↓aF_58, ↓oF_37_29, ↓aF_59, ↓oF_37_30, ↓aF_60, ↓oF_37_31, ↓aF_61, ↓oF_37_32, ↓oF_37_33, ↓oF_37_34, ↓oF_37_35, ↓aF_62, ↓oF_37_36, ↓oF_37_37, ↓aF_63, ↓oF_37_38, ↓oF_37_39, ↓aF_64, ↓oF_37_40, ↓aF_65, ↓oF_37_41, ↓aF_66, oC_0, oC_1, oC_4, oC_11, oC_16, oC_18, oC_20, oC_23, oC_25, oC_26, oC_29, oC_31, oC_33, oC_35, oC_37, isT_29, isT_31, isT_33, isT_35, isL_16, isL_18, isL_26, b2i_0, b2i_1, b2i_01, b2i_r, ↓e_M_in]
    subst hu
    have e1 : (i + 1).toNat = i.toNat + 1 := by omega
    have e5 : (i - 1).toNat = i.toNat - 1 := by omega
    have hbi := hb i.toNat
    have hbj := hb (i.toNat - 1)
    have hl0 := lean_r (f := u 64) i.toNat (fun j hj => hb j (by omega))
    have hs0 := shp_r (f := u 64) i.toNat (fun j hj => hb j (by omega))
    have hl1 := fun hc : i < u 37 38 => lean_r (f := u 64) (i.toNat + 1) (fun j hj => hb j (by omega))
    have hs1 := fun hc : i < u 37 38 => shp_r (f := u 64) (i.toNat + 1) (fun j hj => hb j (by omega))
    have x0 := fun hc : i < u 37 38 => lean_s (hbi (by omega))
    have x1 : leastF (u 64) (i.toNat + 1) = min (leastF (u 64) i.toNat) (leanF (u 64) (i.toNat + 1)) := rfl
    have x2 : greatF (u 64) (i.toNat + 1) = max (greatF (u 64) i.toNat) (leanF (u 64) (i.toNat + 1)) := rfl
    have x3 : sqF (u 64) (i.toNat + 1) = sqF (u 64) i.toNat + leanF (u 64) (i.toNat + 1) * leanF (u 64) (i.toNat + 1) := rfl
    have x4 : runF (u 64) (i.toNat + 1) = if 0 < i.toNat ∧ u 64 i.toNat = u 64 (i.toNat - 1) then runF (u 64) i.toNat + 1 else 1 := rfl
    have x5 : longF (u 64) (i.toNat + 1) = max (longF (u 64) i.toNat) (runF (u 64) (i.toNat + 1)) := rfl
    have x6 : turnF (u 64) (i.toNat + 1) = turnF (u 64) i.toNat + (if 0 < i.toNat ∧ u 64 i.toNat ≠ u 64 (i.toNat - 1) then 1 else 0) := rfl
    have x7 : likeF (u 64) i.toNat = if 0 < i.toNat ∧ u 64 i.toNat = u 64 (i.toNat - 1) then 1 else 0 := rfl
    simp only [e5]
    subst ha hb2 hc2 hd he hf2 hg
    have hcc : i < u 37 38 := hi.2
    have hl1 := hl1 hcc
    have hs1 := hs1 hcc
    have x0 := x0 hcc
    have hbi := hbi (by omega)
    have hbj := hbj (by omega)
    clear hQ
    (try simp only [rI_iff, rL_iff] at *)
    repeat' (with_reducible (first | assumption | apply And.intro | intro _))
    all_goals first | omega | with_reducible assumption | exact True.intro | skip
    all_goals first
      | omega
      | grind
      | trace_state
