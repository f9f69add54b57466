/-! rows of bits -/
def s_T_size : Spec := fun as σ Q => popR as fun o r0 => r0 = [] ∧ (isT o) ∧ Q (some (.inl (σ o 1))) σ
theorem e_T_size (o : Nat) (σ : St) (Q : Option AV → St → Prop) : s_T_size [.inr (.inr (some o))] σ Q = ((isT o) ∧ Q (some (.inl (σ o 1))) σ) := by
  show ([] = [] ∧ _) = _
  simp only [true_and]
set_option maxHeartbeats 4000000 in
set_option maxRecDepth 20000 in
theorem S_T_size {l : Launch} : Sat l y_T_size b_T_size 1 (some .int) 0 s_T_size := by
  refine sat_of (Φ := P_T) (κ := Q_T) (Γ := []) (rt := 1) (by decide +kernel) P_T_ok Q_T_ok (fun g hg => absurd hg List.not_mem_nil) (by simp) o_T_size ?_
  intro as σ Q hh0
  obtain ⟨o, rr0, rfl, hh1⟩ := popR_inv hh0
  obtain ⟨hrE, hT, hQ⟩ := hh1
  subst hrE
  clear hh0
  refine ⟨Nat.le_of_ble_eq_true rfl, [], 14, ?_, cuts0⟩
  · rw [show entL 1 [.inr (.inr (some o))] = [.inr (.inr (some o))] from rfl]
    simp only [↓wpN_go, jmp_e, ↓wp_aload_n0, ↓wp_getfield, ↓wp_ireturn1, wp_nil, ↓ldI_0, ↓ldI_s, ↓ldL_0, ↓ldL_s, ↓ldR_0, ↓ldR_s, sto1_0, sto1_1, sto1_s, sto2_0, sto2_1, sto2_s, isLong_i, isLong_l, isLong_r, ↓popI_c, ↓popL_c, ↓popR_c, ↓popN_0, ↓popN_s, catS_n, catS_c, psh_s, psh_n, fldV_n, fldV_s, ↓tgt_e, sw_n, ↓sw_c, ↓lk1_h, ↓lk1_m, ↓atC_h, ↓atC_m, ↓atC_n, ltO_n, ltO_s, updR_eq, updR_ne, gI_0i, gI_0l, gI_s, ltM_iff, List.cons.injEq, Sum.inl.injEq, Sum.inr.injEq, Option.some.injEq, exists_eq_left, exists_eq_left', exists_eq_right, exists_eq_right', exists_and_left, exists_and_right, exists_eq, exists_const, and_assoc, ↓j_T_size_0, ↓f_T_15, List.length_cons, List.length_nil, Nat.zero_add, Nat.reduceAdd, Int.reduceAdd, Int.reduceNeg, Int.reduceToNat, Int.reduceLE, Int.reduceLT, true_and, and_true, Nat.reduceLT, reduceIte, Nat.reduceEqDiff, ne_eq, not_false_eq_true, false_implies, true_implies, Bool.false_eq_true, reduceCtorEq, List.cons_append, List.nil_append, Nat.reduceSub, Nat.reduceLeDiff, Fin.isValue, Int.reduceNatCast', Int.zero_add, Int.add_zero, decide_true, decide_false, implies_true, forall_const, true_or, or_true, or_false, false_or, false_and, and_false, Int.toNat_natCast, oC_0, oC_1, oC_4, oC_11, oC_16, oC_18, oC_20, oC_23, oC_25, oC_26, oC_29, oC_31, oC_33, oC_35, oC_37, isT_29, isT_31, isT_33, isT_35, isL_16, isL_18, isL_26, ↓hT.f0, ↓hT.f1, ↓hT.a, hT.c, updR_o1, updR_o2, iandZ_1, wrapI_m, eq_true hT]
    (try simp only [rI_iff, rL_iff] at *)
    repeat' (first | assumption | apply And.intro | intro _)
    all_goals first
      | omega
      | (refine st_ext fun k j => ?_; grind [updR_app, up1_app])
      | (refine Q_eq hQ ?_ ?_ <;> first | rfl | (refine st_ext fun k j => ?_; grind [updR_app, up1_app]) | grind [updR_app, up1_app])
      | grind [updR_app, up1_app]
def s_T_at : Spec := fun as σ Q => popR as fun o r0 => popI r0 fun i r1 => r1 = [] ∧ (isT o) ∧ (rI i) ∧ (0 ≤ σ o 1 ∧ σ o 1 ≤ 600) ∧ Q (some (.inl (if 0 ≤ i ∧ i < σ o 1 then σ (o + 1) i.toNat else -2))) σ
theorem e_T_at (o : Nat) (i : Int) (σ : St) (Q : Option AV → St → Prop) : s_T_at [.inr (.inr (some o)), .inl i] σ Q = ((isT o) ∧ (rI i) ∧ (0 ≤ σ o 1 ∧ σ o 1 ≤ 600) ∧ Q (some (.inl (if 0 ≤ i ∧ i < σ o 1 then σ (o + 1) i.toNat else -2))) σ) := by
  show ([] = [] ∧ _) = _
  simp only [true_and]
set_option maxHeartbeats 4000000 in
set_option maxRecDepth 20000 in
theorem S_T_at {l : Launch} : Sat l y_T_at b_T_at 2 (some .int) 0 s_T_at := by
  refine sat_of (Φ := P_T) (κ := Q_T) (Γ := []) (rt := 1) (by decide +kernel) P_T_ok Q_T_ok (fun g hg => absurd hg List.not_mem_nil) (by simp) o_T_at ?_
  intro as σ Q hh0
  obtain ⟨o, rr0, rfl, hh1⟩ := popR_inv hh0
  obtain ⟨i, rr1, rfl, hh2⟩ := popI_inv hh1
  obtain ⟨hrE, hT, hi, hs, hQ⟩ := hh2
  subst hrE
  clear hh0 hh1
  refine ⟨Nat.le_of_ble_eq_true rfl, [], 14, ?_, cuts0⟩
  · rw [show entL 2 [.inr (.inr (some o)), .inl i] = [.inr (.inr (some o)), .inl i] from rfl]
    simp only [↓wpN_go, jmp_e, ↓wp_aload_n0, ↓wp_bipush, ↓wp_getfield, ↓wp_goto, ↓wp_iaload, ↓wp_icmp_ge, ↓wp_if_lt, ↓wp_iload_n1, ↓wp_ireturn1, wp_nil, ↓ldI_0, ↓ldI_s, ↓ldL_0, ↓ldL_s, ↓ldR_0, ↓ldR_s, sto1_0, sto1_1, sto1_s, sto2_0, sto2_1, sto2_s, isLong_i, isLong_l, isLong_r, ↓popI_c, ↓popL_c, ↓popR_c, ↓popN_0, ↓popN_s, catS_n, catS_c, psh_s, psh_n, fldV_n, fldV_s, ↓tgt_e, sw_n, ↓sw_c, ↓lk1_h, ↓lk1_m, ↓atC_h, ↓atC_m, ↓atC_n, ltO_n, ltO_s, updR_eq, updR_ne, gI_0i, gI_0l, gI_s, ltM_iff, List.cons.injEq, Sum.inl.injEq, Sum.inr.injEq, Option.some.injEq, exists_eq_left, exists_eq_left', exists_eq_right, exists_eq_right', exists_and_left, exists_and_right, exists_eq, exists_const, and_assoc, ↓j_T_at_0, ↓j_T_at_21, ↓j_T_at_23, ↓f_T_15, ↓f_T_9, List.length_cons, List.length_nil, Nat.zero_add, Nat.reduceAdd, Int.reduceAdd, Int.reduceNeg, Int.reduceToNat, Int.reduceLE, Int.reduceLT, true_and, and_true, Nat.reduceLT, reduceIte, Nat.reduceEqDiff, ne_eq, not_false_eq_true, false_implies, true_implies, Bool.false_eq_true, reduceCtorEq, List.cons_append, List.nil_append, Nat.reduceSub, Nat.reduceLeDiff, Fin.isValue, Int.reduceNatCast', Int.zero_add, Int.add_zero, decide_true, decide_false, implies_true, forall_const, true_or, or_true, or_false, false_or, false_and, and_false, Int.toNat_natCast, oC_0, oC_1, oC_4, oC_11, oC_16, oC_18, oC_20, oC_23, oC_25, oC_26, oC_29, oC_31, oC_33, oC_35, oC_37, isT_29, isT_31, isT_33, isT_35, isL_16, isL_18, isL_26, ↓hT.f0, ↓hT.f1, ↓hT.a, hT.c, updR_o1, updR_o2, iandZ_1, wrapI_m, eq_true hT]
    (try simp only [rI_iff, rL_iff] at *)
    repeat' (first | assumption | apply And.intro | intro _)
    all_goals first
      | omega
      | (refine st_ext fun k j => ?_; grind [updR_app, up1_app])
      | (refine Q_eq hQ ?_ ?_ <;> first | rfl | (refine st_ext fun k j => ?_; grind [updR_app, up1_app]) | grind [updR_app, up1_app])
      | grind [updR_app, up1_app]
def s_T_add : Spec := fun as σ Q => popR as fun o r0 => popL r0 fun row r1 => popI r1 fun n r2 => r2 = [] ∧ (isT o) ∧ (0 ≤ n ∧ n ≤ 60) ∧ (rL row) ∧ (0 ≤ σ o 1 ∧ σ o 1 ≤ 600) ∧ Q none (updR (updR σ (o + 1) (addF (σ (o + 1)) row (σ o 1) n n)) o (up1 (σ o) 1 (min 600 (σ o 1 + n))))
theorem e_T_add (o : Nat) (row : Int) (n : Int) (σ : St) (Q : Option AV → St → Prop) : s_T_add [.inr (.inr (some o)), .inr (.inl row), .inl n] σ Q = ((isT o) ∧ (0 ≤ n ∧ n ≤ 60) ∧ (rL row) ∧ (0 ≤ σ o 1 ∧ σ o 1 ≤ 600) ∧ Q none (updR (updR σ (o + 1) (addF (σ (o + 1)) row (σ o 1) n n)) o (up1 (σ o) 1 (min 600 (σ o 1 + n))))) := by
  show ([] = [] ∧ _) = _
  simp only [true_and]
set_option maxHeartbeats 4000000 in
set_option maxRecDepth 20000 in
theorem S_T_add {l : Launch} : Sat l y_T_add b_T_add 5 none 0 s_T_add := by
  refine sat_of (Φ := P_T) (κ := Q_T) (Γ := []) (rt := 0) (by decide +kernel) P_T_ok Q_T_ok (fun g hg => absurd hg List.not_mem_nil) (by simp) o_T_add ?_
  intro as σ Q hh0
  obtain ⟨o, rr0, rfl, hh1⟩ := popR_inv hh0
  obtain ⟨row, rr1, rfl, hh2⟩ := popL_inv hh1
  obtain ⟨n, rr2, rfl, hh3⟩ := popI_inv hh2
  obtain ⟨hrE, hT, hn, hrow, hs, hQ⟩ := hh3
  subst hrE
  clear hh0 hh1 hh2
  refine ⟨Nat.le_of_ble_eq_true rfl, [(5, mkC (fun L st u => ∃ (i : Int), L = [.inr (.inr (some o)), .inr (.inl row), .inr (.inr none), .inl n, .inl i] ∧ st = [] ∧ (-1 ≤ i ∧ i < n) ∧ (u = updR (updR σ (o + 1) (addF (σ (o + 1)) row (σ o 1) n (n - 1 - i))) o (up1 (σ o) 1 (min 600 (σ o 1 + (n - 1 - i)))))) (fun L st u => ((gI L 4 + 1).toNat, 0, 0)))], 14, ?_, cuts1 ?_ (cuts0)⟩
  · rw [show entL 5 [.inr (.inr (some o)), .inr (.inl row), .inl n] = [.inr (.inr (some o)), .inr (.inl row), .inr (.inr none), .inl n, .inr (.inr none)] from rfl]
    simp only [↓wpN_go, jmp_e, ↓wp_aload_n0, ↓wp_dup, ↓wp_getfield, ↓wp_goto, ↓wp_iadd, ↓wp_iand, ↓wp_iastore, ↓wp_icmp_ge, ↓wp_iconst, ↓wp_if_lt, ↓wp_iinc, ↓wp_iload, ↓wp_iload_n3, ↓wp_istore, ↓wp_isub, ↓wp_l2i, ↓wp_lload_n1, ↓wp_lshr, ↓wp_putfield, ↓wp_return0, ↓wp_sipush, wp_nil, ↓ldI_0, ↓ldI_s, ↓ldL_0, ↓ldL_s, ↓ldR_0, ↓ldR_s, sto1_0, sto1_1, sto1_s, sto2_0, sto2_1, sto2_s, isLong_i, isLong_l, isLong_r, ↓popI_c, ↓popL_c, ↓popR_c, ↓popN_0, ↓popN_s, catS_n, catS_c, psh_s, psh_n, fldV_n, fldV_s, ↓tgt_e, sw_n, ↓sw_c, ↓lk1_h, ↓lk1_m, ↓atC_h, ↓atC_m, ↓atC_n, ltO_n, ltO_s, updR_eq, updR_ne, gI_0i, gI_0l, gI_s, ltM_iff, List.cons.injEq, Sum.inl.injEq, Sum.inr.injEq, Option.some.injEq, exists_eq_left, exists_eq_left', exists_eq_right, exists_eq_right', exists_and_left, exists_and_right, exists_eq, exists_const, and_assoc, ↓j_T_add_0, ↓j_T_add_5, ↓j_T_add_52, ↓f_T_15, ↓f_T_9, List.length_cons, List.length_nil, Nat.zero_add, Nat.reduceAdd, Int.reduceAdd, Int.reduceNeg, Int.reduceToNat, Int.reduceLE, Int.reduceLT, true_and, and_true, Nat.reduceLT, reduceIte, Nat.reduceEqDiff, ne_eq, not_false_eq_true, false_implies, true_implies, Bool.false_eq_true, reduceCtorEq, List.cons_append, List.nil_append, Nat.reduceSub, Nat.reduceLeDiff, Fin.isValue, Int.reduceNatCast', Int.zero_add, Int.add_zero, decide_true, decide_false, implies_true, forall_const, true_or, or_true, or_false, false_or, false_and, and_false, Int.toNat_natCast, oC_0, oC_1, oC_4, oC_11, oC_16, oC_18, oC_20, oC_23, oC_25, oC_26, oC_29, oC_31, oC_33, oC_35, oC_37, isT_29, isT_31, isT_33, isT_35, isL_16, isL_18, isL_26, ↓hT.f0, ↓hT.f1, ↓hT.a, hT.c, updR_o1, updR_o2, iandZ_1, wrapI_m, eq_true hT]
    (try simp only [rI_iff, rL_iff] at *)
    repeat' (first | assumption | apply And.intro | intro _)
    all_goals first
      | omega
      | (refine st_ext fun k j => ?_; grind [updR_app, up1_app, addF_app])
      | (refine Q_eq hQ ?_ ?_ <;> first | rfl | (refine st_ext fun k j => ?_; grind [updR_app, up1_app, addF_app]) | grind [updR_app, up1_app, addF_app])
      | grind [updR_app, up1_app, addF_app]
  · intro L st u hI
    obtain ⟨i, rfl, rfl, hi, hu⟩ := hI
    simp only [↓wpN_go, jmp_e, ↓wp_aload_n0, ↓wp_dup, ↓wp_getfield, ↓wp_goto, ↓wp_iadd, ↓wp_iand, ↓wp_iastore, ↓wp_icmp_ge, ↓wp_iconst, ↓wp_if_lt, ↓wp_iinc, ↓wp_iload, ↓wp_iload_n3, ↓wp_istore, ↓wp_isub, ↓wp_l2i, ↓wp_lload_n1, ↓wp_lshr, ↓wp_putfield, ↓wp_return0, ↓wp_sipush, wp_nil, ↓ldI_0, ↓ldI_s, ↓ldL_0, ↓ldL_s, ↓ldR_0, ↓ldR_s, sto1_0, sto1_1, sto1_s, sto2_0, sto2_1, sto2_s, isLong_i, isLong_l, isLong_r, ↓popI_c, ↓popL_c, ↓popR_c, ↓popN_0, ↓popN_s, catS_n, catS_c, psh_s, psh_n, fldV_n, fldV_s, ↓tgt_e, sw_n, ↓sw_c, ↓lk1_h, ↓lk1_m, ↓atC_h, ↓atC_m, ↓atC_n, ltO_n, ltO_s, updR_eq, updR_ne, gI_0i, gI_0l, gI_s, ltM_iff, List.cons.injEq, Sum.inl.injEq, Sum.inr.injEq, Option.some.injEq, exists_eq_left, exists_eq_left', exists_eq_right, exists_eq_right', exists_and_left, exists_and_right, exists_eq, exists_const, and_assoc, ↓j_T_add_0, ↓j_T_add_5, ↓j_T_add_52, ↓f_T_15, ↓f_T_9, List.length_cons, List.length_nil, Nat.zero_add, Nat.reduceAdd, Int.reduceAdd, Int.reduceNeg, Int.reduceToNat, Int.reduceLE, Int.reduceLT, true_and, and_true, Nat.reduceLT, reduceIte, Nat.reduceEqDiff, ne_eq, not_false_eq_true, false_implies, true_implies, Bool.false_eq_true, reduceCtorEq, List.cons_append, List.nil_append, Nat.reduceSub, Nat.reduceLeDiff, Fin.isValue, Int.reduceNatCast', Int.zero_add, Int.add_zero, decide_true, decide_false, implies_true, forall_const, true_or, or_true, or_false, false_or, false_and, and_false, Int.toNat_natCast, oC_0, oC_1, oC_4, oC_11, oC_16, oC_18, oC_20, oC_23, oC_25, oC_26, oC_29, oC_31, oC_33, oC_35, oC_37, isT_29, isT_31, isT_33, isT_35, isL_16, isL_18, isL_26, ↓hT.f0, ↓hT.f1, ↓hT.a, hT.c, updR_o1, updR_o2, iandZ_1, wrapI_m, eq_true hT]
    subst hu
    simp only [updR_eq, updR_o1, updR_o2, up1_eq]
    (try simp only [rI_iff, rL_iff] at *)
    repeat' (first | assumption | apply And.intro | intro _)
    all_goals first
      | omega
      | (refine st_ext fun k j => ?_; grind [updR_app, up1_app, addF_app, bitZ])
      | (refine Q_eq hQ ?_ ?_ <;> first | rfl | (refine st_ext fun k j => ?_; grind [updR_app, up1_app, addF_app, bitZ]) | grind [updR_app, up1_app, addF_app, bitZ])
      | grind [updR_app, up1_app, addF_app, bitZ]
def s_T_keep : Spec := fun as σ Q => popR as fun o r0 => popI r0 fun n r1 => r1 = [] ∧ (isT o) ∧ (rI n) ∧ (0 ≤ σ o 1 ∧ σ o 1 ≤ 600) ∧ Q (some (.inl (σ o 1 - max 0 (min (σ o 1) n)))) (updR σ o (up1 (σ o) 1 (max 0 (min (σ o 1) n))))
theorem e_T_keep (o : Nat) (n : Int) (σ : St) (Q : Option AV → St → Prop) : s_T_keep [.inr (.inr (some o)), .inl n] σ Q = ((isT o) ∧ (rI n) ∧ (0 ≤ σ o 1 ∧ σ o 1 ≤ 600) ∧ Q (some (.inl (σ o 1 - max 0 (min (σ o 1) n)))) (updR σ o (up1 (σ o) 1 (max 0 (min (σ o 1) n))))) := by
  show ([] = [] ∧ _) = _
  simp only [true_and]
set_option maxHeartbeats 4000000 in
set_option maxRecDepth 20000 in
theorem S_T_keep {l : Launch} : Sat l y_T_keep b_T_keep 3 (some .int) 1 s_T_keep := by
  refine sat_of (Φ := P_T) (κ := Q_T) (Γ := [(19, 0, 2, s_JM_min), (25, 0, 2, s_JM_max)]) (rt := 1) (by decide +kernel) P_T_ok Q_T_ok (by
    refine List.forall_mem_cons.mpr ⟨?_, List.forall_mem_cons.mpr ⟨?_, fun _ h => absurd h List.not_mem_nil⟩⟩
    · exact m_JM_min S_JM_min (by decide) l_T_19
    · exact m_JM_max S_JM_max (by decide) l_T_25) (by simp) o_T_keep ?_
  intro as σ Q hh0
  obtain ⟨o, rr0, rfl, hh1⟩ := popR_inv hh0
  obtain ⟨n, rr1, rfl, hh2⟩ := popI_inv hh1
  obtain ⟨hrE, hT, hn, hs, hQ⟩ := hh2
  subst hrE
  clear hh0 hh1
  refine ⟨Nat.le_of_ble_eq_true rfl, [], 14, ?_, cuts0⟩
  · rw [show entL 3 [.inr (.inr (some o)), .inl n] = [.inr (.inr (some o)), .inl n, .inr (.inr none)] from rfl]
    simp only [↓wpN_go, jmp_e, ↓wp_aload_n0, ↓wp_getfield, ↓wp_iconst, ↓wp_iload_n1, ↓wp_iload_n2, ↓wp_invokestatic, ↓wp_ireturn1, ↓wp_istore_n2, ↓wp_isub, ↓wp_putfield, wp_nil, ↓ldI_0, ↓ldI_s, ↓ldL_0, ↓ldL_s, ↓ldR_0, ↓ldR_s, sto1_0, sto1_1, sto1_s, sto2_0, sto2_1, sto2_s, isLong_i, isLong_l, isLong_r, ↓popI_c, ↓popL_c, ↓popR_c, ↓popN_0, ↓popN_s, catS_n, catS_c, psh_s, psh_n, fldV_n, fldV_s, ↓tgt_e, sw_n, ↓sw_c, ↓lk1_h, ↓lk1_m, ↓atC_h, ↓atC_m, ↓atC_n, ltO_n, ltO_s, updR_eq, updR_ne, gI_0i, gI_0l, gI_s, ltM_iff, List.cons.injEq, Sum.inl.injEq, Sum.inr.injEq, Option.some.injEq, exists_eq_left, exists_eq_left', exists_eq_right, exists_eq_right', exists_and_left, exists_and_right, exists_eq, exists_const, and_assoc, ↓j_T_keep_0, ↓f_T_15, List.length_cons, List.length_nil, Nat.zero_add, Nat.reduceAdd, Int.reduceAdd, Int.reduceNeg, Int.reduceToNat, Int.reduceLE, Int.reduceLT, true_and, and_true, Nat.reduceLT, reduceIte, Nat.reduceEqDiff, ne_eq, not_false_eq_true, false_implies, true_implies, Bool.false_eq_true, reduceCtorEq, List.cons_append, List.nil_append, Nat.reduceSub, Nat.reduceLeDiff, Fin.isValue, Int.reduceNatCast', Int.zero_add, Int.add_zero, decide_true, decide_false, implies_true, forall_const, true_or, or_true, or_false, false_or, false_and, and_false, Int.toNat_natCast, oC_0, oC_1, oC_4, oC_11, oC_16, oC_18, oC_20, oC_23, oC_25, oC_26, oC_29, oC_31, oC_33, oC_35, oC_37, isT_29, isT_31, isT_33, isT_35, isL_16, isL_18, isL_26, ↓hT.f0, ↓hT.f1, ↓hT.a, hT.c, updR_o1, updR_o2, iandZ_1, wrapI_m, eq_true hT, ↓e_JM_min, ↓e_JM_max]
    (try simp only [rI_iff, rL_iff] at *)
    repeat' (first | assumption | apply And.intro | intro _)
    all_goals first
      | omega
      | (refine st_ext fun k j => ?_; grind [updR_app, up1_app])
      | (refine Q_eq hQ ?_ ?_ <;> first | rfl | (refine st_ext fun k j => ?_; grind [updR_app, up1_app]) | grind [updR_app, up1_app])
      | grind [updR_app, up1_app]
def s_T_flip : Spec := fun as σ Q => popR as fun o r0 => popI r0 fun i r1 => r1 = [] ∧ (isT o) ∧ (rI i) ∧ (0 ≤ σ o 1 ∧ σ o 1 ≤ 600) ∧ (isBits (σ (o + 1))) ∧ Q (some (.inl (if 0 ≤ i ∧ i < σ o 1 then σ (o + 1) i.toNat else -2))) (if 0 ≤ i ∧ i < σ o 1 then updR σ (o + 1) (up1 (σ (o + 1)) i.toNat (1 - σ (o + 1) i.toNat)) else σ)
theorem e_T_flip (o : Nat) (i : Int) (σ : St) (Q : Option AV → St → Prop) : s_T_flip [.inr (.inr (some o)), .inl i] σ Q = ((isT o) ∧ (rI i) ∧ (0 ≤ σ o 1 ∧ σ o 1 ≤ 600) ∧ (isBits (σ (o + 1))) ∧ Q (some (.inl (if 0 ≤ i ∧ i < σ o 1 then σ (o + 1) i.toNat else -2))) (if 0 ≤ i ∧ i < σ o 1 then updR σ (o + 1) (up1 (σ (o + 1)) i.toNat (1 - σ (o + 1) i.toNat)) else σ)) := by
  show ([] = [] ∧ _) = _
  simp only [true_and]
set_option maxHeartbeats 4000000 in
set_option maxRecDepth 20000 in
theorem S_T_flip {l : Launch} : Sat l y_T_flip b_T_flip 3 (some .int) 1 s_T_flip := by
  refine sat_of (Φ := P_T) (κ := Q_T) (Γ := [(28, 2, 1, s_T_at)]) (rt := 1) (by decide +kernel) P_T_ok Q_T_ok (by
    refine List.forall_mem_cons.mpr ⟨?_, fun _ h => absurd h List.not_mem_nil⟩
    · exact m_T_at S_T_at (by decide) l_T_28) (by simp) o_T_flip ?_
  intro as σ Q hh0
  obtain ⟨o, rr0, rfl, hh1⟩ := popR_inv hh0
  obtain ⟨i, rr1, rfl, hh2⟩ := popI_inv hh1
  obtain ⟨hrE, hT, hi, hs, hb, hQ⟩ := hh2
  subst hrE
  clear hh0 hh1
  refine ⟨Nat.le_of_ble_eq_true rfl, [], 14, ?_, cuts0⟩
  · rw [show entL 3 [.inr (.inr (some o)), .inl i] = [.inr (.inr (some o)), .inl i, .inr (.inr none)] from rfl]
    simp only [↓wpN_go, jmp_e, ↓wp_aload_n0, ↓wp_bipush, ↓wp_getfield, ↓wp_iastore, ↓wp_icmp_eq, ↓wp_iconst, ↓wp_iload_n1, ↓wp_iload_n2, ↓wp_invokevirtual, ↓wp_ireturn1, ↓wp_istore_n2, ↓wp_isub, wp_nil, ↓ldI_0, ↓ldI_s, ↓ldL_0, ↓ldL_s, ↓ldR_0, ↓ldR_s, sto1_0, sto1_1, sto1_s, sto2_0, sto2_1, sto2_s, isLong_i, isLong_l, isLong_r, ↓popI_c, ↓popL_c, ↓popR_c, ↓popN_0, ↓popN_s, catS_n, catS_c, psh_s, psh_n, fldV_n, fldV_s, ↓tgt_e, sw_n, ↓sw_c, ↓lk1_h, ↓lk1_m, ↓atC_h, ↓atC_m, ↓atC_n, ltO_n, ltO_s, updR_eq, updR_ne, gI_0i, gI_0l, gI_s, ltM_iff, List.cons.injEq, Sum.inl.injEq, Sum.inr.injEq, Option.some.injEq, exists_eq_left, exists_eq_left', exists_eq_right, exists_eq_right', exists_and_left, exists_and_right, exists_eq, exists_const, and_assoc, ↓j_T_flip_0, ↓j_T_flip_21, ↓f_T_9, List.length_cons, List.length_nil, Nat.zero_add, Nat.reduceAdd, Int.reduceAdd, Int.reduceNeg, Int.reduceToNat, Int.reduceLE, Int.reduceLT, true_and, and_true, Nat.reduceLT, reduceIte, Nat.reduceEqDiff, ne_eq, not_false_eq_true, false_implies, true_implies, Bool.false_eq_true, reduceCtorEq, List.cons_append, List.nil_append, Nat.reduceSub, Nat.reduceLeDiff, Fin.isValue, Int.reduceNatCast', Int.zero_add, Int.add_zero, decide_true, decide_false, implies_true, forall_const, true_or, or_true, or_false, false_or, false_and, and_false, Int.toNat_natCast, oC_0, oC_1, oC_4, oC_11, oC_16, oC_18, oC_20, oC_23, oC_25, oC_26, oC_29, oC_31, oC_33, oC_35, oC_37, isT_29, isT_31, isT_33, isT_35, isL_16, isL_18, isL_26, ↓hT.f0, ↓hT.f1, ↓hT.a, hT.c, updR_o1, updR_o2, iandZ_1, wrapI_m, eq_true hT, ↓e_T_at]
    have hb1 := hb i.toNat
    (try simp only [rI_iff, rL_iff] at *)
    repeat' (first | assumption | apply And.intro | intro _)
    all_goals first
      | omega
      | (refine st_ext fun k j => ?_; grind [updR_app, up1_app, isBits])
      | (refine Q_eq hQ ?_ ?_ <;> first | rfl | (refine st_ext fun k j => ?_; grind [updR_app, up1_app, isBits]) | grind [updR_app, up1_app, isBits])
      | grind [updR_app, up1_app, isBits]
def s_T_copy : Spec := fun as σ Q => popR as fun o r0 => popR r0 fun p r1 => r1 = [] ∧ (isT o) ∧ (isT p) ∧ (o ≠ p ∧ o ≠ p + 1 ∧ p ≠ o + 1) ∧ (0 ≤ σ p 1 ∧ σ p 1 ≤ 600) ∧ Q none (updR (updR σ (o + 1) (va_cpy (σ (p + 1)) (σ (o + 1)) 0 0 (σ p 1).toNat)) o (up1 (σ o) 1 (σ p 1)))
theorem e_T_copy (o : Nat) (p : Nat) (σ : St) (Q : Option AV → St → Prop) : s_T_copy [.inr (.inr (some o)), .inr (.inr (some p))] σ Q = ((isT o) ∧ (isT p) ∧ (o ≠ p ∧ o ≠ p + 1 ∧ p ≠ o + 1) ∧ (0 ≤ σ p 1 ∧ σ p 1 ≤ 600) ∧ Q none (updR (updR σ (o + 1) (va_cpy (σ (p + 1)) (σ (o + 1)) 0 0 (σ p 1).toNat)) o (up1 (σ o) 1 (σ p 1)))) := by
  show ([] = [] ∧ _) = _
  simp only [true_and]
set_option maxHeartbeats 4000000 in
set_option maxRecDepth 20000 in
theorem S_T_copy {l : Launch} : Sat l y_T_copy b_T_copy 2 none 1 s_T_copy := by
  refine sat_of (Φ := P_T) (κ := Q_T) (Γ := [(32, 1000, 0, fun _ _ _ => False)]) (rt := 0) (by decide +kernel) P_T_ok Q_T_ok (by
    refine List.forall_mem_cons.mpr ⟨?_, fun _ h => absurd h List.not_mem_nil⟩
    · exact Or.inl ⟨rfl, l_T_32, by decide, by decide⟩) (by simp) o_T_copy ?_
  intro as σ Q hh0
  obtain ⟨o, rr0, rfl, hh1⟩ := popR_inv hh0
  obtain ⟨p, rr1, rfl, hh2⟩ := popR_inv hh1
  obtain ⟨hrE, hT, hp, hne, hs, hQ⟩ := hh2
  subst hrE
  clear hh0 hh1
  refine ⟨Nat.le_of_ble_eq_true rfl, [], 14, ?_, cuts0⟩
  · rw [show entL 2 [.inr (.inr (some o)), .inr (.inr (some p))] = [.inr (.inr (some o)), .inr (.inr (some p))] from rfl]
    simp only [↓wpN_go, jmp_e, ↓wp_aload_n0, ↓wp_aload_n1, ↓wp_getfield, ↓wp_iconst, ↓wp_invokestatic, ↓wp_putfield, ↓wp_return0, wp_nil, ↓ldI_0, ↓ldI_s, ↓ldL_0, ↓ldL_s, ↓ldR_0, ↓ldR_s, sto1_0, sto1_1, sto1_s, sto2_0, sto2_1, sto2_s, isLong_i, isLong_l, isLong_r, ↓popI_c, ↓popL_c, ↓popR_c, ↓popN_0, ↓popN_s, catS_n, catS_c, psh_s, psh_n, fldV_n, fldV_s, ↓tgt_e, sw_n, ↓sw_c, ↓lk1_h, ↓lk1_m, ↓atC_h, ↓atC_m, ↓atC_n, ltO_n, ltO_s, updR_eq, updR_ne, gI_0i, gI_0l, gI_s, ltM_iff, List.cons.injEq, Sum.inl.injEq, Sum.inr.injEq, Option.some.injEq, exists_eq_left, exists_eq_left', exists_eq_right, exists_eq_right', exists_and_left, exists_and_right, exists_eq, exists_const, and_assoc, ↓j_T_copy_0, ↓f_T_15, ↓f_T_9, List.length_cons, List.length_nil, Nat.zero_add, Nat.reduceAdd, Int.reduceAdd, Int.reduceNeg, Int.reduceToNat, Int.reduceLE, Int.reduceLT, true_and, and_true, Nat.reduceLT, reduceIte, Nat.reduceEqDiff, ne_eq, not_false_eq_true, false_implies, true_implies, Bool.false_eq_true, reduceCtorEq, List.cons_append, List.nil_append, Nat.reduceSub, Nat.reduceLeDiff, Fin.isValue, Int.reduceNatCast', Int.zero_add, Int.add_zero, decide_true, decide_false, implies_true, forall_const, true_or, or_true, or_false, false_or, false_and, and_false, Int.toNat_natCast, oC_0, oC_1, oC_4, oC_11, oC_16, oC_18, oC_20, oC_23, oC_25, oC_26, oC_29, oC_31, oC_33, oC_35, oC_37, isT_29, isT_31, isT_33, isT_35, isL_16, isL_18, isL_26, ↓hT.f0, ↓hT.f1, ↓hT.a, hT.c, updR_o1, updR_o2, iandZ_1, wrapI_m, eq_true hT, ↓hp.f0, ↓hp.f1, ↓hp.a, hp.c, Int.toNat_zero, updR_ne _ _ _ _ hne.2.2, updR_ne _ _ _ _ (Ne.symm hne.1)]
    (try simp only [rI_iff, rL_iff] at *)
    repeat' (first | assumption | apply And.intro | intro _)
    all_goals first
      | omega
      | (refine st_ext fun k j => ?_; grind [updR_app, up1_app])
      | (refine Q_eq hQ ?_ ?_ <;> first | rfl | (refine st_ext fun k j => ?_; grind [updR_app, up1_app]) | grind [updR_app, up1_app])
      | grind [updR_app, up1_app]
def s_T_part : Spec := fun as σ Q => popR as fun o r0 => popI r0 fun b r1 => popI r1 fun n r2 => r2 = [] ∧ (isT o) ∧ (0 ≤ σ o 1 ∧ σ o 1 ≤ 600) ∧ (0 ≤ b ∧ b ≤ 1000 ∧ 0 ≤ n ∧ n ≤ 31) ∧ (isBits (σ (o + 1))) ∧ Q (some (.inl (partF (σ (o + 1)) (σ o 1) b n.toNat))) σ
theorem e_T_part (o : Nat) (b : Int) (n : Int) (σ : St) (Q : Option AV → St → Prop) : s_T_part [.inr (.inr (some o)), .inl b, .inl n] σ Q = ((isT o) ∧ (0 ≤ σ o 1 ∧ σ o 1 ≤ 600) ∧ (0 ≤ b ∧ b ≤ 1000 ∧ 0 ≤ n ∧ n ≤ 31) ∧ (isBits (σ (o + 1))) ∧ Q (some (.inl (partF (σ (o + 1)) (σ o 1) b n.toNat))) σ) := by
  show ([] = [] ∧ _) = _
  simp only [true_and]
set_option maxHeartbeats 4000000 in
set_option maxRecDepth 20000 in
theorem S_T_part {l : Launch} : Sat l y_T_part b_T_part 5 (some .int) 1 s_T_part := by
  refine sat_of (Φ := P_T) (κ := Q_T) (Γ := [(28, 2, 1, s_T_at)]) (rt := 1) (by decide +kernel) P_T_ok Q_T_ok (by
    refine List.forall_mem_cons.mpr ⟨?_, fun _ h => absurd h List.not_mem_nil⟩
    · exact m_T_at S_T_at (by decide) l_T_28) (by simp) o_T_part ?_
  intro as σ Q hh0
  obtain ⟨o, rr0, rfl, hh1⟩ := popR_inv hh0
  obtain ⟨b, rr1, rfl, hh2⟩ := popI_inv hh1
  obtain ⟨n, rr2, rfl, hh3⟩ := popI_inv hh2
  obtain ⟨hrE, hT, hs, hn, hb, hQ⟩ := hh3
  subst hrE
  clear hh0 hh1 hh2
  refine ⟨Nat.le_of_ble_eq_true rfl, [(5, mkC (fun L st u => ∃ (x i : Int), L = [.inr (.inr (some o)), .inl b, .inl n, .inl x, .inl i] ∧ st = [] ∧ (b ≤ i ∧ i ≤ b + n) ∧ (x = partF (σ (o + 1)) (σ o 1) b (i - b).toNat) ∧ (u = σ)) (fun L st u => ((b + n - gI L 4).toNat, 0, 0)))], 14, ?_, cuts1 ?_ (cuts0)⟩
  · rw [show entL 5 [.inr (.inr (some o)), .inl b, .inl n] = [.inr (.inr (some o)), .inl b, .inl n, .inr (.inr none), .inr (.inr none)] from rfl]
    simp only [↓wpN_go, jmp_e, ↓wp_aload_n0, ↓wp_goto, ↓wp_iadd, ↓wp_icmp_ge, ↓wp_icmp_ne, ↓wp_iconst, ↓wp_iinc, ↓wp_iload, ↓wp_iload_n1, ↓wp_iload_n2, ↓wp_iload_n3, ↓wp_imul, ↓wp_invokevirtual, ↓wp_ireturn1, ↓wp_istore, ↓wp_istore_n3, wp_nil, ↓ldI_0, ↓ldI_s, ↓ldL_0, ↓ldL_s, ↓ldR_0, ↓ldR_s, sto1_0, sto1_1, sto1_s, sto2_0, sto2_1, sto2_s, isLong_i, isLong_l, isLong_r, ↓popI_c, ↓popL_c, ↓popR_c, ↓popN_0, ↓popN_s, catS_n, catS_c, psh_s, psh_n, fldV_n, fldV_s, ↓tgt_e, sw_n, ↓sw_c, ↓lk1_h, ↓lk1_m, ↓atC_h, ↓atC_m, ↓atC_n, ltO_n, ltO_s, updR_eq, updR_ne, gI_0i, gI_0l, gI_s, ltM_iff, List.cons.injEq, Sum.inl.injEq, Sum.inr.injEq, Option.some.injEq, exists_eq_left, exists_eq_left', exists_eq_right, exists_eq_right', exists_and_left, exists_and_right, exists_eq, exists_const, and_assoc, ↓j_T_part_0, ↓j_T_part_5, ↓j_T_part_30, ↓j_T_part_31, ↓j_T_part_39, List.length_cons, List.length_nil, Nat.zero_add, Nat.reduceAdd, Int.reduceAdd, Int.reduceNeg, Int.reduceToNat, Int.reduceLE, Int.reduceLT, true_and, and_true, Nat.reduceLT, reduceIte, Nat.reduceEqDiff, ne_eq, not_false_eq_true, false_implies, true_implies, Bool.false_eq_true, reduceCtorEq, List.cons_append, List.nil_append, Nat.reduceSub, Nat.reduceLeDiff, Fin.isValue, Int.reduceNatCast', Int.zero_add, Int.add_zero, decide_true, decide_false, implies_true, forall_const, true_or, or_true, or_false, false_or, false_and, and_false, Int.toNat_natCast, oC_0, oC_1, oC_4, oC_11, oC_16, oC_18, oC_20, oC_23, oC_25, oC_26, oC_29, oC_31, oC_33, oC_35, oC_37, isT_29, isT_31, isT_33, isT_35, isL_16, isL_18, isL_26, ↓hT.f0, ↓hT.f1, ↓hT.a, hT.c, updR_o1, updR_o2, iandZ_1, wrapI_m, eq_true hT, ↓e_T_at]
    (try simp only [rI_iff, rL_iff] at *)
    repeat' (first | assumption | apply And.intro | intro _)
    all_goals first
      | omega
      | (refine st_ext fun k j => ?_; grind [updR_app, up1_app, partF])
      | (refine Q_eq hQ ?_ ?_ <;> first | rfl | (refine st_ext fun k j => ?_; grind [updR_app, up1_app, partF]) | grind [updR_app, up1_app, partF])
      | grind [updR_app, up1_app, partF]
  · intro L st u hI
    obtain ⟨x, i, rfl, rfl, hi, hx, hu⟩ := hI
    simp only [↓wpN_go, jmp_e, ↓wp_aload_n0, ↓wp_goto, ↓wp_iadd, ↓wp_icmp_ge, ↓wp_icmp_ne, ↓wp_iconst, ↓wp_iinc, ↓wp_iload, ↓wp_iload_n1, ↓wp_iload_n2, ↓wp_iload_n3, ↓wp_imul, ↓wp_invokevirtual, ↓wp_ireturn1, ↓wp_istore, ↓wp_istore_n3, wp_nil, ↓ldI_0, ↓ldI_s, ↓ldL_0, ↓ldL_s, ↓ldR_0, ↓ldR_s, sto1_0, sto1_1, sto1_s, sto2_0, sto2_1, sto2_s, isLong_i, isLong_l, isLong_r, ↓popI_c, ↓popL_c, ↓popR_c, ↓popN_0, ↓popN_s, catS_n, catS_c, psh_s, psh_n, fldV_n, fldV_s, ↓tgt_e, sw_n, ↓sw_c, ↓lk1_h, ↓lk1_m, ↓atC_h, ↓atC_m, ↓atC_n, ltO_n, ltO_s, updR_eq, updR_ne, gI_0i, gI_0l, gI_s, ltM_iff, List.cons.injEq, Sum.inl.injEq, Sum.inr.injEq, Option.some.injEq, exists_eq_left, exists_eq_left', exists_eq_right, exists_eq_right', exists_and_left, exists_and_right, exists_eq, exists_const, and_assoc, ↓j_T_part_0, ↓j_T_part_5, ↓j_T_part_30, ↓j_T_part_31, ↓j_T_part_39, List.length_cons, List.length_nil, Nat.zero_add, Nat.reduceAdd, Int.reduceAdd, Int.reduceNeg, Int.reduceToNat, Int.reduceLE, Int.reduceLT, true_and, and_true, Nat.reduceLT, reduceIte, Nat.reduceEqDiff, ne_eq, not_false_eq_true, false_implies, true_implies, Bool.false_eq_true, reduceCtorEq, List.cons_append, List.nil_append, Nat.reduceSub, Nat.reduceLeDiff, Fin.isValue, Int.reduceNatCast', Int.zero_add, Int.add_zero, decide_true, decide_false, implies_true, forall_const, true_or, or_true, or_false, false_or, false_and, and_false, Int.toNat_natCast, oC_0, oC_1, oC_4, oC_11, oC_16, oC_18, oC_20, oC_23, oC_25, oC_26, oC_29, oC_31, oC_33, oC_35, oC_37, isT_29, isT_31, isT_33, isT_35, isL_16, isL_18, isL_26, ↓hT.f0, ↓hT.f1, ↓hT.a, hT.c, updR_o1, updR_o2, iandZ_1, wrapI_m, eq_true hT, ↓e_T_at]
    subst hu
    have e : (i + 1 - b).toNat = (i - b).toNat + 1 := by omega
    have e2 : b + ((i - b).toNat : Int) = i := by omega
    have e3 := hb i.toNat
    simp only [e, partF, e2, ← hx]
    (try simp only [rI_iff, rL_iff] at *)
    repeat' (first | assumption | apply And.intro | intro _)
    all_goals first
      | omega
      | (refine st_ext fun k j => ?_; grind [updR_app, up1_app, partF, isBits])
      | (refine Q_eq hQ ?_ ?_ <;> first | rfl | (refine st_ext fun k j => ?_; grind [updR_app, up1_app, partF, isBits]) | grind [updR_app, up1_app, partF, isBits])
      | grind [updR_app, up1_app, partF, isBits]
def s_T_firstUnlike : Spec := fun as σ Q => popR as fun o r0 => popR r0 fun p r1 => r1 = [] ∧ (isT o) ∧ (isT p) ∧ (0 ≤ σ o 1 ∧ σ o 1 ≤ 600) ∧ (0 ≤ σ p 1 ∧ σ p 1 ≤ 600) ∧ (isBits (σ (o + 1))) ∧ (isBits (σ (p + 1))) ∧ Q (some (.inl (unlikeF (σ (o + 1)) (σ (p + 1)) (σ p 1) (σ o 1).toNat))) σ
theorem e_T_firstUnlike (o : Nat) (p : Nat) (σ : St) (Q : Option AV → St → Prop) : s_T_firstUnlike [.inr (.inr (some o)), .inr (.inr (some p))] σ Q = ((isT o) ∧ (isT p) ∧ (0 ≤ σ o 1 ∧ σ o 1 ≤ 600) ∧ (0 ≤ σ p 1 ∧ σ p 1 ≤ 600) ∧ (isBits (σ (o + 1))) ∧ (isBits (σ (p + 1))) ∧ Q (some (.inl (unlikeF (σ (o + 1)) (σ (p + 1)) (σ p 1) (σ o 1).toNat))) σ) := by
  show ([] = [] ∧ _) = _
  simp only [true_and]
set_option maxHeartbeats 4000000 in
set_option maxRecDepth 20000 in
theorem S_T_firstUnlike {l : Launch} : Sat l y_T_firstUnlike b_T_firstUnlike 3 (some .int) 1 s_T_firstUnlike := by
  refine sat_of (Φ := P_T) (κ := Q_T) (Γ := [(28, 2, 1, s_T_at)]) (rt := 1) (by decide +kernel) P_T_ok Q_T_ok (by
    refine List.forall_mem_cons.mpr ⟨?_, fun _ h => absurd h List.not_mem_nil⟩
    · exact m_T_at S_T_at (by decide) l_T_28) (by simp) o_T_firstUnlike ?_
  intro as σ Q hh0
  obtain ⟨o, rr0, rfl, hh1⟩ := popR_inv hh0
  obtain ⟨p, rr1, rfl, hh2⟩ := popR_inv hh1
  obtain ⟨hrE, hT, hp, hs, hs2, hb, hb2, hQ⟩ := hh2
  subst hrE
  clear hh0 hh1
  refine ⟨Nat.le_of_ble_eq_true rfl, [(2, mkC (fun L st u => ∃ (i : Int), L = [.inr (.inr (some o)), .inr (.inr (some p)), .inl i] ∧ st = [] ∧ (0 ≤ i ∧ i ≤ σ o 1) ∧ (unlikeF (σ (o + 1)) (σ (p + 1)) (σ p 1) i.toNat = -1) ∧ (u = σ)) (fun L st u => ((σ o 1 - gI L 2).toNat, 0, 0)))], 14, ?_, cuts1 ?_ (cuts0)⟩
  · rw [show entL 3 [.inr (.inr (some o)), .inr (.inr (some p))] = [.inr (.inr (some o)), .inr (.inr (some p)), .inr (.inr none)] from rfl]
    simp only [↓wpN_go, jmp_e, ↓wp_aload_n0, ↓wp_aload_n1, ↓wp_getfield, ↓wp_goto, ↓wp_iaload, ↓wp_icmp_eq, ↓wp_icmp_ge, ↓wp_iconst, ↓wp_iinc, ↓wp_iload_n2, ↓wp_invokevirtual, ↓wp_ireturn1, ↓wp_istore_n2, wp_nil, ↓ldI_0, ↓ldI_s, ↓ldL_0, ↓ldL_s, ↓ldR_0, ↓ldR_s, sto1_0, sto1_1, sto1_s, sto2_0, sto2_1, sto2_s, isLong_i, isLong_l, isLong_r, ↓popI_c, ↓popL_c, ↓popR_c, ↓popN_0, ↓popN_s, catS_n, catS_c, psh_s, psh_n, fldV_n, fldV_s, ↓tgt_e, sw_n, ↓sw_c, ↓lk1_h, ↓lk1_m, ↓atC_h, ↓atC_m, ↓atC_n, ltO_n, ltO_s, updR_eq, updR_ne, gI_0i, gI_0l, gI_s, ltM_iff, List.cons.injEq, Sum.inl.injEq, Sum.inr.injEq, Option.some.injEq, exists_eq_left, exists_eq_left', exists_eq_right, exists_eq_right', exists_and_left, exists_and_right, exists_eq, exists_const, and_assoc, ↓j_T_firstUnlike_0, ↓j_T_firstUnlike_2, ↓j_T_firstUnlike_26, ↓j_T_firstUnlike_32, ↓f_T_15, ↓f_T_9, List.length_cons, List.length_nil, Nat.zero_add, Nat.reduceAdd, Int.reduceAdd, Int.reduceNeg, Int.reduceToNat, Int.reduceLE, Int.reduceLT, true_and, and_true, Nat.reduceLT, reduceIte, Nat.reduceEqDiff, ne_eq, not_false_eq_true, false_implies, true_implies, Bool.false_eq_true, reduceCtorEq, List.cons_append, List.nil_append, Nat.reduceSub, Nat.reduceLeDiff, Fin.isValue, Int.reduceNatCast', Int.zero_add, Int.add_zero, decide_true, decide_false, implies_true, forall_const, true_or, or_true, or_false, false_or, false_and, and_false, Int.toNat_natCast, oC_0, oC_1, oC_4, oC_11, oC_16, oC_18, oC_20, oC_23, oC_25, oC_26, oC_29, oC_31, oC_33, oC_35, oC_37, isT_29, isT_31, isT_33, isT_35, isL_16, isL_18, isL_26, ↓hT.f0, ↓hT.f1, ↓hT.a, hT.c, updR_o1, updR_o2, iandZ_1, wrapI_m, eq_true hT, eq_true hp, hp.c, ↓e_T_at]
    (try simp only [rI_iff, rL_iff] at *)
    repeat' (first | assumption | apply And.intro | intro _)
    all_goals first
      | omega
      | (refine st_ext fun k j => ?_; grind [updR_app, up1_app, unlikeF])
      | (refine Q_eq hQ ?_ ?_ <;> first | rfl | (refine st_ext fun k j => ?_; grind [updR_app, up1_app, unlikeF]) | grind [updR_app, up1_app, unlikeF])
      | grind [updR_app, up1_app, unlikeF]
  · intro L st u hI
    obtain ⟨i, rfl, rfl, hi, hx, hu⟩ := hI
    simp only [↓wpN_go, jmp_e, ↓wp_aload_n0, ↓wp_aload_n1, ↓wp_getfield, ↓wp_goto, ↓wp_iaload, ↓wp_icmp_eq, ↓wp_icmp_ge, ↓wp_iconst, ↓wp_iinc, ↓wp_iload_n2, ↓wp_invokevirtual, ↓wp_ireturn1, ↓wp_istore_n2, wp_nil, ↓ldI_0, ↓ldI_s, ↓ldL_0, ↓ldL_s, ↓ldR_0, ↓ldR_s, sto1_0, sto1_1, sto1_s, sto2_0, sto2_1, sto2_s, isLong_i, isLong_l, isLong_r, ↓popI_c, ↓popL_c, ↓popR_c, ↓popN_0, ↓popN_s, catS_n, catS_c, psh_s, psh_n, fldV_n, fldV_s, ↓tgt_e, sw_n, ↓sw_c, ↓lk1_h, ↓lk1_m, ↓atC_h, ↓atC_m, ↓atC_n, ltO_n, ltO_s, updR_eq, updR_ne, gI_0i, gI_0l, gI_s, ltM_iff, List.cons.injEq, Sum.inl.injEq, Sum.inr.injEq, Option.some.injEq, exists_eq_left, exists_eq_left', exists_eq_right, exists_eq_right', exists_and_left, exists_and_right, exists_eq, exists_const, and_assoc, ↓j_T_firstUnlike_0, ↓j_T_firstUnlike_2, ↓j_T_firstUnlike_26, ↓j_T_firstUnlike_32, ↓f_T_15, ↓f_T_9, List.length_cons, List.length_nil, Nat.zero_add, Nat.reduceAdd, Int.reduceAdd, Int.reduceNeg, Int.reduceToNat, Int.reduceLE, Int.reduceLT, true_and, and_true, Nat.reduceLT, reduceIte, Nat.reduceEqDiff, ne_eq, not_false_eq_true, false_implies, true_implies, Bool.false_eq_true, reduceCtorEq, List.cons_append, List.nil_append, Nat.reduceSub, Nat.reduceLeDiff, Fin.isValue, Int.reduceNatCast', Int.zero_add, Int.add_zero, decide_true, decide_false, implies_true, forall_const, true_or, or_true, or_false, false_or, false_and, and_false, Int.toNat_natCast, oC_0, oC_1, oC_4, oC_11, oC_16, oC_18, oC_20, oC_23, oC_25, oC_26, oC_29, oC_31, oC_33, oC_35, oC_37, isT_29, isT_31, isT_33, isT_35, isL_16, isL_18, isL_26, ↓hT.f0, ↓hT.f1, ↓hT.a, hT.c, updR_o1, updR_o2, iandZ_1, wrapI_m, eq_true hT, eq_true hp, hp.c, ↓e_T_at]
    subst hu
    have e : (i + 1).toNat = i.toNat + 1 := by omega
    have e3 := hb i.toNat
    have e4 := hb2 i.toNat
    have e5 := unlikeF_on (u (o + 1)) (u (p + 1)) (u p 1) (i.toNat + 1)
    have e6 : unlikeF (u (o + 1)) (u (p + 1)) (u p 1) (i.toNat + 1) = if (i.toNat : Int) < u p 1 ∧ u (p + 1) i.toNat = u (o + 1) i.toNat then -1 else (i.toNat : Int) := by rw [unlikeF, hx, if_pos rfl]
    have e7 : ∀ h : i < u o 1, i.toNat + 1 ≤ (u o 1).toNat := fun h => by omega
    (try simp only [rI_iff, rL_iff] at *)
    repeat' (first | assumption | apply And.intro | intro _)
    all_goals first
      | omega
      | (refine st_ext fun k j => ?_; grind [updR_app, up1_app, unlikeF, isBits])
      | (refine Q_eq hQ ?_ ?_ <;> first | rfl | (refine st_ext fun k j => ?_; grind [updR_app, up1_app, unlikeF, isBits]) | grind [updR_app, up1_app, unlikeF, isBits])
      | grind [updR_app, up1_app, unlikeF, isBits]
def s_T_leastLean : Spec := fun as σ Q => popR as fun o r0 => r0 = [] ∧ (isT o) ∧ (0 ≤ σ o 1 ∧ σ o 1 ≤ 600) ∧ (isBits (σ (o + 1))) ∧ Q (some (.inl (leastF (σ (o + 1)) (σ o 1).toNat))) σ
theorem e_T_leastLean (o : Nat) (σ : St) (Q : Option AV → St → Prop) : s_T_leastLean [.inr (.inr (some o))] σ Q = ((isT o) ∧ (0 ≤ σ o 1 ∧ σ o 1 ≤ 600) ∧ (isBits (σ (o + 1))) ∧ Q (some (.inl (leastF (σ (o + 1)) (σ o 1).toNat))) σ) := by
  show ([] = [] ∧ _) = _
  simp only [true_and]
set_option maxHeartbeats 4000000 in
set_option maxRecDepth 20000 in
theorem S_T_leastLean {l : Launch} : Sat l y_T_leastLean b_T_leastLean 4 (some .int) 1 s_T_leastLean := by
  refine sat_of (Φ := P_T) (κ := Q_T) (Γ := [(19, 0, 2, s_JM_min)]) (rt := 1) (by decide +kernel) P_T_ok Q_T_ok (by
    refine List.forall_mem_cons.mpr ⟨?_, fun _ h => absurd h List.not_mem_nil⟩
    · exact m_JM_min S_JM_min (by decide) l_T_19) (by simp) o_T_leastLean ?_
  intro as σ Q hh0
  obtain ⟨o, rr0, rfl, hh1⟩ := popR_inv hh0
  obtain ⟨hrE, hT, hs, hb, hQ⟩ := hh1
  subst hrE
  clear hh0
  refine ⟨Nat.le_of_ble_eq_true rfl, [(6, mkC (fun L st u => ∃ (x y i : Int), L = [.inr (.inr (some o)), .inl x, .inl y, .inl i] ∧ st = [] ∧ (0 ≤ i ∧ i ≤ σ o 1) ∧ (x = leanF (σ (o + 1)) i.toNat) ∧ (y = leastF (σ (o + 1)) i.toNat) ∧ (-i ≤ x ∧ x ≤ i) ∧ (-i ≤ y ∧ y ≤ i) ∧ (u = σ)) (fun L st u => ((σ o 1 - gI L 3).toNat, 0, 0)))], 14, ?_, cuts1 ?_ (cuts0)⟩
  · rw [show entL 4 [.inr (.inr (some o))] = [.inr (.inr (some o)), .inr (.inr none), .inr (.inr none), .inr (.inr none)] from rfl]
    simp only [↓wpN_go, jmp_e, ↓wp_aload_n0, ↓wp_getfield, ↓wp_goto, ↓wp_iadd, ↓wp_iaload, ↓wp_icmp_ge, ↓wp_iconst, ↓wp_iinc, ↓wp_iload_n1, ↓wp_iload_n2, ↓wp_iload_n3, ↓wp_imul, ↓wp_invokestatic, ↓wp_ireturn1, ↓wp_istore_n1, ↓wp_istore_n2, ↓wp_istore_n3, ↓wp_isub, wp_nil, ↓ldI_0, ↓ldI_s, ↓ldL_0, ↓ldL_s, ↓ldR_0, ↓ldR_s, sto1_0, sto1_1, sto1_s, sto2_0, sto2_1, sto2_s, isLong_i, isLong_l, isLong_r, ↓popI_c, ↓popL_c, ↓popR_c, ↓popN_0, ↓popN_s, catS_n, catS_c, psh_s, psh_n, fldV_n, fldV_s, ↓tgt_e, sw_n, ↓sw_c, ↓lk1_h, ↓lk1_m, ↓atC_h, ↓atC_m, ↓atC_n, ltO_n, ltO_s, updR_eq, updR_ne, gI_0i, gI_0l, gI_s, ltM_iff, List.cons.injEq, Sum.inl.injEq, Sum.inr.injEq, Option.some.injEq, exists_eq_left, exists_eq_left', exists_eq_right, exists_eq_right', exists_and_left, exists_and_right, exists_eq, exists_const, and_assoc, ↓j_T_leastLean_0, ↓j_T_leastLean_6, ↓j_T_leastLean_39, ↓f_T_15, ↓f_T_9, List.length_cons, List.length_nil, Nat.zero_add, Nat.reduceAdd, Int.reduceAdd, Int.reduceNeg, Int.reduceToNat, Int.reduceLE, Int.reduceLT, true_and, and_true, Nat.reduceLT, reduceIte, Nat.reduceEqDiff, ne_eq, not_false_eq_true, false_implies, true_implies, Bool.false_eq_true, reduceCtorEq, List.cons_append, List.nil_append, Nat.reduceSub, Nat.reduceLeDiff, Fin.isValue, Int.reduceNatCast', Int.zero_add, Int.add_zero, decide_true, decide_false, implies_true, forall_const, true_or, or_true, or_false, false_or, false_and, and_false, Int.toNat_natCast, oC_0, oC_1, oC_4, oC_11, oC_16, oC_18, oC_20, oC_23, oC_25, oC_26, oC_29, oC_31, oC_33, oC_35, oC_37, isT_29, isT_31, isT_33, isT_35, isL_16, isL_18, isL_26, ↓hT.f0, ↓hT.f1, ↓hT.a, hT.c, updR_o1, updR_o2, iandZ_1, wrapI_m, eq_true hT, ↓e_JM_min]
    (try simp only [rI_iff, rL_iff] at *)
    repeat' (first | assumption | apply And.intro | intro _)
    all_goals first
      | omega
      | (refine st_ext fun k j => ?_; grind [updR_app, up1_app, leanF, leastF])
      | (refine Q_eq hQ ?_ ?_ <;> first | rfl | (refine st_ext fun k j => ?_; grind [updR_app, up1_app, leanF, leastF]) | grind [updR_app, up1_app, leanF, leastF])
      | grind [updR_app, up1_app, leanF, leastF]
  · intro L st u hI
    obtain ⟨x, y, i, rfl, rfl, hi, hx, hy, hxr, hyr, hu⟩ := hI
    simp only [↓wpN_go, jmp_e, ↓wp_aload_n0, ↓wp_getfield, ↓wp_goto, ↓wp_iadd, ↓wp_iaload, ↓wp_icmp_ge, ↓wp_iconst, ↓wp_iinc, ↓wp_iload_n1, ↓wp_iload_n2, ↓wp_iload_n3, ↓wp_imul, ↓wp_invokestatic, ↓wp_ireturn1, ↓wp_istore_n1, ↓wp_istore_n2, ↓wp_istore_n3, ↓wp_isub, wp_nil, ↓ldI_0, ↓ldI_s, ↓ldL_0, ↓ldL_s, ↓ldR_0, ↓ldR_s, sto1_0, sto1_1, sto1_s, sto2_0, sto2_1, sto2_s, isLong_i, isLong_l, isLong_r, ↓popI_c, ↓popL_c, ↓popR_c, ↓popN_0, ↓popN_s, catS_n, catS_c, psh_s, psh_n, fldV_n, fldV_s, ↓tgt_e, sw_n, ↓sw_c, ↓lk1_h, ↓lk1_m, ↓atC_h, ↓atC_m, ↓atC_n, ltO_n, ltO_s, updR_eq, updR_ne, gI_0i, gI_0l, gI_s, ltM_iff, List.cons.injEq, Sum.inl.injEq, Sum.inr.injEq, Option.some.injEq, exists_eq_left, exists_eq_left', exists_eq_right, exists_eq_right', exists_and_left, exists_and_right, exists_eq, exists_const, and_assoc, ↓j_T_leastLean_0, ↓j_T_leastLean_6, ↓j_T_leastLean_39, ↓f_T_15, ↓f_T_9, List.length_cons, List.length_nil, Nat.zero_add, Nat.reduceAdd, Int.reduceAdd, Int.reduceNeg, Int.reduceToNat, Int.reduceLE, Int.reduceLT, true_and, and_true, Nat.reduceLT, reduceIte, Nat.reduceEqDiff, ne_eq, not_false_eq_true, false_implies, true_implies, Bool.false_eq_true, reduceCtorEq, List.cons_append, List.nil_append, Nat.reduceSub, Nat.reduceLeDiff, Fin.isValue, Int.reduceNatCast', Int.zero_add, Int.add_zero, decide_true, decide_false, implies_true, forall_const, true_or, or_true, or_false, false_or, false_and, and_false, Int.toNat_natCast, oC_0, oC_1, oC_4, oC_11, oC_16, oC_18, oC_20, oC_23, oC_25, oC_26, oC_29, oC_31, oC_33, oC_35, oC_37, isT_29, isT_31, isT_33, isT_35, isL_16, isL_18, isL_26, ↓hT.f0, ↓hT.f1, ↓hT.a, hT.c, updR_o1, updR_o2, iandZ_1, wrapI_m, eq_true hT, ↓e_JM_min]
    subst hu
    have e : (i + 1).toNat = i.toNat + 1 := by omega
    have e3 := hb i.toNat
    simp only [e, leanF, leastF, ← hx, ← hy]
    (try simp only [rI_iff, rL_iff] at *)
    repeat' (first | assumption | apply And.intro | intro _)
    all_goals first
      | omega
      | (refine st_ext fun k j => ?_; grind [updR_app, up1_app, leanF, leastF])
      | (refine Q_eq hQ ?_ ?_ <;> first | rfl | (refine st_ext fun k j => ?_; grind [updR_app, up1_app, leanF, leastF]) | grind [updR_app, up1_app, leanF, leastF])
      | grind [updR_app, up1_app, leanF, leastF]
def s_T_greatestLean : Spec := fun as σ Q => popR as fun o r0 => r0 = [] ∧ (isT o) ∧ (0 ≤ σ o 1 ∧ σ o 1 ≤ 600) ∧ (isBits (σ (o + 1))) ∧ Q (some (.inl (greatF (σ (o + 1)) (σ o 1).toNat))) σ
theorem e_T_greatestLean (o : Nat) (σ : St) (Q : Option AV → St → Prop) : s_T_greatestLean [.inr (.inr (some o))] σ Q = ((isT o) ∧ (0 ≤ σ o 1 ∧ σ o 1 ≤ 600) ∧ (isBits (σ (o + 1))) ∧ Q (some (.inl (greatF (σ (o + 1)) (σ o 1).toNat))) σ) := by
  show ([] = [] ∧ _) = _
  simp only [true_and]
set_option maxHeartbeats 4000000 in
set_option maxRecDepth 20000 in
theorem S_T_greatestLean {l : Launch} : Sat l y_T_greatestLean b_T_greatestLean 4 (some .int) 1 s_T_greatestLean := by
  refine sat_of (Φ := P_T) (κ := Q_T) (Γ := [(25, 0, 2, s_JM_max)]) (rt := 1) (by decide +kernel) P_T_ok Q_T_ok (by
    refine List.forall_mem_cons.mpr ⟨?_, fun _ h => absurd h List.not_mem_nil⟩
    · exact m_JM_max S_JM_max (by decide) l_T_25) (by simp) o_T_greatestLean ?_
  intro as σ Q hh0
  obtain ⟨o, rr0, rfl, hh1⟩ := popR_inv hh0
  obtain ⟨hrE, hT, hs, hb, hQ⟩ := hh1
  subst hrE
  clear hh0
  refine ⟨Nat.le_of_ble_eq_true rfl, [(6, mkC (fun L st u => ∃ (x y i : Int), L = [.inr (.inr (some o)), .inl x, .inl y, .inl i] ∧ st = [] ∧ (0 ≤ i ∧ i ≤ σ o 1) ∧ (x = leanF (σ (o + 1)) i.toNat) ∧ (y = greatF (σ (o + 1)) i.toNat) ∧ (-i ≤ x ∧ x ≤ i) ∧ (-i ≤ y ∧ y ≤ i) ∧ (u = σ)) (fun L st u => ((σ o 1 - gI L 3).toNat, 0, 0)))], 14, ?_, cuts1 ?_ (cuts0)⟩
  · rw [show entL 4 [.inr (.inr (some o))] = [.inr (.inr (some o)), .inr (.inr none), .inr (.inr none), .inr (.inr none)] from rfl]
    simp only [↓wpN_go, jmp_e, ↓wp_aload_n0, ↓wp_getfield, ↓wp_goto, ↓wp_iadd, ↓wp_iaload, ↓wp_icmp_ge, ↓wp_iconst, ↓wp_iinc, ↓wp_iload_n1, ↓wp_iload_n2, ↓wp_iload_n3, ↓wp_imul, ↓wp_invokestatic, ↓wp_ireturn1, ↓wp_istore_n1, ↓wp_istore_n2, ↓wp_istore_n3, ↓wp_isub, wp_nil, ↓ldI_0, ↓ldI_s, ↓ldL_0, ↓ldL_s, ↓ldR_0, ↓ldR_s, sto1_0, sto1_1, sto1_s, sto2_0, sto2_1, sto2_s, isLong_i, isLong_l, isLong_r, ↓popI_c, ↓popL_c, ↓popR_c, ↓popN_0, ↓popN_s, catS_n, catS_c, psh_s, psh_n, fldV_n, fldV_s, ↓tgt_e, sw_n, ↓sw_c, ↓lk1_h, ↓lk1_m, ↓atC_h, ↓atC_m, ↓atC_n, ltO_n, ltO_s, updR_eq, updR_ne, gI_0i, gI_0l, gI_s, ltM_iff, List.cons.injEq, Sum.inl.injEq, Sum.inr.injEq, Option.some.injEq, exists_eq_left, exists_eq_left', exists_eq_right, exists_eq_right', exists_and_left, exists_and_right, exists_eq, exists_const, and_assoc, ↓j_T_greatestLean_0, ↓j_T_greatestLean_6, ↓j_T_greatestLean_39, ↓f_T_15, ↓f_T_9, List.length_cons, List.length_nil, Nat.zero_add, Nat.reduceAdd, Int.reduceAdd, Int.reduceNeg, Int.reduceToNat, Int.reduceLE, Int.reduceLT, true_and, and_true, Nat.reduceLT, reduceIte, Nat.reduceEqDiff, ne_eq, not_false_eq_true, false_implies, true_implies, Bool.false_eq_true, reduceCtorEq, List.cons_append, List.nil_append, Nat.reduceSub, Nat.reduceLeDiff, Fin.isValue, Int.reduceNatCast', Int.zero_add, Int.add_zero, decide_true, decide_false, implies_true, forall_const, true_or, or_true, or_false, false_or, false_and, and_false, Int.toNat_natCast, oC_0, oC_1, oC_4, oC_11, oC_16, oC_18, oC_20, oC_23, oC_25, oC_26, oC_29, oC_31, oC_33, oC_35, oC_37, isT_29, isT_31, isT_33, isT_35, isL_16, isL_18, isL_26, ↓hT.f0, ↓hT.f1, ↓hT.a, hT.c, updR_o1, updR_o2, iandZ_1, wrapI_m, eq_true hT, ↓e_JM_max]
    (try simp only [rI_iff, rL_iff] at *)
    repeat' (first | assumption | apply And.intro | intro _)
    all_goals first
      | omega
      | (refine st_ext fun k j => ?_; grind [updR_app, up1_app, leanF, greatF])
      | (refine Q_eq hQ ?_ ?_ <;> first | rfl | (refine st_ext fun k j => ?_; grind [updR_app, up1_app, leanF, greatF]) | grind [updR_app, up1_app, leanF, greatF])
      | grind [updR_app, up1_app, leanF, greatF]
  · intro L st u hI
    obtain ⟨x, y, i, rfl, rfl, hi, hx, hy, hxr, hyr, hu⟩ := hI
    simp only [↓wpN_go, jmp_e, ↓wp_aload_n0, ↓wp_getfield, ↓wp_goto, ↓wp_iadd, ↓wp_iaload, ↓wp_icmp_ge, ↓wp_iconst, ↓wp_iinc, ↓wp_iload_n1, ↓wp_iload_n2, ↓wp_iload_n3, ↓wp_imul, ↓wp_invokestatic, ↓wp_ireturn1, ↓wp_istore_n1, ↓wp_istore_n2, ↓wp_istore_n3, ↓wp_isub, wp_nil, ↓ldI_0, ↓ldI_s, ↓ldL_0, ↓ldL_s, ↓ldR_0, ↓ldR_s, sto1_0, sto1_1, sto1_s, sto2_0, sto2_1, sto2_s, isLong_i, isLong_l, isLong_r, ↓popI_c, ↓popL_c, ↓popR_c, ↓popN_0, ↓popN_s, catS_n, catS_c, psh_s, psh_n, fldV_n, fldV_s, ↓tgt_e, sw_n, ↓sw_c, ↓lk1_h, ↓lk1_m, ↓atC_h, ↓atC_m, ↓atC_n, ltO_n, ltO_s, updR_eq, updR_ne, gI_0i, gI_0l, gI_s, ltM_iff, List.cons.injEq, Sum.inl.injEq, Sum.inr.injEq, Option.some.injEq, exists_eq_left, exists_eq_left', exists_eq_right, exists_eq_right', exists_and_left, exists_and_right, exists_eq, exists_const, and_assoc, ↓j_T_greatestLean_0, ↓j_T_greatestLean_6, ↓j_T_greatestLean_39, ↓f_T_15, ↓f_T_9, List.length_cons, List.length_nil, Nat.zero_add, Nat.reduceAdd, Int.reduceAdd, Int.reduceNeg, Int.reduceToNat, Int.reduceLE, Int.reduceLT, true_and, and_true, Nat.reduceLT, reduceIte, Nat.reduceEqDiff, ne_eq, not_false_eq_true, false_implies, true_implies, Bool.false_eq_true, reduceCtorEq, List.cons_append, List.nil_append, Nat.reduceSub, Nat.reduceLeDiff, Fin.isValue, Int.reduceNatCast', Int.zero_add, Int.add_zero, decide_true, decide_false, implies_true, forall_const, true_or, or_true, or_false, false_or, false_and, and_false, Int.toNat_natCast, oC_0, oC_1, oC_4, oC_11, oC_16, oC_18, oC_20, oC_23, oC_25, oC_26, oC_29, oC_31, oC_33, oC_35, oC_37, isT_29, isT_31, isT_33, isT_35, isL_16, isL_18, isL_26, ↓hT.f0, ↓hT.f1, ↓hT.a, hT.c, updR_o1, updR_o2, iandZ_1, wrapI_m, eq_true hT, ↓e_JM_max]
    subst hu
    have e : (i + 1).toNat = i.toNat + 1 := by omega
    have e3 := hb i.toNat
    simp only [e, leanF, greatF, ← hx, ← hy]
    (try simp only [rI_iff, rL_iff] at *)
    repeat' (first | assumption | apply And.intro | intro _)
    all_goals first
      | omega
      | (refine st_ext fun k j => ?_; grind [updR_app, up1_app, leanF, greatF])
      | (refine Q_eq hQ ?_ ?_ <;> first | rfl | (refine st_ext fun k j => ?_; grind [updR_app, up1_app, leanF, greatF]) | grind [updR_app, up1_app, leanF, greatF])
      | grind [updR_app, up1_app, leanF, greatF]
def s_T_leanSquares : Spec := fun as σ Q => popR as fun o r0 => r0 = [] ∧ (isT o) ∧ (0 ≤ σ o 1 ∧ σ o 1 ≤ 600) ∧ Q (some (.inl (sqF (σ (o + 1)) (σ o 1).toNat))) σ
theorem e_T_leanSquares (o : Nat) (σ : St) (Q : Option AV → St → Prop) : s_T_leanSquares [.inr (.inr (some o))] σ Q = ((isT o) ∧ (0 ≤ σ o 1 ∧ σ o 1 ≤ 600) ∧ Q (some (.inl (sqF (σ (o + 1)) (σ o 1).toNat))) σ) := by
  show ([] = [] ∧ _) = _
  simp only [true_and]
set_option maxHeartbeats 4000000 in
set_option maxRecDepth 20000 in
theorem S_T_leanSquares {l : Launch} : Sat l y_T_leanSquares b_T_leanSquares 4 (some .int) 0 s_T_leanSquares := by
  refine sat_of (Φ := P_T) (κ := Q_T) (Γ := []) (rt := 1) (by decide +kernel) P_T_ok Q_T_ok (fun g hg => absurd hg List.not_mem_nil) (by simp) o_T_leanSquares ?_
  intro as σ Q hh0
  obtain ⟨o, rr0, rfl, hh1⟩ := popR_inv hh0
  obtain ⟨hrE, hT, hs, hQ⟩ := hh1
  subst hrE
  clear hh0
  refine ⟨Nat.le_of_ble_eq_true rfl, [(6, mkC (fun L st u => ∃ (x y i : Int), L = [.inr (.inr (some o)), .inl x, .inl y, .inl i] ∧ st = [] ∧ (0 ≤ i ∧ i ≤ σ o 1) ∧ (x = leanF (σ (o + 1)) i.toNat) ∧ (y = sqF (σ (o + 1)) i.toNat) ∧ (u = σ)) (fun L st u => ((σ o 1 - gI L 3).toNat, 0, 0)))], 14, ?_, cuts1 ?_ (cuts0)⟩
  · rw [show entL 4 [.inr (.inr (some o))] = [.inr (.inr (some o)), .inr (.inr none), .inr (.inr none), .inr (.inr none)] from rfl]
    simp only [↓wpN_go, jmp_e, ↓wp_aload_n0, ↓wp_getfield, ↓wp_goto, ↓wp_iadd, ↓wp_iaload, ↓wp_icmp_ge, ↓wp_iconst, ↓wp_iinc, ↓wp_iload_n1, ↓wp_iload_n2, ↓wp_iload_n3, ↓wp_imul, ↓wp_ireturn1, ↓wp_istore_n1, ↓wp_istore_n2, ↓wp_istore_n3, ↓wp_isub, wp_nil, ↓ldI_0, ↓ldI_s, ↓ldL_0, ↓ldL_s, ↓ldR_0, ↓ldR_s, sto1_0, sto1_1, sto1_s, sto2_0, sto2_1, sto2_s, isLong_i, isLong_l, isLong_r, ↓popI_c, ↓popL_c, ↓popR_c, ↓popN_0, ↓popN_s, catS_n, catS_c, psh_s, psh_n, fldV_n, fldV_s, ↓tgt_e, sw_n, ↓sw_c, ↓lk1_h, ↓lk1_m, ↓atC_h, ↓atC_m, ↓atC_n, ltO_n, ltO_s, updR_eq, updR_ne, gI_0i, gI_0l, gI_s, ltM_iff, List.cons.injEq, Sum.inl.injEq, Sum.inr.injEq, Option.some.injEq, exists_eq_left, exists_eq_left', exists_eq_right, exists_eq_right', exists_and_left, exists_and_right, exists_eq, exists_const, and_assoc, ↓j_T_leanSquares_0, ↓j_T_leanSquares_6, ↓j_T_leanSquares_39, ↓f_T_15, ↓f_T_9, List.length_cons, List.length_nil, Nat.zero_add, Nat.reduceAdd, Int.reduceAdd, Int.reduceNeg, Int.reduceToNat, Int.reduceLE, Int.reduceLT, true_and, and_true, Nat.reduceLT, reduceIte, Nat.reduceEqDiff, ne_eq, not_false_eq_true, false_implies, true_implies, Bool.false_eq_true, reduceCtorEq, List.cons_append, List.nil_append, Nat.reduceSub, Nat.reduceLeDiff, Fin.isValue, Int.reduceNatCast', Int.zero_add, Int.add_zero, decide_true, decide_false, implies_true, forall_const, true_or, or_true, or_false, false_or, false_and, and_false, Int.toNat_natCast, oC_0, oC_1, oC_4, oC_11, oC_16, oC_18, oC_20, oC_23, oC_25, oC_26, oC_29, oC_31, oC_33, oC_35, oC_37, isT_29, isT_31, isT_33, isT_35, isL_16, isL_18, isL_26, ↓hT.f0, ↓hT.f1, ↓hT.a, hT.c, updR_o1, updR_o2, iandZ_1, wrapI_m, eq_true hT]
    (try simp only [rI_iff, rL_iff] at *)
    repeat' (first | assumption | apply And.intro | intro _)
    all_goals first
      | omega
      | (refine st_ext fun k j => ?_; grind [updR_app, up1_app, leanF, sqF])
      | (refine Q_eq hQ ?_ ?_ <;> first | rfl | (refine st_ext fun k j => ?_; grind [updR_app, up1_app, leanF, sqF]) | grind [updR_app, up1_app, leanF, sqF])
      | grind [updR_app, up1_app, leanF, sqF]
  · intro L st u hI
    obtain ⟨x, y, i, rfl, rfl, hi, hx, hy, hu⟩ := hI
    simp only [↓wpN_go, jmp_e, ↓wp_aload_n0, ↓wp_getfield, ↓wp_goto, ↓wp_iadd, ↓wp_iaload, ↓wp_icmp_ge, ↓wp_iconst, ↓wp_iinc, ↓wp_iload_n1, ↓wp_iload_n2, ↓wp_iload_n3, ↓wp_imul, ↓wp_ireturn1, ↓wp_istore_n1, ↓wp_istore_n2, ↓wp_istore_n3, ↓wp_isub, wp_nil, ↓ldI_0, ↓ldI_s, ↓ldL_0, ↓ldL_s, ↓ldR_0, ↓ldR_s, sto1_0, sto1_1, sto1_s, sto2_0, sto2_1, sto2_s, isLong_i, isLong_l, isLong_r, ↓popI_c, ↓popL_c, ↓popR_c, ↓popN_0, ↓popN_s, catS_n, catS_c, psh_s, psh_n, fldV_n, fldV_s, ↓tgt_e, sw_n, ↓sw_c, ↓lk1_h, ↓lk1_m, ↓atC_h, ↓atC_m, ↓atC_n, ltO_n, ltO_s, updR_eq, updR_ne, gI_0i, gI_0l, gI_s, ltM_iff, List.cons.injEq, Sum.inl.injEq, Sum.inr.injEq, Option.some.injEq, exists_eq_left, exists_eq_left', exists_eq_right, exists_eq_right', exists_and_left, exists_and_right, exists_eq, exists_const, and_assoc, ↓j_T_leanSquares_0, ↓j_T_leanSquares_6, ↓j_T_leanSquares_39, ↓f_T_15, ↓f_T_9, List.length_cons, List.length_nil, Nat.zero_add, Nat.reduceAdd, Int.reduceAdd, Int.reduceNeg, Int.reduceToNat, Int.reduceLE, Int.reduceLT, true_and, and_true, Nat.reduceLT, reduceIte, Nat.reduceEqDiff, ne_eq, not_false_eq_true, false_implies, true_implies, Bool.false_eq_true, reduceCtorEq, List.cons_append, List.nil_append, Nat.reduceSub, Nat.reduceLeDiff, Fin.isValue, Int.reduceNatCast', Int.zero_add, Int.add_zero, decide_true, decide_false, implies_true, forall_const, true_or, or_true, or_false, false_or, false_and, and_false, Int.toNat_natCast, oC_0, oC_1, oC_4, oC_11, oC_16, oC_18, oC_20, oC_23, oC_25, oC_26, oC_29, oC_31, oC_33, oC_35, oC_37, isT_29, isT_31, isT_33, isT_35, isL_16, isL_18, isL_26, ↓hT.f0, ↓hT.f1, ↓hT.a, hT.c, updR_o1, updR_o2, iandZ_1, wrapI_m, eq_true hT]
    subst hu
    have e : (i + 1).toNat = i.toNat + 1 := by omega
    simp only [e, leanF, sqF, ← hx, ← hy]
    (try simp only [rI_iff, rL_iff] at *)
    repeat' (first | assumption | apply And.intro | intro _)
    all_goals first
      | omega
      | (refine st_ext fun k j => ?_; grind [updR_app, up1_app, leanF, sqF])
      | (refine Q_eq hQ ?_ ?_ <;> first | rfl | (refine st_ext fun k j => ?_; grind [updR_app, up1_app, leanF, sqF]) | grind [updR_app, up1_app, leanF, sqF])
      | grind [updR_app, up1_app, leanF, sqF]
def s_T_longestRun : Spec := fun as σ Q => popR as fun o r0 => r0 = [] ∧ (isT o) ∧ (0 ≤ σ o 1 ∧ σ o 1 ≤ 600) ∧ (isBits (σ (o + 1))) ∧ Q (some (.inl (longF (σ (o + 1)) (σ o 1).toNat))) σ
theorem e_T_longestRun (o : Nat) (σ : St) (Q : Option AV → St → Prop) : s_T_longestRun [.inr (.inr (some o))] σ Q = ((isT o) ∧ (0 ≤ σ o 1 ∧ σ o 1 ≤ 600) ∧ (isBits (σ (o + 1))) ∧ Q (some (.inl (longF (σ (o + 1)) (σ o 1).toNat))) σ) := by
  show ([] = [] ∧ _) = _
  simp only [true_and]
set_option maxHeartbeats 4000000 in
set_option maxRecDepth 20000 in
theorem S_T_longestRun {l : Launch} : Sat l y_T_longestRun b_T_longestRun 4 (some .int) 1 s_T_longestRun := by
  refine sat_of (Φ := P_T) (κ := Q_T) (Γ := [(25, 0, 2, s_JM_max)]) (rt := 1) (by decide +kernel) P_T_ok Q_T_ok (by
    refine List.forall_mem_cons.mpr ⟨?_, fun _ h => absurd h List.not_mem_nil⟩
    · exact m_JM_max S_JM_max (by decide) l_T_25) (by simp) o_T_longestRun ?_
  intro as σ Q hh0
  obtain ⟨o, rr0, rfl, hh1⟩ := popR_inv hh0
  obtain ⟨hrE, hT, hs, hb, hQ⟩ := hh1
  subst hrE
  clear hh0
  refine ⟨Nat.le_of_ble_eq_true rfl, [(6, mkC (fun L st u => ∃ (x y i : Int), L = [.inr (.inr (some o)), .inl x, .inl y, .inl i] ∧ st = [] ∧ (0 ≤ i ∧ i ≤ σ o 1) ∧ (x = runF (σ (o + 1)) i.toNat) ∧ (y = longF (σ (o + 1)) i.toNat) ∧ (0 ≤ x ∧ x ≤ i) ∧ (0 ≤ y ∧ y ≤ i) ∧ (u = σ)) (fun L st u => ((σ o 1 - gI L 3).toNat, 0, 0)))], 14, ?_, cuts1 ?_ (cuts0)⟩
  · rw [show entL 4 [.inr (.inr (some o))] = [.inr (.inr (some o)), .inr (.inr none), .inr (.inr none), .inr (.inr none)] from rfl]
    simp only [↓wpN_go, jmp_e, ↓wp_aload_n0, ↓wp_getfield, ↓wp_goto, ↓wp_iadd, ↓wp_iaload, ↓wp_icmp_ge, ↓wp_icmp_ne, ↓wp_iconst, ↓wp_if_le, ↓wp_iinc, ↓wp_iload_n1, ↓wp_iload_n2, ↓wp_iload_n3, ↓wp_invokestatic, ↓wp_ireturn1, ↓wp_istore_n1, ↓wp_istore_n2, ↓wp_istore_n3, ↓wp_isub, wp_nil, ↓ldI_0, ↓ldI_s, ↓ldL_0, ↓ldL_s, ↓ldR_0, ↓ldR_s, sto1_0, sto1_1, sto1_s, sto2_0, sto2_1, sto2_s, isLong_i, isLong_l, isLong_r, ↓popI_c, ↓popL_c, ↓popR_c, ↓popN_0, ↓popN_s, catS_n, catS_c, psh_s, psh_n, fldV_n, fldV_s, ↓tgt_e, sw_n, ↓sw_c, ↓lk1_h, ↓lk1_m, ↓atC_h, ↓atC_m, ↓atC_n, ltO_n, ltO_s, updR_eq, updR_ne, gI_0i, gI_0l, gI_s, ltM_iff, List.cons.injEq, Sum.inl.injEq, Sum.inr.injEq, Option.some.injEq, exists_eq_left, exists_eq_left', exists_eq_right, exists_eq_right', exists_and_left, exists_and_right, exists_eq, exists_const, and_assoc, ↓j_T_longestRun_0, ↓j_T_longestRun_6, ↓j_T_longestRun_41, ↓j_T_longestRun_42, ↓j_T_longestRun_55, ↓f_T_15, ↓f_T_9, List.length_cons, List.length_nil, Nat.zero_add, Nat.reduceAdd, Int.reduceAdd, Int.reduceNeg, Int.reduceToNat, Int.reduceLE, Int.reduceLT, true_and, and_true, Nat.reduceLT, reduceIte, Nat.reduceEqDiff, ne_eq, not_false_eq_true, false_implies, true_implies, Bool.false_eq_true, reduceCtorEq, List.cons_append, List.nil_append, Nat.reduceSub, Nat.reduceLeDiff, Fin.isValue, Int.reduceNatCast', Int.zero_add, Int.add_zero, decide_true, decide_false, implies_true, forall_const, true_or, or_true, or_false, false_or, false_and, and_false, Int.toNat_natCast, oC_0, oC_1, oC_4, oC_11, oC_16, oC_18, oC_20, oC_23, oC_25, oC_26, oC_29, oC_31, oC_33, oC_35, oC_37, isT_29, isT_31, isT_33, isT_35, isL_16, isL_18, isL_26, ↓hT.f0, ↓hT.f1, ↓hT.a, hT.c, updR_o1, updR_o2, iandZ_1, wrapI_m, eq_true hT, ↓e_JM_max]
    (try simp only [rI_iff, rL_iff] at *)
    repeat' (first | assumption | apply And.intro | intro _)
    all_goals first
      | omega
      | (refine st_ext fun k j => ?_; grind [updR_app, up1_app, runF, longF])
      | (refine Q_eq hQ ?_ ?_ <;> first | rfl | (refine st_ext fun k j => ?_; grind [updR_app, up1_app, runF, longF]) | grind [updR_app, up1_app, runF, longF])
      | grind [updR_app, up1_app, runF, longF]
  · intro L st u hI
    obtain ⟨x, y, i, rfl, rfl, hi, hx, hy, hxr, hyr, hu⟩ := hI
    simp only [↓wpN_go, jmp_e, ↓wp_aload_n0, ↓wp_getfield, ↓wp_goto, ↓wp_iadd, ↓wp_iaload, ↓wp_icmp_ge, ↓wp_icmp_ne, ↓wp_iconst, ↓wp_if_le, ↓wp_iinc, ↓wp_iload_n1, ↓wp_iload_n2, ↓wp_iload_n3, ↓wp_invokestatic, ↓wp_ireturn1, ↓wp_istore_n1, ↓wp_istore_n2, ↓wp_istore_n3, ↓wp_isub, wp_nil, ↓ldI_0, ↓ldI_s, ↓ldL_0, ↓ldL_s, ↓ldR_0, ↓ldR_s, sto1_0, sto1_1, sto1_s, sto2_0, sto2_1, sto2_s, isLong_i, isLong_l, isLong_r, ↓popI_c, ↓popL_c, ↓popR_c, ↓popN_0, ↓popN_s, catS_n, catS_c, psh_s, psh_n, fldV_n, fldV_s, ↓tgt_e, sw_n, ↓sw_c, ↓lk1_h, ↓lk1_m, ↓atC_h, ↓atC_m, ↓atC_n, ltO_n, ltO_s, updR_eq, updR_ne, gI_0i, gI_0l, gI_s, ltM_iff, List.cons.injEq, Sum.inl.injEq, Sum.inr.injEq, Option.some.injEq, exists_eq_left, exists_eq_left', exists_eq_right, exists_eq_right', exists_and_left, exists_and_right, exists_eq, exists_const, and_assoc, ↓j_T_longestRun_0, ↓j_T_longestRun_6, ↓j_T_longestRun_41, ↓j_T_longestRun_42, ↓j_T_longestRun_55, ↓f_T_15, ↓f_T_9, List.length_cons, List.length_nil, Nat.zero_add, Nat.reduceAdd, Int.reduceAdd, Int.reduceNeg, Int.reduceToNat, Int.reduceLE, Int.reduceLT, true_and, and_true, Nat.reduceLT, reduceIte, Nat.reduceEqDiff, ne_eq, not_false_eq_true, false_implies, true_implies, Bool.false_eq_true, reduceCtorEq, List.cons_append, List.nil_append, Nat.reduceSub, Nat.reduceLeDiff, Fin.isValue, Int.reduceNatCast', Int.zero_add, Int.add_zero, decide_true, decide_false, implies_true, forall_const, true_or, or_true, or_false, false_or, false_and, and_false, Int.toNat_natCast, oC_0, oC_1, oC_4, oC_11, oC_16, oC_18, oC_20, oC_23, oC_25, oC_26, oC_29, oC_31, oC_33, oC_35, oC_37, isT_29, isT_31, isT_33, isT_35, isL_16, isL_18, isL_26, ↓hT.f0, ↓hT.f1, ↓hT.a, hT.c, updR_o1, updR_o2, iandZ_1, wrapI_m, eq_true hT, ↓e_JM_max]
    subst hu
    have e : (i + 1).toNat = i.toNat + 1 := by omega
    have e3 := hb i.toNat
    have e4 := hb (i.toNat - 1)
    have e5 : (i - 1).toNat = i.toNat - 1 := by omega
    simp only [e, e5, runF, longF, ← hx, ← hy]
    (try simp only [rI_iff, rL_iff] at *)
    repeat' (first | assumption | apply And.intro | intro _)
    all_goals first
      | omega
      | (refine st_ext fun k j => ?_; grind [updR_app, up1_app, runF, longF])
      | (refine Q_eq hQ ?_ ?_ <;> first | rfl | (refine st_ext fun k j => ?_; grind [updR_app, up1_app, runF, longF]) | grind [updR_app, up1_app, runF, longF])
      | grind [updR_app, up1_app, runF, longF]
def s_T_turns : Spec := fun as σ Q => popR as fun o r0 => r0 = [] ∧ (isT o) ∧ (0 ≤ σ o 1 ∧ σ o 1 ≤ 600) ∧ (isBits (σ (o + 1))) ∧ Q (some (.inl (turnF (σ (o + 1)) (σ o 1).toNat))) σ
theorem e_T_turns (o : Nat) (σ : St) (Q : Option AV → St → Prop) : s_T_turns [.inr (.inr (some o))] σ Q = ((isT o) ∧ (0 ≤ σ o 1 ∧ σ o 1 ≤ 600) ∧ (isBits (σ (o + 1))) ∧ Q (some (.inl (turnF (σ (o + 1)) (σ o 1).toNat))) σ) := by
  show ([] = [] ∧ _) = _
  simp only [true_and]
set_option maxHeartbeats 4000000 in
set_option maxRecDepth 20000 in
theorem S_T_turns {l : Launch} : Sat l y_T_turns b_T_turns 3 (some .int) 0 s_T_turns := by
  refine sat_of (Φ := P_T) (κ := Q_T) (Γ := []) (rt := 1) (by decide +kernel) P_T_ok Q_T_ok (fun g hg => absurd hg List.not_mem_nil) (by simp) o_T_turns ?_
  intro as σ Q hh0
  obtain ⟨o, rr0, rfl, hh1⟩ := popR_inv hh0
  obtain ⟨hrE, hT, hs, hb, hQ⟩ := hh1
  subst hrE
  clear hh0
  refine ⟨Nat.le_of_ble_eq_true rfl, [(4, mkC (fun L st u => ∃ (x i : Int), L = [.inr (.inr (some o)), .inl x, .inl i] ∧ st = [] ∧ (1 ≤ i ∧ (i ≤ σ o 1 ∨ i = 1)) ∧ (x = turnF (σ (o + 1)) i.toNat) ∧ (u = σ)) (fun L st u => ((σ o 1 - gI L 2).toNat, 0, 0)))], 14, ?_, cuts1 ?_ (cuts0)⟩
  · rw [show entL 3 [.inr (.inr (some o))] = [.inr (.inr (some o)), .inr (.inr none), .inr (.inr none)] from rfl]
    simp only [↓wpN_go, jmp_e, ↓wp_aload_n0, ↓wp_getfield, ↓wp_goto, ↓wp_iaload, ↓wp_icmp_eq, ↓wp_icmp_ge, ↓wp_iconst, ↓wp_iinc, ↓wp_iload_n1, ↓wp_iload_n2, ↓wp_ireturn1, ↓wp_istore_n1, ↓wp_istore_n2, ↓wp_isub, wp_nil, ↓ldI_0, ↓ldI_s, ↓ldL_0, ↓ldL_s, ↓ldR_0, ↓ldR_s, sto1_0, sto1_1, sto1_s, sto2_0, sto2_1, sto2_s, isLong_i, isLong_l, isLong_r, ↓popI_c, ↓popL_c, ↓popR_c, ↓popN_0, ↓popN_s, catS_n, catS_c, psh_s, psh_n, fldV_n, fldV_s, ↓tgt_e, sw_n, ↓sw_c, ↓lk1_h, ↓lk1_m, ↓atC_h, ↓atC_m, ↓atC_n, ltO_n, ltO_s, updR_eq, updR_ne, gI_0i, gI_0l, gI_s, ltM_iff, List.cons.injEq, Sum.inl.injEq, Sum.inr.injEq, Option.some.injEq, exists_eq_left, exists_eq_left', exists_eq_right, exists_eq_right', exists_and_left, exists_and_right, exists_eq, exists_const, and_assoc, ↓j_T_turns_0, ↓j_T_turns_4, ↓j_T_turns_32, ↓j_T_turns_38, ↓f_T_15, ↓f_T_9, List.length_cons, List.length_nil, Nat.zero_add, Nat.reduceAdd, Int.reduceAdd, Int.reduceNeg, Int.reduceToNat, Int.reduceLE, Int.reduceLT, true_and, and_true, Nat.reduceLT, reduceIte, Nat.reduceEqDiff, ne_eq, not_false_eq_true, false_implies, true_implies, Bool.false_eq_true, reduceCtorEq, List.cons_append, List.nil_append, Nat.reduceSub, Nat.reduceLeDiff, Fin.isValue, Int.reduceNatCast', Int.zero_add, Int.add_zero, decide_true, decide_false, implies_true, forall_const, true_or, or_true, or_false, false_or, false_and, and_false, Int.toNat_natCast, oC_0, oC_1, oC_4, oC_11, oC_16, oC_18, oC_20, oC_23, oC_25, oC_26, oC_29, oC_31, oC_33, oC_35, oC_37, isT_29, isT_31, isT_33, isT_35, isL_16, isL_18, isL_26, ↓hT.f0, ↓hT.f1, ↓hT.a, hT.c, updR_o1, updR_o2, iandZ_1, wrapI_m, eq_true hT]
    (try simp only [rI_iff, rL_iff] at *)
    repeat' (first | assumption | apply And.intro | intro _)
    all_goals first
      | omega
      | (refine st_ext fun k j => ?_; grind [updR_app, up1_app, turnF])
      | (refine Q_eq hQ ?_ ?_ <;> first | rfl | (refine st_ext fun k j => ?_; grind [updR_app, up1_app, turnF]) | grind [updR_app, up1_app, turnF])
      | grind [updR_app, up1_app, turnF]
  · intro L st u hI
    obtain ⟨x, i, rfl, rfl, hi, hx, hu⟩ := hI
    simp only [↓wpN_go, jmp_e, ↓wp_aload_n0, ↓wp_getfield, ↓wp_goto, ↓wp_iaload, ↓wp_icmp_eq, ↓wp_icmp_ge, ↓wp_iconst, ↓wp_iinc, ↓wp_iload_n1, ↓wp_iload_n2, ↓wp_ireturn1, ↓wp_istore_n1, ↓wp_istore_n2, ↓wp_isub, wp_nil, ↓ldI_0, ↓ldI_s, ↓ldL_0, ↓ldL_s, ↓ldR_0, ↓ldR_s, sto1_0, sto1_1, sto1_s, sto2_0, sto2_1, sto2_s, isLong_i, isLong_l, isLong_r, ↓popI_c, ↓popL_c, ↓popR_c, ↓popN_0, ↓popN_s, catS_n, catS_c, psh_s, psh_n, fldV_n, fldV_s, ↓tgt_e, sw_n, ↓sw_c, ↓lk1_h, ↓lk1_m, ↓atC_h, ↓atC_m, ↓atC_n, ltO_n, ltO_s, updR_eq, updR_ne, gI_0i, gI_0l, gI_s, ltM_iff, List.cons.injEq, Sum.inl.injEq, Sum.inr.injEq, Option.some.injEq, exists_eq_left, exists_eq_left', exists_eq_right, exists_eq_right', exists_and_left, exists_and_right, exists_eq, exists_const, and_assoc, ↓j_T_turns_0, ↓j_T_turns_4, ↓j_T_turns_32, ↓j_T_turns_38, ↓f_T_15, ↓f_T_9, List.length_cons, List.length_nil, Nat.zero_add, Nat.reduceAdd, Int.reduceAdd, Int.reduceNeg, Int.reduceToNat, Int.reduceLE, Int.reduceLT, true_and, and_true, Nat.reduceLT, reduceIte, Nat.reduceEqDiff, ne_eq, not_false_eq_true, false_implies, true_implies, Bool.false_eq_true, reduceCtorEq, List.cons_append, List.nil_append, Nat.reduceSub, Nat.reduceLeDiff, Fin.isValue, Int.reduceNatCast', Int.zero_add, Int.add_zero, decide_true, decide_false, implies_true, forall_const, true_or, or_true, or_false, false_or, false_and, and_false, Int.toNat_natCast, oC_0, oC_1, oC_4, oC_11, oC_16, oC_18, oC_20, oC_23, oC_25, oC_26, oC_29, oC_31, oC_33, oC_35, oC_37, isT_29, isT_31, isT_33, isT_35, isL_16, isL_18, isL_26, ↓hT.f0, ↓hT.f1, ↓hT.a, hT.c, updR_o1, updR_o2, iandZ_1, wrapI_m, eq_true hT]
    subst hu
    have e : (i + 1).toNat = i.toNat + 1 := by omega
    have e3 := hb i.toNat
    have e4 := hb (i.toNat - 1)
    have e5 : (i - 1).toNat = i.toNat - 1 := by omega
    simp only [e, e5, turnF, ← hx]
    (try simp only [rI_iff, rL_iff] at *)
    repeat' (first | assumption | apply And.intro | intro _)
    all_goals first
      | omega
      | (refine st_ext fun k j => ?_; grind [updR_app, up1_app, turnF])
      | (refine Q_eq hQ ?_ ?_ <;> first | rfl | (refine st_ext fun k j => ?_; grind [updR_app, up1_app, turnF]) | grind [updR_app, up1_app, turnF])
      | grind [updR_app, up1_app, turnF]
def s_T_digestBehind : Spec := fun as σ Q => popR as fun o r0 => popL r0 fun h r1 => r1 = [] ∧ (isT o) ∧ (0 ≤ σ o 1 ∧ σ o 1 ≤ 600) ∧ (isBits (σ (o + 1))) ∧ Q (some (.inr (.inl (digF (σ (o + 1)) h (σ o 1).toNat)))) σ
theorem e_T_digestBehind (o : Nat) (h : Int) (σ : St) (Q : Option AV → St → Prop) : s_T_digestBehind [.inr (.inr (some o)), .inr (.inl h)] σ Q = ((isT o) ∧ (0 ≤ σ o 1 ∧ σ o 1 ≤ 600) ∧ (isBits (σ (o + 1))) ∧ Q (some (.inr (.inl (digF (σ (o + 1)) h (σ o 1).toNat)))) σ) := by
  show ([] = [] ∧ _) = _
  simp only [true_and]
set_option maxHeartbeats 4000000 in
set_option maxRecDepth 20000 in
theorem S_T_digestBehind {l : Launch} : Sat l y_T_digestBehind b_T_digestBehind 6 (some .long) 0 s_T_digestBehind := by
  refine sat_of (Φ := P_T) (κ := Q_T) (Γ := []) (rt := 2) (by decide +kernel) P_T_ok Q_T_ok (fun g hg => absurd hg List.not_mem_nil) (by simp) o_T_digestBehind ?_
  intro as σ Q hh0
  obtain ⟨o, rr0, rfl, hh1⟩ := popR_inv hh0
  obtain ⟨h, rr1, rfl, hh2⟩ := popL_inv hh1
  obtain ⟨hrE, hT, hs, hb, hQ⟩ := hh2
  subst hrE
  clear hh0 hh1
  refine ⟨Nat.le_of_ble_eq_true rfl, [(5, mkC (fun L st u => ∃ (x i : Int), L = [.inr (.inr (some o)), .inr (.inl h), .inr (.inr none), .inr (.inl x), .inr (.inr none), .inl i] ∧ st = [] ∧ (0 ≤ i ∧ i ≤ σ o 1) ∧ (x = digF (σ (o + 1)) h i.toNat) ∧ (u = σ)) (fun L st u => ((σ o 1 - gI L 5).toNat, 0, 0)))], 14, ?_, cuts1 ?_ (cuts0)⟩
  · rw [show entL 6 [.inr (.inr (some o)), .inr (.inl h)] = [.inr (.inr (some o)), .inr (.inl h), .inr (.inr none), .inr (.inr none), .inr (.inr none), .inr (.inr none)] from rfl]
    simp only [↓wpN_go, jmp_e, ↓wp_aload_n0, ↓wp_getfield, ↓wp_goto, ↓wp_i2l, ↓wp_iaload, ↓wp_icmp_ge, ↓wp_iconst, ↓wp_iinc, ↓wp_iload, ↓wp_istore, ↓wp_ladd, ↓wp_ldc2_w, ↓wp_lload_n1, ↓wp_lload_n3, ↓wp_lmul, ↓wp_lreturn2, ↓wp_lstore_n3, wp_nil, ↓ldI_0, ↓ldI_s, ↓ldL_0, ↓ldL_s, ↓ldR_0, ↓ldR_s, sto1_0, sto1_1, sto1_s, sto2_0, sto2_1, sto2_s, isLong_i, isLong_l, isLong_r, ↓popI_c, ↓popL_c, ↓popR_c, ↓popN_0, ↓popN_s, catS_n, catS_c, psh_s, psh_n, fldV_n, fldV_s, ↓tgt_e, sw_n, ↓sw_c, ↓lk1_h, ↓lk1_m, ↓atC_h, ↓atC_m, ↓atC_n, ltO_n, ltO_s, updR_eq, updR_ne, gI_0i, gI_0l, gI_s, ltM_iff, List.cons.injEq, Sum.inl.injEq, Sum.inr.injEq, Option.some.injEq, exists_eq_left, exists_eq_left', exists_eq_right, exists_eq_right', exists_and_left, exists_and_right, exists_eq, exists_const, and_assoc, ↓j_T_digestBehind_0, ↓j_T_digestBehind_5, ↓j_T_digestBehind_35, ↓c_T_100049, ↓f_T_15, ↓f_T_9, List.length_cons, List.length_nil, Nat.zero_add, Nat.reduceAdd, Int.reduceAdd, Int.reduceNeg, Int.reduceToNat, Int.reduceLE, Int.reduceLT, true_and, and_true, Nat.reduceLT, reduceIte, Nat.reduceEqDiff, ne_eq, not_false_eq_true, false_implies, true_implies, Bool.false_eq_true, reduceCtorEq, List.cons_append, List.nil_append, Nat.reduceSub, Nat.reduceLeDiff, Fin.isValue, Int.reduceNatCast', Int.zero_add, Int.add_zero, decide_true, decide_false, implies_true, forall_const, true_or, or_true, or_false, false_or, false_and, and_false, Int.toNat_natCast, oC_0, oC_1, oC_4, oC_11, oC_16, oC_18, oC_20, oC_23, oC_25, oC_26, oC_29, oC_31, oC_33, oC_35, oC_37, isT_29, isT_31, isT_33, isT_35, isL_16, isL_18, isL_26, ↓hT.f0, ↓hT.f1, ↓hT.a, hT.c, updR_o1, updR_o2, iandZ_1, wrapI_m, eq_true hT]
    (try simp only [rI_iff, rL_iff] at *)
    repeat' (first | assumption | apply And.intro | intro _)
    all_goals first
      | omega
      | (refine st_ext fun k j => ?_; grind [updR_app, up1_app, digF])
      | (refine Q_eq hQ ?_ ?_ <;> first | rfl | (refine st_ext fun k j => ?_; grind [updR_app, up1_app, digF]) | grind [updR_app, up1_app, digF])
      | grind [updR_app, up1_app, digF]
  · intro L st u hI
    obtain ⟨x, i, rfl, rfl, hi, hx, hu⟩ := hI
    simp only [↓wpN_go, jmp_e, ↓wp_aload_n0, ↓wp_getfield, ↓wp_goto, ↓wp_i2l, ↓wp_iaload, ↓wp_icmp_ge, ↓wp_iconst, ↓wp_iinc, ↓wp_iload, ↓wp_istore, ↓wp_ladd, ↓wp_ldc2_w, ↓wp_lload_n1, ↓wp_lload_n3, ↓wp_lmul, ↓wp_lreturn2, ↓wp_lstore_n3, wp_nil, ↓ldI_0, ↓ldI_s, ↓ldL_0, ↓ldL_s, ↓ldR_0, ↓ldR_s, sto1_0, sto1_1, sto1_s, sto2_0, sto2_1, sto2_s, isLong_i, isLong_l, isLong_r, ↓popI_c, ↓popL_c, ↓popR_c, ↓popN_0, ↓popN_s, catS_n, catS_c, psh_s, psh_n, fldV_n, fldV_s, ↓tgt_e, sw_n, ↓sw_c, ↓lk1_h, ↓lk1_m, ↓atC_h, ↓atC_m, ↓atC_n, ltO_n, ltO_s, updR_eq, updR_ne, gI_0i, gI_0l, gI_s, ltM_iff, List.cons.injEq, Sum.inl.injEq, Sum.inr.injEq, Option.some.injEq, exists_eq_left, exists_eq_left', exists_eq_right, exists_eq_right', exists_and_left, exists_and_right, exists_eq, exists_const, and_assoc, ↓j_T_digestBehind_0, ↓j_T_digestBehind_5, ↓j_T_digestBehind_35, ↓c_T_100049, ↓f_T_15, ↓f_T_9, List.length_cons, List.length_nil, Nat.zero_add, Nat.reduceAdd, Int.reduceAdd, Int.reduceNeg, Int.reduceToNat, Int.reduceLE, Int.reduceLT, true_and, and_true, Nat.reduceLT, reduceIte, Nat.reduceEqDiff, ne_eq, not_false_eq_true, false_implies, true_implies, Bool.false_eq_true, reduceCtorEq, List.cons_append, List.nil_append, Nat.reduceSub, Nat.reduceLeDiff, Fin.isValue, Int.reduceNatCast', Int.zero_add, Int.add_zero, decide_true, decide_false, implies_true, forall_const, true_or, or_true, or_false, false_or, false_and, and_false, Int.toNat_natCast, oC_0, oC_1, oC_4, oC_11, oC_16, oC_18, oC_20, oC_23, oC_25, oC_26, oC_29, oC_31, oC_33, oC_35, oC_37, isT_29, isT_31, isT_33, isT_35, isL_16, isL_18, isL_26, ↓hT.f0, ↓hT.f1, ↓hT.a, hT.c, updR_o1, updR_o2, iandZ_1, wrapI_m, eq_true hT]
    subst hu
    have e : (i + 1).toNat = i.toNat + 1 := by omega
    have e3 := hb i.toNat
    simp only [e, digF, ← hx]
    (try simp only [rI_iff, rL_iff] at *)
    repeat' (first | assumption | apply And.intro | intro _)
    all_goals first
      | omega
      | (refine st_ext fun k j => ?_; grind [updR_app, up1_app, digF])
      | (refine Q_eq hQ ?_ ?_ <;> first | rfl | (refine st_ext fun k j => ?_; grind [updR_app, up1_app, digF]) | grind [updR_app, up1_app, digF])
      | grind [updR_app, up1_app, digF]
