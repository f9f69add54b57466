/-! the reference: messages, plates -/
def s_M_message : Spec := fun as σ Q => popR as fun c0 r0 => popI r0 fun i r1 => r1 = [] ∧ c0 = 37 ∧ (0 ≤ σ 37 36 ∧ σ 37 36 ≤ 240) ∧ (rI i) ∧ Q (some (.inl (if 0 ≤ i ∧ i < σ 37 36 then σ 63 i.toNat else -2))) σ
theorem e_M_message (i : Int) (σ : St) (Q : Option AV → St → Prop) : s_M_message [.inr (.inr (some 37)), .inl i] σ Q = ((0 ≤ σ 37 36 ∧ σ 37 36 ≤ 240) ∧ (rI i) ∧ Q (some (.inl (if 0 ≤ i ∧ i < σ 37 36 then σ 63 i.toNat else -2))) σ) := by
  show ([] = [] ∧ _) = _
  simp only [true_and]
set_option maxHeartbeats 4000000 in
set_option maxRecDepth 20000 in
theorem S_M_message {l : Launch} : Sat l y_M_message b_M_message 2 (some .int) 1 s_M_message := by
  refine sat_of (Φ := P_M) (κ := Q_M) (Γ := [(108, 0, 3, s_M_in)]) (rt := 1) (by decide +kernel) P_M_ok Q_M_ok (by
    refine List.forall_mem_cons.mpr ⟨?_, fun _ h => absurd h List.not_mem_nil⟩
    · exact m_M_in S_M_in (by decide) l_M_108) (by simp) o_M_message ?_
  intro as σ Q hh0
  obtain ⟨c0, rr0, rfl, hh1⟩ := popR_inv hh0
  obtain ⟨i, rr1, rfl, hh2⟩ := popI_inv hh1
  obtain ⟨hrE, rfl, h31, hri, hQ⟩ := hh2
  subst hrE
  clear hh0 hh1
  refine ⟨Nat.le_of_ble_eq_true rfl, [], 14, ?_, cuts0⟩
  · rw [show entL 2 [.inr (.inr (some 37)), .inl i] = [.inr (.inr (some 37)), .inl i] from rfl]
    simp only [↓wpN_go, jmp_e, ↓wp_aload_n0, ↓wp_bipush, ↓wp_getfield, ↓wp_goto, ↓wp_i2l, ↓wp_iaload, ↓wp_iconst, ↓wp_if_eq, ↓wp_iload_n1, ↓wp_invokestatic, ↓wp_ireturn1, ↓wp_isub, ↓wp_lconst0, wp_nil, ↓ldI_0, ↓ldI_s, ↓ldL_0, ↓ldL_s, ↓ldR_0, ↓ldR_s, sto1_0, sto1_1, sto1_s, sto2_0, sto2_1, sto2_s, isLong_i, isLong_l, isLong_r, ↓popI_c, ↓popL_c, ↓popR_c, ↓popN_0, ↓popN_s, catS_n, catS_c, psh_s, psh_n, fldV_n, fldV_s, ↓tgt_e, sw_n, ↓sw_c, ↓lk1_h, ↓lk1_m, ↓atC_h, ↓atC_m, ↓atC_n, ltO_n, ltO_s, updR_eq, updR_ne, gI_0i, gI_0l, gI_s, ltM_iff, List.cons.injEq, Sum.inl.injEq, Sum.inr.injEq, Option.some.injEq, exists_eq_left, exists_eq_left', exists_eq_right, exists_eq_right', exists_and_left, exists_and_right, exists_eq, exists_const, and_assoc, ↓j_M_message_0, ↓j_M_message_25, ↓j_M_message_27, ↓f_M_250, ↓f_M_94, List.length_cons, List.length_nil, Nat.zero_add, Nat.reduceAdd, Int.reduceAdd, Int.reduceNeg, Int.reduceToNat, Int.reduceLE, Int.reduceLT, true_and, and_true, Nat.reduceLT, reduceIte, Nat.reduceEqDiff, ne_eq, not_false_eq_true, false_implies, true_implies, Bool.false_eq_true, reduceCtorEq, List.cons_append, List.nil_append, Nat.reduceSub, Nat.reduceLeDiff, Fin.isValue, Int.reduceNatCast', Int.zero_add, Int.add_zero, decide_true, decide_false, implies_true, forall_const, true_or, or_true, or_false, false_or, false_and, and_false, Int.toNat_natCast, ↓oF_37_0, ↓oF_37_1, ↓oF_37_2, ↓oF_37_3, ↓aF_38, ↓oF_37_4, ↓aF_39, ↓oF_37_5, ↓oF_37_6, ↓aF_40, ↓oF_37_7, ↓oF_37_8, ↓aF_41, ↓oF_37_9, ↓aF_42, ↓oF_37_10, ↓aF_43, ↓oF_37_11, ↓aF_44, ↓oF_37_12, ↓aF_45, ↓oF_37_13, ↓aF_46, ↓oF_37_14, ↓aF_47, ↓oF_37_15, ↓aF_48, ↓oF_37_16, ↓aF_49, ↓oF_37_17, ↓oF_37_18, ↓aF_50, ↓oF_37_19, ↓aF_51, ↓oF_37_20, ↓aF_52, ↓oF_37_21, ↓aF_53, ↓oF_37_22, ↓aF_54, ↓oF_37_23, ↓aF_55, ↓oF_37_24, ↓aF_56, ↓oF_37_25, ↓aF_57, ↓oF_37_26, ↓oF_37_27, ↓oF_37_28, ↓aF_58, ↓oF_37_29, ↓aF_59, ↓oF_37_30, ↓aF_60, ↓oF_37_31, ↓aF_61, ↓oF_37_32, ↓oF_37_33, ↓oF_37_34, ↓oF_37_35, ↓aF_62, ↓oF_37_36, ↓oF_37_37, ↓aF_63, ↓oF_37_38, ↓oF_37_39, ↓aF_64, ↓oF_37_40, ↓aF_65, ↓oF_37_41, ↓aF_66, oC_0, oC_1, oC_4, oC_11, oC_16, oC_18, oC_20, oC_23, oC_25, oC_26, oC_29, oC_31, oC_33, oC_35, oC_37, isT_29, isT_31, isT_33, isT_35, isL_16, isL_18, isL_26, b2i_0, b2i_1, b2i_01, b2i_r, ↓e_M_in]
    (try simp only [rI_iff, rL_iff] at *)
    repeat' (with_reducible (first | assumption | apply And.intro | intro _))
    all_goals first | omega | with_reducible assumption | exact True.intro | skip
    all_goals grind
def s_M_plate : Spec := fun as σ Q => popR as fun c0 r0 => popI r0 fun i r1 => r1 = [] ∧ c0 = 37 ∧ (0 ≤ σ 37 38 ∧ σ 37 38 ≤ 600) ∧ (rI i) ∧ Q (some (.inl (if 0 ≤ i ∧ i < σ 37 38 then σ 64 i.toNat else -2))) σ
theorem e_M_plate (i : Int) (σ : St) (Q : Option AV → St → Prop) : s_M_plate [.inr (.inr (some 37)), .inl i] σ Q = ((0 ≤ σ 37 38 ∧ σ 37 38 ≤ 600) ∧ (rI i) ∧ Q (some (.inl (if 0 ≤ i ∧ i < σ 37 38 then σ 64 i.toNat else -2))) σ) := by
  show ([] = [] ∧ _) = _
  simp only [true_and]
set_option maxHeartbeats 4000000 in
set_option maxRecDepth 20000 in
theorem S_M_plate {l : Launch} : Sat l y_M_plate b_M_plate 2 (some .int) 1 s_M_plate := by
  refine sat_of (Φ := P_M) (κ := Q_M) (Γ := [(108, 0, 3, s_M_in)]) (rt := 1) (by decide +kernel) P_M_ok Q_M_ok (by
    refine List.forall_mem_cons.mpr ⟨?_, fun _ h => absurd h List.not_mem_nil⟩
    · exact m_M_in S_M_in (by decide) l_M_108) (by simp) o_M_plate ?_
  intro as σ Q hh0
  obtain ⟨c0, rr0, rfl, hh1⟩ := popR_inv hh0
  obtain ⟨i, rr1, rfl, hh2⟩ := popI_inv hh1
  obtain ⟨hrE, rfl, h33, hri, hQ⟩ := hh2
  subst hrE
  clear hh0 hh1
  refine ⟨Nat.le_of_ble_eq_true rfl, [], 14, ?_, cuts0⟩
  · rw [show entL 2 [.inr (.inr (some 37)), .inl i] = [.inr (.inr (some 37)), .inl i] from rfl]
    simp only [↓wpN_go, jmp_e, ↓wp_aload_n0, ↓wp_bipush, ↓wp_getfield, ↓wp_goto, ↓wp_i2l, ↓wp_iaload, ↓wp_iconst, ↓wp_if_eq, ↓wp_iload_n1, ↓wp_invokestatic, ↓wp_ireturn1, ↓wp_isub, ↓wp_lconst0, wp_nil, ↓ldI_0, ↓ldI_s, ↓ldL_0, ↓ldL_s, ↓ldR_0, ↓ldR_s, sto1_0, sto1_1, sto1_s, sto2_0, sto2_1, sto2_s, isLong_i, isLong_l, isLong_r, ↓popI_c, ↓popL_c, ↓popR_c, ↓popN_0, ↓popN_s, catS_n, catS_c, psh_s, psh_n, fldV_n, fldV_s, ↓tgt_e, sw_n, ↓sw_c, ↓lk1_h, ↓lk1_m, ↓atC_h, ↓atC_m, ↓atC_n, ltO_n, ltO_s, updR_eq, updR_ne, gI_0i, gI_0l, gI_s, ltM_iff, List.cons.injEq, Sum.inl.injEq, Sum.inr.injEq, Option.some.injEq, exists_eq_left, exists_eq_left', exists_eq_right, exists_eq_right', exists_and_left, exists_and_right, exists_eq, exists_const, and_assoc, ↓j_M_plate_0, ↓j_M_plate_25, ↓j_M_plate_27, ↓f_M_259, ↓f_M_97, List.length_cons, List.length_nil, Nat.zero_add, Nat.reduceAdd, Int.reduceAdd, Int.reduceNeg, Int.reduceToNat, Int.reduceLE, Int.reduceLT, true_and, and_true, Nat.reduceLT, reduceIte, Nat.reduceEqDiff, ne_eq, not_false_eq_true, false_implies, true_implies, Bool.false_eq_true, reduceCtorEq, List.cons_append, List.nil_append, Nat.reduceSub, Nat.reduceLeDiff, Fin.isValue, Int.reduceNatCast', Int.zero_add, Int.add_zero, decide_true, decide_false, implies_true, forall_const, true_or, or_true, or_false, false_or, false_and, and_false, Int.toNat_natCast, ↓oF_37_0, ↓oF_37_1, ↓oF_37_2, ↓oF_37_3, ↓aF_38, ↓oF_37_4, ↓aF_39, ↓oF_37_5, ↓oF_37_6, ↓aF_40, ↓oF_37_7, ↓oF_37_8, ↓aF_41, ↓oF_37_9, ↓aF_42, ↓oF_37_10, ↓aF_43, ↓oF_37_11, ↓aF_44, ↓oF_37_12, ↓aF_45, ↓oF_37_13, ↓aF_46, ↓oF_37_14, ↓aF_47, ↓oF_37_15, ↓aF_48, ↓oF_37_16, ↓aF_49, ↓oF_37_17, ↓oF_37_18, ↓aF_50, ↓oF_37_19, ↓aF_51, ↓oF_37_20, ↓aF_52, ↓oF_37_21, ↓aF_53, ↓oF_37_22, ↓aF_54, ↓oF_37_23, ↓aF_55, ↓oF_37_24, ↓aF_56, ↓oF_37_25, ↓aF_57, ↓oF_37_26, ↓oF_37_27, ↓oF_37_28, ↓aF_58, ↓oF_37_29, ↓aF_59, ↓oF_37_30, ↓aF_60, ↓oF_37_31, ↓aF_61, ↓oF_37_32, ↓oF_37_33, ↓oF_37_34, ↓oF_37_35, ↓aF_62, ↓oF_37_36, ↓oF_37_37, ↓aF_63, ↓oF_37_38, ↓oF_37_39, ↓aF_64, ↓oF_37_40, ↓aF_65, ↓oF_37_41, ↓aF_66, oC_0, oC_1, oC_4, oC_11, oC_16, oC_18, oC_20, oC_23, oC_25, oC_26, oC_29, oC_31, oC_33, oC_35, oC_37, isT_29, isT_31, isT_33, isT_35, isL_16, isL_18, isL_26, b2i_0, b2i_1, b2i_01, b2i_r, ↓e_M_in]
    (try simp only [rI_iff, rL_iff] at *)
    repeat' (with_reducible (first | assumption | apply And.intro | intro _))
    all_goals first | omega | with_reducible assumption | exact True.intro | skip
    all_goals grind
def s_M_cut : Spec := fun as σ Q => popR as fun c0 r0 => popI r0 fun n r1 => r1 = [] ∧ c0 = 37 ∧ (0 ≤ σ 37 38 ∧ σ 37 38 ≤ 600) ∧ (rI n) ∧ if 0 ≤ n ∧ n ≤ σ 37 38 then Q (some (.inl (σ 37 38 - n))) (updR σ 37 (up1 (σ 37) 38 n)) else Q (some (.inl (-2))) σ
theorem e_M_cut (n : Int) (σ : St) (Q : Option AV → St → Prop) : s_M_cut [.inr (.inr (some 37)), .inl n] σ Q = ((0 ≤ σ 37 38 ∧ σ 37 38 ≤ 600) ∧ (rI n) ∧ if 0 ≤ n ∧ n ≤ σ 37 38 then Q (some (.inl (σ 37 38 - n))) (updR σ 37 (up1 (σ 37) 38 n)) else Q (some (.inl (-2))) σ) := by
  show ([] = [] ∧ _) = _
  simp only [true_and]
set_option maxHeartbeats 4000000 in
set_option maxRecDepth 20000 in
theorem S_M_cut {l : Launch} : Sat l y_M_cut b_M_cut 3 (some .int) 1 s_M_cut := by
  refine sat_of (Φ := P_M) (κ := Q_M) (Γ := [(108, 0, 3, s_M_in)]) (rt := 1) (by decide +kernel) P_M_ok Q_M_ok (by
    refine List.forall_mem_cons.mpr ⟨?_, fun _ h => absurd h List.not_mem_nil⟩
    · exact m_M_in S_M_in (by decide) l_M_108) (by simp) o_M_cut ?_
  intro as σ Q hh0
  obtain ⟨c0, rr0, rfl, hh1⟩ := popR_inv hh0
  obtain ⟨n, rr1, rfl, hh2⟩ := popI_inv hh1
  obtain ⟨hrE, rfl, h33, hrn, hQ⟩ := hh2
  subst hrE
  clear hh0 hh1
  refine ⟨Nat.le_of_ble_eq_true rfl, [], 14, ?_, cuts0⟩
  · rw [show entL 3 [.inr (.inr (some 37)), .inl n] = [.inr (.inr (some 37)), .inl n, .inr (.inr none)] from rfl]
    simp only [↓wpN_go, jmp_e, ↓wp_aload_n0, ↓wp_bipush, ↓wp_getfield, ↓wp_i2l, ↓wp_if_ne, ↓wp_iload_n1, ↓wp_iload_n2, ↓wp_invokestatic, ↓wp_ireturn1, ↓wp_istore_n2, ↓wp_isub, ↓wp_lconst0, ↓wp_putfield, wp_nil, ↓ldI_0, ↓ldI_s, ↓ldL_0, ↓ldL_s, ↓ldR_0, ↓ldR_s, sto1_0, sto1_1, sto1_s, sto2_0, sto2_1, sto2_s, isLong_i, isLong_l, isLong_r, ↓popI_c, ↓popL_c, ↓popR_c, ↓popN_0, ↓popN_s, catS_n, catS_c, psh_s, psh_n, fldV_n, fldV_s, ↓tgt_e, sw_n, ↓sw_c, ↓lk1_h, ↓lk1_m, ↓atC_h, ↓atC_m, ↓atC_n, ltO_n, ltO_s, updR_eq, updR_ne, gI_0i, gI_0l, gI_s, ltM_iff, List.cons.injEq, Sum.inl.injEq, Sum.inr.injEq, Option.some.injEq, exists_eq_left, exists_eq_left', exists_eq_right, exists_eq_right', exists_and_left, exists_and_right, exists_eq, exists_const, and_assoc, ↓j_M_cut_0, ↓j_M_cut_17, ↓f_M_259, List.length_cons, List.length_nil, Nat.zero_add, Nat.reduceAdd, Int.reduceAdd, Int.reduceNeg, Int.reduceToNat, Int.reduceLE, Int.reduceLT, true_and, and_true, Nat.reduceLT, reduceIte, Nat.reduceEqDiff, ne_eq, not_false_eq_true, false_implies, true_implies, Bool.false_eq_true, reduceCtorEq, List.cons_append, List.nil_append, Nat.reduceSub, Nat.reduceLeDiff, Fin.isValue, Int.reduceNatCast', Int.zero_add, Int.add_zero, decide_true, decide_false, implies_true, forall_const, true_or, or_true, or_false, false_or, false_and, and_false, Int.toNat_natCast, ↓oF_37_0, ↓oF_37_1, ↓oF_37_2, ↓oF_37_3, ↓aF_38, ↓oF_37_4, ↓aF_39, ↓oF_37_5, ↓oF_37_6, ↓aF_40, ↓oF_37_7, ↓oF_37_8, ↓aF_41, ↓oF_37_9, ↓aF_42, ↓oF_37_10, ↓aF_43, ↓oF_37_11, ↓aF_44, ↓oF_37_12, ↓aF_45, ↓oF_37_13, ↓aF_46, ↓oF_37_14, ↓aF_47, ↓oF_37_15, ↓aF_48, ↓oF_37_16, ↓aF_49, ↓oF_37_17, ↓oF_37_18, ↓aF_50, ↓oF_37_19, ↓aF_51, ↓oF_37_20, ↓aF_52, ↓oF_37_21, ↓aF_53, ↓oF_37_22, ↓aF_54, ↓oF_37_23, ↓aF_55, ↓oF_37_24, ↓aF_56, ↓oF_37_25, ↓aF_57, ↓oF_37_26, ↓oF_37_27, ↓oF_37_28, ↓aF_58, ↓oF_37_29, ↓aF_59, ↓oF_37_30, ↓aF_60, ↓oF_37_31, ↓aF_61, ↓oF_37_32, ↓oF_37_33, ↓oF_37_34, ↓oF_37_35, ↓aF_62, ↓oF_37_36, ↓oF_37_37, ↓aF_63, ↓oF_37_38, ↓oF_37_39, ↓aF_64, ↓oF_37_40, ↓aF_65, ↓oF_37_41, ↓aF_66, oC_0, oC_1, oC_4, oC_11, oC_16, oC_18, oC_20, oC_23, oC_25, oC_26, oC_29, oC_31, oC_33, oC_35, oC_37, isT_29, isT_31, isT_33, isT_35, isL_16, isL_18, isL_26, b2i_0, b2i_1, b2i_01, b2i_r, ↓e_M_in]
    (try simp only [rI_iff, rL_iff] at *)
    repeat' (with_reducible (first | assumption | apply And.intro | intro _))
    all_goals first | omega | with_reducible assumption | exact True.intro | skip
    all_goals grind
def s_M_spoil : Spec := fun as σ Q => popR as fun c0 r0 => popI r0 fun i r1 => r1 = [] ∧ c0 = 37 ∧ (0 ≤ σ 37 38 ∧ σ 37 38 ≤ 600) ∧ (rI i) ∧ Q (some (.inl (if 0 ≤ i ∧ i < σ 37 38 then σ 64 i.toNat else -2))) (if 0 ≤ i ∧ i < σ 37 38 then updR σ 64 (up1 (σ 64) i.toNat (1 - σ 64 i.toNat)) else σ)
theorem e_M_spoil (i : Int) (σ : St) (Q : Option AV → St → Prop) : s_M_spoil [.inr (.inr (some 37)), .inl i] σ Q = ((0 ≤ σ 37 38 ∧ σ 37 38 ≤ 600) ∧ (rI i) ∧ Q (some (.inl (if 0 ≤ i ∧ i < σ 37 38 then σ 64 i.toNat else -2))) (if 0 ≤ i ∧ i < σ 37 38 then updR σ 64 (up1 (σ 64) i.toNat (1 - σ 64 i.toNat)) else σ)) := by
  show ([] = [] ∧ _) = _
  simp only [true_and]
set_option maxHeartbeats 4000000 in
set_option maxRecDepth 20000 in
theorem S_M_spoil {l : Launch} : Sat l y_M_spoil b_M_spoil 2 (some .int) 1 s_M_spoil := by
  refine sat_of (Φ := P_M) (κ := Q_M) (Γ := [(108, 0, 3, s_M_in)]) (rt := 1) (by decide +kernel) P_M_ok Q_M_ok (by
    refine List.forall_mem_cons.mpr ⟨?_, fun _ h => absurd h List.not_mem_nil⟩
    · exact m_M_in S_M_in (by decide) l_M_108) (by simp) o_M_spoil ?_
  intro as σ Q hh0
  obtain ⟨c0, rr0, rfl, hh1⟩ := popR_inv hh0
  obtain ⟨i, rr1, rfl, hh2⟩ := popI_inv hh1
  obtain ⟨hrE, rfl, h33, hri, hQ⟩ := hh2
  subst hrE
  clear hh0 hh1
  refine ⟨Nat.le_of_ble_eq_true rfl, [], 14, ?_, cuts0⟩
  · rw [show entL 2 [.inr (.inr (some 37)), .inl i] = [.inr (.inr (some 37)), .inl i] from rfl]
    simp only [↓wpN_go, jmp_e, ↓wp_aload_n0, ↓wp_bipush, ↓wp_getfield, ↓wp_i2l, ↓wp_iaload, ↓wp_iastore, ↓wp_iconst, ↓wp_if_ne, ↓wp_iload_n1, ↓wp_invokestatic, ↓wp_ireturn1, ↓wp_isub, ↓wp_lconst0, wp_nil, ↓ldI_0, ↓ldI_s, ↓ldL_0, ↓ldL_s, ↓ldR_0, ↓ldR_s, sto1_0, sto1_1, sto1_s, sto2_0, sto2_1, sto2_s, isLong_i, isLong_l, isLong_r, ↓popI_c, ↓popL_c, ↓popR_c, ↓popN_0, ↓popN_s, catS_n, catS_c, psh_s, psh_n, fldV_n, fldV_s, ↓tgt_e, sw_n, ↓sw_c, ↓lk1_h, ↓lk1_m, ↓atC_h, ↓atC_m, ↓atC_n, ltO_n, ltO_s, updR_eq, updR_ne, gI_0i, gI_0l, gI_s, ltM_iff, List.cons.injEq, Sum.inl.injEq, Sum.inr.injEq, Option.some.injEq, exists_eq_left, exists_eq_left', exists_eq_right, exists_eq_right', exists_and_left, exists_and_right, exists_eq, exists_const, and_assoc, ↓j_M_spoil_0, ↓j_M_spoil_19, ↓f_M_259, ↓f_M_97, List.length_cons, List.length_nil, Nat.zero_add, Nat.reduceAdd, Int.reduceAdd, Int.reduceNeg, Int.reduceToNat, Int.reduceLE, Int.reduceLT, true_and, and_true, Nat.reduceLT, reduceIte, Nat.reduceEqDiff, ne_eq, not_false_eq_true, false_implies, true_implies, Bool.false_eq_true, reduceCtorEq, List.cons_append, List.nil_append, Nat.reduceSub, Nat.reduceLeDiff, Fin.isValue, Int.reduceNatCast', Int.zero_add, Int.add_zero, decide_true, decide_false, implies_true, forall_const, true_or, or_true, or_false, false_or, false_and, and_false, Int.toNat_natCast, ↓oF_37_0, ↓oF_37_1, ↓oF_37_2, ↓oF_37_3, ↓aF_38, ↓oF_37_4, ↓aF_39, ↓oF_37_5, ↓oF_37_6, ↓aF_40, ↓oF_37_7, ↓oF_37_8, ↓aF_41, ↓oF_37_9, ↓aF_42, ↓oF_37_10, ↓aF_43, ↓oF_37_11, ↓aF_44, ↓oF_37_12, ↓aF_45, ↓oF_37_13, ↓aF_46, ↓oF_37_14, ↓aF_47, ↓oF_37_15, ↓aF_48, ↓oF_37_16, ↓aF_49, ↓oF_37_17, ↓oF_37_18, ↓aF_50, ↓oF_37_19, ↓aF_51, ↓oF_37_20, ↓aF_52, ↓oF_37_21, ↓aF_53, ↓oF_37_22, ↓aF_54, ↓oF_37_23, ↓aF_55, ↓oF_37_24, ↓aF_56, ↓oF_37_25, ↓aF_57, ↓oF_37_26, ↓oF_37_27, ↓oF_37_28, ↓aF_58, ↓oF_37_29, ↓aF_59, ↓oF_37_30, ↓aF_60, ↓oF_37_31, ↓aF_61, ↓oF_37_32, ↓oF_37_33, ↓oF_37_34, ↓oF_37_35, ↓aF_62, ↓oF_37_36, ↓oF_37_37, ↓aF_63, ↓oF_37_38, ↓oF_37_39, ↓aF_64, ↓oF_37_40, ↓aF_65, ↓oF_37_41, ↓aF_66, oC_0, oC_1, oC_4, oC_11, oC_16, oC_18, oC_20, oC_23, oC_25, oC_26, oC_29, oC_31, oC_33, oC_35, oC_37, isT_29, isT_31, isT_33, isT_35, isL_16, isL_18, isL_26, b2i_0, b2i_1, b2i_01, b2i_r, ↓e_M_in]
    have e1 : 1 - (1 - σ 64 i.toNat) = σ 64 i.toNat := by omega
    simp only [up1_eq, e1]
    (try simp only [rI_iff, rL_iff] at *)
    repeat' (with_reducible (first | assumption | apply And.intro | intro _))
    all_goals first | omega | with_reducible assumption | exact True.intro | skip
    all_goals grind
def s_M_say : Spec := fun as σ Q => popR as fun c0 r0 => popL r0 fun bits r1 => popI r1 fun n r2 => r2 = [] ∧ c0 = 37 ∧ (0 ≤ σ 37 36 ∧ σ 37 36 ≤ 240) ∧ (rL bits) ∧ (rI n) ∧ if (0 ≤ n ∧ n ≤ 60 ∧ 0 ≤ bits ∧ bits < 2 ^ n.toNat) then (if 240 < σ 37 36 + n then Q (some (.inl (-4))) σ else Q (some (.inl (σ 37 36 + n))) (updR (updR σ 63 (addF (σ 63) bits (σ 37 36) n n)) 37 (up1 (σ 37) 36 (σ 37 36 + n)))) else Q (some (.inl (-2))) σ
theorem e_M_say (bits : Int) (n : Int) (σ : St) (Q : Option AV → St → Prop) : s_M_say [.inr (.inr (some 37)), .inr (.inl bits), .inl n] σ Q = ((0 ≤ σ 37 36 ∧ σ 37 36 ≤ 240) ∧ (rL bits) ∧ (rI n) ∧ if (0 ≤ n ∧ n ≤ 60 ∧ 0 ≤ bits ∧ bits < 2 ^ n.toNat) then (if 240 < σ 37 36 + n then Q (some (.inl (-4))) σ else Q (some (.inl (σ 37 36 + n))) (updR (updR σ 63 (addF (σ 63) bits (σ 37 36) n n)) 37 (up1 (σ 37) 36 (σ 37 36 + n)))) else Q (some (.inl (-2))) σ) := by
  show ([] = [] ∧ _) = _
  simp only [true_and]
set_option maxHeartbeats 4000000 in
set_option maxRecDepth 20000 in
theorem S_M_say {l : Launch} : Sat l y_M_say b_M_say 5 (some .int) 2 s_M_say := by
  refine sat_of (Φ := P_M) (κ := Q_M) (Γ := [(193, 0, 2, s_M_isRow)]) (rt := 1) (by decide +kernel) P_M_ok Q_M_ok (by
    refine List.forall_mem_cons.mpr ⟨?_, fun _ h => absurd h List.not_mem_nil⟩
    · exact m_M_isRow S_M_isRow (by decide) l_M_193) (by simp) o_M_say ?_
  intro as σ Q hh0
  obtain ⟨c0, rr0, rfl, hh1⟩ := popR_inv hh0
  obtain ⟨bits, rr1, rfl, hh2⟩ := popL_inv hh1
  obtain ⟨n, rr2, rfl, hh3⟩ := popI_inv hh2
  obtain ⟨hrE, rfl, ho, hrrow, hrn, hQ⟩ := hh3
  subst hrE
  clear hh0 hh1 hh2
  refine ⟨Nat.le_of_ble_eq_true rfl, [(31, mkC (fun L st u => ∃ (i : Int), L = [.inr (.inr (some 37)), .inr (.inl bits), .inr (.inr none), .inl n, .inl i] ∧ st = [] ∧ ((0 ≤ n ∧ n ≤ 60 ∧ 0 ≤ bits ∧ bits < 2 ^ n.toNat)) ∧ (σ 37 36 + n ≤ 240) ∧ (-1 ≤ i ∧ i < n) ∧ (u = updR (updR σ 63 (addF (σ 63) bits (σ 37 36) n (n - 1 - i))) 37 (up1 (σ 37) 36 (σ 37 36 + (n - 1 - i))))) (fun L st u => ((gI L 4 + 1).toNat, 0, 0)))], 14, ?_, cuts1 ?_ (cuts0)⟩
  · rw [show entL 5 [.inr (.inr (some 37)), .inr (.inl bits), .inl n] = [.inr (.inr (some 37)), .inr (.inl bits), .inr (.inr none), .inl n, .inr (.inr none)] from rfl]
    simp only [↓wpN_go, jmp_e, ↓wp_aload_n0, ↓wp_bipush, ↓wp_dup, ↓wp_getfield, ↓wp_goto, ↓wp_iadd, ↓wp_iastore, ↓wp_icmp_le, ↓wp_iconst, ↓wp_if_lt, ↓wp_if_ne, ↓wp_iinc, ↓wp_iload, ↓wp_iload_n3, ↓wp_invokestatic, ↓wp_ireturn1, ↓wp_istore, ↓wp_isub, ↓wp_l2i, ↓wp_land, ↓wp_lconst1, ↓wp_lload_n1, ↓wp_lshr, ↓wp_putfield, ↓wp_sipush, wp_nil, ↓ldI_0, ↓ldI_s, ↓ldL_0, ↓ldL_s, ↓ldR_0, ↓ldR_s, sto1_0, sto1_1, sto1_s, sto2_0, sto2_1, sto2_s, isLong_i, isLong_l, isLong_r, ↓popI_c, ↓popL_c, ↓popR_c, ↓popN_0, ↓popN_s, catS_n, catS_c, psh_s, psh_n, fldV_n, fldV_s, ↓tgt_e, sw_n, ↓sw_c, ↓lk1_h, ↓lk1_m, ↓atC_h, ↓atC_m, ↓atC_n, ltO_n, ltO_s, updR_eq, updR_ne, gI_0i, gI_0l, gI_s, ltM_iff, List.cons.injEq, Sum.inl.injEq, Sum.inr.injEq, Option.some.injEq, exists_eq_left, exists_eq_left', exists_eq_right, exists_eq_right', exists_and_left, exists_and_right, exists_eq, exists_const, and_assoc, ↓j_M_say_0, ↓j_M_say_11, ↓j_M_say_26, ↓j_M_say_31, ↓j_M_say_68, ↓f_M_250, ↓f_M_94, List.length_cons, List.length_nil, Nat.zero_add, Nat.reduceAdd, Int.reduceAdd, Int.reduceNeg, Int.reduceToNat, Int.reduceLE, Int.reduceLT, true_and, and_true, Nat.reduceLT, reduceIte, Nat.reduceEqDiff, ne_eq, not_false_eq_true, false_implies, true_implies, Bool.false_eq_true, reduceCtorEq, List.cons_append, List.nil_append, Nat.reduceSub, Nat.reduceLeDiff, Fin.isValue, Int.reduceNatCast', Int.zero_add, Int.add_zero, decide_true, decide_false, implies_true, forall_const, true_or, or_true, or_false, false_or, false_and, and_false, Int.toNat_natCast, ↓oF_37_0, ↓oF_37_1, ↓oF_37_2, ↓oF_37_3, ↓aF_38, ↓oF_37_4, ↓aF_39, ↓oF_37_5, ↓oF_37_6, ↓aF_40, ↓oF_37_7, ↓oF_37_8, ↓aF_41, ↓oF_37_9, ↓aF_42, ↓oF_37_10, ↓aF_43, ↓oF_37_11, ↓aF_44, ↓oF_37_12, ↓aF_45, ↓oF_37_13, ↓aF_46, ↓oF_37_14, ↓aF_47, ↓oF_37_15, ↓aF_48, ↓oF_37_16, ↓aF_49, ↓oF_37_17, ↓oF_37_18, ↓aF_50, ↓oF_37_19, ↓aF_51, ↓oF_37_20, ↓aF_52, ↓oF_37_21, ↓aF_53, ↓oF_37_22, ↓aF_54, ↓oF_37_23, ↓aF_55, ↓oF_37_24, ↓aF_56, ↓oF_37_25, ↓aF_57, ↓oF_37_26, ↓oF_37_27, ↓oF_37_28, ↓aF_58, ↓oF_37_29, ↓aF_59, ↓oF_37_30, ↓aF_60, ↓oF_37_31, ↓aF_61, ↓oF_37_32, ↓oF_37_33, ↓oF_37_34, ↓oF_37_35, ↓aF_62, ↓oF_37_36, ↓oF_37_37, ↓aF_63, ↓oF_37_38, ↓oF_37_39, ↓aF_64, ↓oF_37_40, ↓aF_65, ↓oF_37_41, ↓aF_66, oC_0, oC_1, oC_4, oC_11, oC_16, oC_18, oC_20, oC_23, oC_25, oC_26, oC_29, oC_31, oC_33, oC_35, oC_37, isT_29, isT_31, isT_33, isT_35, isL_16, isL_18, isL_26, b2i_0, b2i_1, b2i_01, b2i_r, landZ_1, wrapI_2, ↓e_M_isRow]
    have q1 : ¬ (0 ≤ n ∧ n ≤ 60 ∧ 0 ≤ bits ∧ bits < 2 ^ n.toNat) → Q (some (.inl (-2))) σ := fun h => by rw [if_neg h] at hQ; exact hQ
    have q2 : (0 ≤ n ∧ n ≤ 60 ∧ 0 ≤ bits ∧ bits < 2 ^ n.toNat) → 240 < σ 37 36 + n → Q (some (.inl (-4))) σ := fun h h1 => by rw [if_pos h, if_pos h1] at hQ; exact hQ
    have q3 : σ = updR (updR σ 63 (addF (σ 63) bits (σ 37 36) n (n - 1 - (n - 1)))) 37 (up1 (σ 37) 36 (σ 37 36 + (n - 1 - (n - 1)))) := by
      rw [show n - 1 - (n - 1) = 0 by omega, Int.add_zero]
      refine st_ext fun k j => ?_
      rw [updR_app, updR_app]
      by_cases e37 : k = 37
      · rw [if_pos e37, up1_app, e37]
        split
        · next e => rw [e]
        · rfl
      · rw [if_neg e37]
        by_cases e2 : k = 63
        · rw [if_pos e2, addF_app, if_neg (by omega), e2]
        · rw [if_neg e2]
    clear hQ
    generalize (2 : Int) ^ n.toNat = p at *
    (try simp only [rI_iff, rL_iff] at *)
    repeat' (with_reducible (first | assumption | apply And.intro | intro _))
    all_goals first | omega | with_reducible assumption | exact True.intro | skip
    all_goals first
      | omega
      | exact q1 (by omega)
      | exact q2 (by omega) (by omega)
      | exact q3
      | trace_state
  · intro L st u hI
    obtain ⟨i, rfl, rfl, ha, hm, hi, hu⟩ := hI
    simp only [↓wpN_go, jmp_e, ↓wp_aload_n0, ↓wp_bipush, ↓wp_dup, ↓wp_getfield, ↓wp_goto, ↓wp_iadd, ↓wp_iastore, ↓wp_icmp_le, ↓wp_iconst, ↓wp_if_lt, ↓wp_if_ne, ↓wp_iinc, ↓wp_iload, ↓wp_iload_n3, ↓wp_invokestatic, ↓wp_ireturn1, ↓wp_istore, ↓wp_isub, ↓wp_l2i, ↓wp_land, ↓wp_lconst1, ↓wp_lload_n1, ↓wp_lshr, ↓wp_putfield, ↓wp_sipush, wp_nil, ↓ldI_0, ↓ldI_s, ↓ldL_0, ↓ldL_s, ↓ldR_0, ↓ldR_s, sto1_0, sto1_1, sto1_s, sto2_0, sto2_1, sto2_s, isLong_i, isLong_l, isLong_r, ↓popI_c, ↓popL_c, ↓popR_c, ↓popN_0, ↓popN_s, catS_n, catS_c, psh_s, psh_n, fldV_n, fldV_s, ↓tgt_e, sw_n, ↓sw_c, ↓lk1_h, ↓lk1_m, ↓atC_h, ↓atC_m, ↓atC_n, ltO_n, ltO_s, updR_eq, updR_ne, gI_0i, gI_0l, gI_s, ltM_iff, List.cons.injEq, Sum.inl.injEq, Sum.inr.injEq, Option.some.injEq, exists_eq_left, exists_eq_left', exists_eq_right, exists_eq_right', exists_and_left, exists_and_right, exists_eq, exists_const, and_assoc, ↓j_M_say_0, ↓j_M_say_11, ↓j_M_say_26, ↓j_M_say_31, ↓j_M_say_68, ↓f_M_250, ↓f_M_94, List.length_cons, List.length_nil, Nat.zero_add, Nat.reduceAdd, Int.reduceAdd, Int.reduceNeg, Int.reduceToNat, Int.reduceLE, Int.reduceLT, true_and, and_true, Nat.reduceLT, reduceIte, Nat.reduceEqDiff, ne_eq, not_false_eq_true, false_implies, true_implies, Bool.false_eq_true, reduceCtorEq, List.cons_append, List.nil_append, Nat.reduceSub, Nat.reduceLeDiff, Fin.isValue, Int.reduceNatCast', Int.zero_add, Int.add_zero, decide_true, decide_false, implies_true, forall_const, true_or, or_true, or_false, false_or, false_and, and_false, Int.toNat_natCast, ↓oF_37_0, ↓oF_37_1, ↓oF_37_2, ↓oF_37_3, ↓aF_38, ↓oF_37_4, ↓aF_39, ↓oF_37_5, ↓oF_37_6, ↓aF_40, ↓oF_37_7, ↓oF_37_8, ↓aF_41, ↓oF_37_9, ↓aF_42, ↓oF_37_10, ↓aF_43, ↓oF_37_11, ↓aF_44, ↓oF_37_12, ↓aF_45, ↓oF_37_13, ↓aF_46, ↓oF_37_14, ↓aF_47, ↓oF_37_15, ↓aF_48, ↓oF_37_16, ↓aF_49, ↓oF_37_17, ↓oF_37_18, ↓aF_50, ↓oF_37_19, ↓aF_51, ↓oF_37_20, ↓aF_52, ↓oF_37_21, ↓aF_53, ↓oF_37_22, ↓aF_54, ↓oF_37_23, ↓aF_55, ↓oF_37_24, ↓aF_56, ↓oF_37_25, ↓aF_57, ↓oF_37_26, ↓oF_37_27, ↓oF_37_28, ↓aF_58, ↓oF_37_29, ↓aF_59, ↓oF_37_30, ↓aF_60, ↓oF_37_31, ↓aF_61, ↓oF_37_32, ↓oF_37_33, ↓oF_37_34, ↓oF_37_35, ↓aF_62, ↓oF_37_36, ↓oF_37_37, ↓aF_63, ↓oF_37_38, ↓oF_37_39, ↓aF_64, ↓oF_37_40, ↓aF_65, ↓oF_37_41, ↓aF_66, oC_0, oC_1, oC_4, oC_11, oC_16, oC_18, oC_20, oC_23, oC_25, oC_26, oC_29, oC_31, oC_33, oC_35, oC_37, isT_29, isT_31, isT_33, isT_35, isL_16, isL_18, isL_26, b2i_0, b2i_1, b2i_01, b2i_r, landZ_1, wrapI_2, ↓e_M_isRow]
    subst hu
    rw [if_pos ha, if_neg (by omega)] at hQ
    simp only [updR_eq, updR_ne _ 37 63 _ (show 63 ≠ 37 by decide), up1_eq]
    have q1 : i < 0 → Q (some (.inl (σ 37 36 + (n - 1 - i)))) (updR (updR σ 63 (addF (σ 63) bits (σ 37 36) n (n - 1 - i))) 37 (up1 (σ 37) 36 (σ 37 36 + (n - 1 - i)))) := fun h => by
      rw [show n - 1 - i = n by omega]
      exact hQ
    have q2 : 0 ≤ i → updR (updR (updR (updR σ 63 (addF (σ 63) bits (σ 37 36) n (n - 1 - i))) 37 (up1 (σ 37) 36 (σ 37 36 + (n - 1 - i)))) 63 (up1 (addF (σ 63) bits (σ 37 36) n (n - 1 - i)) (σ 37 36 + (n - 1 - i)).toNat (bits / 2 ^ i.toNat % 2))) 37 (up1 (up1 (σ 37) 36 (σ 37 36 + (n - 1 - i))) 36 (σ 37 36 + (n - 1 - i) + 1)) = updR (updR σ 63 (addF (σ 63) bits (σ 37 36) n (n - 1 - (i + -1)))) 37 (up1 (σ 37) 36 (σ 37 36 + (n - 1 - (i + -1)))) := fun h => by
      refine st_ext fun k j => ?_
      simp only [updR_app, up1_app, addF_app]
      by_cases e37 : k = 37
      · rw [if_pos e37, if_pos e37]
        grind
      · rw [if_neg e37, if_neg e37, if_neg e37]
        by_cases e2 : k = 63
        · rw [if_pos e2, if_pos e2]
          by_cases e3 : j = (σ 37 36 + (n - 1 - i)).toNat
          · rw [if_pos e3, if_pos (by omega)]
            unfold bitZ
            rw [show (n - 1 - ((j : Int) - σ 37 36)).toNat = i.toNat by omega]
          · rw [if_neg e3]
            by_cases e4 : σ 37 36 ≤ j ∧ (j : Int) < σ 37 36 + (n - 1 - i) ∧ j < 600
            · rw [if_pos e4, if_pos (by omega)]
            · rw [if_neg e4, if_neg (by omega)]
        · rw [if_neg e2, if_neg e2, if_neg e2]
    clear hQ
    (try simp only [rI_iff, rL_iff] at *)
    repeat' (with_reducible (first | assumption | apply And.intro | intro _))
    all_goals first | omega | with_reducible assumption | exact True.intro | skip
    all_goals first
      | omega
      | exact q1 (by omega)
      | exact q2 (by omega)
      | trace_state
def s_M_put : Spec := fun as σ Q => popR as fun c0 r0 => popL r0 fun bits r1 => popI r1 fun n r2 => r2 = [] ∧ c0 = 37 ∧ (0 ≤ σ 37 38 ∧ σ 37 38 ≤ 600) ∧ (rL bits) ∧ (rI n) ∧ if (0 ≤ n ∧ n ≤ 60 ∧ 0 ≤ bits ∧ bits < 2 ^ n.toNat) then (if 600 < σ 37 38 + n then Q (some (.inl (-4))) σ else Q (some (.inl (σ 37 38 + n))) (updR (updR σ 64 (addF (σ 64) bits (σ 37 38) n n)) 37 (up1 (σ 37) 38 (σ 37 38 + n)))) else Q (some (.inl (-2))) σ
theorem e_M_put (bits : Int) (n : Int) (σ : St) (Q : Option AV → St → Prop) : s_M_put [.inr (.inr (some 37)), .inr (.inl bits), .inl n] σ Q = ((0 ≤ σ 37 38 ∧ σ 37 38 ≤ 600) ∧ (rL bits) ∧ (rI n) ∧ if (0 ≤ n ∧ n ≤ 60 ∧ 0 ≤ bits ∧ bits < 2 ^ n.toNat) then (if 600 < σ 37 38 + n then Q (some (.inl (-4))) σ else Q (some (.inl (σ 37 38 + n))) (updR (updR σ 64 (addF (σ 64) bits (σ 37 38) n n)) 37 (up1 (σ 37) 38 (σ 37 38 + n)))) else Q (some (.inl (-2))) σ) := by
  show ([] = [] ∧ _) = _
  simp only [true_and]
set_option maxHeartbeats 4000000 in
set_option maxRecDepth 20000 in
theorem S_M_put {l : Launch} : Sat l y_M_put b_M_put 5 (some .int) 2 s_M_put := by
  refine sat_of (Φ := P_M) (κ := Q_M) (Γ := [(193, 0, 2, s_M_isRow)]) (rt := 1) (by decide +kernel) P_M_ok Q_M_ok (by
    refine List.forall_mem_cons.mpr ⟨?_, fun _ h => absurd h List.not_mem_nil⟩
    · exact m_M_isRow S_M_isRow (by decide) l_M_193) (by simp) o_M_put ?_
  intro as σ Q hh0
  obtain ⟨c0, rr0, rfl, hh1⟩ := popR_inv hh0
  obtain ⟨bits, rr1, rfl, hh2⟩ := popL_inv hh1
  obtain ⟨n, rr2, rfl, hh3⟩ := popI_inv hh2
  obtain ⟨hrE, rfl, ho, hrrow, hrn, hQ⟩ := hh3
  subst hrE
  clear hh0 hh1 hh2
  refine ⟨Nat.le_of_ble_eq_true rfl, [(31, mkC (fun L st u => ∃ (i : Int), L = [.inr (.inr (some 37)), .inr (.inl bits), .inr (.inr none), .inl n, .inl i] ∧ st = [] ∧ ((0 ≤ n ∧ n ≤ 60 ∧ 0 ≤ bits ∧ bits < 2 ^ n.toNat)) ∧ (σ 37 38 + n ≤ 600) ∧ (-1 ≤ i ∧ i < n) ∧ (u = updR (updR σ 64 (addF (σ 64) bits (σ 37 38) n (n - 1 - i))) 37 (up1 (σ 37) 38 (σ 37 38 + (n - 1 - i))))) (fun L st u => ((gI L 4 + 1).toNat, 0, 0)))], 14, ?_, cuts1 ?_ (cuts0)⟩
  · rw [show entL 5 [.inr (.inr (some 37)), .inr (.inl bits), .inl n] = [.inr (.inr (some 37)), .inr (.inl bits), .inr (.inr none), .inl n, .inr (.inr none)] from rfl]
    simp only [↓wpN_go, jmp_e, ↓wp_aload_n0, ↓wp_bipush, ↓wp_dup, ↓wp_getfield, ↓wp_goto, ↓wp_iadd, ↓wp_iastore, ↓wp_icmp_le, ↓wp_iconst, ↓wp_if_lt, ↓wp_if_ne, ↓wp_iinc, ↓wp_iload, ↓wp_iload_n3, ↓wp_invokestatic, ↓wp_ireturn1, ↓wp_istore, ↓wp_isub, ↓wp_l2i, ↓wp_land, ↓wp_lconst1, ↓wp_lload_n1, ↓wp_lshr, ↓wp_putfield, ↓wp_sipush, wp_nil, ↓ldI_0, ↓ldI_s, ↓ldL_0, ↓ldL_s, ↓ldR_0, ↓ldR_s, sto1_0, sto1_1, sto1_s, sto2_0, sto2_1, sto2_s, isLong_i, isLong_l, isLong_r, ↓popI_c, ↓popL_c, ↓popR_c, ↓popN_0, ↓popN_s, catS_n, catS_c, psh_s, psh_n, fldV_n, fldV_s, ↓tgt_e, sw_n, ↓sw_c, ↓lk1_h, ↓lk1_m, ↓atC_h, ↓atC_m, ↓atC_n, ltO_n, ltO_s, updR_eq, updR_ne, gI_0i, gI_0l, gI_s, ltM_iff, List.cons.injEq, Sum.inl.injEq, Sum.inr.injEq, Option.some.injEq, exists_eq_left, exists_eq_left', exists_eq_right, exists_eq_right', exists_and_left, exists_and_right, exists_eq, exists_const, and_assoc, ↓j_M_put_0, ↓j_M_put_11, ↓j_M_put_26, ↓j_M_put_31, ↓j_M_put_68, ↓f_M_259, ↓f_M_97, List.length_cons, List.length_nil, Nat.zero_add, Nat.reduceAdd, Int.reduceAdd, Int.reduceNeg, Int.reduceToNat, Int.reduceLE, Int.reduceLT, true_and, and_true, Nat.reduceLT, reduceIte, Nat.reduceEqDiff, ne_eq, not_false_eq_true, false_implies, true_implies, Bool.false_eq_true, reduceCtorEq, List.cons_append, List.nil_append, Nat.reduceSub, Nat.reduceLeDiff, Fin.isValue, Int.reduceNatCast', Int.zero_add, Int.add_zero, decide_true, decide_false, implies_true, forall_const, true_or, or_true, or_false, false_or, false_and, and_false, Int.toNat_natCast, ↓oF_37_0, ↓oF_37_1, ↓oF_37_2, ↓oF_37_3, ↓aF_38, ↓oF_37_4, ↓aF_39, ↓oF_37_5, ↓oF_37_6, ↓aF_40, ↓oF_37_7, ↓oF_37_8, ↓aF_41, ↓oF_37_9, ↓aF_42, ↓oF_37_10, ↓aF_43, ↓oF_37_11, ↓aF_44, ↓oF_37_12, ↓aF_45, ↓oF_37_13, ↓aF_46, ↓oF_37_14, ↓aF_47, ↓oF_37_15, ↓aF_48, ↓oF_37_16, ↓aF_49, ↓oF_37_17, ↓oF_37_18, ↓aF_50, ↓oF_37_19, ↓aF_51, ↓oF_37_20, ↓aF_52, ↓oF_37_21, ↓aF_53, ↓oF_37_22, ↓aF_54, ↓oF_37_23, ↓aF_55, ↓oF_37_24, ↓aF_56, ↓oF_37_25, ↓aF_57, ↓oF_37_26, ↓oF_37_27, ↓oF_37_28, ↓aF_58, ↓oF_37_29, ↓aF_59, ↓oF_37_30, ↓aF_60, ↓oF_37_31, ↓aF_61, ↓oF_37_32, ↓oF_37_33, ↓oF_37_34, ↓oF_37_35, ↓aF_62, ↓oF_37_36, ↓oF_37_37, ↓aF_63, ↓oF_37_38, ↓oF_37_39, ↓aF_64, ↓oF_37_40, ↓aF_65, ↓oF_37_41, ↓aF_66, oC_0, oC_1, oC_4, oC_11, oC_16, oC_18, oC_20, oC_23, oC_25, oC_26, oC_29, oC_31, oC_33, oC_35, oC_37, isT_29, isT_31, isT_33, isT_35, isL_16, isL_18, isL_26, b2i_0, b2i_1, b2i_01, b2i_r, landZ_1, wrapI_2, ↓e_M_isRow]
    have q1 : ¬ (0 ≤ n ∧ n ≤ 60 ∧ 0 ≤ bits ∧ bits < 2 ^ n.toNat) → Q (some (.inl (-2))) σ := fun h => by rw [if_neg h] at hQ; exact hQ
    have q2 : (0 ≤ n ∧ n ≤ 60 ∧ 0 ≤ bits ∧ bits < 2 ^ n.toNat) → 600 < σ 37 38 + n → Q (some (.inl (-4))) σ := fun h h1 => by rw [if_pos h, if_pos h1] at hQ; exact hQ
    have q3 : σ = updR (updR σ 64 (addF (σ 64) bits (σ 37 38) n (n - 1 - (n - 1)))) 37 (up1 (σ 37) 38 (σ 37 38 + (n - 1 - (n - 1)))) := by
      rw [show n - 1 - (n - 1) = 0 by omega, Int.add_zero]
      refine st_ext fun k j => ?_
      rw [updR_app, updR_app]
      by_cases e37 : k = 37
      · rw [if_pos e37, up1_app, e37]
        split
        · next e => rw [e]
        · rfl
      · rw [if_neg e37]
        by_cases e2 : k = 64
        · rw [if_pos e2, addF_app, if_neg (by omega), e2]
        · rw [if_neg e2]
    clear hQ
    generalize (2 : Int) ^ n.toNat = p at *
    (try simp only [rI_iff, rL_iff] at *)
    repeat' (with_reducible (first | assumption | apply And.intro | intro _))
    all_goals first | omega | with_reducible assumption | exact True.intro | skip
    all_goals first
      | omega
      | exact q1 (by omega)
      | exact q2 (by omega) (by omega)
      | exact q3
      | trace_state
  · intro L st u hI
    obtain ⟨i, rfl, rfl, ha, hm, hi, hu⟩ := hI
    simp only [↓wpN_go, jmp_e, ↓wp_aload_n0, ↓wp_bipush, ↓wp_dup, ↓wp_getfield, ↓wp_goto, ↓wp_iadd, ↓wp_iastore, ↓wp_icmp_le, ↓wp_iconst, ↓wp_if_lt, ↓wp_if_ne, ↓wp_iinc, ↓wp_iload, ↓wp_iload_n3, ↓wp_invokestatic, ↓wp_ireturn1, ↓wp_istore, ↓wp_isub, ↓wp_l2i, ↓wp_land, ↓wp_lconst1, ↓wp_lload_n1, ↓wp_lshr, ↓wp_putfield, ↓wp_sipush, wp_nil, ↓ldI_0, ↓ldI_s, ↓ldL_0, ↓ldL_s, ↓ldR_0, ↓ldR_s, sto1_0, sto1_1, sto1_s, sto2_0, sto2_1, sto2_s, isLong_i, isLong_l, isLong_r, ↓popI_c, ↓popL_c, ↓popR_c, ↓popN_0, ↓popN_s, catS_n, catS_c, psh_s, psh_n, fldV_n, fldV_s, ↓tgt_e, sw_n, ↓sw_c, ↓lk1_h, ↓lk1_m, ↓atC_h, ↓atC_m, ↓atC_n, ltO_n, ltO_s, updR_eq, updR_ne, gI_0i, gI_0l, gI_s, ltM_iff, List.cons.injEq, Sum.inl.injEq, Sum.inr.injEq, Option.some.injEq, exists_eq_left, exists_eq_left', exists_eq_right, exists_eq_right', exists_and_left, exists_and_right, exists_eq, exists_const, and_assoc, ↓j_M_put_0, ↓j_M_put_11, ↓j_M_put_26, ↓j_M_put_31, ↓j_M_put_68, ↓f_M_259, ↓f_M_97, List.length_cons, List.length_nil, Nat.zero_add, Nat.reduceAdd, Int.reduceAdd, Int.reduceNeg, Int.reduceToNat, Int.reduceLE, Int.reduceLT, true_and, and_true, Nat.reduceLT, reduceIte, Nat.reduceEqDiff, ne_eq, not_false_eq_true, false_implies, true_implies, Bool.false_eq_true, reduceCtorEq, List.cons_append, List.nil_append, Nat.reduceSub, Nat.reduceLeDiff, Fin.isValue, Int.reduceNatCast', Int.zero_add, Int.add_zero, decide_true, decide_false, implies_true, forall_const, true_or, or_true, or_false, false_or, false_and, and_false, Int.toNat_natCast, ↓oF_37_0, ↓oF_37_1, ↓oF_37_2, ↓oF_37_3, ↓aF_38, ↓oF_37_4, ↓aF_39, ↓oF_37_5, ↓oF_37_6, ↓aF_40, ↓oF_37_7, ↓oF_37_8, ↓aF_41, ↓oF_37_9, ↓aF_42, ↓oF_37_10, ↓aF_43, ↓oF_37_11, ↓aF_44, ↓oF_37_12, ↓aF_45, ↓oF_37_13, ↓aF_46, ↓oF_37_14, ↓aF_47, ↓oF_37_15, ↓aF_48, ↓oF_37_16, ↓aF_49, ↓oF_37_17, ↓oF_37_18, ↓aF_50, ↓oF_37_19, ↓aF_51, ↓oF_37_20, ↓aF_52, ↓oF_37_21, ↓aF_53, ↓oF_37_22, ↓aF_54, ↓oF_37_23, ↓aF_55, ↓oF_37_24, ↓aF_56, ↓oF_37_25, ↓aF_57, ↓oF_37_26, ↓oF_37_27, ↓oF_37_28, ↓aF_58, ↓oF_37_29, ↓aF_59, ↓oF_37_30, ↓aF_60, ↓oF_37_31, ↓aF_61, ↓oF_37_32, ↓oF_37_33, ↓oF_37_34, ↓oF_37_35, ↓aF_62, ↓oF_37_36, ↓oF_37_37, ↓aF_63, ↓oF_37_38, ↓oF_37_39, ↓aF_64, ↓oF_37_40, ↓aF_65, ↓oF_37_41, ↓aF_66, oC_0, oC_1, oC_4, oC_11, oC_16, oC_18, oC_20, oC_23, oC_25, oC_26, oC_29, oC_31, oC_33, oC_35, oC_37, isT_29, isT_31, isT_33, isT_35, isL_16, isL_18, isL_26, b2i_0, b2i_1, b2i_01, b2i_r, landZ_1, wrapI_2, ↓e_M_isRow]
    subst hu
    rw [if_pos ha, if_neg (by omega)] at hQ
    simp only [updR_eq, updR_ne _ 37 64 _ (show 64 ≠ 37 by decide), up1_eq]
    have q1 : i < 0 → Q (some (.inl (σ 37 38 + (n - 1 - i)))) (updR (updR σ 64 (addF (σ 64) bits (σ 37 38) n (n - 1 - i))) 37 (up1 (σ 37) 38 (σ 37 38 + (n - 1 - i)))) := fun h => by
      rw [show n - 1 - i = n by omega]
      exact hQ
    have q2 : 0 ≤ i → updR (updR (updR (updR σ 64 (addF (σ 64) bits (σ 37 38) n (n - 1 - i))) 37 (up1 (σ 37) 38 (σ 37 38 + (n - 1 - i)))) 64 (up1 (addF (σ 64) bits (σ 37 38) n (n - 1 - i)) (σ 37 38 + (n - 1 - i)).toNat (bits / 2 ^ i.toNat % 2))) 37 (up1 (up1 (σ 37) 38 (σ 37 38 + (n - 1 - i))) 38 (σ 37 38 + (n - 1 - i) + 1)) = updR (updR σ 64 (addF (σ 64) bits (σ 37 38) n (n - 1 - (i + -1)))) 37 (up1 (σ 37) 38 (σ 37 38 + (n - 1 - (i + -1)))) := fun h => by
      refine st_ext fun k j => ?_
      simp only [updR_app, up1_app, addF_app]
      by_cases e37 : k = 37
      · rw [if_pos e37, if_pos e37]
        grind
      · rw [if_neg e37, if_neg e37, if_neg e37]
        by_cases e2 : k = 64
        · rw [if_pos e2, if_pos e2]
          by_cases e3 : j = (σ 37 38 + (n - 1 - i)).toNat
          · rw [if_pos e3, if_pos (by omega)]
            unfold bitZ
            rw [show (n - 1 - ((j : Int) - σ 37 38)).toNat = i.toNat by omega]
          · rw [if_neg e3]
            by_cases e4 : σ 37 38 ≤ j ∧ (j : Int) < σ 37 38 + (n - 1 - i) ∧ j < 600
            · rw [if_pos e4, if_pos (by omega)]
            · rw [if_neg e4, if_neg (by omega)]
        · rw [if_neg e2, if_neg e2, if_neg e2]
    clear hQ
    (try simp only [rI_iff, rL_iff] at *)
    repeat' (with_reducible (first | assumption | apply And.intro | intro _))
    all_goals first | omega | with_reducible assumption | exact True.intro | skip
    all_goals first
      | omega
      | exact q1 (by omega)
      | exact q2 (by omega)
      | trace_state
def s_M_check : Spec := fun as σ Q => popR as fun c0 r0 => r0 = [] ∧ c0 = 37 ∧ (0 ≤ σ 37 17 ∧ σ 37 17 ≤ 100) ∧ (Wire (σ 37 17) (gM σ)) ∧ (0 ≤ σ 37 38 ∧ σ 37 38 ≤ 600) ∧ (∀ t : Nat, (t : Int) < σ 37 38 → σ 64 t = 0 ∨ σ 64 t = 1) ∧ Q (some (.inl (if σ 37 17 = 0 then -3 else chkZ (σ 37 17) (gM σ) (σ 64) (σ 37 38).toNat))) σ
theorem e_M_check  (σ : St) (Q : Option AV → St → Prop) : s_M_check [.inr (.inr (some 37))] σ Q = ((0 ≤ σ 37 17 ∧ σ 37 17 ≤ 100) ∧ (Wire (σ 37 17) (gM σ)) ∧ (0 ≤ σ 37 38 ∧ σ 37 38 ≤ 600) ∧ (∀ t : Nat, (t : Int) < σ 37 38 → σ 64 t = 0 ∨ σ 64 t = 1) ∧ Q (some (.inl (if σ 37 17 = 0 then -3 else chkZ (σ 37 17) (gM σ) (σ 64) (σ 37 38).toNat))) σ) := by
  show ([] = [] ∧ _) = _
  simp only [true_and]
set_option maxHeartbeats 4000000 in
set_option maxRecDepth 20000 in
theorem S_M_check {l : Launch} : Sat l y_M_check b_M_check 3 (some .int) 1 s_M_check := by
  refine sat_of (Φ := P_M) (κ := Q_M) (Γ := [(188, 10, 2, s_M_goes)]) (rt := 1) (by decide +kernel) P_M_ok Q_M_ok (by
    refine List.forall_mem_cons.mpr ⟨?_, fun _ h => absurd h List.not_mem_nil⟩
    · exact m_M_goes S_M_goes (by decide) l_M_188) (by simp) o_M_check ?_
  intro as σ Q hh0
  obtain ⟨c0, rr0, rfl, hh1⟩ := popR_inv hh0
  obtain ⟨hrE, rfl, hN, hf, h33, hb, hQ⟩ := hh1
  subst hrE
  clear hh0
  refine ⟨Nat.le_of_ble_eq_true rfl, [(14, mkC (fun L st u => ∃ (i : Int), L = [.inr (.inr (some 37)), .inl ((stF (σ 37 17) (gM σ) (σ 64) i.toNat)), .inl i] ∧ st = [] ∧ (0 ≤ i ∧ i ≤ σ 37 38) ∧ (¬ σ 37 17 = 0) ∧ (chkZ (σ 37 17) (gM σ) (σ 64) i.toNat = -1) ∧ (stF (σ 37 17) (gM σ) (σ 64) i.toNat = -1 ∨ (0 ≤ stF (σ 37 17) (gM σ) (σ 64) i.toNat ∧ stF (σ 37 17) (gM σ) (σ 64) i.toNat < σ 37 17)) ∧ (u = σ)) (fun L st u => ((601 - gI L 2).toNat, 0, 0)))], 14, ?_, cuts1 ?_ (cuts0)⟩
  · rw [show entL 3 [.inr (.inr (some 37))] = [.inr (.inr (some 37)), .inr (.inr none), .inr (.inr none)] from rfl]
    simp only [↓wpN_go, jmp_e, ↓wp_aload_n0, ↓wp_bipush, ↓wp_getfield, ↓wp_goto, ↓wp_iaload, ↓wp_icmp_ge, ↓wp_icmp_ne, ↓wp_iconst, ↓wp_if_ne, ↓wp_iinc, ↓wp_iload_n1, ↓wp_iload_n2, ↓wp_invokevirtual, ↓wp_ireturn1, ↓wp_istore_n1, ↓wp_istore_n2, wp_nil, ↓ldI_0, ↓ldI_s, ↓ldL_0, ↓ldL_s, ↓ldR_0, ↓ldR_s, sto1_0, sto1_1, sto1_s, sto2_0, sto2_1, sto2_s, isLong_i, isLong_l, isLong_r, ↓popI_c, ↓popL_c, ↓popR_c, ↓popN_0, ↓popN_s, catS_n, catS_c, psh_s, psh_n, fldV_n, fldV_s, ↓tgt_e, sw_n, ↓sw_c, ↓lk1_h, ↓lk1_m, ↓atC_h, ↓atC_m, ↓atC_n, ltO_n, ltO_s, updR_eq, updR_ne, gI_0i, gI_0l, gI_s, ltM_iff, List.cons.injEq, Sum.inl.injEq, Sum.inr.injEq, Option.some.injEq, exists_eq_left, exists_eq_left', exists_eq_right, exists_eq_right', exists_and_left, exists_and_right, exists_eq, exists_const, and_assoc, ↓j_M_check_0, ↓j_M_check_10, ↓j_M_check_14, ↓j_M_check_41, ↓j_M_check_47, ↓f_M_160, ↓f_M_259, ↓f_M_97, List.length_cons, List.length_nil, Nat.zero_add, Nat.reduceAdd, Int.reduceAdd, Int.reduceNeg, Int.reduceToNat, Int.reduceLE, Int.reduceLT, true_and, and_true, Nat.reduceLT, reduceIte, Nat.reduceEqDiff, ne_eq, not_false_eq_true, false_implies, true_implies, Bool.false_eq_true, reduceCtorEq, List.cons_append, List.nil_append, Nat.reduceSub, Nat.reduceLeDiff, Fin.isValue, Int.reduceNatCast', Int.zero_add, Int.add_zero, decide_true, decide_false, implies_true, forall_const, true_or, or_true, or_false, false_or, false_and, and_false, Int.toNat_natCast, ↓oF_37_0, ↓oF_37_1, ↓oF_37_2, ↓oF_37_3, ↓aF_38, ↓oF_37_4, ↓aF_39, ↓oF_37_5, ↓oF_37_6, ↓aF_40, ↓oF_37_7, ↓oF_37_8, ↓aF_41, ↓oF_37_9, ↓aF_42, ↓oF_37_10, ↓aF_43, ↓oF_37_11, ↓aF_44, ↓oF_37_12, ↓aF_45, ↓oF_37_13, ↓aF_46, ↓oF_37_14, ↓aF_47, ↓oF_37_15, ↓aF_48, ↓oF_37_16, ↓aF_49, ↓oF_37_17, ↓oF_37_18, ↓aF_50, ↓oF_37_19, ↓aF_51, ↓oF_37_20, ↓aF_52, ↓oF_37_21, ↓aF_53, ↓oF_37_22, ↓aF_54, ↓oF_37_23, ↓aF_55, ↓oF_37_24, ↓aF_56, ↓oF_37_25, ↓aF_57, ↓oF_37_26, ↓oF_37_27, ↓oF_37_28, ↓aF_58, ↓oF_37_29, ↓aF_59, ↓oF_37_30, ↓aF_60, ↓oF_37_31, ↓aF_61, ↓oF_37_32, ↓oF_37_33, ↓oF_37_34, ↓oF_37_35, ↓aF_62, ↓oF_37_36, ↓oF_37_37, ↓aF_63, ↓oF_37_38, ↓oF_37_39, ↓aF_64, ↓oF_37_40, ↓aF_65, ↓oF_37_41, ↓aF_66, oC_0, oC_1, oC_4, oC_11, oC_16, oC_18, oC_20, oC_23, oC_25, oC_26, oC_29, oC_31, oC_33, oC_35, oC_37, isT_29, isT_31, isT_33, isT_35, isL_16, isL_18, isL_26, b2i_0, b2i_1, b2i_01, b2i_r, ↓e_M_goes]
    have h0 : (0 : Int) = stF (σ 37 17) (gM σ) (σ 64) (0 : Int).toNat := rfl
    have h1 : chkZ (σ 37 17) (gM σ) (σ 64) (0 : Int).toNat = -1 := rfl
    (try simp only [rI_iff, rL_iff] at *)
    repeat' (with_reducible (first | assumption | apply And.intro | intro _))
    all_goals first | omega | with_reducible assumption | exact True.intro | skip
    all_goals first
      | (rw [if_pos (by assumption)] at hQ; exact hQ)
      | exact ⟨0, h0, rfl, by omega, by omega, by assumption, h1, by rw [← h0]; omega⟩
      | omega
      | trace_state
  · intro L st u hI
    obtain ⟨i, rfl, rfl, hi, hz, hx, hst, hu⟩ := hI
    simp only [↓wpN_go, jmp_e, ↓wp_aload_n0, ↓wp_bipush, ↓wp_getfield, ↓wp_goto, ↓wp_iaload, ↓wp_icmp_ge, ↓wp_icmp_ne, ↓wp_iconst, ↓wp_if_ne, ↓wp_iinc, ↓wp_iload_n1, ↓wp_iload_n2, ↓wp_invokevirtual, ↓wp_ireturn1, ↓wp_istore_n1, ↓wp_istore_n2, wp_nil, ↓ldI_0, ↓ldI_s, ↓ldL_0, ↓ldL_s, ↓ldR_0, ↓ldR_s, sto1_0, sto1_1, sto1_s, sto2_0, sto2_1, sto2_s, isLong_i, isLong_l, isLong_r, ↓popI_c, ↓popL_c, ↓popR_c, ↓popN_0, ↓popN_s, catS_n, catS_c, psh_s, psh_n, fldV_n, fldV_s, ↓tgt_e, sw_n, ↓sw_c, ↓lk1_h, ↓lk1_m, ↓atC_h, ↓atC_m, ↓atC_n, ltO_n, ltO_s, updR_eq, updR_ne, gI_0i, gI_0l, gI_s, ltM_iff, List.cons.injEq, Sum.inl.injEq, Sum.inr.injEq, Option.some.injEq, exists_eq_left, exists_eq_left', exists_eq_right, exists_eq_right', exists_and_left, exists_and_right, exists_eq, exists_const, and_assoc, ↓j_M_check_0, ↓j_M_check_10, ↓j_M_check_14, ↓j_M_check_41, ↓j_M_check_47, ↓f_M_160, ↓f_M_259, ↓f_M_97, List.length_cons, List.length_nil, Nat.zero_add, Nat.reduceAdd, Int.reduceAdd, Int.reduceNeg, Int.reduceToNat, Int.reduceLE, Int.reduceLT, true_and, and_true, Nat.reduceLT, reduceIte, Nat.reduceEqDiff, ne_eq, not_false_eq_true, false_implies, true_implies, Bool.false_eq_true, reduceCtorEq, List.cons_append, List.nil_append, Nat.reduceSub, Nat.reduceLeDiff, Fin.isValue, Int.reduceNatCast', Int.zero_add, Int.add_zero, decide_true, decide_false, implies_true, forall_const, true_or, or_true, or_false, false_or, false_and, and_false, Int.toNat_natCast, ↓oF_37_0, ↓oF_37_1, ↓oF_37_2, ↓oF_37_3, ↓aF_38, ↓oF_37_4, ↓aF_39, ↓oF_37_5, ↓oF_37_6, ↓aF_40, ↓oF_37_7, ↓oF_37_8, ↓aF_41, ↓oF_37_9, ↓aF_42, ↓oF_37_10, ↓aF_43, ↓oF_37_11, ↓aF_44, ↓oF_37_12, ↓aF_45, ↓oF_37_13, ↓aF_46, ↓oF_37_14, ↓aF_47, ↓oF_37_15, ↓aF_48, ↓oF_37_16, ↓aF_49, ↓oF_37_17, ↓oF_37_18, ↓aF_50, ↓oF_37_19, ↓aF_51, ↓oF_37_20, ↓aF_52, ↓oF_37_21, ↓aF_53, ↓oF_37_22, ↓aF_54, ↓oF_37_23, ↓aF_55, ↓oF_37_24, ↓aF_56, ↓oF_37_25, ↓aF_57, ↓oF_37_26, ↓oF_37_27, ↓oF_37_28, ↓aF_58, ↓oF_37_29, ↓aF_59, ↓oF_37_30, ↓aF_60, ↓oF_37_31, ↓aF_61, ↓oF_37_32, ↓oF_37_33, ↓oF_37_34, ↓oF_37_35, ↓aF_62, ↓oF_37_36, ↓oF_37_37, ↓aF_63, ↓oF_37_38, ↓oF_37_39, ↓aF_64, ↓oF_37_40, ↓aF_65, ↓oF_37_41, ↓aF_66, oC_0, oC_1, oC_4, oC_11, oC_16, oC_18, oC_20, oC_23, oC_25, oC_26, oC_29, oC_31, oC_33, oC_35, oC_37, isT_29, isT_31, isT_33, isT_35, isL_16, isL_18, isL_26, b2i_0, b2i_1, b2i_01, b2i_r, ↓e_M_goes]
    subst hu
    have e1 : (i + 1).toNat = i.toNat + 1 := by omega
    have e2 : stF (u 37 17) (gM u) (u 64) (i.toNat + 1) = stepZ (u 37 17) (gM u) (stF (u 37 17) (gM u) (u 64) i.toNat) (u 64 i.toNat) := rfl
    have hb1 := hb i.toNat
    have hr := stepZ_r hN.2 hf (stF (u 37 17) (gM u) (u 64) i.toNat) (u 64 i.toNat)
    have e3 : chkZ (u 37 17) (gM u) (u 64) (i.toNat + 1) = if decide (stF (u 37 17) (gM u) (u 64) (i.toNat + 1) = -1) = true then (i.toNat : Int) else -1 := findF_s hx
    rw [if_neg hz] at hQ
    have q0 : ∀ z : Int, z = chkZ (u 37 17) (gM u) (u 64) (u 37 38).toNat → Q (some (.inl z)) u := fun z h => by rw [h]; exact hQ
    have q1 : u 37 38 ≤ i → Q (some (.inl (-1))) u := fun h => q0 _ (by rw [show (u 37 38).toNat = i.toNat by omega, hx])
    have q2 : i < u 37 38 → stepZ (u 37 17) (gM u) (stF (u 37 17) (gM u) (u 64) i.toNat) (u 64 i.toNat) = -1 → Q (some (.inl i)) u := fun h h1 => q0 _ (by
      rw [e2, h1, if_pos (by simp)] at e3
      have := findF_on (fun i => decide (stF (u 37 17) (gM u) (u 64) (i + 1) = -1)) (i.toNat + 1) (by
        show chkZ (u 37 17) (gM u) (u 64) (i.toNat + 1) ≠ -1
        rw [e3]; omega) (u 37 38).toNat (by omega)
      show i = findF _ _
      rw [this]
      show i = chkZ (u 37 17) (gM u) (u 64) (i.toNat + 1)
      rw [e3]
      omega)
    have q3 : ¬ stepZ (u 37 17) (gM u) (stF (u 37 17) (gM u) (u 64) i.toNat) (u 64 i.toNat) = -1 → chkZ (u 37 17) (gM u) (u 64) (i.toNat + 1) = -1 := fun h => by
      rw [e3, e2, if_neg (by simpa using h)]
    (try simp only [rI_iff, rL_iff] at *)
    repeat' (with_reducible (first | assumption | apply And.intro | intro _))
    all_goals first | omega | with_reducible assumption | exact True.intro | skip
    all_goals first
      | omega
      | exact q1 (by omega)
      | exact q2 (by assumption) (by assumption)
      | exact ⟨i + 1, by rw [e1, e2], rfl, by omega, by omega, hz, by rw [e1]; exact q3 (by assumption), by rw [e1, e2]; omega, by first | rfl | trivial⟩
      | trace_state
def cntM (σ : St) (w : Int) : Int := if w = 0 then σ 37 36 else if w = 1 then σ 37 38 else if w = 2 then σ 37 17 else if w = 3 then σ 37 32 else if w = 4 then (if σ 37 32 = 0 then 0 else σ 37 33) else if w = 5 then (if σ 37 32 = 0 then 0 else σ 37 34) else if w = 6 then (if σ 37 32 = 0 then -1 else homeF (σ 62)) else if w = 7 then σ 37 26 else -2
def s_M_count1 : Spec := fun as σ Q => popR as fun c0 r0 => popI r0 fun w r1 => r1 = [] ∧ c0 = 37 ∧ (isBits (σ 62)) ∧ (σ 37 32 ≠ 0 → ∃ s : Nat, s < 100 ∧ σ 62 s = 1) ∧ (rI (σ 37 32)) ∧ (rI w) ∧ Q (some (.inl (cntM σ w))) σ
theorem e_M_count1 (w : Int) (σ : St) (Q : Option AV → St → Prop) : s_M_count1 [.inr (.inr (some 37)), .inl w] σ Q = ((isBits (σ 62)) ∧ (σ 37 32 ≠ 0 → ∃ s : Nat, s < 100 ∧ σ 62 s = 1) ∧ (rI (σ 37 32)) ∧ (rI w) ∧ Q (some (.inl (cntM σ w))) σ) := by
  show ([] = [] ∧ _) = _
  simp only [true_and]
set_option maxHeartbeats 4000000 in
set_option maxRecDepth 20000 in
theorem S_M_count1 {l : Launch} : Sat l y_M_count1 b_M_count1 2 (some .int) 1 s_M_count1 := by
  refine sat_of (Φ := P_M) (κ := Q_M) (Γ := [(253, 10, 0, s_M_home)]) (rt := 1) (by decide +kernel) P_M_ok Q_M_ok (by
    refine List.forall_mem_cons.mpr ⟨?_, fun _ h => absurd h List.not_mem_nil⟩
    · exact m_M_home S_M_home (by decide) l_M_253) (by simp) o_M_count1 ?_
  intro as σ Q hh0
  obtain ⟨c0, rr0, rfl, hh1⟩ := popR_inv hh0
  obtain ⟨w, rr1, rfl, hh2⟩ := popI_inv hh1
  obtain ⟨hrE, rfl, hb, hx, hrz, hrw, hQ⟩ := hh2
  subst hrE
  clear hh0 hh1
  refine ⟨Nat.le_of_ble_eq_true rfl, [], 14, ?_, cuts0⟩
  · rw [show entL 2 [.inr (.inr (some 37)), .inl w] = [.inr (.inr (some 37)), .inl w] from rfl]
    simp only [↓wpN_go, jmp_e, ↓wp_aload_n0, ↓wp_bipush, ↓wp_getfield, ↓wp_goto, ↓wp_iconst, ↓wp_if_ne, ↓wp_iload_n1, ↓wp_invokevirtual, ↓wp_ireturn1, ↓wp_tableswitch, wp_nil, ↓ldI_0, ↓ldI_s, ↓ldL_0, ↓ldL_s, ↓ldR_0, ↓ldR_s, sto1_0, sto1_1, sto1_s, sto2_0, sto2_1, sto2_s, isLong_i, isLong_l, isLong_r, ↓popI_c, ↓popL_c, ↓popR_c, ↓popN_0, ↓popN_s, catS_n, catS_c, psh_s, psh_n, fldV_n, fldV_s, ↓tgt_e, sw_n, ↓sw_c, ↓lk1_h, ↓lk1_m, ↓atC_h, ↓atC_m, ↓atC_n, ltO_n, ltO_s, updR_eq, updR_ne, gI_0i, gI_0l, gI_s, ltM_iff, List.cons.injEq, Sum.inl.injEq, Sum.inr.injEq, Option.some.injEq, exists_eq_left, exists_eq_left', exists_eq_right, exists_eq_right', exists_and_left, exists_and_right, exists_eq, exists_const, and_assoc, ↓j_M_count1_0, ↓j_M_count1_48, ↓j_M_count1_53, ↓j_M_count1_58, ↓j_M_count1_63, ↓j_M_count1_68, ↓j_M_count1_79, ↓j_M_count1_83, ↓j_M_count1_84, ↓j_M_count1_95, ↓j_M_count1_99, ↓j_M_count1_100, ↓j_M_count1_111, ↓j_M_count1_115, ↓j_M_count1_116, ↓j_M_count1_121, ↓f_M_160, ↓f_M_163, ↓f_M_179, ↓f_M_230, ↓f_M_235, ↓f_M_250, ↓f_M_259, List.length_cons, List.length_nil, Nat.zero_add, Nat.reduceAdd, Int.reduceAdd, Int.reduceNeg, Int.reduceToNat, Int.reduceLE, Int.reduceLT, true_and, and_true, Nat.reduceLT, reduceIte, Nat.reduceEqDiff, ne_eq, not_false_eq_true, false_implies, true_implies, Bool.false_eq_true, reduceCtorEq, List.cons_append, List.nil_append, Nat.reduceSub, Nat.reduceLeDiff, Fin.isValue, Int.reduceNatCast', Int.zero_add, Int.add_zero, decide_true, decide_false, implies_true, forall_const, true_or, or_true, or_false, false_or, false_and, and_false, Int.toNat_natCast, ↓oF_37_0, ↓oF_37_1, ↓oF_37_2, ↓oF_37_3, ↓aF_38, ↓oF_37_4, ↓aF_39, ↓oF_37_5, ↓oF_37_6, ↓aF_40, ↓oF_37_7, ↓oF_37_8, ↓aF_41, ↓oF_37_9, ↓aF_42, ↓oF_37_10, ↓aF_43, ↓oF_37_11, ↓aF_44, ↓oF_37_12, ↓aF_45, ↓oF_37_13, ↓aF_46, ↓oF_37_14, ↓aF_47, ↓oF_37_15, ↓aF_48, ↓oF_37_16, ↓aF_49, ↓oF_37_17, ↓oF_37_18, ↓aF_50, ↓oF_37_19, ↓aF_51, ↓oF_37_20, ↓aF_52, ↓oF_37_21, ↓aF_53, ↓oF_37_22, ↓aF_54, ↓oF_37_23, ↓aF_55, ↓oF_37_24, ↓aF_56, ↓oF_37_25, ↓aF_57, ↓oF_37_26, ↓oF_37_27, ↓oF_37_28, ↓aF_58, ↓oF_37_29, ↓aF_59, ↓oF_37_30, ↓aF_60, ↓oF_37_31, ↓aF_61, ↓oF_37_32, ↓oF_37_33, ↓oF_37_34, ↓oF_37_35, ↓aF_62, ↓oF_37_36, ↓oF_37_37, ↓aF_63, ↓oF_37_38, ↓oF_37_39, ↓aF_64, ↓oF_37_40, ↓aF_65, ↓oF_37_41, ↓aF_66, oC_0, oC_1, oC_4, oC_11, oC_16, oC_18, oC_20, oC_23, oC_25, oC_26, oC_29, oC_31, oC_33, oC_35, oC_37, isT_29, isT_31, isT_33, isT_35, isL_16, isL_18, isL_26, b2i_0, b2i_1, b2i_01, b2i_r, ↓e_M_home]
    unfold cntM at hQ
    (try simp only [rI_iff, rL_iff] at *)
    repeat' (with_reducible (first | assumption | apply And.intro | intro _))
    all_goals first | omega | with_reducible assumption | exact True.intro | skip
    all_goals first | rfl | exact hx (by assumption) | (obtain ⟨k, h1, h2⟩ := hx (by assumption); exact ⟨k, h1, h2⟩) | grind
def s_M_tellLead : Spec := fun as σ Q => popR as fun c0 r0 => r0 = [] ∧ c0 = 37 ∧ (0 ≤ σ 37 17 ∧ σ 37 17 ≤ 100) ∧ (isBits (σ 62)) ∧ (∃ s : Nat, (s : Int) < σ 37 17 ∧ σ 62 s = 1) ∧ (Tree (σ 37 17) (σ 52) (σ 54)) ∧ (0 ≤ homeF (σ 62) ∧ homeF (σ 62) < σ 37 17) ∧ Q (some (.inl (σ 54 (homeF (σ 62)).toNat))) (updR σ 66 (leadG (σ 52) (σ 53) (σ 54 (homeF (σ 62)).toNat) (homeF (σ 62)) (-1) (σ 66)))
theorem e_M_tellLead  (σ : St) (Q : Option AV → St → Prop) : s_M_tellLead [.inr (.inr (some 37))] σ Q = ((0 ≤ σ 37 17 ∧ σ 37 17 ≤ 100) ∧ (isBits (σ 62)) ∧ (∃ s : Nat, (s : Int) < σ 37 17 ∧ σ 62 s = 1) ∧ (Tree (σ 37 17) (σ 52) (σ 54)) ∧ (0 ≤ homeF (σ 62) ∧ homeF (σ 62) < σ 37 17) ∧ Q (some (.inl (σ 54 (homeF (σ 62)).toNat))) (updR σ 66 (leadG (σ 52) (σ 53) (σ 54 (homeF (σ 62)).toNat) (homeF (σ 62)) (-1) (σ 66)))) := by
  show ([] = [] ∧ _) = _
  simp only [true_and]
set_option maxHeartbeats 4000000 in
set_option maxRecDepth 20000 in
theorem S_M_tellLead {l : Launch} : Sat l y_M_tellLead b_M_tellLead 4 (some .int) 1 s_M_tellLead := by
  refine sat_of (Φ := P_M) (κ := Q_M) (Γ := [(253, 10, 0, s_M_home)]) (rt := 1) (by decide +kernel) P_M_ok Q_M_ok (by
    refine List.forall_mem_cons.mpr ⟨?_, fun _ h => absurd h List.not_mem_nil⟩
    · exact m_M_home S_M_home (by decide) l_M_253) (by simp) o_M_tellLead ?_
  intro as σ Q hh0
  obtain ⟨c0, rr0, rfl, hh1⟩ := popR_inv hh0
  obtain ⟨hrE, rfl, hN, hb, hx, hT, hh, hQ⟩ := hh1
  subst hrE
  clear hh0
  refine ⟨Nat.le_of_ble_eq_true rfl, [(16, mkC (fun L st u => ∃ (a i : Int), L = [.inr (.inr (some 37)), .inl a, .inl ((σ 54 (homeF (σ 62)).toNat)), .inl i] ∧ st = [] ∧ (-1 ≤ i ∧ i < σ 54 (homeF (σ 62)).toNat) ∧ (a = ancF (σ 52) (σ 54 (homeF (σ 62)).toNat - 1 - i).toNat (homeF (σ 62))) ∧ (u = updR σ 66 (leadG (σ 52) (σ 53) (σ 54 (homeF (σ 62)).toNat) (homeF (σ 62)) i (σ 66)))) (fun L st u => ((gI L 3 + 1).toNat, 0, 0)))], 14, ?_, cuts1 ?_ (cuts0)⟩
  · rw [show entL 4 [.inr (.inr (some 37))] = [.inr (.inr (some 37)), .inr (.inr none), .inr (.inr none), .inr (.inr none)] from rfl]
    simp only [↓wpN_go, jmp_e, ↓wp_aload_n0, ↓wp_getfield, ↓wp_goto, ↓wp_iaload, ↓wp_iastore, ↓wp_iconst, ↓wp_if_lt, ↓wp_iinc, ↓wp_iload_n1, ↓wp_iload_n2, ↓wp_iload_n3, ↓wp_invokevirtual, ↓wp_ireturn1, ↓wp_istore_n1, ↓wp_istore_n2, ↓wp_istore_n3, ↓wp_isub, wp_nil, ↓ldI_0, ↓ldI_s, ↓ldL_0, ↓ldL_s, ↓ldR_0, ↓ldR_s, sto1_0, sto1_1, sto1_s, sto2_0, sto2_1, sto2_s, isLong_i, isLong_l, isLong_r, ↓popI_c, ↓popL_c, ↓popR_c, ↓popN_0, ↓popN_s, catS_n, catS_c, psh_s, psh_n, fldV_n, fldV_s, ↓tgt_e, sw_n, ↓sw_c, ↓lk1_h, ↓lk1_m, ↓atC_h, ↓atC_m, ↓atC_n, ltO_n, ltO_s, updR_eq, updR_ne, gI_0i, gI_0l, gI_s, ltM_iff, List.cons.injEq, Sum.inl.injEq, Sum.inr.injEq, Option.some.injEq, exists_eq_left, exists_eq_left', exists_eq_right, exists_eq_right', exists_and_left, exists_and_right, exists_eq, exists_const, and_assoc, ↓j_M_tellLead_0, ↓j_M_tellLead_16, ↓j_M_tellLead_45, ↓f_M_103, ↓f_M_60, ↓f_M_63, ↓f_M_66, List.length_cons, List.length_nil, Nat.zero_add, Nat.reduceAdd, Int.reduceAdd, Int.reduceNeg, Int.reduceToNat, Int.reduceLE, Int.reduceLT, true_and, and_true, Nat.reduceLT, reduceIte, Nat.reduceEqDiff, ne_eq, not_false_eq_true, false_implies, true_implies, Bool.false_eq_true, reduceCtorEq, List.cons_append, List.nil_append, Nat.reduceSub, Nat.reduceLeDiff, Fin.isValue, Int.reduceNatCast', Int.zero_add, Int.add_zero, decide_true, decide_false, implies_true, forall_const, true_or, or_true, or_false, false_or, false_and, and_false, Int.toNat_natCast, ↓oF_37_0, ↓oF_37_1, ↓oF_37_2, ↓oF_37_3, ↓aF_38, ↓oF_37_4, ↓aF_39, ↓oF_37_5, ↓oF_37_6, ↓aF_40, ↓oF_37_7, ↓oF_37_8, ↓aF_41, ↓oF_37_9, ↓aF_42, ↓oF_37_10, ↓aF_43, ↓oF_37_11, ↓aF_44, ↓oF_37_12, ↓aF_45, ↓oF_37_13, ↓aF_46, ↓oF_37_14, ↓aF_47, ↓oF_37_15, ↓aF_48, ↓oF_37_16, ↓aF_49, ↓oF_37_17, ↓oF_37_18, ↓aF_50, ↓oF_37_19, ↓aF_51, ↓oF_37_20, ↓aF_52, ↓oF_37_21, ↓aF_53, ↓oF_37_22, ↓aF_54, ↓oF_37_23, ↓aF_55, ↓oF_37_24, ↓aF_56, ↓oF_37_25, ↓aF_57, ↓oF_37_26, ↓oF_37_27, ↓oF_37_28, ↓aF_58, ↓oF_37_29, ↓aF_59, ↓oF_37_30, ↓aF_60, ↓oF_37_31, ↓aF_61, ↓oF_37_32, ↓oF_37_33, ↓oF_37_34, ↓oF_37_35, ↓aF_62, ↓oF_37_36, ↓oF_37_37, ↓aF_63, ↓oF_37_38, ↓oF_37_39, ↓aF_64, ↓oF_37_40, ↓aF_65, ↓oF_37_41, ↓aF_66, oC_0, oC_1, oC_4, oC_11, oC_16, oC_18, oC_20, oC_23, oC_25, oC_26, oC_29, oC_31, oC_33, oC_35, oC_37, isT_29, isT_31, isT_33, isT_35, isL_16, isL_18, isL_26, ↓e_M_home]
    have h1 := hT.at hh
    have e0 : σ = updR σ 66 (leadG (σ 52) (σ 53) (σ 54 (homeF (σ 62)).toNat) (homeF (σ 62)) (σ 54 (homeF (σ 62)).toNat - 1) (σ 66)) := by
      refine st_ext fun k j => ?_
      rw [updR_app]
      by_cases e : k = 66
      · rw [if_pos e, leadG_app, if_neg (by omega), e]
      · rw [if_neg e]
    obtain ⟨k, hk1, hk2⟩ := hx
    have ea : homeF (σ 62) = ancF (σ 52) (σ 54 (homeF (σ 62)).toNat - 1 - (σ 54 (homeF (σ 62)).toNat - 1)).toNat (homeF (σ 62)) := by
      rw [show σ 54 (homeF (σ 62)).toNat - 1 - (σ 54 (homeF (σ 62)).toNat - 1) = 0 by omega]
      rfl
    (try simp only [rI_iff, rL_iff] at *)
    repeat' (with_reducible (first | assumption | apply And.intro | intro _))
    all_goals first | omega | with_reducible assumption | exact True.intro | skip
    all_goals first
      | omega
      | exact ⟨k, by omega, hk2⟩
      | exact e0
      | exact ea
      | trace_state
  · intro L st u hI
    obtain ⟨a, i, rfl, rfl, hi, ha, hu⟩ := hI
    simp only [↓wpN_go, jmp_e, ↓wp_aload_n0, ↓wp_getfield, ↓wp_goto, ↓wp_iaload, ↓wp_iastore, ↓wp_iconst, ↓wp_if_lt, ↓wp_iinc, ↓wp_iload_n1, ↓wp_iload_n2, ↓wp_iload_n3, ↓wp_invokevirtual, ↓wp_ireturn1, ↓wp_istore_n1, ↓wp_istore_n2, ↓wp_istore_n3, ↓wp_isub, wp_nil, ↓ldI_0, ↓ldI_s, ↓ldL_0, ↓ldL_s, ↓ldR_0, ↓ldR_s, sto1_0, sto1_1, sto1_s, sto2_0, sto2_1, sto2_s, isLong_i, isLong_l, isLong_r, ↓popI_c, ↓popL_c, ↓popR_c, ↓popN_0, ↓popN_s, catS_n, catS_c, psh_s, psh_n, fldV_n, fldV_s, ↓tgt_e, sw_n, ↓sw_c, ↓lk1_h, ↓lk1_m, ↓atC_h, ↓atC_m, ↓atC_n, ltO_n, ltO_s, updR_eq, updR_ne, gI_0i, gI_0l, gI_s, ltM_iff, List.cons.injEq, Sum.inl.injEq, Sum.inr.injEq, Option.some.injEq, exists_eq_left, exists_eq_left', exists_eq_right, exists_eq_right', exists_and_left, exists_and_right, exists_eq, exists_const, and_assoc, ↓j_M_tellLead_0, ↓j_M_tellLead_16, ↓j_M_tellLead_45, ↓f_M_103, ↓f_M_60, ↓f_M_63, ↓f_M_66, List.length_cons, List.length_nil, Nat.zero_add, Nat.reduceAdd, Int.reduceAdd, Int.reduceNeg, Int.reduceToNat, Int.reduceLE, Int.reduceLT, true_and, and_true, Nat.reduceLT, reduceIte, Nat.reduceEqDiff, ne_eq, not_false_eq_true, false_implies, true_implies, Bool.false_eq_true, reduceCtorEq, List.cons_append, List.nil_append, Nat.reduceSub, Nat.reduceLeDiff, Fin.isValue, Int.reduceNatCast', Int.zero_add, Int.add_zero, decide_true, decide_false, implies_true, forall_const, true_or, or_true, or_false, false_or, false_and, and_false, Int.toNat_natCast, ↓oF_37_0, ↓oF_37_1, ↓oF_37_2, ↓oF_37_3, ↓aF_38, ↓oF_37_4, ↓aF_39, ↓oF_37_5, ↓oF_37_6, ↓aF_40, ↓oF_37_7, ↓oF_37_8, ↓aF_41, ↓oF_37_9, ↓aF_42, ↓oF_37_10, ↓aF_43, ↓oF_37_11, ↓aF_44, ↓oF_37_12, ↓aF_45, ↓oF_37_13, ↓aF_46, ↓oF_37_14, ↓aF_47, ↓oF_37_15, ↓aF_48, ↓oF_37_16, ↓aF_49, ↓oF_37_17, ↓oF_37_18, ↓aF_50, ↓oF_37_19, ↓aF_51, ↓oF_37_20, ↓aF_52, ↓oF_37_21, ↓aF_53, ↓oF_37_22, ↓aF_54, ↓oF_37_23, ↓aF_55, ↓oF_37_24, ↓aF_56, ↓oF_37_25, ↓aF_57, ↓oF_37_26, ↓oF_37_27, ↓oF_37_28, ↓aF_58, ↓oF_37_29, ↓aF_59, ↓oF_37_30, ↓aF_60, ↓oF_37_31, ↓aF_61, ↓oF_37_32, ↓oF_37_33, ↓oF_37_34, ↓oF_37_35, ↓aF_62, ↓oF_37_36, ↓oF_37_37, ↓aF_63, ↓oF_37_38, ↓oF_37_39, ↓aF_64, ↓oF_37_40, ↓aF_65, ↓oF_37_41, ↓aF_66, oC_0, oC_1, oC_4, oC_11, oC_16, oC_18, oC_20, oC_23, oC_25, oC_26, oC_29, oC_31, oC_33, oC_35, oC_37, isT_29, isT_31, isT_33, isT_35, isL_16, isL_18, isL_26, ↓e_M_home]
    subst hu
    have h1 := hT.anc hh (σ 54 (homeF (σ 62)).toNat - 1 - i).toNat (by omega)
    rw [← ha] at h1
    have h2 := hT.at hh
    have e52 : ∀ f, updR σ 66 f 52 = σ 52 := fun f => updR_ne _ 66 52 _ (by decide)
    have e53 : ∀ f, updR σ 66 f 53 = σ 53 := fun f => updR_ne _ 66 53 _ (by decide)
    simp only [e52, e53, updR_eq, updR_twice]
    have q1 : i < 0 → Q (some (.inl (σ 54 (homeF (σ 62)).toNat))) (updR σ 66 (leadG (σ 52) (σ 53) (σ 54 (homeF (σ 62)).toNat) (homeF (σ 62)) i (σ 66))) := fun h => by
      rw [show i = -1 by omega]
      exact hQ
    have q2 : 0 ≤ i → σ 52 a.toNat = ancF (σ 52) (σ 54 (homeF (σ 62)).toNat - 1 - (i + -1)).toNat (homeF (σ 62)) := fun h => by
      rw [show (σ 54 (homeF (σ 62)).toNat - 1 - (i + -1)).toNat = (σ 54 (homeF (σ 62)).toNat - 1 - i).toNat + 1 by omega, ancF, ← ha]
    have q3 : 0 ≤ i → updR σ 66 (up1 (leadG (σ 52) (σ 53) (σ 54 (homeF (σ 62)).toNat) (homeF (σ 62)) i (σ 66)) i.toNat (σ 53 a.toNat)) = updR σ 66 (leadG (σ 52) (σ 53) (σ 54 (homeF (σ 62)).toNat) (homeF (σ 62)) (i + -1) (σ 66)) := fun h => by
      rw [ha, leadG_up ⟨h, hi.2⟩]
      rfl
    clear hQ
    (try simp only [rI_iff, rL_iff] at *)
    repeat' (with_reducible (first | assumption | apply And.intro | intro _))
    all_goals first | omega | with_reducible assumption | exact True.intro | skip
    all_goals first
      | omega
      | exact q1 (by omega)
      | exact q2 (by omega)
      | exact q3 (by omega)
      | trace_state
