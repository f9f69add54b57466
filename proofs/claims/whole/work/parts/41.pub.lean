/-! the public methods: rows of bits, weights, marks -/
def s_X_marked : Spec := fun as σ Q => popR as fun c0 r0 => r0 = [] ∧ c0 = 0 ∧ Q (some (.inl (σ 20 5))) σ
theorem e_X_marked  (σ : St) (Q : Option AV → St → Prop) : s_X_marked [.inr (.inr (some 0))] σ Q = (Q (some (.inl (σ 20 5))) σ) := by
  show ([] = [] ∧ _) = _
  simp only [true_and]
set_option maxHeartbeats 4000000 in
set_option maxRecDepth 20000 in
theorem S_X_marked {l : Launch} : Sat l y_X_marked b_X_marked 1 (some .int) 1 s_X_marked := by
  refine sat_of (Φ := P_X) (κ := Q_X) (Γ := [(172, 6, 0, s_S_lastFound)]) (rt := 1) (by decide +kernel) P_X_ok Q_X_ok (by
    refine List.forall_mem_cons.mpr ⟨?_, fun _ h => absurd h List.not_mem_nil⟩
    · exact m_S_lastFound S_S_lastFound (by decide) l_X_172) (by simp) o_X_marked ?_
  intro as σ Q hh0
  obtain ⟨c0, rr0, rfl, hh1⟩ := popR_inv hh0
  obtain ⟨hrE, rfl, hQ⟩ := hh1
  subst hrE
  clear hh0
  refine ⟨Nat.le_of_ble_eq_true rfl, [], 14, ?_, cuts0⟩
  · rw [show entL 1 [.inr (.inr (some 0))] = [.inr (.inr (some 0))] from rfl]
    simp only [↓wpN_go, jmp_e, ↓wp_aload_n0, ↓wp_getfield, ↓wp_invokevirtual, ↓wp_ireturn1, wp_nil, ↓ldI_0, ↓ldI_s, ↓ldL_0, ↓ldL_s, ↓ldR_0, ↓ldR_s, sto1_0, sto1_1, sto1_s, sto2_0, sto2_1, sto2_s, isLong_i, isLong_l, isLong_r, ↓popI_c, ↓popL_c, ↓popR_c, ↓popN_0, ↓popN_s, catS_n, catS_c, psh_s, psh_n, fldV_n, fldV_s, ↓tgt_e, sw_n, ↓sw_c, ↓lk1_h, ↓lk1_m, ↓atC_h, ↓atC_m, ↓atC_n, ltO_n, ltO_s, updR_eq, updR_ne, gI_0i, gI_0l, gI_s, ltM_iff, List.cons.injEq, Sum.inl.injEq, Sum.inr.injEq, Option.some.injEq, exists_eq_left, exists_eq_left', exists_eq_right, exists_eq_right', exists_and_left, exists_and_right, exists_eq, exists_const, and_assoc, ↓j_X_marked_0, ↓f_X_43, List.length_cons, List.length_nil, Nat.zero_add, Nat.reduceAdd, Int.reduceAdd, Int.reduceNeg, Int.reduceToNat, Int.reduceLE, Int.reduceLT, true_and, and_true, Nat.reduceLT, reduceIte, Nat.reduceEqDiff, ne_eq, not_false_eq_true, false_implies, true_implies, Bool.false_eq_true, reduceCtorEq, List.cons_append, List.nil_append, Nat.reduceSub, Nat.reduceLeDiff, Fin.isValue, Int.reduceNatCast', Int.zero_add, Int.add_zero, decide_true, decide_false, implies_true, forall_const, true_or, or_true, or_false, false_or, false_and, and_false, Int.toNat_natCast, ↓oF_0_0, ↓oF_0_1, ↓oF_0_2, ↓oF_0_3, ↓oF_0_4, ↓oF_0_5, ↓oF_0_6, ↓oF_0_7, ↓oF_0_8, ↓oF_0_9, ↓oF_0_10, ↓oF_0_11, oC_0, oC_1, oC_4, oC_11, oC_16, oC_18, oC_20, oC_23, oC_25, oC_26, oC_29, oC_31, oC_33, oC_35, oC_37, isT_29, isT_31, isT_33, isT_35, isL_16, isL_18, isL_26, b2i_0, b2i_1, b2i_01, b2i_r, ↓e_S_lastFound]
    (try simp only [rI_iff, rL_iff] at *)
    repeat' (first | assumption | apply And.intro | intro _)
    all_goals first
      | omega
      | (refine st_ext fun k j => ?_; grind [updR_app, up1_app, b2i])
      | (refine Q_eq hQ ?_ ?_ <;> first | rfl | (refine st_ext fun k j => ?_; grind [updR_app, up1_app, b2i]) | grind [updR_app, up1_app, b2i])
      | grind [updR_app, up1_app, b2i]
def s_X_weigh : Spec := fun as σ Q => popR as fun c0 r0 => popI r0 fun s r1 => popI r1 fun v r2 => r2 = [] ∧ c0 = 0 ∧ (0 ≤ σ 11 4 ∧ σ 11 4 ≤ 100) ∧ (rI s) ∧ (rI v) ∧ if (0 ≤ s ∧ s < σ 11 4) ∧ 0 ≤ v ∧ v ≤ 1000000 then Q (some (.inl (σ 24 s.toNat))) (updR σ 24 (up1 (σ 24) s.toNat v)) else Q (some (.inl (-2))) σ
theorem e_X_weigh (s : Int) (v : Int) (σ : St) (Q : Option AV → St → Prop) : s_X_weigh [.inr (.inr (some 0)), .inl s, .inl v] σ Q = ((0 ≤ σ 11 4 ∧ σ 11 4 ≤ 100) ∧ (rI s) ∧ (rI v) ∧ if (0 ≤ s ∧ s < σ 11 4) ∧ 0 ≤ v ∧ v ≤ 1000000 then Q (some (.inl (σ 24 s.toNat))) (updR σ 24 (up1 (σ 24) s.toNat v)) else Q (some (.inl (-2))) σ) := by
  show ([] = [] ∧ _) = _
  simp only [true_and]
set_option maxHeartbeats 4000000 in
set_option maxRecDepth 20000 in
theorem S_X_weigh {l : Launch} : Sat l y_X_weigh b_X_weigh 4 (some .int) 1 s_X_weigh := by
  refine sat_of (Φ := P_X) (κ := Q_X) (Γ := [(133, 8, 1, s_W_has), (74, 0, 3, s_X_isWithin), (176, 7, 1, s_G_of), (179, 7, 2, s_G_set)]) (rt := 1) (by decide +kernel) P_X_ok Q_X_ok (by
    refine List.forall_mem_cons.mpr ⟨?_, List.forall_mem_cons.mpr ⟨?_, List.forall_mem_cons.mpr ⟨?_, List.forall_mem_cons.mpr ⟨?_, fun _ h => absurd h List.not_mem_nil⟩⟩⟩⟩
    · exact m_W_has S_W_has (by decide) l_X_133
    · exact m_X_isWithin S_X_isWithin (by decide) l_X_74
    · exact m_G_of S_G_of (by decide) l_X_176
    · exact m_G_set S_G_set (by decide) l_X_179) (by simp) o_X_weigh ?_
  intro as σ Q hh0
  obtain ⟨c0, rr0, rfl, hh1⟩ := popR_inv hh0
  obtain ⟨s, rr1, rfl, hh2⟩ := popI_inv hh1
  obtain ⟨v, rr2, rfl, hh3⟩ := popI_inv hh2
  obtain ⟨hrE, rfl, hN, hrs, hrv, hQ⟩ := hh3
  subst hrE
  clear hh0 hh1 hh2
  refine ⟨Nat.le_of_ble_eq_true rfl, [], 14, ?_, cuts0⟩
  · rw [show entL 4 [.inr (.inr (some 0)), .inl s, .inl v] = [.inr (.inr (some 0)), .inl s, .inl v, .inr (.inr none)] from rfl]
    simp only [↓wpN_go, jmp_e, ↓wp_aload_n0, ↓wp_bipush, ↓wp_getfield, ↓wp_iconst, ↓wp_if_eq, ↓wp_if_ne, ↓wp_iload_n1, ↓wp_iload_n2, ↓wp_iload_n3, ↓wp_invokestatic, ↓wp_invokevirtual, ↓wp_ireturn1, ↓wp_istore_n3, ↓wp_ldc, wp_nil, ↓ldI_0, ↓ldI_s, ↓ldL_0, ↓ldL_s, ↓ldR_0, ↓ldR_s, sto1_0, sto1_1, sto1_s, sto2_0, sto2_1, sto2_s, isLong_i, isLong_l, isLong_r, ↓popI_c, ↓popL_c, ↓popR_c, ↓popN_0, ↓popN_s, catS_n, catS_c, psh_s, psh_n, fldV_n, fldV_s, ↓tgt_e, sw_n, ↓sw_c, ↓lk1_h, ↓lk1_m, ↓atC_h, ↓atC_m, ↓atC_n, ltO_n, ltO_s, updR_eq, updR_ne, gI_0i, gI_0l, gI_s, ltM_iff, List.cons.injEq, Sum.inl.injEq, Sum.inr.injEq, Option.some.injEq, exists_eq_left, exists_eq_left', exists_eq_right, exists_eq_right', exists_and_left, exists_and_right, exists_eq, exists_const, and_assoc, ↓j_X_weigh_0, ↓j_X_weigh_21, ↓j_X_weigh_24, ↓c_X_175, ↓f_X_26, ↓f_X_50, List.length_cons, List.length_nil, Nat.zero_add, Nat.reduceAdd, Int.reduceAdd, Int.reduceNeg, Int.reduceToNat, Int.reduceLE, Int.reduceLT, true_and, and_true, Nat.reduceLT, reduceIte, Nat.reduceEqDiff, ne_eq, not_false_eq_true, false_implies, true_implies, Bool.false_eq_true, reduceCtorEq, List.cons_append, List.nil_append, Nat.reduceSub, Nat.reduceLeDiff, Fin.isValue, Int.reduceNatCast', Int.zero_add, Int.add_zero, decide_true, decide_false, implies_true, forall_const, true_or, or_true, or_false, false_or, false_and, and_false, Int.toNat_natCast, ↓oF_0_0, ↓oF_0_1, ↓oF_0_2, ↓oF_0_3, ↓oF_0_4, ↓oF_0_5, ↓oF_0_6, ↓oF_0_7, ↓oF_0_8, ↓oF_0_9, ↓oF_0_10, ↓oF_0_11, oC_0, oC_1, oC_4, oC_11, oC_16, oC_18, oC_20, oC_23, oC_25, oC_26, oC_29, oC_31, oC_33, oC_35, oC_37, isT_29, isT_31, isT_33, isT_35, isL_16, isL_18, isL_26, b2i_0, b2i_1, b2i_01, b2i_r, ↓e_W_has, ↓e_X_isWithin, ↓e_G_of, ↓e_G_set]
    have hs1 : 0 ≤ s → s < σ 11 4 → (0 ≤ s ∧ s < 100) := fun h1 h2 => by omega
    by_cases hc : 0 ≤ s ∧ s < σ 11 4
    · rw [if_pos (hs1 hc.1 hc.2)]
      (try simp only [rI_iff, rL_iff] at *)
      repeat' (with_reducible (first | assumption | apply And.intro | intro _))
      all_goals first | omega | with_reducible assumption | exact True.intro | skip
      all_goals grind
    · (try simp only [rI_iff, rL_iff] at *)
      repeat' (with_reducible (first | assumption | apply And.intro | intro _))
      all_goals first | omega | with_reducible assumption | exact True.intro | skip
      all_goals grind
    
def s_X_weight : Spec := fun as σ Q => popR as fun c0 r0 => popI r0 fun s r1 => r1 = [] ∧ c0 = 0 ∧ (0 ≤ σ 11 4 ∧ σ 11 4 ≤ 100) ∧ (rI s) ∧ Q (some (.inl (if (0 ≤ s ∧ s < σ 11 4) then σ 24 s.toNat else -2))) σ
theorem e_X_weight (s : Int) (σ : St) (Q : Option AV → St → Prop) : s_X_weight [.inr (.inr (some 0)), .inl s] σ Q = ((0 ≤ σ 11 4 ∧ σ 11 4 ≤ 100) ∧ (rI s) ∧ Q (some (.inl (if (0 ≤ s ∧ s < σ 11 4) then σ 24 s.toNat else -2))) σ) := by
  show ([] = [] ∧ _) = _
  simp only [true_and]
set_option maxHeartbeats 4000000 in
set_option maxRecDepth 20000 in
theorem S_X_weight {l : Launch} : Sat l y_X_weight b_X_weight 2 (some .int) 1 s_X_weight := by
  refine sat_of (Φ := P_X) (κ := Q_X) (Γ := [(133, 8, 1, s_W_has), (176, 7, 1, s_G_of)]) (rt := 1) (by decide +kernel) P_X_ok Q_X_ok (by
    refine List.forall_mem_cons.mpr ⟨?_, List.forall_mem_cons.mpr ⟨?_, fun _ h => absurd h List.not_mem_nil⟩⟩
    · exact m_W_has S_W_has (by decide) l_X_133
    · exact m_G_of S_G_of (by decide) l_X_176) (by simp) o_X_weight ?_
  intro as σ Q hh0
  obtain ⟨c0, rr0, rfl, hh1⟩ := popR_inv hh0
  obtain ⟨s, rr1, rfl, hh2⟩ := popI_inv hh1
  obtain ⟨hrE, rfl, hN, hrs, hQ⟩ := hh2
  subst hrE
  clear hh0 hh1
  refine ⟨Nat.le_of_ble_eq_true rfl, [], 14, ?_, cuts0⟩
  · rw [show entL 2 [.inr (.inr (some 0)), .inl s] = [.inr (.inr (some 0)), .inl s] from rfl]
    simp only [↓wpN_go, jmp_e, ↓wp_aload_n0, ↓wp_bipush, ↓wp_getfield, ↓wp_if_ne, ↓wp_iload_n1, ↓wp_invokevirtual, ↓wp_ireturn1, wp_nil, ↓ldI_0, ↓ldI_s, ↓ldL_0, ↓ldL_s, ↓ldR_0, ↓ldR_s, sto1_0, sto1_1, sto1_s, sto2_0, sto2_1, sto2_s, isLong_i, isLong_l, isLong_r, ↓popI_c, ↓popL_c, ↓popR_c, ↓popN_0, ↓popN_s, catS_n, catS_c, psh_s, psh_n, fldV_n, fldV_s, ↓tgt_e, sw_n, ↓sw_c, ↓lk1_h, ↓lk1_m, ↓atC_h, ↓atC_m, ↓atC_n, ltO_n, ltO_s, updR_eq, updR_ne, gI_0i, gI_0l, gI_s, ltM_iff, List.cons.injEq, Sum.inl.injEq, Sum.inr.injEq, Option.some.injEq, exists_eq_left, exists_eq_left', exists_eq_right, exists_eq_right', exists_and_left, exists_and_right, exists_eq, exists_const, and_assoc, ↓j_X_weight_0, ↓j_X_weight_14, ↓f_X_26, ↓f_X_50, List.length_cons, List.length_nil, Nat.zero_add, Nat.reduceAdd, Int.reduceAdd, Int.reduceNeg, Int.reduceToNat, Int.reduceLE, Int.reduceLT, true_and, and_true, Nat.reduceLT, reduceIte, Nat.reduceEqDiff, ne_eq, not_false_eq_true, false_implies, true_implies, Bool.false_eq_true, reduceCtorEq, List.cons_append, List.nil_append, Nat.reduceSub, Nat.reduceLeDiff, Fin.isValue, Int.reduceNatCast', Int.zero_add, Int.add_zero, decide_true, decide_false, implies_true, forall_const, true_or, or_true, or_false, false_or, false_and, and_false, Int.toNat_natCast, ↓oF_0_0, ↓oF_0_1, ↓oF_0_2, ↓oF_0_3, ↓oF_0_4, ↓oF_0_5, ↓oF_0_6, ↓oF_0_7, ↓oF_0_8, ↓oF_0_9, ↓oF_0_10, ↓oF_0_11, oC_0, oC_1, oC_4, oC_11, oC_16, oC_18, oC_20, oC_23, oC_25, oC_26, oC_29, oC_31, oC_33, oC_35, oC_37, isT_29, isT_31, isT_33, isT_35, isL_16, isL_18, isL_26, b2i_0, b2i_1, b2i_01, b2i_r, ↓e_W_has, ↓e_G_of]
    have hs1 : 0 ≤ s → s < σ 11 4 → (0 ≤ s ∧ s < 100) := fun h1 h2 => by omega
    (try simp only [rI_iff, rL_iff] at *)
    repeat' (with_reducible (first | assumption | apply And.intro | intro _))
    all_goals first | omega | with_reducible assumption | exact True.intro | skip
    all_goals grind
def s_X_member : Spec := fun as σ Q => popR as fun c0 r0 => popI r0 fun s r1 => r1 = [] ∧ c0 = 0 ∧ (0 ≤ σ 11 4 ∧ σ 11 4 ≤ 100) ∧ (isBits (σ 28)) ∧ (0 ≤ σ 25 3 ∧ σ 25 3 ≤ 100) ∧ (rI s) ∧ Q (some (.inl (if ¬ (0 ≤ s ∧ s < σ 11 4) then -2 else if σ 25 3 = 0 then -3 else if σ 28 s.toNat = 1 then 1 else 0))) σ
theorem e_X_member (s : Int) (σ : St) (Q : Option AV → St → Prop) : s_X_member [.inr (.inr (some 0)), .inl s] σ Q = ((0 ≤ σ 11 4 ∧ σ 11 4 ≤ 100) ∧ (isBits (σ 28)) ∧ (0 ≤ σ 25 3 ∧ σ 25 3 ≤ 100) ∧ (rI s) ∧ Q (some (.inl (if ¬ (0 ≤ s ∧ s < σ 11 4) then -2 else if σ 25 3 = 0 then -3 else if σ 28 s.toNat = 1 then 1 else 0))) σ) := by
  show ([] = [] ∧ _) = _
  simp only [true_and]
set_option maxHeartbeats 4000000 in
set_option maxRecDepth 20000 in
theorem S_X_member {l : Launch} : Sat l y_X_member b_X_member 2 (some .int) 1 s_X_member := by
  refine sat_of (Φ := P_X) (κ := Q_X) (Γ := [(133, 8, 1, s_W_has), (203, 3, 0, s_C_exists), (207, 3, 1, s_C_holds)]) (rt := 1) (by decide +kernel) P_X_ok Q_X_ok (by
    refine List.forall_mem_cons.mpr ⟨?_, List.forall_mem_cons.mpr ⟨?_, List.forall_mem_cons.mpr ⟨?_, fun _ h => absurd h List.not_mem_nil⟩⟩⟩
    · exact m_W_has S_W_has (by decide) l_X_133
    · exact m_C_exists S_C_exists (by decide) l_X_203
    · exact m_C_holds S_C_holds (by decide) l_X_207) (by simp) o_X_member ?_
  intro as σ Q hh0
  obtain ⟨c0, rr0, rfl, hh1⟩ := popR_inv hh0
  obtain ⟨s, rr1, rfl, hh2⟩ := popI_inv hh1
  obtain ⟨hrE, rfl, hN, hb, hz, hrs, hQ⟩ := hh2
  subst hrE
  clear hh0 hh1
  refine ⟨Nat.le_of_ble_eq_true rfl, [], 14, ?_, cuts0⟩
  · rw [show entL 2 [.inr (.inr (some 0)), .inl s] = [.inr (.inr (some 0)), .inl s] from rfl]
    simp only [↓wpN_go, jmp_e, ↓wp_aload_n0, ↓wp_bipush, ↓wp_getfield, ↓wp_goto, ↓wp_iconst, ↓wp_if_eq, ↓wp_if_ne, ↓wp_iload_n1, ↓wp_invokevirtual, ↓wp_ireturn1, wp_nil, ↓ldI_0, ↓ldI_s, ↓ldL_0, ↓ldL_s, ↓ldR_0, ↓ldR_s, sto1_0, sto1_1, sto1_s, sto2_0, sto2_1, sto2_s, isLong_i, isLong_l, isLong_r, ↓popI_c, ↓popL_c, ↓popR_c, ↓popN_0, ↓popN_s, catS_n, catS_c, psh_s, psh_n, fldV_n, fldV_s, ↓tgt_e, sw_n, ↓sw_c, ↓lk1_h, ↓lk1_m, ↓atC_h, ↓atC_m, ↓atC_n, ltO_n, ltO_s, updR_eq, updR_ne, gI_0i, gI_0l, gI_s, ltM_iff, List.cons.injEq, Sum.inl.injEq, Sum.inr.injEq, Option.some.injEq, exists_eq_left, exists_eq_left', exists_eq_right, exists_eq_right', exists_and_left, exists_and_right, exists_eq, exists_const, and_assoc, ↓j_X_member_0, ↓j_X_member_14, ↓j_X_member_27, ↓j_X_member_42, ↓j_X_member_43, ↓f_X_26, ↓f_X_57, List.length_cons, List.length_nil, Nat.zero_add, Nat.reduceAdd, Int.reduceAdd, Int.reduceNeg, Int.reduceToNat, Int.reduceLE, Int.reduceLT, true_and, and_true, Nat.reduceLT, reduceIte, Nat.reduceEqDiff, ne_eq, not_false_eq_true, false_implies, true_implies, Bool.false_eq_true, reduceCtorEq, List.cons_append, List.nil_append, Nat.reduceSub, Nat.reduceLeDiff, Fin.isValue, Int.reduceNatCast', Int.zero_add, Int.add_zero, decide_true, decide_false, implies_true, forall_const, true_or, or_true, or_false, false_or, false_and, and_false, Int.toNat_natCast, ↓oF_0_0, ↓oF_0_1, ↓oF_0_2, ↓oF_0_3, ↓oF_0_4, ↓oF_0_5, ↓oF_0_6, ↓oF_0_7, ↓oF_0_8, ↓oF_0_9, ↓oF_0_10, ↓oF_0_11, oC_0, oC_1, oC_4, oC_11, oC_16, oC_18, oC_20, oC_23, oC_25, oC_26, oC_29, oC_31, oC_33, oC_35, oC_37, isT_29, isT_31, isT_33, isT_35, isL_16, isL_18, isL_26, b2i_0, b2i_1, b2i_01, b2i_r, ↓e_W_has, ↓e_C_exists, ↓e_C_holds]
    (try simp only [rI_iff, rL_iff] at *)
    repeat' (with_reducible (first | assumption | apply And.intro | intro _))
    all_goals first | omega | with_reducible assumption | exact True.intro | skip
    all_goals grind
def s_X_message : Spec := fun as σ Q => popR as fun c0 r0 => popI r0 fun i r1 => r1 = [] ∧ c0 = 0 ∧ (0 ≤ σ 31 1 ∧ σ 31 1 ≤ 600) ∧ (rI i) ∧ Q (some (.inl (if 0 ≤ i ∧ i < σ 31 1 then σ 32 i.toNat else -2))) σ
theorem e_X_message (i : Int) (σ : St) (Q : Option AV → St → Prop) : s_X_message [.inr (.inr (some 0)), .inl i] σ Q = ((0 ≤ σ 31 1 ∧ σ 31 1 ≤ 600) ∧ (rI i) ∧ Q (some (.inl (if 0 ≤ i ∧ i < σ 31 1 then σ 32 i.toNat else -2))) σ) := by
  show ([] = [] ∧ _) = _
  simp only [true_and]
set_option maxHeartbeats 4000000 in
set_option maxRecDepth 20000 in
theorem S_X_message {l : Launch} : Sat l y_X_message b_X_message 2 (some .int) 1 s_X_message := by
  refine sat_of (Φ := P_X) (κ := Q_X) (Γ := [(230, 2, 1, s_T_at)]) (rt := 1) (by decide +kernel) P_X_ok Q_X_ok (by
    refine List.forall_mem_cons.mpr ⟨?_, fun _ h => absurd h List.not_mem_nil⟩
    · exact m_T_at S_T_at (by decide) l_X_230) (by simp) o_X_message ?_
  intro as σ Q hh0
  obtain ⟨c0, rr0, rfl, hh1⟩ := popR_inv hh0
  obtain ⟨i, rr1, rfl, hh2⟩ := popI_inv hh1
  obtain ⟨hrE, rfl, h31, hri, hQ⟩ := hh2
  subst hrE
  clear hh0 hh1
  refine ⟨Nat.le_of_ble_eq_true rfl, [], 14, ?_, cuts0⟩
  · rw [show entL 2 [.inr (.inr (some 0)), .inl i] = [.inr (.inr (some 0)), .inl i] from rfl]
    simp only [↓wpN_go, jmp_e, ↓wp_aload_n0, ↓wp_getfield, ↓wp_iload_n1, ↓wp_invokevirtual, ↓wp_ireturn1, wp_nil, ↓ldI_0, ↓ldI_s, ↓ldL_0, ↓ldL_s, ↓ldR_0, ↓ldR_s, sto1_0, sto1_1, sto1_s, sto2_0, sto2_1, sto2_s, isLong_i, isLong_l, isLong_r, ↓popI_c, ↓popL_c, ↓popR_c, ↓popN_0, ↓popN_s, catS_n, catS_c, psh_s, psh_n, fldV_n, fldV_s, ↓tgt_e, sw_n, ↓sw_c, ↓lk1_h, ↓lk1_m, ↓atC_h, ↓atC_m, ↓atC_n, ltO_n, ltO_s, updR_eq, updR_ne, gI_0i, gI_0l, gI_s, ltM_iff, List.cons.injEq, Sum.inl.injEq, Sum.inr.injEq, Option.some.injEq, exists_eq_left, exists_eq_left', exists_eq_right, exists_eq_right', exists_and_left, exists_and_right, exists_eq, exists_const, and_assoc, ↓j_X_message_0, ↓f_X_64, List.length_cons, List.length_nil, Nat.zero_add, Nat.reduceAdd, Int.reduceAdd, Int.reduceNeg, Int.reduceToNat, Int.reduceLE, Int.reduceLT, true_and, and_true, Nat.reduceLT, reduceIte, Nat.reduceEqDiff, ne_eq, not_false_eq_true, false_implies, true_implies, Bool.false_eq_true, reduceCtorEq, List.cons_append, List.nil_append, Nat.reduceSub, Nat.reduceLeDiff, Fin.isValue, Int.reduceNatCast', Int.zero_add, Int.add_zero, decide_true, decide_false, implies_true, forall_const, true_or, or_true, or_false, false_or, false_and, and_false, Int.toNat_natCast, ↓oF_0_0, ↓oF_0_1, ↓oF_0_2, ↓oF_0_3, ↓oF_0_4, ↓oF_0_5, ↓oF_0_6, ↓oF_0_7, ↓oF_0_8, ↓oF_0_9, ↓oF_0_10, ↓oF_0_11, oC_0, oC_1, oC_4, oC_11, oC_16, oC_18, oC_20, oC_23, oC_25, oC_26, oC_29, oC_31, oC_33, oC_35, oC_37, isT_29, isT_31, isT_33, isT_35, isL_16, isL_18, isL_26, b2i_0, b2i_1, b2i_01, b2i_r, ↓e_T_at]
    (try simp only [rI_iff, rL_iff] at *)
    repeat' (first | assumption | apply And.intro | intro _)
    all_goals first
      | omega
      | (refine st_ext fun k j => ?_; grind [updR_app, up1_app, b2i])
      | (refine Q_eq hQ ?_ ?_ <;> first | rfl | (refine st_ext fun k j => ?_; grind [updR_app, up1_app, b2i]) | grind [updR_app, up1_app, b2i])
      | grind [updR_app, up1_app, b2i]
def s_X_plate : Spec := fun as σ Q => popR as fun c0 r0 => popI r0 fun i r1 => r1 = [] ∧ c0 = 0 ∧ (0 ≤ σ 33 1 ∧ σ 33 1 ≤ 600) ∧ (rI i) ∧ Q (some (.inl (if 0 ≤ i ∧ i < σ 33 1 then σ 34 i.toNat else -2))) σ
theorem e_X_plate (i : Int) (σ : St) (Q : Option AV → St → Prop) : s_X_plate [.inr (.inr (some 0)), .inl i] σ Q = ((0 ≤ σ 33 1 ∧ σ 33 1 ≤ 600) ∧ (rI i) ∧ Q (some (.inl (if 0 ≤ i ∧ i < σ 33 1 then σ 34 i.toNat else -2))) σ) := by
  show ([] = [] ∧ _) = _
  simp only [true_and]
set_option maxHeartbeats 4000000 in
set_option maxRecDepth 20000 in
theorem S_X_plate {l : Launch} : Sat l y_X_plate b_X_plate 2 (some .int) 1 s_X_plate := by
  refine sat_of (Φ := P_X) (κ := Q_X) (Γ := [(230, 2, 1, s_T_at)]) (rt := 1) (by decide +kernel) P_X_ok Q_X_ok (by
    refine List.forall_mem_cons.mpr ⟨?_, fun _ h => absurd h List.not_mem_nil⟩
    · exact m_T_at S_T_at (by decide) l_X_230) (by simp) o_X_plate ?_
  intro as σ Q hh0
  obtain ⟨c0, rr0, rfl, hh1⟩ := popR_inv hh0
  obtain ⟨i, rr1, rfl, hh2⟩ := popI_inv hh1
  obtain ⟨hrE, rfl, h33, hri, hQ⟩ := hh2
  subst hrE
  clear hh0 hh1
  refine ⟨Nat.le_of_ble_eq_true rfl, [], 14, ?_, cuts0⟩
  · rw [show entL 2 [.inr (.inr (some 0)), .inl i] = [.inr (.inr (some 0)), .inl i] from rfl]
    simp only [↓wpN_go, jmp_e, ↓wp_aload_n0, ↓wp_getfield, ↓wp_iload_n1, ↓wp_invokevirtual, ↓wp_ireturn1, wp_nil, ↓ldI_0, ↓ldI_s, ↓ldL_0, ↓ldL_s, ↓ldR_0, ↓ldR_s, sto1_0, sto1_1, sto1_s, sto2_0, sto2_1, sto2_s, isLong_i, isLong_l, isLong_r, ↓popI_c, ↓popL_c, ↓popR_c, ↓popN_0, ↓popN_s, catS_n, catS_c, psh_s, psh_n, fldV_n, fldV_s, ↓tgt_e, sw_n, ↓sw_c, ↓lk1_h, ↓lk1_m, ↓atC_h, ↓atC_m, ↓atC_n, ltO_n, ltO_s, updR_eq, updR_ne, gI_0i, gI_0l, gI_s, ltM_iff, List.cons.injEq, Sum.inl.injEq, Sum.inr.injEq, Option.some.injEq, exists_eq_left, exists_eq_left', exists_eq_right, exists_eq_right', exists_and_left, exists_and_right, exists_eq, exists_const, and_assoc, ↓j_X_plate_0, ↓f_X_68, List.length_cons, List.length_nil, Nat.zero_add, Nat.reduceAdd, Int.reduceAdd, Int.reduceNeg, Int.reduceToNat, Int.reduceLE, Int.reduceLT, true_and, and_true, Nat.reduceLT, reduceIte, Nat.reduceEqDiff, ne_eq, not_false_eq_true, false_implies, true_implies, Bool.false_eq_true, reduceCtorEq, List.cons_append, List.nil_append, Nat.reduceSub, Nat.reduceLeDiff, Fin.isValue, Int.reduceNatCast', Int.zero_add, Int.add_zero, decide_true, decide_false, implies_true, forall_const, true_or, or_true, or_false, false_or, false_and, and_false, Int.toNat_natCast, ↓oF_0_0, ↓oF_0_1, ↓oF_0_2, ↓oF_0_3, ↓oF_0_4, ↓oF_0_5, ↓oF_0_6, ↓oF_0_7, ↓oF_0_8, ↓oF_0_9, ↓oF_0_10, ↓oF_0_11, oC_0, oC_1, oC_4, oC_11, oC_16, oC_18, oC_20, oC_23, oC_25, oC_26, oC_29, oC_31, oC_33, oC_35, oC_37, isT_29, isT_31, isT_33, isT_35, isL_16, isL_18, isL_26, b2i_0, b2i_1, b2i_01, b2i_r, ↓e_T_at]
    (try simp only [rI_iff, rL_iff] at *)
    repeat' (first | assumption | apply And.intro | intro _)
    all_goals first
      | omega
      | (refine st_ext fun k j => ?_; grind [updR_app, up1_app, b2i])
      | (refine Q_eq hQ ?_ ?_ <;> first | rfl | (refine st_ext fun k j => ?_; grind [updR_app, up1_app, b2i]) | grind [updR_app, up1_app, b2i])
      | grind [updR_app, up1_app, b2i]
def s_X_append : Spec := fun as σ Q => popR as fun o r0 => popL r0 fun row r1 => popI r1 fun n r2 => popI r2 fun most r3 => r3 = [] ∧ (isT o) ∧ (0 ≤ σ o 1 ∧ σ o 1 ≤ most ∧ most ≤ 600) ∧ (rL row) ∧ (rI n) ∧ if (0 ≤ n ∧ n ≤ 60 ∧ 0 ≤ row ∧ row < 2 ^ n.toNat) then (if most < σ o 1 + n then Q (some (.inl (-4))) σ else Q (some (.inl (σ o 1 + n))) (updR (updR σ (o + 1) (addF (σ (o + 1)) row (σ o 1) n n)) o (up1 (σ o) 1 (σ o 1 + n)))) else Q (some (.inl (-2))) σ
theorem e_X_append (o : Nat) (row : Int) (n : Int) (most : Int) (σ : St) (Q : Option AV → St → Prop) : s_X_append [.inr (.inr (some o)), .inr (.inl row), .inl n, .inl most] σ Q = ((isT o) ∧ (0 ≤ σ o 1 ∧ σ o 1 ≤ most ∧ most ≤ 600) ∧ (rL row) ∧ (rI n) ∧ if (0 ≤ n ∧ n ≤ 60 ∧ 0 ≤ row ∧ row < 2 ^ n.toNat) then (if most < σ o 1 + n then Q (some (.inl (-4))) σ else Q (some (.inl (σ o 1 + n))) (updR (updR σ (o + 1) (addF (σ (o + 1)) row (σ o 1) n n)) o (up1 (σ o) 1 (σ o 1 + n)))) else Q (some (.inl (-2))) σ) := by
  show ([] = [] ∧ _) = _
  simp only [true_and]
set_option maxHeartbeats 4000000 in
set_option maxRecDepth 20000 in
theorem S_X_append {l : Launch} : Sat l y_X_append b_X_append 5 (some .int) 2 s_X_append := by
  refine sat_of (Φ := P_X) (κ := Q_X) (Γ := [(82, 0, 2, s_X_isRow), (240, 2, 0, s_T_size), (281, 2, 2, s_T_add)]) (rt := 1) (by decide +kernel) P_X_ok Q_X_ok (by
    refine List.forall_mem_cons.mpr ⟨?_, List.forall_mem_cons.mpr ⟨?_, List.forall_mem_cons.mpr ⟨?_, fun _ h => absurd h List.not_mem_nil⟩⟩⟩
    · exact m_X_isRow S_X_isRow (by decide) l_X_82
    · exact m_T_size S_T_size (by decide) l_X_240
    · exact m_T_add S_T_add (by decide) l_X_281) (by simp) o_X_append ?_
  intro as σ Q hh0
  obtain ⟨o, rr0, rfl, hh1⟩ := popR_inv hh0
  obtain ⟨row, rr1, rfl, hh2⟩ := popL_inv hh1
  obtain ⟨n, rr2, rfl, hh3⟩ := popI_inv hh2
  obtain ⟨most, rr3, rfl, hh4⟩ := popI_inv hh3
  obtain ⟨hrE, hT, ho, hrrow, hrn, hQ⟩ := hh4
  subst hrE
  clear hh0 hh1 hh2 hh3
  refine ⟨Nat.le_of_ble_eq_true rfl, [], 14, ?_, cuts0⟩
  · rw [show entL 5 [.inr (.inr (some o)), .inr (.inl row), .inl n, .inl most] = [.inr (.inr (some o)), .inr (.inl row), .inr (.inr none), .inl n, .inl most] from rfl]
    simp only [↓wpN_go, jmp_e, ↓wp_aload_n0, ↓wp_bipush, ↓wp_iadd, ↓wp_icmp_le, ↓wp_if_ne, ↓wp_iload, ↓wp_iload_n3, ↓wp_invokestatic, ↓wp_invokevirtual, ↓wp_ireturn1, ↓wp_lload_n1, wp_nil, ↓ldI_0, ↓ldI_s, ↓ldL_0, ↓ldL_s, ↓ldR_0, ↓ldR_s, sto1_0, sto1_1, sto1_s, sto2_0, sto2_1, sto2_s, isLong_i, isLong_l, isLong_r, ↓popI_c, ↓popL_c, ↓popR_c, ↓popN_0, ↓popN_s, catS_n, catS_c, psh_s, psh_n, fldV_n, fldV_s, ↓tgt_e, sw_n, ↓sw_c, ↓lk1_h, ↓lk1_m, ↓atC_h, ↓atC_m, ↓atC_n, ltO_n, ltO_s, updR_eq, updR_ne, gI_0i, gI_0l, gI_s, ltM_iff, List.cons.injEq, Sum.inl.injEq, Sum.inr.injEq, Option.some.injEq, exists_eq_left, exists_eq_left', exists_eq_right, exists_eq_right', exists_and_left, exists_and_right, exists_eq, exists_const, and_assoc, ↓j_X_append_0, ↓j_X_append_11, ↓j_X_append_25, List.length_cons, List.length_nil, Nat.zero_add, Nat.reduceAdd, Int.reduceAdd, Int.reduceNeg, Int.reduceToNat, Int.reduceLE, Int.reduceLT, true_and, and_true, Nat.reduceLT, reduceIte, Nat.reduceEqDiff, ne_eq, not_false_eq_true, false_implies, true_implies, Bool.false_eq_true, reduceCtorEq, List.cons_append, List.nil_append, Nat.reduceSub, Nat.reduceLeDiff, Fin.isValue, Int.reduceNatCast', Int.zero_add, Int.add_zero, decide_true, decide_false, implies_true, forall_const, true_or, or_true, or_false, false_or, false_and, and_false, Int.toNat_natCast, ↓oF_0_0, ↓oF_0_1, ↓oF_0_2, ↓oF_0_3, ↓oF_0_4, ↓oF_0_5, ↓oF_0_6, ↓oF_0_7, ↓oF_0_8, ↓oF_0_9, ↓oF_0_10, ↓oF_0_11, oC_0, oC_1, oC_4, oC_11, oC_16, oC_18, oC_20, oC_23, oC_25, oC_26, oC_29, oC_31, oC_33, oC_35, oC_37, isT_29, isT_31, isT_33, isT_35, isL_16, isL_18, isL_26, b2i_0, b2i_1, b2i_01, b2i_r, hT.c, eq_true hT, up1_eq, ↓e_X_isRow, ↓e_T_size, ↓e_T_add]
    generalize (2 : Int) ^ n.toNat = p at *
    have hmin : σ o 1 + n ≤ 600 → min 600 (σ o 1 + n) = σ o 1 + n := fun h => by omega
    (try simp only [rI_iff, rL_iff] at *)
    repeat' (with_reducible (first | assumption | apply And.intro | intro _))
    all_goals first | omega | with_reducible assumption | exact True.intro | skip
    all_goals first
      | grind
      | (rw [hmin (by omega)]; grind)
def s_X_say : Spec := fun as σ Q => popR as fun c0 r0 => popL r0 fun row r1 => popI r1 fun n r2 => r2 = [] ∧ c0 = 0 ∧ (0 ≤ σ 31 1 ∧ σ 31 1 ≤ 240) ∧ (rL row) ∧ (rI n) ∧ if (0 ≤ n ∧ n ≤ 60 ∧ 0 ≤ row ∧ row < 2 ^ n.toNat) then (if 240 < σ 31 1 + n then Q (some (.inl (-4))) σ else Q (some (.inl (σ 31 1 + n))) (updR (updR σ 32 (addF (σ 32) row (σ 31 1) n n)) 31 (up1 (σ 31) 1 (σ 31 1 + n)))) else Q (some (.inl (-2))) σ
theorem e_X_say (row : Int) (n : Int) (σ : St) (Q : Option AV → St → Prop) : s_X_say [.inr (.inr (some 0)), .inr (.inl row), .inl n] σ Q = ((0 ≤ σ 31 1 ∧ σ 31 1 ≤ 240) ∧ (rL row) ∧ (rI n) ∧ if (0 ≤ n ∧ n ≤ 60 ∧ 0 ≤ row ∧ row < 2 ^ n.toNat) then (if 240 < σ 31 1 + n then Q (some (.inl (-4))) σ else Q (some (.inl (σ 31 1 + n))) (updR (updR σ 32 (addF (σ 32) row (σ 31 1) n n)) 31 (up1 (σ 31) 1 (σ 31 1 + n)))) else Q (some (.inl (-2))) σ) := by
  show ([] = [] ∧ _) = _
  simp only [true_and]
set_option maxHeartbeats 4000000 in
set_option maxRecDepth 20000 in
theorem S_X_say {l : Launch} : Sat l y_X_say b_X_say 4 (some .int) 3 s_X_say := by
  refine sat_of (Φ := P_X) (κ := Q_X) (Γ := [(223, 0, 4, s_X_append)]) (rt := 1) (by decide +kernel) P_X_ok Q_X_ok (by
    refine List.forall_mem_cons.mpr ⟨?_, fun _ h => absurd h List.not_mem_nil⟩
    · exact m_X_append S_X_append (by decide) l_X_223) (by simp) o_X_say ?_
  intro as σ Q hh0
  obtain ⟨c0, rr0, rfl, hh1⟩ := popR_inv hh0
  obtain ⟨row, rr1, rfl, hh2⟩ := popL_inv hh1
  obtain ⟨n, rr2, rfl, hh3⟩ := popI_inv hh2
  obtain ⟨hrE, rfl, ho, hrrow, hrn, hQ⟩ := hh3
  subst hrE
  clear hh0 hh1 hh2
  refine ⟨Nat.le_of_ble_eq_true rfl, [], 14, ?_, cuts0⟩
  · rw [show entL 4 [.inr (.inr (some 0)), .inr (.inl row), .inl n] = [.inr (.inr (some 0)), .inr (.inl row), .inr (.inr none), .inl n] from rfl]
    simp only [↓wpN_go, jmp_e, ↓wp_aload_n0, ↓wp_getfield, ↓wp_iload_n3, ↓wp_invokestatic, ↓wp_ireturn1, ↓wp_lload_n1, ↓wp_sipush, wp_nil, ↓ldI_0, ↓ldI_s, ↓ldL_0, ↓ldL_s, ↓ldR_0, ↓ldR_s, sto1_0, sto1_1, sto1_s, sto2_0, sto2_1, sto2_s, isLong_i, isLong_l, isLong_r, ↓popI_c, ↓popL_c, ↓popR_c, ↓popN_0, ↓popN_s, catS_n, catS_c, psh_s, psh_n, fldV_n, fldV_s, ↓tgt_e, sw_n, ↓sw_c, ↓lk1_h, ↓lk1_m, ↓atC_h, ↓atC_m, ↓atC_n, ltO_n, ltO_s, updR_eq, updR_ne, gI_0i, gI_0l, gI_s, ltM_iff, List.cons.injEq, Sum.inl.injEq, Sum.inr.injEq, Option.some.injEq, exists_eq_left, exists_eq_left', exists_eq_right, exists_eq_right', exists_and_left, exists_and_right, exists_eq, exists_const, and_assoc, ↓j_X_say_0, ↓f_X_64, List.length_cons, List.length_nil, Nat.zero_add, Nat.reduceAdd, Int.reduceAdd, Int.reduceNeg, Int.reduceToNat, Int.reduceLE, Int.reduceLT, true_and, and_true, Nat.reduceLT, reduceIte, Nat.reduceEqDiff, ne_eq, not_false_eq_true, false_implies, true_implies, Bool.false_eq_true, reduceCtorEq, List.cons_append, List.nil_append, Nat.reduceSub, Nat.reduceLeDiff, Fin.isValue, Int.reduceNatCast', Int.zero_add, Int.add_zero, decide_true, decide_false, implies_true, forall_const, true_or, or_true, or_false, false_or, false_and, and_false, Int.toNat_natCast, ↓oF_0_0, ↓oF_0_1, ↓oF_0_2, ↓oF_0_3, ↓oF_0_4, ↓oF_0_5, ↓oF_0_6, ↓oF_0_7, ↓oF_0_8, ↓oF_0_9, ↓oF_0_10, ↓oF_0_11, oC_0, oC_1, oC_4, oC_11, oC_16, oC_18, oC_20, oC_23, oC_25, oC_26, oC_29, oC_31, oC_33, oC_35, oC_37, isT_29, isT_31, isT_33, isT_35, isL_16, isL_18, isL_26, b2i_0, b2i_1, b2i_01, b2i_r, ↓e_X_append]
    generalize (2 : Int) ^ n.toNat = p at *
    (try simp only [rI_iff, rL_iff] at *)
    repeat' (with_reducible (first | assumption | apply And.intro | intro _))
    all_goals first | omega | with_reducible assumption | exact True.intro | skip
    all_goals grind
def s_X_put : Spec := fun as σ Q => popR as fun c0 r0 => popL r0 fun row r1 => popI r1 fun n r2 => r2 = [] ∧ c0 = 0 ∧ (0 ≤ σ 33 1 ∧ σ 33 1 ≤ 600) ∧ (rL row) ∧ (rI n) ∧ if (0 ≤ n ∧ n ≤ 60 ∧ 0 ≤ row ∧ row < 2 ^ n.toNat) then (if 600 < σ 33 1 + n then Q (some (.inl (-4))) σ else Q (some (.inl (σ 33 1 + n))) (updR (updR σ 34 (addF (σ 34) row (σ 33 1) n n)) 33 (up1 (σ 33) 1 (σ 33 1 + n)))) else Q (some (.inl (-2))) σ
theorem e_X_put (row : Int) (n : Int) (σ : St) (Q : Option AV → St → Prop) : s_X_put [.inr (.inr (some 0)), .inr (.inl row), .inl n] σ Q = ((0 ≤ σ 33 1 ∧ σ 33 1 ≤ 600) ∧ (rL row) ∧ (rI n) ∧ if (0 ≤ n ∧ n ≤ 60 ∧ 0 ≤ row ∧ row < 2 ^ n.toNat) then (if 600 < σ 33 1 + n then Q (some (.inl (-4))) σ else Q (some (.inl (σ 33 1 + n))) (updR (updR σ 34 (addF (σ 34) row (σ 33 1) n n)) 33 (up1 (σ 33) 1 (σ 33 1 + n)))) else Q (some (.inl (-2))) σ) := by
  show ([] = [] ∧ _) = _
  simp only [true_and]
set_option maxHeartbeats 4000000 in
set_option maxRecDepth 20000 in
theorem S_X_put {l : Launch} : Sat l y_X_put b_X_put 4 (some .int) 3 s_X_put := by
  refine sat_of (Φ := P_X) (κ := Q_X) (Γ := [(223, 0, 4, s_X_append)]) (rt := 1) (by decide +kernel) P_X_ok Q_X_ok (by
    refine List.forall_mem_cons.mpr ⟨?_, fun _ h => absurd h List.not_mem_nil⟩
    · exact m_X_append S_X_append (by decide) l_X_223) (by simp) o_X_put ?_
  intro as σ Q hh0
  obtain ⟨c0, rr0, rfl, hh1⟩ := popR_inv hh0
  obtain ⟨row, rr1, rfl, hh2⟩ := popL_inv hh1
  obtain ⟨n, rr2, rfl, hh3⟩ := popI_inv hh2
  obtain ⟨hrE, rfl, ho, hrrow, hrn, hQ⟩ := hh3
  subst hrE
  clear hh0 hh1 hh2
  refine ⟨Nat.le_of_ble_eq_true rfl, [], 14, ?_, cuts0⟩
  · rw [show entL 4 [.inr (.inr (some 0)), .inr (.inl row), .inl n] = [.inr (.inr (some 0)), .inr (.inl row), .inr (.inr none), .inl n] from rfl]
    simp only [↓wpN_go, jmp_e, ↓wp_aload_n0, ↓wp_getfield, ↓wp_iload_n3, ↓wp_invokestatic, ↓wp_ireturn1, ↓wp_lload_n1, ↓wp_sipush, wp_nil, ↓ldI_0, ↓ldI_s, ↓ldL_0, ↓ldL_s, ↓ldR_0, ↓ldR_s, sto1_0, sto1_1, sto1_s, sto2_0, sto2_1, sto2_s, isLong_i, isLong_l, isLong_r, ↓popI_c, ↓popL_c, ↓popR_c, ↓popN_0, ↓popN_s, catS_n, catS_c, psh_s, psh_n, fldV_n, fldV_s, ↓tgt_e, sw_n, ↓sw_c, ↓lk1_h, ↓lk1_m, ↓atC_h, ↓atC_m, ↓atC_n, ltO_n, ltO_s, updR_eq, updR_ne, gI_0i, gI_0l, gI_s, ltM_iff, List.cons.injEq, Sum.inl.injEq, Sum.inr.injEq, Option.some.injEq, exists_eq_left, exists_eq_left', exists_eq_right, exists_eq_right', exists_and_left, exists_and_right, exists_eq, exists_const, and_assoc, ↓j_X_put_0, ↓f_X_68, List.length_cons, List.length_nil, Nat.zero_add, Nat.reduceAdd, Int.reduceAdd, Int.reduceNeg, Int.reduceToNat, Int.reduceLE, Int.reduceLT, true_and, and_true, Nat.reduceLT, reduceIte, Nat.reduceEqDiff, ne_eq, not_false_eq_true, false_implies, true_implies, Bool.false_eq_true, reduceCtorEq, List.cons_append, List.nil_append, Nat.reduceSub, Nat.reduceLeDiff, Fin.isValue, Int.reduceNatCast', Int.zero_add, Int.add_zero, decide_true, decide_false, implies_true, forall_const, true_or, or_true, or_false, false_or, false_and, and_false, Int.toNat_natCast, ↓oF_0_0, ↓oF_0_1, ↓oF_0_2, ↓oF_0_3, ↓oF_0_4, ↓oF_0_5, ↓oF_0_6, ↓oF_0_7, ↓oF_0_8, ↓oF_0_9, ↓oF_0_10, ↓oF_0_11, oC_0, oC_1, oC_4, oC_11, oC_16, oC_18, oC_20, oC_23, oC_25, oC_26, oC_29, oC_31, oC_33, oC_35, oC_37, isT_29, isT_31, isT_33, isT_35, isL_16, isL_18, isL_26, b2i_0, b2i_1, b2i_01, b2i_r, ↓e_X_append]
    generalize (2 : Int) ^ n.toNat = p at *
    (try simp only [rI_iff, rL_iff] at *)
    repeat' (with_reducible (first | assumption | apply And.intro | intro _))
    all_goals first | omega | with_reducible assumption | exact True.intro | skip
    all_goals grind
def s_X_hush : Spec := fun as σ Q => popR as fun c0 r0 => r0 = [] ∧ c0 = 0 ∧ (0 ≤ σ 31 1 ∧ σ 31 1 ≤ 600) ∧ Q (some (.inl (σ 31 1))) (updR σ 31 (up1 (σ 31) 1 0))
theorem e_X_hush  (σ : St) (Q : Option AV → St → Prop) : s_X_hush [.inr (.inr (some 0))] σ Q = ((0 ≤ σ 31 1 ∧ σ 31 1 ≤ 600) ∧ Q (some (.inl (σ 31 1))) (updR σ 31 (up1 (σ 31) 1 0))) := by
  show ([] = [] ∧ _) = _
  simp only [true_and]
set_option maxHeartbeats 4000000 in
set_option maxRecDepth 20000 in
theorem S_X_hush {l : Launch} : Sat l y_X_hush b_X_hush 1 (some .int) 2 s_X_hush := by
  refine sat_of (Φ := P_X) (κ := Q_X) (Γ := [(227, 2, 1, s_T_keep)]) (rt := 1) (by decide +kernel) P_X_ok Q_X_ok (by
    refine List.forall_mem_cons.mpr ⟨?_, fun _ h => absurd h List.not_mem_nil⟩
    · exact m_T_keep S_T_keep (by decide) l_X_227) (by simp) o_X_hush ?_
  intro as σ Q hh0
  obtain ⟨c0, rr0, rfl, hh1⟩ := popR_inv hh0
  obtain ⟨hrE, rfl, h31, hQ⟩ := hh1
  subst hrE
  clear hh0
  refine ⟨Nat.le_of_ble_eq_true rfl, [], 14, ?_, cuts0⟩
  · rw [show entL 1 [.inr (.inr (some 0))] = [.inr (.inr (some 0))] from rfl]
    simp only [↓wpN_go, jmp_e, ↓wp_aload_n0, ↓wp_getfield, ↓wp_iconst, ↓wp_invokevirtual, ↓wp_ireturn1, wp_nil, ↓ldI_0, ↓ldI_s, ↓ldL_0, ↓ldL_s, ↓ldR_0, ↓ldR_s, sto1_0, sto1_1, sto1_s, sto2_0, sto2_1, sto2_s, isLong_i, isLong_l, isLong_r, ↓popI_c, ↓popL_c, ↓popR_c, ↓popN_0, ↓popN_s, catS_n, catS_c, psh_s, psh_n, fldV_n, fldV_s, ↓tgt_e, sw_n, ↓sw_c, ↓lk1_h, ↓lk1_m, ↓atC_h, ↓atC_m, ↓atC_n, ltO_n, ltO_s, updR_eq, updR_ne, gI_0i, gI_0l, gI_s, ltM_iff, List.cons.injEq, Sum.inl.injEq, Sum.inr.injEq, Option.some.injEq, exists_eq_left, exists_eq_left', exists_eq_right, exists_eq_right', exists_and_left, exists_and_right, exists_eq, exists_const, and_assoc, ↓j_X_hush_0, ↓f_X_64, List.length_cons, List.length_nil, Nat.zero_add, Nat.reduceAdd, Int.reduceAdd, Int.reduceNeg, Int.reduceToNat, Int.reduceLE, Int.reduceLT, true_and, and_true, Nat.reduceLT, reduceIte, Nat.reduceEqDiff, ne_eq, not_false_eq_true, false_implies, true_implies, Bool.false_eq_true, reduceCtorEq, List.cons_append, List.nil_append, Nat.reduceSub, Nat.reduceLeDiff, Fin.isValue, Int.reduceNatCast', Int.zero_add, Int.add_zero, decide_true, decide_false, implies_true, forall_const, true_or, or_true, or_false, false_or, false_and, and_false, Int.toNat_natCast, ↓oF_0_0, ↓oF_0_1, ↓oF_0_2, ↓oF_0_3, ↓oF_0_4, ↓oF_0_5, ↓oF_0_6, ↓oF_0_7, ↓oF_0_8, ↓oF_0_9, ↓oF_0_10, ↓oF_0_11, oC_0, oC_1, oC_4, oC_11, oC_16, oC_18, oC_20, oC_23, oC_25, oC_26, oC_29, oC_31, oC_33, oC_35, oC_37, isT_29, isT_31, isT_33, isT_35, isL_16, isL_18, isL_26, b2i_0, b2i_1, b2i_01, b2i_r, ↓e_T_keep]
    have hm : max 0 (min (σ 31 1) 0) = 0 := by omega
    simp only [hm, Int.sub_zero]
    (try simp only [rI_iff, rL_iff] at *)
    repeat' (with_reducible (first | assumption | apply And.intro | intro _))
    all_goals first | omega | with_reducible assumption | exact True.intro | skip
    all_goals grind
def s_X_cut : Spec := fun as σ Q => popR as fun c0 r0 => popI r0 fun n r1 => r1 = [] ∧ c0 = 0 ∧ (0 ≤ σ 33 1 ∧ σ 33 1 ≤ 600) ∧ (rI n) ∧ if 0 ≤ n ∧ n ≤ σ 33 1 then Q (some (.inl (σ 33 1 - n))) (updR σ 33 (up1 (σ 33) 1 n)) else Q (some (.inl (-2))) σ
theorem e_X_cut (n : Int) (σ : St) (Q : Option AV → St → Prop) : s_X_cut [.inr (.inr (some 0)), .inl n] σ Q = ((0 ≤ σ 33 1 ∧ σ 33 1 ≤ 600) ∧ (rI n) ∧ if 0 ≤ n ∧ n ≤ σ 33 1 then Q (some (.inl (σ 33 1 - n))) (updR σ 33 (up1 (σ 33) 1 n)) else Q (some (.inl (-2))) σ) := by
  show ([] = [] ∧ _) = _
  simp only [true_and]
set_option maxHeartbeats 4000000 in
set_option maxRecDepth 20000 in
theorem S_X_cut {l : Launch} : Sat l y_X_cut b_X_cut 2 (some .int) 2 s_X_cut := by
  refine sat_of (Φ := P_X) (κ := Q_X) (Γ := [(240, 2, 0, s_T_size), (74, 0, 3, s_X_isWithin), (227, 2, 1, s_T_keep)]) (rt := 1) (by decide +kernel) P_X_ok Q_X_ok (by
    refine List.forall_mem_cons.mpr ⟨?_, List.forall_mem_cons.mpr ⟨?_, List.forall_mem_cons.mpr ⟨?_, fun _ h => absurd h List.not_mem_nil⟩⟩⟩
    · exact m_T_size S_T_size (by decide) l_X_240
    · exact m_X_isWithin S_X_isWithin (by decide) l_X_74
    · exact m_T_keep S_T_keep (by decide) l_X_227) (by simp) o_X_cut ?_
  intro as σ Q hh0
  obtain ⟨c0, rr0, rfl, hh1⟩ := popR_inv hh0
  obtain ⟨n, rr1, rfl, hh2⟩ := popI_inv hh1
  obtain ⟨hrE, rfl, h33, hrn, hQ⟩ := hh2
  subst hrE
  clear hh0 hh1
  refine ⟨Nat.le_of_ble_eq_true rfl, [], 14, ?_, cuts0⟩
  · rw [show entL 2 [.inr (.inr (some 0)), .inl n] = [.inr (.inr (some 0)), .inl n] from rfl]
    simp only [↓wpN_go, jmp_e, ↓wp_aload_n0, ↓wp_bipush, ↓wp_getfield, ↓wp_iconst, ↓wp_if_ne, ↓wp_iload_n1, ↓wp_invokestatic, ↓wp_invokevirtual, ↓wp_ireturn1, wp_nil, ↓ldI_0, ↓ldI_s, ↓ldL_0, ↓ldL_s, ↓ldR_0, ↓ldR_s, sto1_0, sto1_1, sto1_s, sto2_0, sto2_1, sto2_s, isLong_i, isLong_l, isLong_r, ↓popI_c, ↓popL_c, ↓popR_c, ↓popN_0, ↓popN_s, catS_n, catS_c, psh_s, psh_n, fldV_n, fldV_s, ↓tgt_e, sw_n, ↓sw_c, ↓lk1_h, ↓lk1_m, ↓atC_h, ↓atC_m, ↓atC_n, ltO_n, ltO_s, updR_eq, updR_ne, gI_0i, gI_0l, gI_s, ltM_iff, List.cons.injEq, Sum.inl.injEq, Sum.inr.injEq, Option.some.injEq, exists_eq_left, exists_eq_left', exists_eq_right, exists_eq_right', exists_and_left, exists_and_right, exists_eq, exists_const, and_assoc, ↓j_X_cut_0, ↓j_X_cut_18, ↓f_X_68, List.length_cons, List.length_nil, Nat.zero_add, Nat.reduceAdd, Int.reduceAdd, Int.reduceNeg, Int.reduceToNat, Int.reduceLE, Int.reduceLT, true_and, and_true, Nat.reduceLT, reduceIte, Nat.reduceEqDiff, ne_eq, not_false_eq_true, false_implies, true_implies, Bool.false_eq_true, reduceCtorEq, List.cons_append, List.nil_append, Nat.reduceSub, Nat.reduceLeDiff, Fin.isValue, Int.reduceNatCast', Int.zero_add, Int.add_zero, decide_true, decide_false, implies_true, forall_const, true_or, or_true, or_false, false_or, false_and, and_false, Int.toNat_natCast, ↓oF_0_0, ↓oF_0_1, ↓oF_0_2, ↓oF_0_3, ↓oF_0_4, ↓oF_0_5, ↓oF_0_6, ↓oF_0_7, ↓oF_0_8, ↓oF_0_9, ↓oF_0_10, ↓oF_0_11, oC_0, oC_1, oC_4, oC_11, oC_16, oC_18, oC_20, oC_23, oC_25, oC_26, oC_29, oC_31, oC_33, oC_35, oC_37, isT_29, isT_31, isT_33, isT_35, isL_16, isL_18, isL_26, b2i_0, b2i_1, b2i_01, b2i_r, ↓e_T_size, ↓e_X_isWithin, ↓e_T_keep]
    have hm : 0 ≤ n ∧ n ≤ σ 33 1 → max 0 (min (σ 33 1) n) = n := fun h => by omega
    by_cases hc : 0 ≤ n ∧ n ≤ σ 33 1
    · rw [hm hc]
      (try simp only [rI_iff, rL_iff] at *)
      repeat' (with_reducible (first | assumption | apply And.intro | intro _))
      all_goals first | omega | with_reducible assumption | exact True.intro | skip
      all_goals grind
    · (try simp only [rI_iff, rL_iff] at *)
      repeat' (with_reducible (first | assumption | apply And.intro | intro _))
      all_goals first | omega | with_reducible assumption | exact True.intro | skip
      all_goals grind
    
def s_X_spoil : Spec := fun as σ Q => popR as fun c0 r0 => popI r0 fun i r1 => r1 = [] ∧ c0 = 0 ∧ (0 ≤ σ 33 1 ∧ σ 33 1 ≤ 600) ∧ (isBits (σ 34)) ∧ (rI i) ∧ Q (some (.inl (if 0 ≤ i ∧ i < σ 33 1 then σ 34 i.toNat else -2))) (if 0 ≤ i ∧ i < σ 33 1 then updR σ 34 (up1 (σ 34) i.toNat (1 - σ 34 i.toNat)) else σ)
theorem e_X_spoil (i : Int) (σ : St) (Q : Option AV → St → Prop) : s_X_spoil [.inr (.inr (some 0)), .inl i] σ Q = ((0 ≤ σ 33 1 ∧ σ 33 1 ≤ 600) ∧ (isBits (σ 34)) ∧ (rI i) ∧ Q (some (.inl (if 0 ≤ i ∧ i < σ 33 1 then σ 34 i.toNat else -2))) (if 0 ≤ i ∧ i < σ 33 1 then updR σ 34 (up1 (σ 34) i.toNat (1 - σ 34 i.toNat)) else σ)) := by
  show ([] = [] ∧ _) = _
  simp only [true_and]
set_option maxHeartbeats 4000000 in
set_option maxRecDepth 20000 in
theorem S_X_spoil {l : Launch} : Sat l y_X_spoil b_X_spoil 2 (some .int) 2 s_X_spoil := by
  refine sat_of (Φ := P_X) (κ := Q_X) (Γ := [(249, 2, 1, s_T_flip)]) (rt := 1) (by decide +kernel) P_X_ok Q_X_ok (by
    refine List.forall_mem_cons.mpr ⟨?_, fun _ h => absurd h List.not_mem_nil⟩
    · exact m_T_flip S_T_flip (by decide) l_X_249) (by simp) o_X_spoil ?_
  intro as σ Q hh0
  obtain ⟨c0, rr0, rfl, hh1⟩ := popR_inv hh0
  obtain ⟨i, rr1, rfl, hh2⟩ := popI_inv hh1
  obtain ⟨hrE, rfl, h33, hb, hri, hQ⟩ := hh2
  subst hrE
  clear hh0 hh1
  refine ⟨Nat.le_of_ble_eq_true rfl, [], 14, ?_, cuts0⟩
  · rw [show entL 2 [.inr (.inr (some 0)), .inl i] = [.inr (.inr (some 0)), .inl i] from rfl]
    simp only [↓wpN_go, jmp_e, ↓wp_aload_n0, ↓wp_getfield, ↓wp_iload_n1, ↓wp_invokevirtual, ↓wp_ireturn1, wp_nil, ↓ldI_0, ↓ldI_s, ↓ldL_0, ↓ldL_s, ↓ldR_0, ↓ldR_s, sto1_0, sto1_1, sto1_s, sto2_0, sto2_1, sto2_s, isLong_i, isLong_l, isLong_r, ↓popI_c, ↓popL_c, ↓popR_c, ↓popN_0, ↓popN_s, catS_n, catS_c, psh_s, psh_n, fldV_n, fldV_s, ↓tgt_e, sw_n, ↓sw_c, ↓lk1_h, ↓lk1_m, ↓atC_h, ↓atC_m, ↓atC_n, ltO_n, ltO_s, updR_eq, updR_ne, gI_0i, gI_0l, gI_s, ltM_iff, List.cons.injEq, Sum.inl.injEq, Sum.inr.injEq, Option.some.injEq, exists_eq_left, exists_eq_left', exists_eq_right, exists_eq_right', exists_and_left, exists_and_right, exists_eq, exists_const, and_assoc, ↓j_X_spoil_0, ↓f_X_68, List.length_cons, List.length_nil, Nat.zero_add, Nat.reduceAdd, Int.reduceAdd, Int.reduceNeg, Int.reduceToNat, Int.reduceLE, Int.reduceLT, true_and, and_true, Nat.reduceLT, reduceIte, Nat.reduceEqDiff, ne_eq, not_false_eq_true, false_implies, true_implies, Bool.false_eq_true, reduceCtorEq, List.cons_append, List.nil_append, Nat.reduceSub, Nat.reduceLeDiff, Fin.isValue, Int.reduceNatCast', Int.zero_add, Int.add_zero, decide_true, decide_false, implies_true, forall_const, true_or, or_true, or_false, false_or, false_and, and_false, Int.toNat_natCast, ↓oF_0_0, ↓oF_0_1, ↓oF_0_2, ↓oF_0_3, ↓oF_0_4, ↓oF_0_5, ↓oF_0_6, ↓oF_0_7, ↓oF_0_8, ↓oF_0_9, ↓oF_0_10, ↓oF_0_11, oC_0, oC_1, oC_4, oC_11, oC_16, oC_18, oC_20, oC_23, oC_25, oC_26, oC_29, oC_31, oC_33, oC_35, oC_37, isT_29, isT_31, isT_33, isT_35, isL_16, isL_18, isL_26, b2i_0, b2i_1, b2i_01, b2i_r, ↓e_T_flip]
    (try simp only [rI_iff, rL_iff] at *)
    repeat' (with_reducible (first | assumption | apply And.intro | intro _))
    all_goals first | omega | with_reducible assumption | exact True.intro | skip
    all_goals grind
def s_X_shape : Spec := fun as σ Q => popR as fun c0 r0 => popI r0 fun w r1 => r1 = [] ∧ c0 = 0 ∧ (0 ≤ σ 33 1 ∧ σ 33 1 ≤ 600) ∧ (isBits (σ 34)) ∧ (rI w) ∧ Q (some (.inl (if w = 0 then leastF (σ 34) (σ 33 1).toNat else if w = 1 then greatF (σ 34) (σ 33 1).toNat else if w = 2 then sqF (σ 34) (σ 33 1).toNat else if w = 3 then longF (σ 34) (σ 33 1).toNat else if w = 4 then turnF (σ 34) (σ 33 1).toNat else -2))) σ
theorem e_X_shape (w : Int) (σ : St) (Q : Option AV → St → Prop) : s_X_shape [.inr (.inr (some 0)), .inl w] σ Q = ((0 ≤ σ 33 1 ∧ σ 33 1 ≤ 600) ∧ (isBits (σ 34)) ∧ (rI w) ∧ Q (some (.inl (if w = 0 then leastF (σ 34) (σ 33 1).toNat else if w = 1 then greatF (σ 34) (σ 33 1).toNat else if w = 2 then sqF (σ 34) (σ 33 1).toNat else if w = 3 then longF (σ 34) (σ 33 1).toNat else if w = 4 then turnF (σ 34) (σ 33 1).toNat else -2))) σ) := by
  show ([] = [] ∧ _) = _
  simp only [true_and]
set_option maxHeartbeats 4000000 in
set_option maxRecDepth 20000 in
theorem S_X_shape {l : Launch} : Sat l y_X_shape b_X_shape 2 (some .int) 2 s_X_shape := by
  refine sat_of (Φ := P_X) (κ := Q_X) (Γ := [(252, 2, 0, s_T_leastLean), (255, 2, 0, s_T_greatestLean), (258, 2, 0, s_T_leanSquares), (261, 2, 0, s_T_longestRun), (264, 2, 0, s_T_turns)]) (rt := 1) (by decide +kernel) P_X_ok Q_X_ok (by
    refine List.forall_mem_cons.mpr ⟨?_, List.forall_mem_cons.mpr ⟨?_, List.forall_mem_cons.mpr ⟨?_, List.forall_mem_cons.mpr ⟨?_, List.forall_mem_cons.mpr ⟨?_, fun _ h => absurd h List.not_mem_nil⟩⟩⟩⟩⟩
    · exact m_T_leastLean S_T_leastLean (by decide) l_X_252
    · exact m_T_greatestLean S_T_greatestLean (by decide) l_X_255
    · exact m_T_leanSquares S_T_leanSquares (by decide) l_X_258
    · exact m_T_longestRun S_T_longestRun (by decide) l_X_261
    · exact m_T_turns S_T_turns (by decide) l_X_264) (by simp) o_X_shape ?_
  intro as σ Q hh0
  obtain ⟨c0, rr0, rfl, hh1⟩ := popR_inv hh0
  obtain ⟨w, rr1, rfl, hh2⟩ := popI_inv hh1
  obtain ⟨hrE, rfl, h33, hb, hrw, hQ⟩ := hh2
  subst hrE
  clear hh0 hh1
  refine ⟨Nat.le_of_ble_eq_true rfl, [], 14, ?_, cuts0⟩
  · rw [show entL 2 [.inr (.inr (some 0)), .inl w] = [.inr (.inr (some 0)), .inl w] from rfl]
    simp only [↓wpN_go, jmp_e, ↓wp_aload_n0, ↓wp_bipush, ↓wp_getfield, ↓wp_iload_n1, ↓wp_invokevirtual, ↓wp_ireturn1, ↓wp_tableswitch, wp_nil, ↓ldI_0, ↓ldI_s, ↓ldL_0, ↓ldL_s, ↓ldR_0, ↓ldR_s, sto1_0, sto1_1, sto1_s, sto2_0, sto2_1, sto2_s, isLong_i, isLong_l, isLong_r, ↓popI_c, ↓popL_c, ↓popR_c, ↓popN_0, ↓popN_s, catS_n, catS_c, psh_s, psh_n, fldV_n, fldV_s, ↓tgt_e, sw_n, ↓sw_c, ↓lk1_h, ↓lk1_m, ↓atC_h, ↓atC_m, ↓atC_n, ltO_n, ltO_s, updR_eq, updR_ne, gI_0i, gI_0l, gI_s, ltM_iff, List.cons.injEq, Sum.inl.injEq, Sum.inr.injEq, Option.some.injEq, exists_eq_left, exists_eq_left', exists_eq_right, exists_eq_right', exists_and_left, exists_and_right, exists_eq, exists_const, and_assoc, ↓j_X_shape_0, ↓j_X_shape_36, ↓j_X_shape_44, ↓j_X_shape_52, ↓j_X_shape_60, ↓j_X_shape_68, ↓j_X_shape_76, ↓f_X_68, List.length_cons, List.length_nil, Nat.zero_add, Nat.reduceAdd, Int.reduceAdd, Int.reduceNeg, Int.reduceToNat, Int.reduceLE, Int.reduceLT, true_and, and_true, Nat.reduceLT, reduceIte, Nat.reduceEqDiff, ne_eq, not_false_eq_true, false_implies, true_implies, Bool.false_eq_true, reduceCtorEq, List.cons_append, List.nil_append, Nat.reduceSub, Nat.reduceLeDiff, Fin.isValue, Int.reduceNatCast', Int.zero_add, Int.add_zero, decide_true, decide_false, implies_true, forall_const, true_or, or_true, or_false, false_or, false_and, and_false, Int.toNat_natCast, ↓oF_0_0, ↓oF_0_1, ↓oF_0_2, ↓oF_0_3, ↓oF_0_4, ↓oF_0_5, ↓oF_0_6, ↓oF_0_7, ↓oF_0_8, ↓oF_0_9, ↓oF_0_10, ↓oF_0_11, oC_0, oC_1, oC_4, oC_11, oC_16, oC_18, oC_20, oC_23, oC_25, oC_26, oC_29, oC_31, oC_33, oC_35, oC_37, isT_29, isT_31, isT_33, isT_35, isL_16, isL_18, isL_26, b2i_0, b2i_1, b2i_01, b2i_r, ↓e_T_leastLean, ↓e_T_greatestLean, ↓e_T_leanSquares, ↓e_T_longestRun, ↓e_T_turns]
    (try simp only [rI_iff, rL_iff] at *)
    repeat' (with_reducible (first | assumption | apply And.intro | intro _))
    all_goals first | omega | with_reducible assumption | exact True.intro | skip
    all_goals grind
def s_X_count1 : Spec := fun as σ Q => popR as fun c0 r0 => popI r0 fun w r1 => r1 = [] ∧ c0 = 0 ∧ (rI w) ∧ Q (some (.inl (if w = 0 then σ 31 1 else if w = 1 then σ 33 1 else if w = 2 then σ 11 4 else if w = 3 then σ 25 3 else if w = 4 then σ 25 4 else if w = 5 then σ 25 5 else if w = 6 then σ 25 6 else if w = 7 then σ 0 11 else -2))) σ
theorem e_X_count1 (w : Int) (σ : St) (Q : Option AV → St → Prop) : s_X_count1 [.inr (.inr (some 0)), .inl w] σ Q = ((rI w) ∧ Q (some (.inl (if w = 0 then σ 31 1 else if w = 1 then σ 33 1 else if w = 2 then σ 11 4 else if w = 3 then σ 25 3 else if w = 4 then σ 25 4 else if w = 5 then σ 25 5 else if w = 6 then σ 25 6 else if w = 7 then σ 0 11 else -2))) σ) := by
  show ([] = [] ∧ _) = _
  simp only [true_and]
set_option maxHeartbeats 4000000 in
set_option maxRecDepth 20000 in
theorem S_X_count1 {l : Launch} : Sat l y_X_count1 b_X_count1 2 (some .int) 1 s_X_count1 := by
  refine sat_of (Φ := P_X) (κ := Q_X) (Γ := [(240, 2, 0, s_T_size), (130, 8, 0, s_W_size), (202, 3, 0, s_C_size), (210, 3, 0, s_C_pieceLength), (217, 3, 0, s_C_wordLength), (267, 3, 0, s_C_home)]) (rt := 1) (by decide +kernel) P_X_ok Q_X_ok (by
    refine List.forall_mem_cons.mpr ⟨?_, List.forall_mem_cons.mpr ⟨?_, List.forall_mem_cons.mpr ⟨?_, List.forall_mem_cons.mpr ⟨?_, List.forall_mem_cons.mpr ⟨?_, List.forall_mem_cons.mpr ⟨?_, fun _ h => absurd h List.not_mem_nil⟩⟩⟩⟩⟩⟩
    · exact m_T_size S_T_size (by decide) l_X_240
    · exact m_W_size S_W_size (by decide) l_X_130
    · exact m_C_size S_C_size (by decide) l_X_202
    · exact m_C_pieceLength S_C_pieceLength (by decide) l_X_210
    · exact m_C_wordLength S_C_wordLength (by decide) l_X_217
    · exact m_C_home S_C_home (by decide) l_X_267) (by simp) o_X_count1 ?_
  intro as σ Q hh0
  obtain ⟨c0, rr0, rfl, hh1⟩ := popR_inv hh0
  obtain ⟨w, rr1, rfl, hh2⟩ := popI_inv hh1
  obtain ⟨hrE, rfl, hrw, hQ⟩ := hh2
  subst hrE
  clear hh0 hh1
  refine ⟨Nat.le_of_ble_eq_true rfl, [], 14, ?_, cuts0⟩
  · rw [show entL 2 [.inr (.inr (some 0)), .inl w] = [.inr (.inr (some 0)), .inl w] from rfl]
    simp only [↓wpN_go, jmp_e, ↓wp_aload_n0, ↓wp_bipush, ↓wp_getfield, ↓wp_iload_n1, ↓wp_invokevirtual, ↓wp_ireturn1, ↓wp_tableswitch, wp_nil, ↓ldI_0, ↓ldI_s, ↓ldL_0, ↓ldL_s, ↓ldR_0, ↓ldR_s, sto1_0, sto1_1, sto1_s, sto2_0, sto2_1, sto2_s, isLong_i, isLong_l, isLong_r, ↓popI_c, ↓popL_c, ↓popR_c, ↓popN_0, ↓popN_s, catS_n, catS_c, psh_s, psh_n, fldV_n, fldV_s, ↓tgt_e, sw_n, ↓sw_c, ↓lk1_h, ↓lk1_m, ↓atC_h, ↓atC_m, ↓atC_n, ltO_n, ltO_s, updR_eq, updR_ne, gI_0i, gI_0l, gI_s, ltM_iff, List.cons.injEq, Sum.inl.injEq, Sum.inr.injEq, Option.some.injEq, exists_eq_left, exists_eq_left', exists_eq_right, exists_eq_right', exists_and_left, exists_and_right, exists_eq, exists_const, and_assoc, ↓j_X_count1_0, ↓j_X_count1_48, ↓j_X_count1_56, ↓j_X_count1_64, ↓j_X_count1_72, ↓j_X_count1_80, ↓j_X_count1_88, ↓j_X_count1_96, ↓j_X_count1_104, ↓j_X_count1_109, ↓f_X_102, ↓f_X_26, ↓f_X_57, ↓f_X_64, ↓f_X_68, List.length_cons, List.length_nil, Nat.zero_add, Nat.reduceAdd, Int.reduceAdd, Int.reduceNeg, Int.reduceToNat, Int.reduceLE, Int.reduceLT, true_and, and_true, Nat.reduceLT, reduceIte, Nat.reduceEqDiff, ne_eq, not_false_eq_true, false_implies, true_implies, Bool.false_eq_true, reduceCtorEq, List.cons_append, List.nil_append, Nat.reduceSub, Nat.reduceLeDiff, Fin.isValue, Int.reduceNatCast', Int.zero_add, Int.add_zero, decide_true, decide_false, implies_true, forall_const, true_or, or_true, or_false, false_or, false_and, and_false, Int.toNat_natCast, ↓oF_0_0, ↓oF_0_1, ↓oF_0_2, ↓oF_0_3, ↓oF_0_4, ↓oF_0_5, ↓oF_0_6, ↓oF_0_7, ↓oF_0_8, ↓oF_0_9, ↓oF_0_10, ↓oF_0_11, oC_0, oC_1, oC_4, oC_11, oC_16, oC_18, oC_20, oC_23, oC_25, oC_26, oC_29, oC_31, oC_33, oC_35, oC_37, isT_29, isT_31, isT_33, isT_35, isL_16, isL_18, isL_26, b2i_0, b2i_1, b2i_01, b2i_r, ↓e_T_size, ↓e_W_size, ↓e_C_size, ↓e_C_pieceLength, ↓e_C_wordLength, ↓e_C_home]
    (try simp only [rI_iff, rL_iff] at *)
    repeat' (with_reducible (first | assumption | apply And.intro | intro _))
    all_goals first | omega | with_reducible assumption | exact True.intro | skip
    all_goals first | rfl | grind
def s_X_mark : Spec := fun as σ Q => popR as fun c0 r0 => popI r0 fun most r1 => r1 = [] ∧ c0 = 0 ∧ (0 ≤ σ 11 4 ∧ σ 11 4 ≤ 100) ∧ (Wire (σ 11 4) (σ 12)) ∧ (MissOK (σ 11 4) (σ 12) σ) ∧ (rI most) ∧ if 1 ≤ most ∧ most ≤ 12 then (if σ 11 4 = 0 then Q (some (.inl (-3))) σ else ∀ σ' r, MarkSt (σ 11 4) (σ 12) σ σ' most r → Q (some (.inl r)) σ') else Q (some (.inl (-2))) σ
theorem e_X_mark (most : Int) (σ : St) (Q : Option AV → St → Prop) : s_X_mark [.inr (.inr (some 0)), .inl most] σ Q = ((0 ≤ σ 11 4 ∧ σ 11 4 ≤ 100) ∧ (Wire (σ 11 4) (σ 12)) ∧ (MissOK (σ 11 4) (σ 12) σ) ∧ (rI most) ∧ if 1 ≤ most ∧ most ≤ 12 then (if σ 11 4 = 0 then Q (some (.inl (-3))) σ else ∀ σ' r, MarkSt (σ 11 4) (σ 12) σ σ' most r → Q (some (.inl r)) σ') else Q (some (.inl (-2))) σ) := by
  show ([] = [] ∧ _) = _
  simp only [true_and]
set_option maxHeartbeats 4000000 in
set_option maxRecDepth 20000 in
theorem S_X_mark {l : Launch} : Sat l y_X_mark b_X_mark 2 (some .int) 5 s_X_mark := by
  refine sat_of (Φ := P_X) (κ := Q_X) (Γ := [(74, 0, 3, s_X_isWithin), (130, 8, 0, s_W_size), (168, 6, 2, s_S_find)]) (rt := 1) (by decide +kernel) P_X_ok Q_X_ok (by
    refine List.forall_mem_cons.mpr ⟨?_, List.forall_mem_cons.mpr ⟨?_, List.forall_mem_cons.mpr ⟨?_, fun _ h => absurd h List.not_mem_nil⟩⟩⟩
    · exact m_X_isWithin S_X_isWithin (by decide) l_X_74
    · exact m_W_size S_W_size (by decide) l_X_130
    · exact m_S_find S_S_find (by decide) l_X_168) (by simp) o_X_mark ?_
  intro as σ Q hh0
  obtain ⟨c0, rr0, rfl, hh1⟩ := popR_inv hh0
  obtain ⟨most, rr1, rfl, hh2⟩ := popI_inv hh1
  obtain ⟨hrE, rfl, hN, hf, hok, hrm, hQ⟩ := hh2
  subst hrE
  clear hh0 hh1
  refine ⟨Nat.le_of_ble_eq_true rfl, [], 14, ?_, cuts0⟩
  · rw [show entL 2 [.inr (.inr (some 0)), .inl most] = [.inr (.inr (some 0)), .inl most] from rfl]
    simp only [↓wpN_go, jmp_e, ↓wp_aload_n0, ↓wp_bipush, ↓wp_getfield, ↓wp_iconst, ↓wp_if_ne, ↓wp_iload_n1, ↓wp_invokestatic, ↓wp_invokevirtual, ↓wp_ireturn1, wp_nil, ↓ldI_0, ↓ldI_s, ↓ldL_0, ↓ldL_s, ↓ldR_0, ↓ldR_s, sto1_0, sto1_1, sto1_s, sto2_0, sto2_1, sto2_s, isLong_i, isLong_l, isLong_r, ↓popI_c, ↓popL_c, ↓popR_c, ↓popN_0, ↓popN_s, catS_n, catS_c, psh_s, psh_n, fldV_n, fldV_s, ↓tgt_e, sw_n, ↓sw_c, ↓lk1_h, ↓lk1_m, ↓atC_h, ↓atC_m, ↓atC_n, ltO_n, ltO_s, updR_eq, updR_ne, gI_0i, gI_0l, gI_s, ltM_iff, List.cons.injEq, Sum.inl.injEq, Sum.inr.injEq, Option.some.injEq, exists_eq_left, exists_eq_left', exists_eq_right, exists_eq_right', exists_and_left, exists_and_right, exists_eq, exists_const, and_assoc, ↓j_X_mark_0, ↓j_X_mark_13, ↓j_X_mark_26, ↓f_X_26, ↓f_X_43, List.length_cons, List.length_nil, Nat.zero_add, Nat.reduceAdd, Int.reduceAdd, Int.reduceNeg, Int.reduceToNat, Int.reduceLE, Int.reduceLT, true_and, and_true, Nat.reduceLT, reduceIte, Nat.reduceEqDiff, ne_eq, not_false_eq_true, false_implies, true_implies, Bool.false_eq_true, reduceCtorEq, List.cons_append, List.nil_append, Nat.reduceSub, Nat.reduceLeDiff, Fin.isValue, Int.reduceNatCast', Int.zero_add, Int.add_zero, decide_true, decide_false, implies_true, forall_const, true_or, or_true, or_false, false_or, false_and, and_false, Int.toNat_natCast, ↓oF_0_0, ↓oF_0_1, ↓oF_0_2, ↓oF_0_3, ↓oF_0_4, ↓oF_0_5, ↓oF_0_6, ↓oF_0_7, ↓oF_0_8, ↓oF_0_9, ↓oF_0_10, ↓oF_0_11, oC_0, oC_1, oC_4, oC_11, oC_16, oC_18, oC_20, oC_23, oC_25, oC_26, oC_29, oC_31, oC_33, oC_35, oC_37, isT_29, isT_31, isT_33, isT_35, isL_16, isL_18, isL_26, b2i_0, b2i_1, b2i_01, b2i_r, ↓e_X_isWithin, ↓e_W_size, ↓e_S_find]
    (try simp only [rI_iff, rL_iff] at *)
    repeat' (with_reducible (first | assumption | apply And.intro | intro _))
    all_goals first | omega | with_reducible assumption | exact True.intro | skip
    all_goals grind
theorem allB_le {w : Nat → Int} {N M B : Int} (h : AllB w M B) (h1 : N ≤ M) : AllB w N B := fun s hs => h s (by omega)
theorem allB_I {w : Nat → Int} {B : Int} (h : AllB w 100 B) (h1 : B ≤ 2147483647) : AllI w 100 := fun s hs => by
  have := h s (by omega)
  unfold rI
  omega
def s_X_judge : Spec := fun as σ Q => popR as fun c0 r0 => popI r0 fun m r1 => popI r1 fun n r2 => r2 = [] ∧ c0 = 0 ∧ (0 ≤ σ 11 4 ∧ σ 11 4 ≤ 100) ∧ (Wire (σ 11 4) (σ 12)) ∧ (AllB (σ 24) 100 1000000) ∧ (∀ s : Nat, ¬ (s : Int) < σ 11 4 → σ 24 s = 0) ∧ (rI m) ∧ (rI n) ∧ if 0 ≤ m ∧ m ≤ 12 ∧ 1 ≤ n ∧ n ≤ 12 then (if σ 11 4 = 0 then Q (some (.inl (-3))) σ else (sumF (σ 24) 100 = 0 → Q (some (.inl 0)) σ) ∧ (sumF (σ 24) 100 ≠ 0 → ∀ g, Q (some (.inl (findF (fun s => decide (ladI (σ 11 4) (σ 12) (σ 24) n.toNat s < σ 24 s * 2 ^ m.toNat)) (σ 11 4).toNat))) (updR σ 19 g))) else Q (some (.inl (-2))) σ
theorem e_X_judge (m : Int) (n : Int) (σ : St) (Q : Option AV → St → Prop) : s_X_judge [.inr (.inr (some 0)), .inl m, .inl n] σ Q = ((0 ≤ σ 11 4 ∧ σ 11 4 ≤ 100) ∧ (Wire (σ 11 4) (σ 12)) ∧ (AllB (σ 24) 100 1000000) ∧ (∀ s : Nat, ¬ (s : Int) < σ 11 4 → σ 24 s = 0) ∧ (rI m) ∧ (rI n) ∧ if 0 ≤ m ∧ m ≤ 12 ∧ 1 ≤ n ∧ n ≤ 12 then (if σ 11 4 = 0 then Q (some (.inl (-3))) σ else (sumF (σ 24) 100 = 0 → Q (some (.inl 0)) σ) ∧ (sumF (σ 24) 100 ≠ 0 → ∀ g, Q (some (.inl (findF (fun s => decide (ladI (σ 11 4) (σ 12) (σ 24) n.toNat s < σ 24 s * 2 ^ m.toNat)) (σ 11 4).toNat))) (updR σ 19 g))) else Q (some (.inl (-2))) σ) := by
  show ([] = [] ∧ _) = _
  simp only [true_and]
set_option maxHeartbeats 4000000 in
set_option maxRecDepth 20000 in
theorem S_X_judge {l : Launch} : Sat l y_X_judge b_X_judge 3 (some .int) 5 s_X_judge := by
  refine sat_of (Φ := P_X) (κ := Q_X) (Γ := [(181, 0, 2, s_X_isShowable), (130, 8, 0, s_W_size), (185, 7, 4, s_G_firstTooGreat)]) (rt := 1) (by decide +kernel) P_X_ok Q_X_ok (by
    refine List.forall_mem_cons.mpr ⟨?_, List.forall_mem_cons.mpr ⟨?_, List.forall_mem_cons.mpr ⟨?_, fun _ h => absurd h List.not_mem_nil⟩⟩⟩
    · exact m_X_isShowable S_X_isShowable (by decide) l_X_181
    · exact m_W_size S_W_size (by decide) l_X_130
    · exact m_G_firstTooGreat S_G_firstTooGreat (by decide) l_X_185) (by simp) o_X_judge ?_
  intro as σ Q hh0
  obtain ⟨c0, rr0, rfl, hh1⟩ := popR_inv hh0
  obtain ⟨m, rr1, rfl, hh2⟩ := popI_inv hh1
  obtain ⟨n, rr2, rfl, hh3⟩ := popI_inv hh2
  obtain ⟨hrE, rfl, hN, hf, hB, hz, hrm, hrn, hQ⟩ := hh3
  subst hrE
  clear hh0 hh1 hh2
  refine ⟨Nat.le_of_ble_eq_true rfl, [], 14, ?_, cuts0⟩
  · rw [show entL 3 [.inr (.inr (some 0)), .inl m, .inl n] = [.inr (.inr (some 0)), .inl m, .inl n] from rfl]
    simp only [↓wpN_go, jmp_e, ↓wp_aload_n0, ↓wp_bipush, ↓wp_getfield, ↓wp_if_ne, ↓wp_iload_n1, ↓wp_iload_n2, ↓wp_invokestatic, ↓wp_invokevirtual, ↓wp_ireturn1, wp_nil, ↓ldI_0, ↓ldI_s, ↓ldL_0, ↓ldL_s, ↓ldR_0, ↓ldR_s, sto1_0, sto1_1, sto1_s, sto2_0, sto2_1, sto2_s, isLong_i, isLong_l, isLong_r, ↓popI_c, ↓popL_c, ↓popR_c, ↓popN_0, ↓popN_s, catS_n, catS_c, psh_s, psh_n, fldV_n, fldV_s, ↓tgt_e, sw_n, ↓sw_c, ↓lk1_h, ↓lk1_m, ↓atC_h, ↓atC_m, ↓atC_n, ltO_n, ltO_s, updR_eq, updR_ne, gI_0i, gI_0l, gI_s, ltM_iff, List.cons.injEq, Sum.inl.injEq, Sum.inr.injEq, Option.some.injEq, exists_eq_left, exists_eq_left', exists_eq_right, exists_eq_right', exists_and_left, exists_and_right, exists_eq, exists_const, and_assoc, ↓j_X_judge_0, ↓j_X_judge_11, ↓j_X_judge_24, ↓f_X_26, ↓f_X_37, ↓f_X_50, List.length_cons, List.length_nil, Nat.zero_add, Nat.reduceAdd, Int.reduceAdd, Int.reduceNeg, Int.reduceToNat, Int.reduceLE, Int.reduceLT, true_and, and_true, Nat.reduceLT, reduceIte, Nat.reduceEqDiff, ne_eq, not_false_eq_true, false_implies, true_implies, Bool.false_eq_true, reduceCtorEq, List.cons_append, List.nil_append, Nat.reduceSub, Nat.reduceLeDiff, Fin.isValue, Int.reduceNatCast', Int.zero_add, Int.add_zero, decide_true, decide_false, implies_true, forall_const, true_or, or_true, or_false, false_or, false_and, and_false, Int.toNat_natCast, ↓oF_0_0, ↓oF_0_1, ↓oF_0_2, ↓oF_0_3, ↓oF_0_4, ↓oF_0_5, ↓oF_0_6, ↓oF_0_7, ↓oF_0_8, ↓oF_0_9, ↓oF_0_10, ↓oF_0_11, oC_0, oC_1, oC_4, oC_11, oC_16, oC_18, oC_20, oC_23, oC_25, oC_26, oC_29, oC_31, oC_33, oC_35, oC_37, isT_29, isT_31, isT_33, isT_35, isL_16, isL_18, isL_26, b2i_0, b2i_1, b2i_01, b2i_r, ↓e_X_isShowable, ↓e_W_size, ↓e_G_firstTooGreat]
    have hB2 := allB_le hB hN.2
    have hI2 := allB_I hB (by omega)
    (try simp only [rI_iff, rL_iff] at *)
    repeat' (with_reducible (first | assumption | apply And.intro | intro _))
    all_goals first | omega | with_reducible assumption | exact True.intro | skip
    all_goals grind
def BestSt (σ τ : St) (m n most r : Int) : Prop := ∃ g W, τ = updR (updR σ 19 g) 24 W ∧ (∀ s : Nat, s < 100 → ¬ (s : Int) < σ 11 4 → W s = σ 24 s) ∧ Feas (σ 11 4) (σ 12) m n W ∧ (∀ s : Nat, (s : Int) < σ 11 4 → W s ≤ most) ∧ (∀ V, Feas (σ 11 4) (σ 12) m n V → (∀ s : Nat, (s : Int) < σ 11 4 → V s ≤ most) → ∀ s : Nat, (s : Int) < σ 11 4 → V s ≤ W s) ∧ r = sumF W 100
def s_X_best : Spec := fun as σ Q => popR as fun c0 r0 => popI r0 fun m r1 => popI r1 fun n r2 => popI r2 fun most r3 => r3 = [] ∧ c0 = 0 ∧ (0 ≤ σ 11 4 ∧ σ 11 4 ≤ 100) ∧ (Wire (σ 11 4) (σ 12)) ∧ (AllB (σ 24) 100 1000000) ∧ (rI m) ∧ (rI n) ∧ (rI most) ∧ if (0 ≤ m ∧ m ≤ 12 ∧ 1 ≤ n ∧ n ≤ 12) ∧ 1 ≤ most ∧ most ≤ 200 then (if σ 11 4 = 0 then Q (some (.inl (-3))) σ else ∀ τ r, BestSt σ τ m n most r → Q (some (.inl r)) τ) else Q (some (.inl (-2))) σ
theorem e_X_best (m : Int) (n : Int) (most : Int) (σ : St) (Q : Option AV → St → Prop) : s_X_best [.inr (.inr (some 0)), .inl m, .inl n, .inl most] σ Q = ((0 ≤ σ 11 4 ∧ σ 11 4 ≤ 100) ∧ (Wire (σ 11 4) (σ 12)) ∧ (AllB (σ 24) 100 1000000) ∧ (rI m) ∧ (rI n) ∧ (rI most) ∧ if (0 ≤ m ∧ m ≤ 12 ∧ 1 ≤ n ∧ n ≤ 12) ∧ 1 ≤ most ∧ most ≤ 200 then (if σ 11 4 = 0 then Q (some (.inl (-3))) σ else ∀ τ r, BestSt σ τ m n most r → Q (some (.inl r)) τ) else Q (some (.inl (-2))) σ) := by
  show ([] = [] ∧ _) = _
  simp only [true_and]
set_option maxHeartbeats 4000000 in
set_option maxRecDepth 20000 in
theorem S_X_best {l : Launch} : Sat l y_X_best b_X_best 4 (some .int) 6 s_X_best := by
  refine sat_of (Φ := P_X) (κ := Q_X) (Γ := [(181, 0, 2, s_X_isShowable), (74, 0, 3, s_X_isWithin), (130, 8, 0, s_W_size), (189, 7, 2, s_G_raise), (192, 7, 4, s_G_settle), (196, 7, 0, s_G_sum)]) (rt := 1) (by decide +kernel) P_X_ok Q_X_ok (by
    refine List.forall_mem_cons.mpr ⟨?_, List.forall_mem_cons.mpr ⟨?_, List.forall_mem_cons.mpr ⟨?_, List.forall_mem_cons.mpr ⟨?_, List.forall_mem_cons.mpr ⟨?_, List.forall_mem_cons.mpr ⟨?_, fun _ h => absurd h List.not_mem_nil⟩⟩⟩⟩⟩⟩
    · exact m_X_isShowable S_X_isShowable (by decide) l_X_181
    · exact m_X_isWithin S_X_isWithin (by decide) l_X_74
    · exact m_W_size S_W_size (by decide) l_X_130
    · exact m_G_raise S_G_raise (by decide) l_X_189
    · exact m_G_settle S_G_settle (by decide) l_X_192
    · exact m_G_sum S_G_sum (by decide) l_X_196) (by simp) o_X_best ?_
  intro as σ Q hh0
  obtain ⟨c0, rr0, rfl, hh1⟩ := popR_inv hh0
  obtain ⟨m, rr1, rfl, hh2⟩ := popI_inv hh1
  obtain ⟨n, rr2, rfl, hh3⟩ := popI_inv hh2
  obtain ⟨most, rr3, rfl, hh4⟩ := popI_inv hh3
  obtain ⟨hrE, rfl, hN, hf, hB, hrm, hrn, hro, hQ⟩ := hh4
  subst hrE
  clear hh0 hh1 hh2 hh3
  refine ⟨Nat.le_of_ble_eq_true rfl, [], 14, ?_, cuts0⟩
  · rw [show entL 4 [.inr (.inr (some 0)), .inl m, .inl n, .inl most] = [.inr (.inr (some 0)), .inl m, .inl n, .inl most] from rfl]
    simp only [↓wpN_go, jmp_e, ↓wp_aload_n0, ↓wp_bipush, ↓wp_getfield, ↓wp_iconst, ↓wp_if_eq, ↓wp_if_ne, ↓wp_iload_n1, ↓wp_iload_n2, ↓wp_iload_n3, ↓wp_invokestatic, ↓wp_invokevirtual, ↓wp_ireturn1, ↓wp_sipush, wp_nil, ↓ldI_0, ↓ldI_s, ↓ldL_0, ↓ldL_s, ↓ldR_0, ↓ldR_s, sto1_0, sto1_1, sto1_s, sto2_0, sto2_1, sto2_s, isLong_i, isLong_l, isLong_r, ↓popI_c, ↓popL_c, ↓popR_c, ↓popN_0, ↓popN_s, catS_n, catS_c, psh_s, psh_n, fldV_n, fldV_s, ↓tgt_e, sw_n, ↓sw_c, ↓lk1_h, ↓lk1_m, ↓atC_h, ↓atC_m, ↓atC_n, ltO_n, ltO_s, updR_eq, updR_ne, gI_0i, gI_0l, gI_s, ltM_iff, List.cons.injEq, Sum.inl.injEq, Sum.inr.injEq, Option.some.injEq, exists_eq_left, exists_eq_left', exists_eq_right, exists_eq_right', exists_and_left, exists_and_right, exists_eq, exists_const, and_assoc, ↓j_X_best_0, ↓j_X_best_19, ↓j_X_best_22, ↓j_X_best_35, ↓f_X_26, ↓f_X_37, ↓f_X_50, List.length_cons, List.length_nil, Nat.zero_add, Nat.reduceAdd, Int.reduceAdd, Int.reduceNeg, Int.reduceToNat, Int.reduceLE, Int.reduceLT, true_and, and_true, Nat.reduceLT, reduceIte, Nat.reduceEqDiff, ne_eq, not_false_eq_true, false_implies, true_implies, Bool.false_eq_true, reduceCtorEq, List.cons_append, List.nil_append, Nat.reduceSub, Nat.reduceLeDiff, Fin.isValue, Int.reduceNatCast', Int.zero_add, Int.add_zero, decide_true, decide_false, implies_true, forall_const, true_or, or_true, or_false, false_or, false_and, and_false, Int.toNat_natCast, ↓oF_0_0, ↓oF_0_1, ↓oF_0_2, ↓oF_0_3, ↓oF_0_4, ↓oF_0_5, ↓oF_0_6, ↓oF_0_7, ↓oF_0_8, ↓oF_0_9, ↓oF_0_10, ↓oF_0_11, oC_0, oC_1, oC_4, oC_11, oC_16, oC_18, oC_20, oC_23, oC_25, oC_26, oC_29, oC_31, oC_33, oC_35, oC_37, isT_29, isT_31, isT_33, isT_35, isL_16, isL_18, isL_26, b2i_0, b2i_1, b2i_01, b2i_r, ↓e_X_isShowable, ↓e_X_isWithin, ↓e_W_size, ↓e_G_raise, ↓e_G_settle, ↓e_G_sum]
    have hq1 : ∀ s : Nat, (s : Int) < σ 11 4 → fillF (σ 24) 0 (σ 11 4) most s = most := fun s h => by rw [fillF_app, if_pos (by omega)]
    have hq2 : ∀ s : Nat, ¬ (s : Int) < σ 11 4 → fillF (σ 24) 0 (σ 11 4) most s = σ 24 s := fun s h => by rw [fillF_app, if_neg (by omega)]
    have hB2 : 1 ≤ most → most ≤ 200 → AllB (fillF (σ 24) 0 (σ 11 4) most) (σ 11 4) 200 := fun h1 h2 s hs => by rw [hq1 s hs]; omega
    have hI2 : AllI (fillF (σ 24) 0 (σ 11 4) most) 100 := fun s hs => by
      by_cases e : (s : Int) < σ 11 4
      · rw [hq1 s e]; exact hro
      · rw [hq2 s e]
        have := hB s (by omega)
        unfold rI
        omega
    have q1 : (0 ≤ m ∧ m ≤ 12 ∧ 1 ≤ n ∧ n ≤ 12) → (1 ≤ most ∧ most ≤ 200) → ¬ σ 11 4 = 0 → ∀ g W, (∀ s : Nat, ¬ (s : Int) < σ 11 4 → W s = fillF (σ 24) 0 (σ 11 4) most s) → Feas (σ 11 4) (σ 12) m n W → (∀ s : Nat, (s : Int) < σ 11 4 → W s ≤ fillF (σ 24) 0 (σ 11 4) most s) → (∀ V, Feas (σ 11 4) (σ 12) m n V → (∀ s : Nat, (s : Int) < σ 11 4 → V s ≤ fillF (σ 24) 0 (σ 11 4) most s) → ∀ s : Nat, (s : Int) < σ 11 4 → V s ≤ W s) → Q (some (.inl (sumF W 100))) (updR (updR (updR σ 24 (fillF (σ 24) 0 (σ 11 4) most)) 19 g) 24 W) := fun h1 h2 h3 g W a1 a2 a3 a4 => by
      rw [if_pos ⟨h1, h2⟩, if_neg h3] at hQ
      refine hQ _ _ ⟨g, W, ?_, fun s _ hs => by rw [a1 s hs, hq2 s hs], a2, fun s hs => by rw [← hq1 s hs]; exact a3 s hs, fun V v1 v2 s hs => a4 V v1 (fun t ht => by rw [hq1 t ht]; exact v2 t ht) s hs, rfl⟩
      rw [updR_swap _ 24 19 _ _ (by decide), updR_twice]
    have q2 : ¬ ((0 ≤ m ∧ m ≤ 12 ∧ 1 ≤ n ∧ n ≤ 12) ∧ 1 ≤ most ∧ most ≤ 200) → Q (some (.inl (-2))) σ := fun h => by rw [if_neg h] at hQ; exact hQ
    have q3 : (0 ≤ m ∧ m ≤ 12 ∧ 1 ≤ n ∧ n ≤ 12) → (1 ≤ most ∧ most ≤ 200) → σ 11 4 = 0 → Q (some (.inl (-3))) σ := fun h1 h2 h3 => by rw [if_pos ⟨h1, h2⟩, if_pos h3] at hQ; exact hQ
    clear hQ
    (try simp only [rI_iff, rL_iff] at *)
    repeat' (with_reducible (first | assumption | apply And.intro | intro _))
    all_goals first | omega | with_reducible assumption | exact True.intro | skip
    all_goals first
      | exact q2 (by omega)
      | exact q3 (by omega) (by omega) (by omega)
      | exact hB2 (by omega) (by omega)
      | exact hI2
      | exact (hB2 (by omega) (by omega) _ (by assumption)).1
      | exact (hB2 (by omega) (by omega) _ (by assumption)).2
      | exact (hI2 _ (by assumption)).1
      | exact (hI2 _ (by assumption)).2
      | exact q1 (by omega) (by omega) (by omega) _ _ (by assumption) (by assumption) (by assumption) (by assumption)
      | skip
