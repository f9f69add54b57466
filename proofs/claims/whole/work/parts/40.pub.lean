/-! the public methods: arguments, bans, the wire -/
def s_X_isWithin : Spec := fun as σ Q => popI as fun x r0 => popI r0 fun a r1 => popI r1 fun b r2 => r2 = [] ∧ (rI x) ∧ (rI a) ∧ (rI b) ∧ Q (some (.inl (b2i (a ≤ x ∧ x ≤ b)))) σ
theorem e_X_isWithin (x : Int) (a : Int) (b : Int) (σ : St) (Q : Option AV → St → Prop) : s_X_isWithin [.inl x, .inl a, .inl b] σ Q = ((rI x) ∧ (rI a) ∧ (rI b) ∧ Q (some (.inl (b2i (a ≤ x ∧ x ≤ b)))) σ) := by
  show ([] = [] ∧ _) = _
  simp only [true_and]
set_option maxHeartbeats 4000000 in
set_option maxRecDepth 20000 in
theorem S_X_isWithin {l : Launch} : Sat l y_X_isWithin b_X_isWithin 3 (some .boolean) 0 s_X_isWithin := by
  refine sat_of (Φ := P_X) (κ := Q_X) (Γ := []) (rt := 3) (by decide +kernel) P_X_ok Q_X_ok (fun g hg => absurd hg List.not_mem_nil) (by simp) o_X_isWithin ?_
  intro as σ Q hh0
  obtain ⟨x, rr0, rfl, hh1⟩ := popI_inv hh0
  obtain ⟨a, rr1, rfl, hh2⟩ := popI_inv hh1
  obtain ⟨b, rr2, rfl, hh3⟩ := popI_inv hh2
  obtain ⟨hrE, hx, ha, hb, hQ⟩ := hh3
  subst hrE
  clear hh0 hh1 hh2
  refine ⟨Nat.le_of_ble_eq_true rfl, [], 14, ?_, cuts0⟩
  · rw [show entL 3 [.inl x, .inl a, .inl b] = [.inl x, .inl a, .inl b] from rfl]
    simp only [↓wpN_go, jmp_e, ↓wp_goto, ↓wp_icmp_gt, ↓wp_icmp_lt, ↓wp_iconst, ↓wp_iload_n0, ↓wp_iload_n1, ↓wp_iload_n2, ↓wp_ireturn3, wp_nil, ↓ldI_0, ↓ldI_s, ↓ldL_0, ↓ldL_s, ↓ldR_0, ↓ldR_s, sto1_0, sto1_1, sto1_s, sto2_0, sto2_1, sto2_s, isLong_i, isLong_l, isLong_r, ↓popI_c, ↓popL_c, ↓popR_c, ↓popN_0, ↓popN_s, catS_n, catS_c, psh_s, psh_n, fldV_n, fldV_s, ↓tgt_e, sw_n, ↓sw_c, ↓lk1_h, ↓lk1_m, ↓atC_h, ↓atC_m, ↓atC_n, ltO_n, ltO_s, updR_eq, updR_ne, gI_0i, gI_0l, gI_s, ltM_iff, List.cons.injEq, Sum.inl.injEq, Sum.inr.injEq, Option.some.injEq, exists_eq_left, exists_eq_left', exists_eq_right, exists_eq_right', exists_and_left, exists_and_right, exists_eq, exists_const, and_assoc, ↓j_X_isWithin_0, ↓j_X_isWithin_14, ↓j_X_isWithin_15, List.length_cons, List.length_nil, Nat.zero_add, Nat.reduceAdd, Int.reduceAdd, Int.reduceNeg, Int.reduceToNat, Int.reduceLE, Int.reduceLT, true_and, and_true, Nat.reduceLT, reduceIte, Nat.reduceEqDiff, ne_eq, not_false_eq_true, false_implies, true_implies, Bool.false_eq_true, reduceCtorEq, List.cons_append, List.nil_append, Nat.reduceSub, Nat.reduceLeDiff, Fin.isValue, Int.reduceNatCast', Int.zero_add, Int.add_zero, decide_true, decide_false, implies_true, forall_const, true_or, or_true, or_false, false_or, false_and, and_false, Int.toNat_natCast, ↓oF_0_0, ↓oF_0_1, ↓oF_0_2, ↓oF_0_3, ↓oF_0_4, ↓oF_0_5, ↓oF_0_6, ↓oF_0_7, ↓oF_0_8, ↓oF_0_9, ↓oF_0_10, ↓oF_0_11, oC_0, oC_1, oC_4, oC_11, oC_16, oC_18, oC_20, oC_23, oC_25, oC_26, oC_29, oC_31, oC_33, oC_35, oC_37, isT_29, isT_31, isT_33, isT_35, isL_16, isL_18, isL_26]
    (try simp only [rI_iff, rL_iff] at *)
    repeat' (first | assumption | apply And.intro | intro _)
    all_goals first
      | omega
      | (refine st_ext fun k j => ?_; grind [updR_app, up1_app, b2i])
      | (refine Q_eq hQ ?_ ?_ <;> first | rfl | (refine st_ext fun k j => ?_; grind [updR_app, up1_app, b2i]) | grind [updR_app, up1_app, b2i])
      | grind [updR_app, up1_app, b2i]
theorem p2_le60 {n : Int} (h : 0 ≤ n ∧ n ≤ 60) : (1 : Int) ≤ 2 ^ n.toNat ∧ (2 : Int) ^ n.toNat ≤ 1152921504606846976 := by
  have h1 := p2_pos n.toNat
  have h2 := p2_le (show n.toNat ≤ 60 by omega)
  have h3 : (2 : Int) ^ 60 = 1152921504606846976 := by decide
  omega
def s_X_isRow : Spec := fun as σ Q => popL as fun row r0 => popI r0 fun n r1 => r1 = [] ∧ (rL row) ∧ (rI n) ∧ Q (some (.inl (b2i (0 ≤ n ∧ n ≤ 60 ∧ 0 ≤ row ∧ row < 2 ^ n.toNat)))) σ
theorem e_X_isRow (row : Int) (n : Int) (σ : St) (Q : Option AV → St → Prop) : s_X_isRow [.inr (.inl row), .inl n] σ Q = ((rL row) ∧ (rI n) ∧ Q (some (.inl (b2i (0 ≤ n ∧ n ≤ 60 ∧ 0 ≤ row ∧ row < 2 ^ n.toNat)))) σ) := by
  show ([] = [] ∧ _) = _
  simp only [true_and]
set_option maxHeartbeats 4000000 in
set_option maxRecDepth 20000 in
theorem S_X_isRow {l : Launch} : Sat l y_X_isRow b_X_isRow 3 (some .boolean) 1 s_X_isRow := by
  refine sat_of (Φ := P_X) (κ := Q_X) (Γ := [(74, 0, 3, s_X_isWithin)]) (rt := 3) (by decide +kernel) P_X_ok Q_X_ok (by
    refine List.forall_mem_cons.mpr ⟨?_, fun _ h => absurd h List.not_mem_nil⟩
    · exact m_X_isWithin S_X_isWithin (by decide) l_X_74) (by simp) o_X_isRow ?_
  intro as σ Q hh0
  obtain ⟨row, rr0, rfl, hh1⟩ := popL_inv hh0
  obtain ⟨n, rr1, rfl, hh2⟩ := popI_inv hh1
  obtain ⟨hrE, hrrow, hrn, hQ⟩ := hh2
  subst hrE
  clear hh0 hh1
  refine ⟨Nat.le_of_ble_eq_true rfl, [], 14, ?_, cuts0⟩
  · rw [show entL 3 [.inr (.inl row), .inl n] = [.inr (.inl row), .inr (.inr none), .inl n] from rfl]
    simp only [↓wpN_go, jmp_e, ↓wp_bipush, ↓wp_goto, ↓wp_iconst, ↓wp_if_eq, ↓wp_if_ge, ↓wp_if_lt, ↓wp_iload_n2, ↓wp_invokestatic, ↓wp_ireturn3, ↓wp_lcmp, ↓wp_lconst0, ↓wp_lconst1, ↓wp_lload_n0, ↓wp_lshl, wp_nil, ↓ldI_0, ↓ldI_s, ↓ldL_0, ↓ldL_s, ↓ldR_0, ↓ldR_s, sto1_0, sto1_1, sto1_s, sto2_0, sto2_1, sto2_s, isLong_i, isLong_l, isLong_r, ↓popI_c, ↓popL_c, ↓popR_c, ↓popN_0, ↓popN_s, catS_n, catS_c, psh_s, psh_n, fldV_n, fldV_s, ↓tgt_e, sw_n, ↓sw_c, ↓lk1_h, ↓lk1_m, ↓atC_h, ↓atC_m, ↓atC_n, ltO_n, ltO_s, updR_eq, updR_ne, gI_0i, gI_0l, gI_s, ltM_iff, List.cons.injEq, Sum.inl.injEq, Sum.inr.injEq, Option.some.injEq, exists_eq_left, exists_eq_left', exists_eq_right, exists_eq_right', exists_and_left, exists_and_right, exists_eq, exists_const, and_assoc, ↓j_X_isRow_0, ↓j_X_isRow_28, ↓j_X_isRow_29, List.length_cons, List.length_nil, Nat.zero_add, Nat.reduceAdd, Int.reduceAdd, Int.reduceNeg, Int.reduceToNat, Int.reduceLE, Int.reduceLT, true_and, and_true, Nat.reduceLT, reduceIte, Nat.reduceEqDiff, ne_eq, not_false_eq_true, false_implies, true_implies, Bool.false_eq_true, reduceCtorEq, List.cons_append, List.nil_append, Nat.reduceSub, Nat.reduceLeDiff, Fin.isValue, Int.reduceNatCast', Int.zero_add, Int.add_zero, decide_true, decide_false, implies_true, forall_const, true_or, or_true, or_false, false_or, false_and, and_false, Int.toNat_natCast, ↓oF_0_0, ↓oF_0_1, ↓oF_0_2, ↓oF_0_3, ↓oF_0_4, ↓oF_0_5, ↓oF_0_6, ↓oF_0_7, ↓oF_0_8, ↓oF_0_9, ↓oF_0_10, ↓oF_0_11, oC_0, oC_1, oC_4, oC_11, oC_16, oC_18, oC_20, oC_23, oC_25, oC_26, oC_29, oC_31, oC_33, oC_35, oC_37, isT_29, isT_31, isT_33, isT_35, isL_16, isL_18, isL_26, b2i_0, b2i_1, b2i_01, b2i_r, cmpZ_r, cmpZ_lt, cmpZ_le, cmpZ_gt, cmpZ_ge, ↓e_X_isWithin]
    have hp := p2_le60 (n := n)
    rw [Int.one_mul] at *
    by_cases hn1 : 0 ≤ n ∧ n ≤ 60
    · have hp := hp hn1
      rcases Classical.em (0 ≤ row ∧ row < 2 ^ n.toNat) with h | h
      · rw [b2i_t ⟨hn1.1, hn1.2, h⟩] at hQ
        generalize (2 : Int) ^ n.toNat = p at *
        (try simp only [rI_iff, rL_iff] at *)
        repeat' (with_reducible (first | assumption | apply And.intro | intro _))
        all_goals first | omega | with_reducible assumption | exact True.intro | skip
        all_goals grind
      · rw [b2i_f (fun q => h q.2.2)] at hQ
        generalize (2 : Int) ^ n.toNat = p at *
        (try simp only [rI_iff, rL_iff] at *)
        repeat' (with_reducible (first | assumption | apply And.intro | intro _))
        all_goals first | omega | with_reducible assumption | exact True.intro | skip
        all_goals grind
    · rw [b2i_f (fun q => hn1 ⟨q.1, q.2.1⟩)] at hQ
      generalize (2 : Int) ^ n.toNat = p at *
      (try simp only [rI_iff, rL_iff] at *)
      repeat' (with_reducible (first | assumption | apply And.intro | intro _))
      all_goals first | omega | with_reducible assumption | exact True.intro | skip
      all_goals grind
def s_X_isShowable : Spec := fun as σ Q => popI as fun m r0 => popI r0 fun n r1 => r1 = [] ∧ (rI m) ∧ (rI n) ∧ Q (some (.inl (b2i (0 ≤ m ∧ m ≤ 12 ∧ 1 ≤ n ∧ n ≤ 12)))) σ
theorem e_X_isShowable (m : Int) (n : Int) (σ : St) (Q : Option AV → St → Prop) : s_X_isShowable [.inl m, .inl n] σ Q = ((rI m) ∧ (rI n) ∧ Q (some (.inl (b2i (0 ≤ m ∧ m ≤ 12 ∧ 1 ≤ n ∧ n ≤ 12)))) σ) := by
  show ([] = [] ∧ _) = _
  simp only [true_and]
set_option maxHeartbeats 4000000 in
set_option maxRecDepth 20000 in
theorem S_X_isShowable {l : Launch} : Sat l y_X_isShowable b_X_isShowable 2 (some .boolean) 1 s_X_isShowable := by
  refine sat_of (Φ := P_X) (κ := Q_X) (Γ := [(74, 0, 3, s_X_isWithin)]) (rt := 3) (by decide +kernel) P_X_ok Q_X_ok (by
    refine List.forall_mem_cons.mpr ⟨?_, fun _ h => absurd h List.not_mem_nil⟩
    · exact m_X_isWithin S_X_isWithin (by decide) l_X_74) (by simp) o_X_isShowable ?_
  intro as σ Q hh0
  obtain ⟨m, rr0, rfl, hh1⟩ := popI_inv hh0
  obtain ⟨n, rr1, rfl, hh2⟩ := popI_inv hh1
  obtain ⟨hrE, hrm, hrn, hQ⟩ := hh2
  subst hrE
  clear hh0 hh1
  refine ⟨Nat.le_of_ble_eq_true rfl, [], 14, ?_, cuts0⟩
  · rw [show entL 2 [.inl m, .inl n] = [.inl m, .inl n] from rfl]
    simp only [↓wpN_go, jmp_e, ↓wp_bipush, ↓wp_goto, ↓wp_iconst, ↓wp_if_eq, ↓wp_iload_n0, ↓wp_iload_n1, ↓wp_invokestatic, ↓wp_ireturn3, wp_nil, ↓ldI_0, ↓ldI_s, ↓ldL_0, ↓ldL_s, ↓ldR_0, ↓ldR_s, sto1_0, sto1_1, sto1_s, sto2_0, sto2_1, sto2_s, isLong_i, isLong_l, isLong_r, ↓popI_c, ↓popL_c, ↓popR_c, ↓popN_0, ↓popN_s, catS_n, catS_c, psh_s, psh_n, fldV_n, fldV_s, ↓tgt_e, sw_n, ↓sw_c, ↓lk1_h, ↓lk1_m, ↓atC_h, ↓atC_m, ↓atC_n, ltO_n, ltO_s, updR_eq, updR_ne, gI_0i, gI_0l, gI_s, ltM_iff, List.cons.injEq, Sum.inl.injEq, Sum.inr.injEq, Option.some.injEq, exists_eq_left, exists_eq_left', exists_eq_right, exists_eq_right', exists_and_left, exists_and_right, exists_eq, exists_const, and_assoc, ↓j_X_isShowable_0, ↓j_X_isShowable_24, ↓j_X_isShowable_25, List.length_cons, List.length_nil, Nat.zero_add, Nat.reduceAdd, Int.reduceAdd, Int.reduceNeg, Int.reduceToNat, Int.reduceLE, Int.reduceLT, true_and, and_true, Nat.reduceLT, reduceIte, Nat.reduceEqDiff, ne_eq, not_false_eq_true, false_implies, true_implies, Bool.false_eq_true, reduceCtorEq, List.cons_append, List.nil_append, Nat.reduceSub, Nat.reduceLeDiff, Fin.isValue, Int.reduceNatCast', Int.zero_add, Int.add_zero, decide_true, decide_false, implies_true, forall_const, true_or, or_true, or_false, false_or, false_and, and_false, Int.toNat_natCast, ↓oF_0_0, ↓oF_0_1, ↓oF_0_2, ↓oF_0_3, ↓oF_0_4, ↓oF_0_5, ↓oF_0_6, ↓oF_0_7, ↓oF_0_8, ↓oF_0_9, ↓oF_0_10, ↓oF_0_11, oC_0, oC_1, oC_4, oC_11, oC_16, oC_18, oC_20, oC_23, oC_25, oC_26, oC_29, oC_31, oC_33, oC_35, oC_37, isT_29, isT_31, isT_33, isT_35, isL_16, isL_18, isL_26, b2i_0, b2i_1, b2i_01, b2i_r, ↓e_X_isWithin]
    (try simp only [rI_iff, rL_iff] at *)
    repeat' (first | assumption | apply And.intro | intro _)
    all_goals first
      | omega
      | (refine st_ext fun k j => ?_; grind [updR_app, up1_app, b2i])
      | (refine Q_eq hQ ?_ ?_ <;> first | rfl | (refine st_ext fun k j => ?_; grind [updR_app, up1_app, b2i]) | grind [updR_app, up1_app, b2i])
      | grind [updR_app, up1_app, b2i]
def s_X_runs : Spec := fun as σ Q => popR as fun c0 r0 => popI r0 fun d r1 => popI r1 fun k r2 => r2 = [] ∧ c0 = 0 ∧ (rI d) ∧ (rI k) ∧ if (d = 0 ∧ k = -1) ∨ (0 ≤ k ∧ k ≤ 7 ∧ 0 ≤ d ∧ d ≤ k) then Q (some (.inl 1)) (updR σ 1 (up1 (up1 (σ 1) 3 d) 4 k)) else Q (some (.inl (-2))) σ
theorem e_X_runs (d : Int) (k : Int) (σ : St) (Q : Option AV → St → Prop) : s_X_runs [.inr (.inr (some 0)), .inl d, .inl k] σ Q = ((rI d) ∧ (rI k) ∧ if (d = 0 ∧ k = -1) ∨ (0 ≤ k ∧ k ≤ 7 ∧ 0 ≤ d ∧ d ≤ k) then Q (some (.inl 1)) (updR σ 1 (up1 (up1 (σ 1) 3 d) 4 k)) else Q (some (.inl (-2))) σ) := by
  show ([] = [] ∧ _) = _
  simp only [true_and]
set_option maxHeartbeats 4000000 in
set_option maxRecDepth 20000 in
theorem S_X_runs {l : Launch} : Sat l y_X_runs b_X_runs 5 (some .int) 1 s_X_runs := by
  refine sat_of (Φ := P_X) (κ := Q_X) (Γ := [(74, 0, 3, s_X_isWithin), (78, 1, 2, s_B_tellRuns)]) (rt := 1) (by decide +kernel) P_X_ok Q_X_ok (by
    refine List.forall_mem_cons.mpr ⟨?_, List.forall_mem_cons.mpr ⟨?_, fun _ h => absurd h List.not_mem_nil⟩⟩
    · exact m_X_isWithin S_X_isWithin (by decide) l_X_74
    · exact m_B_tellRuns S_B_tellRuns (by decide) l_X_78) (by simp) o_X_runs ?_
  intro as σ Q hh0
  obtain ⟨c0, rr0, rfl, hh1⟩ := popR_inv hh0
  obtain ⟨d, rr1, rfl, hh2⟩ := popI_inv hh1
  obtain ⟨k, rr2, rfl, hh3⟩ := popI_inv hh2
  obtain ⟨hrE, rfl, hrd, hrk, hQ⟩ := hh3
  subst hrE
  clear hh0 hh1 hh2
  refine ⟨Nat.le_of_ble_eq_true rfl, [], 14, ?_, cuts0⟩
  · rw [show entL 5 [.inr (.inr (some 0)), .inl d, .inl k] = [.inr (.inr (some 0)), .inl d, .inl k, .inr (.inr none), .inr (.inr none)] from rfl]
    simp only [↓wpN_go, jmp_e, ↓wp_aload_n0, ↓wp_bipush, ↓wp_getfield, ↓wp_goto, ↓wp_icmp_ne, ↓wp_iconst, ↓wp_if_eq, ↓wp_if_ne, ↓wp_iload, ↓wp_iload_n1, ↓wp_iload_n2, ↓wp_iload_n3, ↓wp_invokestatic, ↓wp_invokevirtual, ↓wp_ireturn1, ↓wp_istore, ↓wp_istore_n3, wp_nil, ↓ldI_0, ↓ldI_s, ↓ldL_0, ↓ldL_s, ↓ldR_0, ↓ldR_s, sto1_0, sto1_1, sto1_s, sto2_0, sto2_1, sto2_s, isLong_i, isLong_l, isLong_r, ↓popI_c, ↓popL_c, ↓popR_c, ↓popN_0, ↓popN_s, catS_n, catS_c, psh_s, psh_n, fldV_n, fldV_s, ↓tgt_e, sw_n, ↓sw_c, ↓lk1_h, ↓lk1_m, ↓atC_h, ↓atC_m, ↓atC_n, ltO_n, ltO_s, updR_eq, updR_ne, gI_0i, gI_0l, gI_s, ltM_iff, List.cons.injEq, Sum.inl.injEq, Sum.inr.injEq, Option.some.injEq, exists_eq_left, exists_eq_left', exists_eq_right, exists_eq_right', exists_and_left, exists_and_right, exists_eq, exists_const, and_assoc, ↓j_X_runs_0, ↓j_X_runs_13, ↓j_X_runs_14, ↓j_X_runs_38, ↓j_X_runs_39, ↓j_X_runs_53, ↓f_X_10, List.length_cons, List.length_nil, Nat.zero_add, Nat.reduceAdd, Int.reduceAdd, Int.reduceNeg, Int.reduceToNat, Int.reduceLE, Int.reduceLT, true_and, and_true, Nat.reduceLT, reduceIte, Nat.reduceEqDiff, ne_eq, not_false_eq_true, false_implies, true_implies, Bool.false_eq_true, reduceCtorEq, List.cons_append, List.nil_append, Nat.reduceSub, Nat.reduceLeDiff, Fin.isValue, Int.reduceNatCast', Int.zero_add, Int.add_zero, decide_true, decide_false, implies_true, forall_const, true_or, or_true, or_false, false_or, false_and, and_false, Int.toNat_natCast, ↓oF_0_0, ↓oF_0_1, ↓oF_0_2, ↓oF_0_3, ↓oF_0_4, ↓oF_0_5, ↓oF_0_6, ↓oF_0_7, ↓oF_0_8, ↓oF_0_9, ↓oF_0_10, ↓oF_0_11, oC_0, oC_1, oC_4, oC_11, oC_16, oC_18, oC_20, oC_23, oC_25, oC_26, oC_29, oC_31, oC_33, oC_35, oC_37, isT_29, isT_31, isT_33, isT_35, isL_16, isL_18, isL_26, b2i_0, b2i_1, b2i_01, b2i_r, ↓e_X_isWithin, ↓e_B_tellRuns]
    (try simp only [rI_iff, rL_iff] at *)
    repeat' (first | assumption | apply And.intro | intro _)
    all_goals first
      | omega
      | (refine st_ext fun k j => ?_; grind [updR_app, up1_app, b2i])
      | (refine Q_eq hQ ?_ ?_ <;> first | rfl | (refine st_ext fun k j => ?_; grind [updR_app, up1_app, b2i]) | grind [updR_app, up1_app, b2i])
      | grind [updR_app, up1_app, b2i]
def s_X_word : Spec := fun as σ Q => popR as fun c0 r0 => popI r0 fun w r1 => popI r1 fun n r2 => r2 = [] ∧ c0 = 0 ∧ (rI w) ∧ (rI n) ∧ (0 ≤ σ 1 2 ∧ σ 1 2 ≤ 4) ∧ if 1 ≤ n ∧ n ≤ 6 ∧ 0 ≤ w ∧ w < 2 ^ n.toNat then (if σ 1 2 < 4 then Q (some (.inl (σ 1 2 + 1))) (updR (updR (updR σ 2 (up1 (σ 2) (σ 1 2).toNat w)) 3 (up1 (σ 3) (σ 1 2).toNat n)) 1 (up1 (σ 1) 2 (σ 1 2 + 1))) else Q (some (.inl (-4))) σ) else Q (some (.inl (-2))) σ
theorem e_X_word (w : Int) (n : Int) (σ : St) (Q : Option AV → St → Prop) : s_X_word [.inr (.inr (some 0)), .inl w, .inl n] σ Q = ((rI w) ∧ (rI n) ∧ (0 ≤ σ 1 2 ∧ σ 1 2 ≤ 4) ∧ if 1 ≤ n ∧ n ≤ 6 ∧ 0 ≤ w ∧ w < 2 ^ n.toNat then (if σ 1 2 < 4 then Q (some (.inl (σ 1 2 + 1))) (updR (updR (updR σ 2 (up1 (σ 2) (σ 1 2).toNat w)) 3 (up1 (σ 3) (σ 1 2).toNat n)) 1 (up1 (σ 1) 2 (σ 1 2 + 1))) else Q (some (.inl (-4))) σ) else Q (some (.inl (-2))) σ) := by
  show ([] = [] ∧ _) = _
  simp only [true_and]
set_option maxHeartbeats 4000000 in
set_option maxRecDepth 20000 in
theorem S_X_word {l : Launch} : Sat l y_X_word b_X_word 3 (some .int) 2 s_X_word := by
  refine sat_of (Φ := P_X) (κ := Q_X) (Γ := [(74, 0, 3, s_X_isWithin), (82, 0, 2, s_X_isRow), (86, 1, 2, s_B_addWord)]) (rt := 1) (by decide +kernel) P_X_ok Q_X_ok (by
    refine List.forall_mem_cons.mpr ⟨?_, List.forall_mem_cons.mpr ⟨?_, List.forall_mem_cons.mpr ⟨?_, fun _ h => absurd h List.not_mem_nil⟩⟩⟩
    · exact m_X_isWithin S_X_isWithin (by decide) l_X_74
    · exact m_X_isRow S_X_isRow (by decide) l_X_82
    · exact m_B_addWord S_B_addWord (by decide) l_X_86) (by simp) o_X_word ?_
  intro as σ Q hh0
  obtain ⟨c0, rr0, rfl, hh1⟩ := popR_inv hh0
  obtain ⟨w, rr1, rfl, hh2⟩ := popI_inv hh1
  obtain ⟨n, rr2, rfl, hh3⟩ := popI_inv hh2
  obtain ⟨hrE, rfl, hrw, hrn, h1, hQ⟩ := hh3
  subst hrE
  clear hh0 hh1 hh2
  refine ⟨Nat.le_of_ble_eq_true rfl, [], 14, ?_, cuts0⟩
  · rw [show entL 3 [.inr (.inr (some 0)), .inl w, .inl n] = [.inr (.inr (some 0)), .inl w, .inl n] from rfl]
    simp only [↓wpN_go, jmp_e, ↓wp_aload_n0, ↓wp_bipush, ↓wp_getfield, ↓wp_i2l, ↓wp_iconst, ↓wp_if_eq, ↓wp_if_ne, ↓wp_iload_n1, ↓wp_iload_n2, ↓wp_invokestatic, ↓wp_invokevirtual, ↓wp_ireturn1, wp_nil, ↓ldI_0, ↓ldI_s, ↓ldL_0, ↓ldL_s, ↓ldR_0, ↓ldR_s, sto1_0, sto1_1, sto1_s, sto2_0, sto2_1, sto2_s, isLong_i, isLong_l, isLong_r, ↓popI_c, ↓popL_c, ↓popR_c, ↓popN_0, ↓popN_s, catS_n, catS_c, psh_s, psh_n, fldV_n, fldV_s, ↓tgt_e, sw_n, ↓sw_c, ↓lk1_h, ↓lk1_m, ↓atC_h, ↓atC_m, ↓atC_n, ltO_n, ltO_s, updR_eq, updR_ne, gI_0i, gI_0l, gI_s, ltM_iff, List.cons.injEq, Sum.inl.injEq, Sum.inr.injEq, Option.some.injEq, exists_eq_left, exists_eq_left', exists_eq_right, exists_eq_right', exists_and_left, exists_and_right, exists_eq, exists_const, and_assoc, ↓j_X_word_0, ↓j_X_word_19, ↓j_X_word_22, ↓f_X_10, List.length_cons, List.length_nil, Nat.zero_add, Nat.reduceAdd, Int.reduceAdd, Int.reduceNeg, Int.reduceToNat, Int.reduceLE, Int.reduceLT, true_and, and_true, Nat.reduceLT, reduceIte, Nat.reduceEqDiff, ne_eq, not_false_eq_true, false_implies, true_implies, Bool.false_eq_true, reduceCtorEq, List.cons_append, List.nil_append, Nat.reduceSub, Nat.reduceLeDiff, Fin.isValue, Int.reduceNatCast', Int.zero_add, Int.add_zero, decide_true, decide_false, implies_true, forall_const, true_or, or_true, or_false, false_or, false_and, and_false, Int.toNat_natCast, ↓oF_0_0, ↓oF_0_1, ↓oF_0_2, ↓oF_0_3, ↓oF_0_4, ↓oF_0_5, ↓oF_0_6, ↓oF_0_7, ↓oF_0_8, ↓oF_0_9, ↓oF_0_10, ↓oF_0_11, oC_0, oC_1, oC_4, oC_11, oC_16, oC_18, oC_20, oC_23, oC_25, oC_26, oC_29, oC_31, oC_33, oC_35, oC_37, isT_29, isT_31, isT_33, isT_35, isL_16, isL_18, isL_26, b2i_0, b2i_1, b2i_01, b2i_r, ↓e_X_isWithin, ↓e_X_isRow, ↓e_B_addWord]
    generalize (2 : Int) ^ n.toNat = p at *
    (try simp only [rI_iff, rL_iff] at *)
    repeat' (with_reducible (first | assumption | apply And.intro | intro _))
    all_goals first | omega | with_reducible assumption | exact True.intro | skip
    all_goals grind
def s_X_clearWords : Spec := fun as σ Q => popR as fun c0 r0 => r0 = [] ∧ c0 = 0 ∧ Q (some (.inl (σ 1 2))) (updR σ 1 (up1 (σ 1) 2 0))
theorem e_X_clearWords  (σ : St) (Q : Option AV → St → Prop) : s_X_clearWords [.inr (.inr (some 0))] σ Q = (Q (some (.inl (σ 1 2))) (updR σ 1 (up1 (σ 1) 2 0))) := by
  show ([] = [] ∧ _) = _
  simp only [true_and]
set_option maxHeartbeats 4000000 in
set_option maxRecDepth 20000 in
theorem S_X_clearWords {l : Launch} : Sat l y_X_clearWords b_X_clearWords 1 (some .int) 1 s_X_clearWords := by
  refine sat_of (Φ := P_X) (κ := Q_X) (Γ := [(90, 1, 0, s_B_dropWords)]) (rt := 1) (by decide +kernel) P_X_ok Q_X_ok (by
    refine List.forall_mem_cons.mpr ⟨?_, fun _ h => absurd h List.not_mem_nil⟩
    · exact m_B_dropWords S_B_dropWords (by decide) l_X_90) (by simp) o_X_clearWords ?_
  intro as σ Q hh0
  obtain ⟨c0, rr0, rfl, hh1⟩ := popR_inv hh0
  obtain ⟨hrE, rfl, hQ⟩ := hh1
  subst hrE
  clear hh0
  refine ⟨Nat.le_of_ble_eq_true rfl, [], 14, ?_, cuts0⟩
  · rw [show entL 1 [.inr (.inr (some 0))] = [.inr (.inr (some 0))] from rfl]
    simp only [↓wpN_go, jmp_e, ↓wp_aload_n0, ↓wp_getfield, ↓wp_invokevirtual, ↓wp_ireturn1, wp_nil, ↓ldI_0, ↓ldI_s, ↓ldL_0, ↓ldL_s, ↓ldR_0, ↓ldR_s, sto1_0, sto1_1, sto1_s, sto2_0, sto2_1, sto2_s, isLong_i, isLong_l, isLong_r, ↓popI_c, ↓popL_c, ↓popR_c, ↓popN_0, ↓popN_s, catS_n, catS_c, psh_s, psh_n, fldV_n, fldV_s, ↓tgt_e, sw_n, ↓sw_c, ↓lk1_h, ↓lk1_m, ↓atC_h, ↓atC_m, ↓atC_n, ltO_n, ltO_s, updR_eq, updR_ne, gI_0i, gI_0l, gI_s, ltM_iff, List.cons.injEq, Sum.inl.injEq, Sum.inr.injEq, Option.some.injEq, exists_eq_left, exists_eq_left', exists_eq_right, exists_eq_right', exists_and_left, exists_and_right, exists_eq, exists_const, and_assoc, ↓j_X_clearWords_0, ↓f_X_10, List.length_cons, List.length_nil, Nat.zero_add, Nat.reduceAdd, Int.reduceAdd, Int.reduceNeg, Int.reduceToNat, Int.reduceLE, Int.reduceLT, true_and, and_true, Nat.reduceLT, reduceIte, Nat.reduceEqDiff, ne_eq, not_false_eq_true, false_implies, true_implies, Bool.false_eq_true, reduceCtorEq, List.cons_append, List.nil_append, Nat.reduceSub, Nat.reduceLeDiff, Fin.isValue, Int.reduceNatCast', Int.zero_add, Int.add_zero, decide_true, decide_false, implies_true, forall_const, true_or, or_true, or_false, false_or, false_and, and_false, Int.toNat_natCast, ↓oF_0_0, ↓oF_0_1, ↓oF_0_2, ↓oF_0_3, ↓oF_0_4, ↓oF_0_5, ↓oF_0_6, ↓oF_0_7, ↓oF_0_8, ↓oF_0_9, ↓oF_0_10, ↓oF_0_11, oC_0, oC_1, oC_4, oC_11, oC_16, oC_18, oC_20, oC_23, oC_25, oC_26, oC_29, oC_31, oC_33, oC_35, oC_37, isT_29, isT_31, isT_33, isT_35, isL_16, isL_18, isL_26, b2i_0, b2i_1, b2i_01, b2i_r, ↓e_B_dropWords]
    (try simp only [rI_iff, rL_iff] at *)
    repeat' (first | assumption | apply And.intro | intro _)
    all_goals first
      | omega
      | (refine st_ext fun k j => ?_; grind [updR_app, up1_app, b2i])
      | (refine Q_eq hQ ?_ ?_ <;> first | rfl | (refine st_ext fun k j => ?_; grind [updR_app, up1_app, b2i]) | grind [updR_app, up1_app, b2i])
      | grind [updR_app, up1_app, b2i]
def s_X_lean : Spec := fun as σ Q => popR as fun c0 r0 => popI r0 fun v r1 => r1 = [] ∧ c0 = 0 ∧ (rI v) ∧ if -1 ≤ v ∧ v ≤ 5 then Q (some (.inl 1)) (updR σ 1 (up1 (σ 1) 5 v)) else Q (some (.inl (-2))) σ
theorem e_X_lean (v : Int) (σ : St) (Q : Option AV → St → Prop) : s_X_lean [.inr (.inr (some 0)), .inl v] σ Q = ((rI v) ∧ if -1 ≤ v ∧ v ≤ 5 then Q (some (.inl 1)) (updR σ 1 (up1 (σ 1) 5 v)) else Q (some (.inl (-2))) σ) := by
  show ([] = [] ∧ _) = _
  simp only [true_and]
set_option maxHeartbeats 4000000 in
set_option maxRecDepth 20000 in
theorem S_X_lean {l : Launch} : Sat l y_X_lean b_X_lean 2 (some .int) 1 s_X_lean := by
  refine sat_of (Φ := P_X) (κ := Q_X) (Γ := [(74, 0, 3, s_X_isWithin), (94, 1, 1, s_B_tellLean)]) (rt := 1) (by decide +kernel) P_X_ok Q_X_ok (by
    refine List.forall_mem_cons.mpr ⟨?_, List.forall_mem_cons.mpr ⟨?_, fun _ h => absurd h List.not_mem_nil⟩⟩
    · exact m_X_isWithin S_X_isWithin (by decide) l_X_74
    · exact m_B_tellLean S_B_tellLean (by decide) l_X_94) (by simp) o_X_lean ?_
  intro as σ Q hh0
  obtain ⟨c0, rr0, rfl, hh1⟩ := popR_inv hh0
  obtain ⟨v, rr1, rfl, hh2⟩ := popI_inv hh1
  obtain ⟨hrE, rfl, hrv, hQ⟩ := hh2
  subst hrE
  clear hh0 hh1
  refine ⟨Nat.le_of_ble_eq_true rfl, [], 14, ?_, cuts0⟩
  · rw [show entL 2 [.inr (.inr (some 0)), .inl v] = [.inr (.inr (some 0)), .inl v] from rfl]
    simp only [↓wpN_go, jmp_e, ↓wp_aload_n0, ↓wp_bipush, ↓wp_getfield, ↓wp_iconst, ↓wp_if_ne, ↓wp_iload_n1, ↓wp_invokestatic, ↓wp_invokevirtual, ↓wp_ireturn1, wp_nil, ↓ldI_0, ↓ldI_s, ↓ldL_0, ↓ldL_s, ↓ldR_0, ↓ldR_s, sto1_0, sto1_1, sto1_s, sto2_0, sto2_1, sto2_s, isLong_i, isLong_l, isLong_r, ↓popI_c, ↓popL_c, ↓popR_c, ↓popN_0, ↓popN_s, catS_n, catS_c, psh_s, psh_n, fldV_n, fldV_s, ↓tgt_e, sw_n, ↓sw_c, ↓lk1_h, ↓lk1_m, ↓atC_h, ↓atC_m, ↓atC_n, ltO_n, ltO_s, updR_eq, updR_ne, gI_0i, gI_0l, gI_s, ltM_iff, List.cons.injEq, Sum.inl.injEq, Sum.inr.injEq, Option.some.injEq, exists_eq_left, exists_eq_left', exists_eq_right, exists_eq_right', exists_and_left, exists_and_right, exists_eq, exists_const, and_assoc, ↓j_X_lean_0, ↓j_X_lean_12, ↓f_X_10, List.length_cons, List.length_nil, Nat.zero_add, Nat.reduceAdd, Int.reduceAdd, Int.reduceNeg, Int.reduceToNat, Int.reduceLE, Int.reduceLT, true_and, and_true, Nat.reduceLT, reduceIte, Nat.reduceEqDiff, ne_eq, not_false_eq_true, false_implies, true_implies, Bool.false_eq_true, reduceCtorEq, List.cons_append, List.nil_append, Nat.reduceSub, Nat.reduceLeDiff, Fin.isValue, Int.reduceNatCast', Int.zero_add, Int.add_zero, decide_true, decide_false, implies_true, forall_const, true_or, or_true, or_false, false_or, false_and, and_false, Int.toNat_natCast, ↓oF_0_0, ↓oF_0_1, ↓oF_0_2, ↓oF_0_3, ↓oF_0_4, ↓oF_0_5, ↓oF_0_6, ↓oF_0_7, ↓oF_0_8, ↓oF_0_9, ↓oF_0_10, ↓oF_0_11, oC_0, oC_1, oC_4, oC_11, oC_16, oC_18, oC_20, oC_23, oC_25, oC_26, oC_29, oC_31, oC_33, oC_35, oC_37, isT_29, isT_31, isT_33, isT_35, isL_16, isL_18, isL_26, b2i_0, b2i_1, b2i_01, b2i_r, ↓e_X_isWithin, ↓e_B_tellLean]
    (try simp only [rI_iff, rL_iff] at *)
    repeat' (first | assumption | apply And.intro | intro _)
    all_goals first
      | omega
      | (refine st_ext fun k j => ?_; grind [updR_app, up1_app, b2i])
      | (refine Q_eq hQ ?_ ?_ <;> first | rfl | (refine st_ext fun k j => ?_; grind [updR_app, up1_app, b2i]) | grind [updR_app, up1_app, b2i])
      | grind [updR_app, up1_app, b2i]
def s_X_ban : Spec := fun as σ Q => popR as fun c0 r0 => popI r0 fun what r1 => r1 = [] ∧ c0 = 0 ∧ (WordsOK (σ 1 2) (σ 2) (σ 3)) ∧ (rI what) ∧ Q (some (.inl (toldZ σ what))) σ
theorem e_X_ban (what : Int) (σ : St) (Q : Option AV → St → Prop) : s_X_ban [.inr (.inr (some 0)), .inl what] σ Q = ((WordsOK (σ 1 2) (σ 2) (σ 3)) ∧ (rI what) ∧ Q (some (.inl (toldZ σ what))) σ) := by
  show ([] = [] ∧ _) = _
  simp only [true_and]
set_option maxHeartbeats 4000000 in
set_option maxRecDepth 20000 in
theorem S_X_ban {l : Launch} : Sat l y_X_ban b_X_ban 2 (some .int) 2 s_X_ban := by
  refine sat_of (Φ := P_X) (κ := Q_X) (Γ := [(98, 1, 1, s_B_told)]) (rt := 1) (by decide +kernel) P_X_ok Q_X_ok (by
    refine List.forall_mem_cons.mpr ⟨?_, fun _ h => absurd h List.not_mem_nil⟩
    · exact m_B_told S_B_told (by decide) l_X_98) (by simp) o_X_ban ?_
  intro as σ Q hh0
  obtain ⟨c0, rr0, rfl, hh1⟩ := popR_inv hh0
  obtain ⟨what, rr1, rfl, hh2⟩ := popI_inv hh1
  obtain ⟨hrE, rfl, hw, hi0, hQ⟩ := hh2
  subst hrE
  clear hh0 hh1
  refine ⟨Nat.le_of_ble_eq_true rfl, [], 14, ?_, cuts0⟩
  · rw [show entL 2 [.inr (.inr (some 0)), .inl what] = [.inr (.inr (some 0)), .inl what] from rfl]
    simp only [↓wpN_go, jmp_e, ↓wp_aload_n0, ↓wp_getfield, ↓wp_iload_n1, ↓wp_invokevirtual, ↓wp_ireturn1, wp_nil, ↓ldI_0, ↓ldI_s, ↓ldL_0, ↓ldL_s, ↓ldR_0, ↓ldR_s, sto1_0, sto1_1, sto1_s, sto2_0, sto2_1, sto2_s, isLong_i, isLong_l, isLong_r, ↓popI_c, ↓popL_c, ↓popR_c, ↓popN_0, ↓popN_s, catS_n, catS_c, psh_s, psh_n, fldV_n, fldV_s, ↓tgt_e, sw_n, ↓sw_c, ↓lk1_h, ↓lk1_m, ↓atC_h, ↓atC_m, ↓atC_n, ltO_n, ltO_s, updR_eq, updR_ne, gI_0i, gI_0l, gI_s, ltM_iff, List.cons.injEq, Sum.inl.injEq, Sum.inr.injEq, Option.some.injEq, exists_eq_left, exists_eq_left', exists_eq_right, exists_eq_right', exists_and_left, exists_and_right, exists_eq, exists_const, and_assoc, ↓j_X_ban_0, ↓f_X_10, List.length_cons, List.length_nil, Nat.zero_add, Nat.reduceAdd, Int.reduceAdd, Int.reduceNeg, Int.reduceToNat, Int.reduceLE, Int.reduceLT, true_and, and_true, Nat.reduceLT, reduceIte, Nat.reduceEqDiff, ne_eq, not_false_eq_true, false_implies, true_implies, Bool.false_eq_true, reduceCtorEq, List.cons_append, List.nil_append, Nat.reduceSub, Nat.reduceLeDiff, Fin.isValue, Int.reduceNatCast', Int.zero_add, Int.add_zero, decide_true, decide_false, implies_true, forall_const, true_or, or_true, or_false, false_or, false_and, and_false, Int.toNat_natCast, ↓oF_0_0, ↓oF_0_1, ↓oF_0_2, ↓oF_0_3, ↓oF_0_4, ↓oF_0_5, ↓oF_0_6, ↓oF_0_7, ↓oF_0_8, ↓oF_0_9, ↓oF_0_10, ↓oF_0_11, oC_0, oC_1, oC_4, oC_11, oC_16, oC_18, oC_20, oC_23, oC_25, oC_26, oC_29, oC_31, oC_33, oC_35, oC_37, isT_29, isT_31, isT_33, isT_35, isL_16, isL_18, isL_26, b2i_0, b2i_1, b2i_01, b2i_r, ↓e_B_told]
    (try simp only [rI_iff, rL_iff] at *)
    repeat' (first | assumption | apply And.intro | intro _)
    all_goals first
      | omega
      | (refine st_ext fun k j => ?_; grind [updR_app, up1_app, b2i])
      | (refine Q_eq hQ ?_ ?_ <;> first | rfl | (refine st_ext fun k j => ?_; grind [updR_app, up1_app, b2i]) | grind [updR_app, up1_app, b2i])
      | grind [updR_app, up1_app, b2i]
def s_X_states : Spec := fun as σ Q => popR as fun c0 r0 => r0 = [] ∧ c0 = 0 ∧ Q (some (.inl (σ 11 4))) σ
theorem e_X_states  (σ : St) (Q : Option AV → St → Prop) : s_X_states [.inr (.inr (some 0))] σ Q = (Q (some (.inl (σ 11 4))) σ) := by
  show ([] = [] ∧ _) = _
  simp only [true_and]
set_option maxHeartbeats 4000000 in
set_option maxRecDepth 20000 in
theorem S_X_states {l : Launch} : Sat l y_X_states b_X_states 1 (some .int) 1 s_X_states := by
  refine sat_of (Φ := P_X) (κ := Q_X) (Γ := [(130, 8, 0, s_W_size)]) (rt := 1) (by decide +kernel) P_X_ok Q_X_ok (by
    refine List.forall_mem_cons.mpr ⟨?_, fun _ h => absurd h List.not_mem_nil⟩
    · exact m_W_size S_W_size (by decide) l_X_130) (by simp) o_X_states ?_
  intro as σ Q hh0
  obtain ⟨c0, rr0, rfl, hh1⟩ := popR_inv hh0
  obtain ⟨hrE, rfl, hQ⟩ := hh1
  subst hrE
  clear hh0
  refine ⟨Nat.le_of_ble_eq_true rfl, [], 14, ?_, cuts0⟩
  · rw [show entL 1 [.inr (.inr (some 0))] = [.inr (.inr (some 0))] from rfl]
    simp only [↓wpN_go, jmp_e, ↓wp_aload_n0, ↓wp_getfield, ↓wp_invokevirtual, ↓wp_ireturn1, wp_nil, ↓ldI_0, ↓ldI_s, ↓ldL_0, ↓ldL_s, ↓ldR_0, ↓ldR_s, sto1_0, sto1_1, sto1_s, sto2_0, sto2_1, sto2_s, isLong_i, isLong_l, isLong_r, ↓popI_c, ↓popL_c, ↓popR_c, ↓popN_0, ↓popN_s, catS_n, catS_c, psh_s, psh_n, fldV_n, fldV_s, ↓tgt_e, sw_n, ↓sw_c, ↓lk1_h, ↓lk1_m, ↓atC_h, ↓atC_m, ↓atC_n, ltO_n, ltO_s, updR_eq, updR_ne, gI_0i, gI_0l, gI_s, ltM_iff, List.cons.injEq, Sum.inl.injEq, Sum.inr.injEq, Option.some.injEq, exists_eq_left, exists_eq_left', exists_eq_right, exists_eq_right', exists_and_left, exists_and_right, exists_eq, exists_const, and_assoc, ↓j_X_states_0, ↓f_X_26, List.length_cons, List.length_nil, Nat.zero_add, Nat.reduceAdd, Int.reduceAdd, Int.reduceNeg, Int.reduceToNat, Int.reduceLE, Int.reduceLT, true_and, and_true, Nat.reduceLT, reduceIte, Nat.reduceEqDiff, ne_eq, not_false_eq_true, false_implies, true_implies, Bool.false_eq_true, reduceCtorEq, List.cons_append, List.nil_append, Nat.reduceSub, Nat.reduceLeDiff, Fin.isValue, Int.reduceNatCast', Int.zero_add, Int.add_zero, decide_true, decide_false, implies_true, forall_const, true_or, or_true, or_false, false_or, false_and, and_false, Int.toNat_natCast, ↓oF_0_0, ↓oF_0_1, ↓oF_0_2, ↓oF_0_3, ↓oF_0_4, ↓oF_0_5, ↓oF_0_6, ↓oF_0_7, ↓oF_0_8, ↓oF_0_9, ↓oF_0_10, ↓oF_0_11, oC_0, oC_1, oC_4, oC_11, oC_16, oC_18, oC_20, oC_23, oC_25, oC_26, oC_29, oC_31, oC_33, oC_35, oC_37, isT_29, isT_31, isT_33, isT_35, isL_16, isL_18, isL_26, b2i_0, b2i_1, b2i_01, b2i_r, ↓e_W_size]
    (try simp only [rI_iff, rL_iff] at *)
    repeat' (first | assumption | apply And.intro | intro _)
    all_goals first
      | omega
      | (refine st_ext fun k j => ?_; grind [updR_app, up1_app, b2i])
      | (refine Q_eq hQ ?_ ?_ <;> first | rfl | (refine st_ext fun k j => ?_; grind [updR_app, up1_app, b2i]) | grind [updR_app, up1_app, b2i])
      | grind [updR_app, up1_app, b2i]
def s_X_go : Spec := fun as σ Q => popR as fun c0 r0 => popI r0 fun s r1 => popI r1 fun b r2 => r2 = [] ∧ c0 = 0 ∧ (0 ≤ σ 11 4 ∧ σ 11 4 ≤ 100) ∧ (rI s) ∧ (rI b) ∧ Q (some (.inl (if (0 ≤ s ∧ s < σ 11 4) ∧ 0 ≤ b ∧ b ≤ 1 then stepZ (σ 11 4) (σ 12) s b else -2))) σ
theorem e_X_go (s : Int) (b : Int) (σ : St) (Q : Option AV → St → Prop) : s_X_go [.inr (.inr (some 0)), .inl s, .inl b] σ Q = ((0 ≤ σ 11 4 ∧ σ 11 4 ≤ 100) ∧ (rI s) ∧ (rI b) ∧ Q (some (.inl (if (0 ≤ s ∧ s < σ 11 4) ∧ 0 ≤ b ∧ b ≤ 1 then stepZ (σ 11 4) (σ 12) s b else -2))) σ) := by
  show ([] = [] ∧ _) = _
  simp only [true_and]
set_option maxHeartbeats 4000000 in
set_option maxRecDepth 20000 in
theorem S_X_go {l : Launch} : Sat l y_X_go b_X_go 3 (some .int) 2 s_X_go := by
  refine sat_of (Φ := P_X) (κ := Q_X) (Γ := [(133, 8, 1, s_W_has), (74, 0, 3, s_X_isWithin), (137, 8, 2, s_W_step)]) (rt := 1) (by decide +kernel) P_X_ok Q_X_ok (by
    refine List.forall_mem_cons.mpr ⟨?_, List.forall_mem_cons.mpr ⟨?_, List.forall_mem_cons.mpr ⟨?_, fun _ h => absurd h List.not_mem_nil⟩⟩⟩
    · exact m_W_has S_W_has (by decide) l_X_133
    · exact m_X_isWithin S_X_isWithin (by decide) l_X_74
    · exact m_W_step S_W_step (by decide) l_X_137) (by simp) o_X_go ?_
  intro as σ Q hh0
  obtain ⟨c0, rr0, rfl, hh1⟩ := popR_inv hh0
  obtain ⟨s, rr1, rfl, hh2⟩ := popI_inv hh1
  obtain ⟨b, rr2, rfl, hh3⟩ := popI_inv hh2
  obtain ⟨hrE, rfl, hN, hrs, hrb, hQ⟩ := hh3
  subst hrE
  clear hh0 hh1 hh2
  refine ⟨Nat.le_of_ble_eq_true rfl, [], 14, ?_, cuts0⟩
  · rw [show entL 3 [.inr (.inr (some 0)), .inl s, .inl b] = [.inr (.inr (some 0)), .inl s, .inl b] from rfl]
    simp only [↓wpN_go, jmp_e, ↓wp_aload_n0, ↓wp_bipush, ↓wp_getfield, ↓wp_iconst, ↓wp_if_eq, ↓wp_if_ne, ↓wp_iload_n1, ↓wp_iload_n2, ↓wp_invokestatic, ↓wp_invokevirtual, ↓wp_ireturn1, wp_nil, ↓ldI_0, ↓ldI_s, ↓ldL_0, ↓ldL_s, ↓ldR_0, ↓ldR_s, sto1_0, sto1_1, sto1_s, sto2_0, sto2_1, sto2_s, isLong_i, isLong_l, isLong_r, ↓popI_c, ↓popL_c, ↓popR_c, ↓popN_0, ↓popN_s, catS_n, catS_c, psh_s, psh_n, fldV_n, fldV_s, ↓tgt_e, sw_n, ↓sw_c, ↓lk1_h, ↓lk1_m, ↓atC_h, ↓atC_m, ↓atC_n, ltO_n, ltO_s, updR_eq, updR_ne, gI_0i, gI_0l, gI_s, ltM_iff, List.cons.injEq, Sum.inl.injEq, Sum.inr.injEq, Option.some.injEq, exists_eq_left, exists_eq_left', exists_eq_right, exists_eq_right', exists_and_left, exists_and_right, exists_eq, exists_const, and_assoc, ↓j_X_go_0, ↓j_X_go_20, ↓j_X_go_23, ↓f_X_26, List.length_cons, List.length_nil, Nat.zero_add, Nat.reduceAdd, Int.reduceAdd, Int.reduceNeg, Int.reduceToNat, Int.reduceLE, Int.reduceLT, true_and, and_true, Nat.reduceLT, reduceIte, Nat.reduceEqDiff, ne_eq, not_false_eq_true, false_implies, true_implies, Bool.false_eq_true, reduceCtorEq, List.cons_append, List.nil_append, Nat.reduceSub, Nat.reduceLeDiff, Fin.isValue, Int.reduceNatCast', Int.zero_add, Int.add_zero, decide_true, decide_false, implies_true, forall_const, true_or, or_true, or_false, false_or, false_and, and_false, Int.toNat_natCast, ↓oF_0_0, ↓oF_0_1, ↓oF_0_2, ↓oF_0_3, ↓oF_0_4, ↓oF_0_5, ↓oF_0_6, ↓oF_0_7, ↓oF_0_8, ↓oF_0_9, ↓oF_0_10, ↓oF_0_11, oC_0, oC_1, oC_4, oC_11, oC_16, oC_18, oC_20, oC_23, oC_25, oC_26, oC_29, oC_31, oC_33, oC_35, oC_37, isT_29, isT_31, isT_33, isT_35, isL_16, isL_18, isL_26, b2i_0, b2i_1, b2i_01, b2i_r, ↓e_W_has, ↓e_X_isWithin, ↓e_W_step]
    (try simp only [rI_iff, rL_iff] at *)
    repeat' (first | assumption | apply And.intro | intro _)
    all_goals first
      | omega
      | (refine st_ext fun k j => ?_; grind [updR_app, up1_app, b2i])
      | (refine Q_eq hQ ?_ ?_ <;> first | rfl | (refine st_ext fun k j => ?_; grind [updR_app, up1_app, b2i]) | grind [updR_app, up1_app, b2i])
      | grind [updR_app, up1_app, b2i]
def s_X_walk : Spec := fun as σ Q => popR as fun c0 r0 => popI r0 fun s r1 => popL r1 fun row r2 => popI r2 fun n r3 => r3 = [] ∧ c0 = 0 ∧ (0 ≤ σ 11 4 ∧ σ 11 4 ≤ 100) ∧ (Wire (σ 11 4) (σ 12)) ∧ (rI s) ∧ (rL row) ∧ (rI n) ∧ Q (some (.inl (if (0 ≤ s ∧ s < σ 11 4) ∧ (0 ≤ n ∧ n ≤ 60 ∧ 0 ≤ row ∧ row < 2 ^ n.toNat) then folZ (σ 11 4) (σ 12) row n.toNat s else -2))) σ
theorem e_X_walk (s : Int) (row : Int) (n : Int) (σ : St) (Q : Option AV → St → Prop) : s_X_walk [.inr (.inr (some 0)), .inl s, .inr (.inl row), .inl n] σ Q = ((0 ≤ σ 11 4 ∧ σ 11 4 ≤ 100) ∧ (Wire (σ 11 4) (σ 12)) ∧ (rI s) ∧ (rL row) ∧ (rI n) ∧ Q (some (.inl (if (0 ≤ s ∧ s < σ 11 4) ∧ (0 ≤ n ∧ n ≤ 60 ∧ 0 ≤ row ∧ row < 2 ^ n.toNat) then folZ (σ 11 4) (σ 12) row n.toNat s else -2))) σ) := by
  show ([] = [] ∧ _) = _
  simp only [true_and]
set_option maxHeartbeats 4000000 in
set_option maxRecDepth 20000 in
theorem S_X_walk {l : Launch} : Sat l y_X_walk b_X_walk 5 (some .int) 3 s_X_walk := by
  refine sat_of (Φ := P_X) (κ := Q_X) (Γ := [(133, 8, 1, s_W_has), (82, 0, 2, s_X_isRow), (140, 8, 3, s_W_follow)]) (rt := 1) (by decide +kernel) P_X_ok Q_X_ok (by
    refine List.forall_mem_cons.mpr ⟨?_, List.forall_mem_cons.mpr ⟨?_, List.forall_mem_cons.mpr ⟨?_, fun _ h => absurd h List.not_mem_nil⟩⟩⟩
    · exact m_W_has S_W_has (by decide) l_X_133
    · exact m_X_isRow S_X_isRow (by decide) l_X_82
    · exact m_W_follow S_W_follow (by decide) l_X_140) (by simp) o_X_walk ?_
  intro as σ Q hh0
  obtain ⟨c0, rr0, rfl, hh1⟩ := popR_inv hh0
  obtain ⟨s, rr1, rfl, hh2⟩ := popI_inv hh1
  obtain ⟨row, rr2, rfl, hh3⟩ := popL_inv hh2
  obtain ⟨n, rr3, rfl, hh4⟩ := popI_inv hh3
  obtain ⟨hrE, rfl, hN, hf, hrs, hrrow, hrn, hQ⟩ := hh4
  subst hrE
  clear hh0 hh1 hh2 hh3
  refine ⟨Nat.le_of_ble_eq_true rfl, [], 14, ?_, cuts0⟩
  · rw [show entL 5 [.inr (.inr (some 0)), .inl s, .inr (.inl row), .inl n] = [.inr (.inr (some 0)), .inl s, .inr (.inl row), .inr (.inr none), .inl n] from rfl]
    simp only [↓wpN_go, jmp_e, ↓wp_aload_n0, ↓wp_bipush, ↓wp_getfield, ↓wp_if_eq, ↓wp_if_ne, ↓wp_iload, ↓wp_iload_n1, ↓wp_invokestatic, ↓wp_invokevirtual, ↓wp_ireturn1, ↓wp_lload_n2, wp_nil, ↓ldI_0, ↓ldI_s, ↓ldL_0, ↓ldL_s, ↓ldR_0, ↓ldR_s, sto1_0, sto1_1, sto1_s, sto2_0, sto2_1, sto2_s, isLong_i, isLong_l, isLong_r, ↓popI_c, ↓popL_c, ↓popR_c, ↓popN_0, ↓popN_s, catS_n, catS_c, psh_s, psh_n, fldV_n, fldV_s, ↓tgt_e, sw_n, ↓sw_c, ↓lk1_h, ↓lk1_m, ↓atC_h, ↓atC_m, ↓atC_n, ltO_n, ltO_s, updR_eq, updR_ne, gI_0i, gI_0l, gI_s, ltM_iff, List.cons.injEq, Sum.inl.injEq, Sum.inr.injEq, Option.some.injEq, exists_eq_left, exists_eq_left', exists_eq_right, exists_eq_right', exists_and_left, exists_and_right, exists_eq, exists_const, and_assoc, ↓j_X_walk_0, ↓j_X_walk_20, ↓j_X_walk_23, ↓f_X_26, List.length_cons, List.length_nil, Nat.zero_add, Nat.reduceAdd, Int.reduceAdd, Int.reduceNeg, Int.reduceToNat, Int.reduceLE, Int.reduceLT, true_and, and_true, Nat.reduceLT, reduceIte, Nat.reduceEqDiff, ne_eq, not_false_eq_true, false_implies, true_implies, Bool.false_eq_true, reduceCtorEq, List.cons_append, List.nil_append, Nat.reduceSub, Nat.reduceLeDiff, Fin.isValue, Int.reduceNatCast', Int.zero_add, Int.add_zero, decide_true, decide_false, implies_true, forall_const, true_or, or_true, or_false, false_or, false_and, and_false, Int.toNat_natCast, ↓oF_0_0, ↓oF_0_1, ↓oF_0_2, ↓oF_0_3, ↓oF_0_4, ↓oF_0_5, ↓oF_0_6, ↓oF_0_7, ↓oF_0_8, ↓oF_0_9, ↓oF_0_10, ↓oF_0_11, oC_0, oC_1, oC_4, oC_11, oC_16, oC_18, oC_20, oC_23, oC_25, oC_26, oC_29, oC_31, oC_33, oC_35, oC_37, isT_29, isT_31, isT_33, isT_35, isL_16, isL_18, isL_26, b2i_0, b2i_1, b2i_01, b2i_r, ↓e_W_has, ↓e_X_isRow, ↓e_W_follow]
    generalize (2 : Int) ^ n.toNat = p at *
    (try simp only [rI_iff, rL_iff] at *)
    repeat' (with_reducible (first | assumption | apply And.intro | intro _))
    all_goals first | omega | with_reducible assumption | exact True.intro | skip
    all_goals grind
def s_X_first : Spec := fun as σ Q => popR as fun c0 r0 => popI r0 fun s r1 => popI r1 fun w r2 => r2 = [] ∧ c0 = 0 ∧ (0 ≤ σ 11 4 ∧ σ 11 4 ≤ 100) ∧ (Tree (σ 11 4) (σ 13) (σ 15)) ∧ (isBits (σ 14)) ∧ (rI s) ∧ (rI w) ∧ Q (some (.inr (.inl (if (0 ≤ s ∧ s < σ 11 4) ∧ 0 ≤ w ∧ w ≤ 1 then (if w = 0 then σ 15 s.toNat else (if σ 15 s.toNat ≤ 60 then pathV (σ 13) (σ 14) (σ 15 s.toNat).toNat s else -1)) else -2)))) σ
theorem e_X_first (s : Int) (w : Int) (σ : St) (Q : Option AV → St → Prop) : s_X_first [.inr (.inr (some 0)), .inl s, .inl w] σ Q = ((0 ≤ σ 11 4 ∧ σ 11 4 ≤ 100) ∧ (Tree (σ 11 4) (σ 13) (σ 15)) ∧ (isBits (σ 14)) ∧ (rI s) ∧ (rI w) ∧ Q (some (.inr (.inl (if (0 ≤ s ∧ s < σ 11 4) ∧ 0 ≤ w ∧ w ≤ 1 then (if w = 0 then σ 15 s.toNat else (if σ 15 s.toNat ≤ 60 then pathV (σ 13) (σ 14) (σ 15 s.toNat).toNat s else -1)) else -2)))) σ) := by
  show ([] = [] ∧ _) = _
  simp only [true_and]
set_option maxHeartbeats 4000000 in
set_option maxRecDepth 20000 in
theorem S_X_first {l : Launch} : Sat l y_X_first b_X_first 3 (some .long) 3 s_X_first := by
  refine sat_of (Φ := P_X) (κ := Q_X) (Γ := [(133, 8, 1, s_W_has), (74, 0, 3, s_X_isWithin), (146, 8, 1, s_W_depthOf), (149, 8, 1, s_W_shortestRow)]) (rt := 2) (by decide +kernel) P_X_ok Q_X_ok (by
    refine List.forall_mem_cons.mpr ⟨?_, List.forall_mem_cons.mpr ⟨?_, List.forall_mem_cons.mpr ⟨?_, List.forall_mem_cons.mpr ⟨?_, fun _ h => absurd h List.not_mem_nil⟩⟩⟩⟩
    · exact m_W_has S_W_has (by decide) l_X_133
    · exact m_X_isWithin S_X_isWithin (by decide) l_X_74
    · exact m_W_depthOf S_W_depthOf (by decide) l_X_146
    · exact m_W_shortestRow S_W_shortestRow (by decide) l_X_149) (by simp) o_X_first ?_
  intro as σ Q hh0
  obtain ⟨c0, rr0, rfl, hh1⟩ := popR_inv hh0
  obtain ⟨s, rr1, rfl, hh2⟩ := popI_inv hh1
  obtain ⟨w, rr2, rfl, hh3⟩ := popI_inv hh2
  obtain ⟨hrE, rfl, hN, hT, hb, hrs, hrw, hQ⟩ := hh3
  subst hrE
  clear hh0 hh1 hh2
  refine ⟨Nat.le_of_ble_eq_true rfl, [], 14, ?_, cuts0⟩
  · rw [show entL 3 [.inr (.inr (some 0)), .inl s, .inl w] = [.inr (.inr (some 0)), .inl s, .inl w] from rfl]
    simp only [↓wpN_go, jmp_e, ↓wp_aload_n0, ↓wp_getfield, ↓wp_goto, ↓wp_i2l, ↓wp_iconst, ↓wp_if_eq, ↓wp_if_ne, ↓wp_iload_n1, ↓wp_iload_n2, ↓wp_invokestatic, ↓wp_invokevirtual, ↓wp_ldc2_w, ↓wp_lreturn2, wp_nil, ↓ldI_0, ↓ldI_s, ↓ldL_0, ↓ldL_s, ↓ldR_0, ↓ldR_s, sto1_0, sto1_1, sto1_s, sto2_0, sto2_1, sto2_s, isLong_i, isLong_l, isLong_r, ↓popI_c, ↓popL_c, ↓popR_c, ↓popN_0, ↓popN_s, catS_n, catS_c, psh_s, psh_n, fldV_n, fldV_s, ↓tgt_e, sw_n, ↓sw_c, ↓lk1_h, ↓lk1_m, ↓atC_h, ↓atC_m, ↓atC_n, ltO_n, ltO_s, updR_eq, updR_ne, gI_0i, gI_0l, gI_s, ltM_iff, List.cons.injEq, Sum.inl.injEq, Sum.inr.injEq, Option.some.injEq, exists_eq_left, exists_eq_left', exists_eq_right, exists_eq_right', exists_and_left, exists_and_right, exists_eq, exists_const, and_assoc, ↓j_X_first_0, ↓j_X_first_20, ↓j_X_first_24, ↓j_X_first_40, ↓j_X_first_48, ↓c_X_100144, ↓f_X_26, List.length_cons, List.length_nil, Nat.zero_add, Nat.reduceAdd, Int.reduceAdd, Int.reduceNeg, Int.reduceToNat, Int.reduceLE, Int.reduceLT, true_and, and_true, Nat.reduceLT, reduceIte, Nat.reduceEqDiff, ne_eq, not_false_eq_true, false_implies, true_implies, Bool.false_eq_true, reduceCtorEq, List.cons_append, List.nil_append, Nat.reduceSub, Nat.reduceLeDiff, Fin.isValue, Int.reduceNatCast', Int.zero_add, Int.add_zero, decide_true, decide_false, implies_true, forall_const, true_or, or_true, or_false, false_or, false_and, and_false, Int.toNat_natCast, ↓oF_0_0, ↓oF_0_1, ↓oF_0_2, ↓oF_0_3, ↓oF_0_4, ↓oF_0_5, ↓oF_0_6, ↓oF_0_7, ↓oF_0_8, ↓oF_0_9, ↓oF_0_10, ↓oF_0_11, oC_0, oC_1, oC_4, oC_11, oC_16, oC_18, oC_20, oC_23, oC_25, oC_26, oC_29, oC_31, oC_33, oC_35, oC_37, isT_29, isT_31, isT_33, isT_35, isL_16, isL_18, isL_26, b2i_0, b2i_1, b2i_01, b2i_r, ↓e_W_has, ↓e_X_isWithin, ↓e_W_depthOf, ↓e_W_shortestRow]
    have hd : 0 ≤ s → s < σ 11 4 → -2147483648 ≤ σ 15 s.toNat ∧ σ 15 s.toNat < 2147483648 := fun h1 h2 => by
      have := hT.at ⟨h1, h2⟩
      omega
    (try simp only [rI_iff, rL_iff] at *)
    repeat' (with_reducible (first | assumption | apply And.intro | intro _))
    all_goals first | omega | with_reducible assumption | exact True.intro | skip
    all_goals grind
def s_X_count : Spec := fun as σ Q => popR as fun c0 r0 => popI r0 fun s r1 => popI r1 fun n r2 => r2 = [] ∧ c0 = 0 ∧ (0 ≤ σ 11 4 ∧ σ 11 4 ≤ 100) ∧ (rI s) ∧ (rI n) ∧ Q (some (.inr (.inl (if (0 ≤ s ∧ s < σ 11 4) ∧ 0 ≤ n ∧ n ≤ 60 then ladV (σ 17) n s else -2)))) σ
theorem e_X_count (s : Int) (n : Int) (σ : St) (Q : Option AV → St → Prop) : s_X_count [.inr (.inr (some 0)), .inl s, .inl n] σ Q = ((0 ≤ σ 11 4 ∧ σ 11 4 ≤ 100) ∧ (rI s) ∧ (rI n) ∧ Q (some (.inr (.inl (if (0 ≤ s ∧ s < σ 11 4) ∧ 0 ≤ n ∧ n ≤ 60 then ladV (σ 17) n s else -2)))) σ) := by
  show ([] = [] ∧ _) = _
  simp only [true_and]
set_option maxHeartbeats 4000000 in
set_option maxRecDepth 20000 in
theorem S_X_count {l : Launch} : Sat l y_X_count b_X_count 3 (some .long) 1 s_X_count := by
  refine sat_of (Φ := P_X) (κ := Q_X) (Γ := [(133, 8, 1, s_W_has), (74, 0, 3, s_X_isWithin), (153, 4, 2, s_L_at)]) (rt := 2) (by decide +kernel) P_X_ok Q_X_ok (by
    refine List.forall_mem_cons.mpr ⟨?_, List.forall_mem_cons.mpr ⟨?_, List.forall_mem_cons.mpr ⟨?_, fun _ h => absurd h List.not_mem_nil⟩⟩⟩
    · exact m_W_has S_W_has (by decide) l_X_133
    · exact m_X_isWithin S_X_isWithin (by decide) l_X_74
    · exact m_L_at S_L_at (by decide) l_X_153) (by simp) o_X_count ?_
  intro as σ Q hh0
  obtain ⟨c0, rr0, rfl, hh1⟩ := popR_inv hh0
  obtain ⟨s, rr1, rfl, hh2⟩ := popI_inv hh1
  obtain ⟨n, rr2, rfl, hh3⟩ := popI_inv hh2
  obtain ⟨hrE, rfl, hN, hrs, hrn, hQ⟩ := hh3
  subst hrE
  clear hh0 hh1 hh2
  refine ⟨Nat.le_of_ble_eq_true rfl, [], 14, ?_, cuts0⟩
  · rw [show entL 3 [.inr (.inr (some 0)), .inl s, .inl n] = [.inr (.inr (some 0)), .inl s, .inl n] from rfl]
    simp only [↓wpN_go, jmp_e, ↓wp_aload_n0, ↓wp_bipush, ↓wp_getfield, ↓wp_iconst, ↓wp_if_eq, ↓wp_if_ne, ↓wp_iload_n1, ↓wp_iload_n2, ↓wp_invokestatic, ↓wp_invokevirtual, ↓wp_ldc2_w, ↓wp_lreturn2, wp_nil, ↓ldI_0, ↓ldI_s, ↓ldL_0, ↓ldL_s, ↓ldR_0, ↓ldR_s, sto1_0, sto1_1, sto1_s, sto2_0, sto2_1, sto2_s, isLong_i, isLong_l, isLong_r, ↓popI_c, ↓popL_c, ↓popR_c, ↓popN_0, ↓popN_s, catS_n, catS_c, psh_s, psh_n, fldV_n, fldV_s, ↓tgt_e, sw_n, ↓sw_c, ↓lk1_h, ↓lk1_m, ↓atC_h, ↓atC_m, ↓atC_n, ltO_n, ltO_s, updR_eq, updR_ne, gI_0i, gI_0l, gI_s, ltM_iff, List.cons.injEq, Sum.inl.injEq, Sum.inr.injEq, Option.some.injEq, exists_eq_left, exists_eq_left', exists_eq_right, exists_eq_right', exists_and_left, exists_and_right, exists_eq, exists_const, and_assoc, ↓j_X_count_0, ↓j_X_count_21, ↓j_X_count_25, ↓c_X_100144, ↓f_X_26, ↓f_X_33, List.length_cons, List.length_nil, Nat.zero_add, Nat.reduceAdd, Int.reduceAdd, Int.reduceNeg, Int.reduceToNat, Int.reduceLE, Int.reduceLT, true_and, and_true, Nat.reduceLT, reduceIte, Nat.reduceEqDiff, ne_eq, not_false_eq_true, false_implies, true_implies, Bool.false_eq_true, reduceCtorEq, List.cons_append, List.nil_append, Nat.reduceSub, Nat.reduceLeDiff, Fin.isValue, Int.reduceNatCast', Int.zero_add, Int.add_zero, decide_true, decide_false, implies_true, forall_const, true_or, or_true, or_false, false_or, false_and, and_false, Int.toNat_natCast, ↓oF_0_0, ↓oF_0_1, ↓oF_0_2, ↓oF_0_3, ↓oF_0_4, ↓oF_0_5, ↓oF_0_6, ↓oF_0_7, ↓oF_0_8, ↓oF_0_9, ↓oF_0_10, ↓oF_0_11, oC_0, oC_1, oC_4, oC_11, oC_16, oC_18, oC_20, oC_23, oC_25, oC_26, oC_29, oC_31, oC_33, oC_35, oC_37, isT_29, isT_31, isT_33, isT_35, isL_16, isL_18, isL_26, b2i_0, b2i_1, b2i_01, b2i_r, ↓e_W_has, ↓e_X_isWithin, ↓e_L_at]
    (try simp only [rI_iff, rL_iff] at *)
    repeat' (first | assumption | apply And.intro | intro _)
    all_goals first
      | omega
      | (refine st_ext fun k j => ?_; grind [updR_app, up1_app, b2i])
      | (refine Q_eq hQ ?_ ?_ <;> first | rfl | (refine st_ext fun k j => ?_; grind [updR_app, up1_app, b2i]) | grind [updR_app, up1_app, b2i])
      | grind [updR_app, up1_app, b2i]
def s_X_number : Spec := fun as σ Q => popR as fun c0 r0 => popI r0 fun s r1 => popL r1 fun row r2 => popI r2 fun n r3 => r3 = [] ∧ c0 = 0 ∧ (0 ≤ σ 11 4 ∧ σ 11 4 ≤ 100) ∧ (Wire (σ 11 4) (σ 12)) ∧ (Climbed (σ 11 4) (σ 12) (σ 17) 60 (σ 17)) ∧ (LadB (σ 11 4) (σ 12) (σ 17) 60) ∧ (rI s) ∧ (rL row) ∧ (rI n) ∧ Q (some (.inr (.inl (if (0 ≤ s ∧ s < σ 11 4) ∧ (0 ≤ n ∧ n ≤ 60 ∧ 0 ≤ row ∧ row < 2 ^ n.toNat) then (if ladI (σ 11 4) (σ 12) (σ 17) 0 (folZ (σ 11 4) (σ 12) row n.toNat s) = 0 then -1 else rnkZ (σ 11 4) (σ 12) (σ 17) row n.toNat s) else -2)))) σ
theorem e_X_number (s : Int) (row : Int) (n : Int) (σ : St) (Q : Option AV → St → Prop) : s_X_number [.inr (.inr (some 0)), .inl s, .inr (.inl row), .inl n] σ Q = ((0 ≤ σ 11 4 ∧ σ 11 4 ≤ 100) ∧ (Wire (σ 11 4) (σ 12)) ∧ (Climbed (σ 11 4) (σ 12) (σ 17) 60 (σ 17)) ∧ (LadB (σ 11 4) (σ 12) (σ 17) 60) ∧ (rI s) ∧ (rL row) ∧ (rI n) ∧ Q (some (.inr (.inl (if (0 ≤ s ∧ s < σ 11 4) ∧ (0 ≤ n ∧ n ≤ 60 ∧ 0 ≤ row ∧ row < 2 ^ n.toNat) then (if ladI (σ 11 4) (σ 12) (σ 17) 0 (folZ (σ 11 4) (σ 12) row n.toNat s) = 0 then -1 else rnkZ (σ 11 4) (σ 12) (σ 17) row n.toNat s) else -2)))) σ) := by
  show ([] = [] ∧ _) = _
  simp only [true_and]
set_option maxHeartbeats 4000000 in
set_option maxRecDepth 20000 in
theorem S_X_number {l : Launch} : Sat l y_X_number b_X_number 5 (some .long) 3 s_X_number := by
  refine sat_of (Φ := P_X) (κ := Q_X) (Γ := [(133, 8, 1, s_W_has), (82, 0, 2, s_X_isRow), (157, 4, 4, s_L_rank)]) (rt := 2) (by decide +kernel) P_X_ok Q_X_ok (by
    refine List.forall_mem_cons.mpr ⟨?_, List.forall_mem_cons.mpr ⟨?_, List.forall_mem_cons.mpr ⟨?_, fun _ h => absurd h List.not_mem_nil⟩⟩⟩
    · exact m_W_has S_W_has (by decide) l_X_133
    · exact m_X_isRow S_X_isRow (by decide) l_X_82
    · exact m_L_rank S_L_rank (by decide) l_X_157) (by simp) o_X_number ?_
  intro as σ Q hh0
  obtain ⟨c0, rr0, rfl, hh1⟩ := popR_inv hh0
  obtain ⟨s, rr1, rfl, hh2⟩ := popI_inv hh1
  obtain ⟨row, rr2, rfl, hh3⟩ := popL_inv hh2
  obtain ⟨n, rr3, rfl, hh4⟩ := popI_inv hh3
  obtain ⟨hrE, rfl, hN, hf, hl, hlb, hrs, hrrow, hrn, hQ⟩ := hh4
  subst hrE
  clear hh0 hh1 hh2 hh3
  refine ⟨Nat.le_of_ble_eq_true rfl, [], 14, ?_, cuts0⟩
  · rw [show entL 5 [.inr (.inr (some 0)), .inl s, .inr (.inl row), .inl n] = [.inr (.inr (some 0)), .inl s, .inr (.inl row), .inr (.inr none), .inl n] from rfl]
    simp only [↓wpN_go, jmp_e, ↓wp_aload_n0, ↓wp_getfield, ↓wp_if_eq, ↓wp_if_ne, ↓wp_iload, ↓wp_iload_n1, ↓wp_invokestatic, ↓wp_invokevirtual, ↓wp_ldc2_w, ↓wp_lload_n2, ↓wp_lreturn2, wp_nil, ↓ldI_0, ↓ldI_s, ↓ldL_0, ↓ldL_s, ↓ldR_0, ↓ldR_s, sto1_0, sto1_1, sto1_s, sto2_0, sto2_1, sto2_s, isLong_i, isLong_l, isLong_r, ↓popI_c, ↓popL_c, ↓popR_c, ↓popN_0, ↓popN_s, catS_n, catS_c, psh_s, psh_n, fldV_n, fldV_s, ↓tgt_e, sw_n, ↓sw_c, ↓lk1_h, ↓lk1_m, ↓atC_h, ↓atC_m, ↓atC_n, ltO_n, ltO_s, updR_eq, updR_ne, gI_0i, gI_0l, gI_s, ltM_iff, List.cons.injEq, Sum.inl.injEq, Sum.inr.injEq, Option.some.injEq, exists_eq_left, exists_eq_left', exists_eq_right, exists_eq_right', exists_and_left, exists_and_right, exists_eq, exists_const, and_assoc, ↓j_X_number_0, ↓j_X_number_20, ↓j_X_number_24, ↓c_X_100144, ↓f_X_26, ↓f_X_33, List.length_cons, List.length_nil, Nat.zero_add, Nat.reduceAdd, Int.reduceAdd, Int.reduceNeg, Int.reduceToNat, Int.reduceLE, Int.reduceLT, true_and, and_true, Nat.reduceLT, reduceIte, Nat.reduceEqDiff, ne_eq, not_false_eq_true, false_implies, true_implies, Bool.false_eq_true, reduceCtorEq, List.cons_append, List.nil_append, Nat.reduceSub, Nat.reduceLeDiff, Fin.isValue, Int.reduceNatCast', Int.zero_add, Int.add_zero, decide_true, decide_false, implies_true, forall_const, true_or, or_true, or_false, false_or, false_and, and_false, Int.toNat_natCast, ↓oF_0_0, ↓oF_0_1, ↓oF_0_2, ↓oF_0_3, ↓oF_0_4, ↓oF_0_5, ↓oF_0_6, ↓oF_0_7, ↓oF_0_8, ↓oF_0_9, ↓oF_0_10, ↓oF_0_11, oC_0, oC_1, oC_4, oC_11, oC_16, oC_18, oC_20, oC_23, oC_25, oC_26, oC_29, oC_31, oC_33, oC_35, oC_37, isT_29, isT_31, isT_33, isT_35, isL_16, isL_18, isL_26, b2i_0, b2i_1, b2i_01, b2i_r, ↓e_W_has, ↓e_X_isRow, ↓e_L_rank]
    have hl2 : Climbed (σ 11 4) (σ 12) (σ 17) n (σ 17) := climbed_le hl (Or.inr (Int.le_refl _))
    have hlb2 : n ≤ 60 → LadB (σ 11 4) (σ 12) (σ 17) n := fun h r t hr => hlb r t (by omega)
    generalize (2 : Int) ^ n.toNat = p at *
    (try simp only [rI_iff, rL_iff] at *)
    repeat' (with_reducible (first | assumption | apply And.intro | intro _))
    all_goals first | omega | with_reducible assumption | exact True.intro | skip
    all_goals grind
def s_X_row : Spec := fun as σ Q => popR as fun c0 r0 => popI r0 fun s r1 => popL r1 fun num r2 => popI r2 fun n r3 => r3 = [] ∧ c0 = 0 ∧ (0 ≤ σ 11 4 ∧ σ 11 4 ≤ 100) ∧ (Wire (σ 11 4) (σ 12)) ∧ (Climbed (σ 11 4) (σ 12) (σ 17) 60 (σ 17)) ∧ (LadB (σ 11 4) (σ 12) (σ 17) 60) ∧ (rI s) ∧ (rL num) ∧ (rI n) ∧ Q (some (.inr (.inl (if (0 ≤ s ∧ s < σ 11 4) ∧ 0 ≤ num ∧ 0 ≤ n ∧ n ≤ 60 then (if ladI (σ 11 4) (σ 12) (σ 17) n.toNat s ≤ num then -1 else pckZ (σ 11 4) (σ 12) (σ 17) n.toNat s num) else -2)))) σ
theorem e_X_row (s : Int) (num : Int) (n : Int) (σ : St) (Q : Option AV → St → Prop) : s_X_row [.inr (.inr (some 0)), .inl s, .inr (.inl num), .inl n] σ Q = ((0 ≤ σ 11 4 ∧ σ 11 4 ≤ 100) ∧ (Wire (σ 11 4) (σ 12)) ∧ (Climbed (σ 11 4) (σ 12) (σ 17) 60 (σ 17)) ∧ (LadB (σ 11 4) (σ 12) (σ 17) 60) ∧ (rI s) ∧ (rL num) ∧ (rI n) ∧ Q (some (.inr (.inl (if (0 ≤ s ∧ s < σ 11 4) ∧ 0 ≤ num ∧ 0 ≤ n ∧ n ≤ 60 then (if ladI (σ 11 4) (σ 12) (σ 17) n.toNat s ≤ num then -1 else pckZ (σ 11 4) (σ 12) (σ 17) n.toNat s num) else -2)))) σ) := by
  show ([] = [] ∧ _) = _
  simp only [true_and]
set_option maxHeartbeats 4000000 in
set_option maxRecDepth 20000 in
theorem S_X_row {l : Launch} : Sat l y_X_row b_X_row 5 (some .long) 3 s_X_row := by
  refine sat_of (Φ := P_X) (κ := Q_X) (Γ := [(133, 8, 1, s_W_has), (74, 0, 3, s_X_isWithin), (161, 4, 4, s_L_pick)]) (rt := 2) (by decide +kernel) P_X_ok Q_X_ok (by
    refine List.forall_mem_cons.mpr ⟨?_, List.forall_mem_cons.mpr ⟨?_, List.forall_mem_cons.mpr ⟨?_, fun _ h => absurd h List.not_mem_nil⟩⟩⟩
    · exact m_W_has S_W_has (by decide) l_X_133
    · exact m_X_isWithin S_X_isWithin (by decide) l_X_74
    · exact m_L_pick S_L_pick (by decide) l_X_161) (by simp) o_X_row ?_
  intro as σ Q hh0
  obtain ⟨c0, rr0, rfl, hh1⟩ := popR_inv hh0
  obtain ⟨s, rr1, rfl, hh2⟩ := popI_inv hh1
  obtain ⟨num, rr2, rfl, hh3⟩ := popL_inv hh2
  obtain ⟨n, rr3, rfl, hh4⟩ := popI_inv hh3
  obtain ⟨hrE, rfl, hN, hf, hl, hlb, hrs, hrnum, hrn, hQ⟩ := hh4
  subst hrE
  clear hh0 hh1 hh2 hh3
  refine ⟨Nat.le_of_ble_eq_true rfl, [], 14, ?_, cuts0⟩
  · rw [show entL 5 [.inr (.inr (some 0)), .inl s, .inr (.inl num), .inl n] = [.inr (.inr (some 0)), .inl s, .inr (.inl num), .inr (.inr none), .inl n] from rfl]
    simp only [↓wpN_go, jmp_e, ↓wp_aload_n0, ↓wp_bipush, ↓wp_getfield, ↓wp_iconst, ↓wp_if_eq, ↓wp_if_lt, ↓wp_if_ne, ↓wp_iload, ↓wp_iload_n1, ↓wp_invokestatic, ↓wp_invokevirtual, ↓wp_lcmp, ↓wp_lconst0, ↓wp_ldc2_w, ↓wp_lload_n2, ↓wp_lreturn2, wp_nil, ↓ldI_0, ↓ldI_s, ↓ldL_0, ↓ldL_s, ↓ldR_0, ↓ldR_s, sto1_0, sto1_1, sto1_s, sto2_0, sto2_1, sto2_s, isLong_i, isLong_l, isLong_r, ↓popI_c, ↓popL_c, ↓popR_c, ↓popN_0, ↓popN_s, catS_n, catS_c, psh_s, psh_n, fldV_n, fldV_s, ↓tgt_e, sw_n, ↓sw_c, ↓lk1_h, ↓lk1_m, ↓atC_h, ↓atC_m, ↓atC_n, ltO_n, ltO_s, updR_eq, updR_ne, gI_0i, gI_0l, gI_s, ltM_iff, List.cons.injEq, Sum.inl.injEq, Sum.inr.injEq, Option.some.injEq, exists_eq_left, exists_eq_left', exists_eq_right, exists_eq_right', exists_and_left, exists_and_right, exists_eq, exists_const, and_assoc, ↓j_X_row_0, ↓j_X_row_28, ↓j_X_row_32, ↓c_X_100144, ↓f_X_26, ↓f_X_33, List.length_cons, List.length_nil, Nat.zero_add, Nat.reduceAdd, Int.reduceAdd, Int.reduceNeg, Int.reduceToNat, Int.reduceLE, Int.reduceLT, true_and, and_true, Nat.reduceLT, reduceIte, Nat.reduceEqDiff, ne_eq, not_false_eq_true, false_implies, true_implies, Bool.false_eq_true, reduceCtorEq, List.cons_append, List.nil_append, Nat.reduceSub, Nat.reduceLeDiff, Fin.isValue, Int.reduceNatCast', Int.zero_add, Int.add_zero, decide_true, decide_false, implies_true, forall_const, true_or, or_true, or_false, false_or, false_and, and_false, Int.toNat_natCast, ↓oF_0_0, ↓oF_0_1, ↓oF_0_2, ↓oF_0_3, ↓oF_0_4, ↓oF_0_5, ↓oF_0_6, ↓oF_0_7, ↓oF_0_8, ↓oF_0_9, ↓oF_0_10, ↓oF_0_11, oC_0, oC_1, oC_4, oC_11, oC_16, oC_18, oC_20, oC_23, oC_25, oC_26, oC_29, oC_31, oC_33, oC_35, oC_37, isT_29, isT_31, isT_33, isT_35, isL_16, isL_18, isL_26, b2i_0, b2i_1, b2i_01, b2i_r, cmpZ_r, cmpZ_lt, cmpZ_le, cmpZ_gt, cmpZ_ge, ↓e_W_has, ↓e_X_isWithin, ↓e_L_pick]
    have hl2 : Climbed (σ 11 4) (σ 12) (σ 17) n (σ 17) := climbed_le hl (Or.inr (Int.le_refl _))
    have hlb2 : n ≤ 60 → LadB (σ 11 4) (σ 12) (σ 17) n := fun h r t hr => hlb r t (by omega)
    (try simp only [rI_iff, rL_iff] at *)
    repeat' (with_reducible (first | assumption | apply And.intro | intro _))
    all_goals first | omega | with_reducible assumption | exact True.intro | skip
    all_goals grind
def indF (j : Int) : Nat → Int := fun s => if (s : Int) = j then 1 else 0
def s_X_ways : Spec := fun as σ Q => popR as fun c0 r0 => popI r0 fun i r1 => popI r1 fun j r2 => popI r2 fun n r3 => r3 = [] ∧ c0 = 0 ∧ (0 ≤ σ 11 4 ∧ σ 11 4 ≤ 100) ∧ (Wire (σ 11 4) (σ 12)) ∧ (rI i) ∧ (rI j) ∧ (rI n) ∧ if (0 ≤ i ∧ i < σ 11 4) ∧ (0 ≤ j ∧ j < σ 11 4) ∧ 0 ≤ n ∧ n ≤ 12 then (∀ g, Q (some (.inl (ladI (σ 11 4) (σ 12) (indF j) n.toNat i))) (updR σ 19 g)) else Q (some (.inl (-2))) σ
theorem e_X_ways (i : Int) (j : Int) (n : Int) (σ : St) (Q : Option AV → St → Prop) : s_X_ways [.inr (.inr (some 0)), .inl i, .inl j, .inl n] σ Q = ((0 ≤ σ 11 4 ∧ σ 11 4 ≤ 100) ∧ (Wire (σ 11 4) (σ 12)) ∧ (rI i) ∧ (rI j) ∧ (rI n) ∧ if (0 ≤ i ∧ i < σ 11 4) ∧ (0 ≤ j ∧ j < σ 11 4) ∧ 0 ≤ n ∧ n ≤ 12 then (∀ g, Q (some (.inl (ladI (σ 11 4) (σ 12) (indF j) n.toNat i))) (updR σ 19 g)) else Q (some (.inl (-2))) σ) := by
  show ([] = [] ∧ _) = _
  simp only [true_and]
set_option maxHeartbeats 4000000 in
set_option maxRecDepth 20000 in
theorem S_X_ways {l : Launch} : Sat l y_X_ways b_X_ways 4 (some .int) 3 s_X_ways := by
  refine sat_of (Φ := P_X) (κ := Q_X) (Γ := [(133, 8, 1, s_W_has), (74, 0, 3, s_X_isWithin), (114, 4, 1, s_L_setAll), (164, 4, 2, s_L_set), (118, 4, 2, s_L_climb), (153, 4, 2, s_L_at)]) (rt := 1) (by decide +kernel) P_X_ok Q_X_ok (by
    refine List.forall_mem_cons.mpr ⟨?_, List.forall_mem_cons.mpr ⟨?_, List.forall_mem_cons.mpr ⟨?_, List.forall_mem_cons.mpr ⟨?_, List.forall_mem_cons.mpr ⟨?_, List.forall_mem_cons.mpr ⟨?_, fun _ h => absurd h List.not_mem_nil⟩⟩⟩⟩⟩⟩
    · exact m_W_has S_W_has (by decide) l_X_133
    · exact m_X_isWithin S_X_isWithin (by decide) l_X_74
    · exact m_L_setAll S_L_setAll (by decide) l_X_114
    · exact m_L_set S_L_set (by decide) l_X_164
    · exact m_L_climb S_L_climb (by decide) l_X_118
    · exact m_L_at S_L_at (by decide) l_X_153) (by simp) o_X_ways ?_
  intro as σ Q hh0
  obtain ⟨c0, rr0, rfl, hh1⟩ := popR_inv hh0
  obtain ⟨i, rr1, rfl, hh2⟩ := popI_inv hh1
  obtain ⟨j, rr2, rfl, hh3⟩ := popI_inv hh2
  obtain ⟨n, rr3, rfl, hh4⟩ := popI_inv hh3
  obtain ⟨hrE, rfl, hN, hf, hri, hrj, hrn, hQ⟩ := hh4
  subst hrE
  clear hh0 hh1 hh2 hh3
  refine ⟨Nat.le_of_ble_eq_true rfl, [], 14, ?_, cuts0⟩
  · rw [show entL 4 [.inr (.inr (some 0)), .inl i, .inl j, .inl n] = [.inr (.inr (some 0)), .inl i, .inl j, .inl n] from rfl]
    simp only [↓wpN_go, jmp_e, ↓wp_aload_n0, ↓wp_bipush, ↓wp_getfield, ↓wp_iconst, ↓wp_if_eq, ↓wp_if_ne, ↓wp_iload_n1, ↓wp_iload_n2, ↓wp_iload_n3, ↓wp_invokestatic, ↓wp_invokevirtual, ↓wp_ireturn1, ↓wp_l2i, ↓wp_lconst0, ↓wp_lconst1, wp_nil, ↓ldI_0, ↓ldI_s, ↓ldL_0, ↓ldL_s, ↓ldR_0, ↓ldR_s, sto1_0, sto1_1, sto1_s, sto2_0, sto2_1, sto2_s, isLong_i, isLong_l, isLong_r, ↓popI_c, ↓popL_c, ↓popR_c, ↓popN_0, ↓popN_s, catS_n, catS_c, psh_s, psh_n, fldV_n, fldV_s, ↓tgt_e, sw_n, ↓sw_c, ↓lk1_h, ↓lk1_m, ↓atC_h, ↓atC_m, ↓atC_n, ltO_n, ltO_s, updR_eq, updR_ne, gI_0i, gI_0l, gI_s, ltM_iff, List.cons.injEq, Sum.inl.injEq, Sum.inr.injEq, Option.some.injEq, exists_eq_left, exists_eq_left', exists_eq_right, exists_eq_right', exists_and_left, exists_and_right, exists_eq, exists_const, and_assoc, ↓j_X_ways_0, ↓j_X_ways_32, ↓j_X_ways_35, ↓f_X_26, ↓f_X_37, List.length_cons, List.length_nil, Nat.zero_add, Nat.reduceAdd, Int.reduceAdd, Int.reduceNeg, Int.reduceToNat, Int.reduceLE, Int.reduceLT, true_and, and_true, Nat.reduceLT, reduceIte, Nat.reduceEqDiff, ne_eq, not_false_eq_true, false_implies, true_implies, Bool.false_eq_true, reduceCtorEq, List.cons_append, List.nil_append, Nat.reduceSub, Nat.reduceLeDiff, Fin.isValue, Int.reduceNatCast', Int.zero_add, Int.add_zero, decide_true, decide_false, implies_true, forall_const, true_or, or_true, or_false, false_or, false_and, and_false, Int.toNat_natCast, ↓oF_0_0, ↓oF_0_1, ↓oF_0_2, ↓oF_0_3, ↓oF_0_4, ↓oF_0_5, ↓oF_0_6, ↓oF_0_7, ↓oF_0_8, ↓oF_0_9, ↓oF_0_10, ↓oF_0_11, oC_0, oC_1, oC_4, oC_11, oC_16, oC_18, oC_20, oC_23, oC_25, oC_26, oC_29, oC_31, oC_33, oC_35, oC_37, isT_29, isT_31, isT_33, isT_35, isL_16, isL_18, isL_26, b2i_0, b2i_1, b2i_01, b2i_r, ↓e_W_has, ↓e_X_isWithin, ↓e_L_setAll, ↓e_L_set, ↓e_L_climb, ↓e_L_at]
    have e0 : ∀ s : Nat, s < 100 → up1 (fillF (σ 19) 0 100 0) j.toNat 1 s = if s = j.toNat then 1 else 0 := fun s hs1 => by
      rw [up1_app, fillF_app]
      split
      · rfl
      · rw [if_pos (by omega)]
    have q1 : (0 ≤ i ∧ i < σ 11 4) → (0 ≤ j ∧ j < σ 11 4) → (0 ≤ n ∧ n ≤ 12) → ∀ g, Climbed (σ 11 4) (σ 12) (up1 (fillF (σ 19) 0 100 0) j.toNat 1) n g → Q (some (.inl (wrapI (ladV g n i)))) (updR σ 19 g) := fun h1 h2 h3 g hg => by
      rw [if_pos ⟨h1, h2, h3⟩] at hQ
      have e1 : ladV g n i = ladI (σ 11 4) (σ 12) (indF j) n.toNat i := by
        rw [climbed_at hN.2 hg ⟨h3.1, by omega⟩ h1]
        refine ladI_congr (fun s hs1 => ?_) _ _
        rw [e0 s (by omega)]
        unfold indF
        by_cases e : s = j.toNat
        · rw [if_pos e, if_pos (by omega)]
        · rw [if_neg e, if_neg (by omega)]
      have e2 := ladI_bound (N := σ 11 4) (f := σ 12) (w := indF j) (B := 1) (by omega) (fun s _ => by unfold indF; split <;> omega) n.toNat i
      have e3 := p2_le (show n.toNat ≤ 12 by omega)
      have e4 : (2 : Int) ^ 12 = 4096 := by decide
      rw [e1, wrapI_id (by unfold rI; omega)]
      exact hQ g
    have q2 : ¬ ((0 ≤ i ∧ i < σ 11 4) ∧ (0 ≤ j ∧ j < σ 11 4) ∧ 0 ≤ n ∧ n ≤ 12) → Q (some (.inl (-2))) σ := fun h => by rw [if_neg h] at hQ; exact hQ
    clear hQ
    by_cases hj : 0 ≤ j ∧ j < 100
    · simp only [if_pos hj, updR_twice, updR_eq, updR_ne _ 19 11 _ (by decide), updR_ne _ 19 12 _ (by decide)]
      (try simp only [rI_iff, rL_iff] at *)
      repeat' (with_reducible (first | assumption | apply And.intro | intro _))
      all_goals first | omega | with_reducible assumption | exact True.intro | skip
      all_goals first
        | exact q2 (by omega)
        | exact q1 (by omega) (by omega) (by omega) _ (by assumption)
        | skip
    · (try simp only [rI_iff, rL_iff] at *)
      repeat' (with_reducible (first | assumption | apply And.intro | intro _))
      all_goals first | omega | with_reducible assumption | exact True.intro | skip
      all_goals first
        | exact q2 (by omega)
        | (exfalso; omega)
