/-! the wire: reading it; ladders -/
def s_W_size : Spec := fun as σ Q => popR as fun c0 r0 => r0 = [] ∧ c0 = 11 ∧ Q (some (.inl (σ 11 4))) σ
theorem e_W_size  (σ : St) (Q : Option AV → St → Prop) : s_W_size [.inr (.inr (some 11))] σ Q = (Q (some (.inl (σ 11 4))) σ) := by
  show ([] = [] ∧ _) = _
  simp only [true_and]
set_option maxHeartbeats 4000000 in
set_option maxRecDepth 20000 in
theorem S_W_size {l : Launch} : Sat l y_W_size b_W_size 1 (some .int) 0 s_W_size := by
  refine sat_of (Φ := P_W) (κ := Q_W) (Γ := []) (rt := 1) (by decide +kernel) P_W_ok Q_W_ok (fun g hg => absurd hg List.not_mem_nil) (by simp) o_W_size ?_
  intro as σ Q hh0
  obtain ⟨c0, rr0, rfl, hh1⟩ := popR_inv hh0
  obtain ⟨hrE, rfl, hQ⟩ := hh1
  subst hrE
  clear hh0
  refine ⟨Nat.le_of_ble_eq_true rfl, [], 14, ?_, cuts0⟩
  · rw [show entL 1 [.inr (.inr (some 11))] = [.inr (.inr (some 11))] from rfl]
    simp only [↓wpN_go, jmp_e, ↓wp_aload_n0, ↓wp_getfield, ↓wp_ireturn1, wp_nil, ↓ldI_0, ↓ldI_s, ↓ldL_0, ↓ldL_s, ↓ldR_0, ↓ldR_s, sto1_0, sto1_1, sto1_s, sto2_0, sto2_1, sto2_s, isLong_i, isLong_l, isLong_r, ↓popI_c, ↓popL_c, ↓popR_c, ↓popN_0, ↓popN_s, catS_n, catS_c, psh_s, psh_n, fldV_n, fldV_s, ↓tgt_e, sw_n, ↓sw_c, ↓lk1_h, ↓lk1_m, ↓atC_h, ↓atC_m, ↓atC_n, ltO_n, ltO_s, updR_eq, updR_ne, gI_0i, gI_0l, gI_s, ltM_iff, List.cons.injEq, Sum.inl.injEq, Sum.inr.injEq, Option.some.injEq, exists_eq_left, exists_eq_left', exists_eq_right, exists_eq_right', exists_and_left, exists_and_right, exists_eq, exists_const, and_assoc, ↓j_W_size_0, ↓f_W_24, List.length_cons, List.length_nil, Nat.zero_add, Nat.reduceAdd, Int.reduceAdd, Int.reduceNeg, Int.reduceToNat, Int.reduceLE, Int.reduceLT, true_and, and_true, Nat.reduceLT, reduceIte, Nat.reduceEqDiff, ne_eq, not_false_eq_true, false_implies, true_implies, Bool.false_eq_true, reduceCtorEq, List.cons_append, List.nil_append, Nat.reduceSub, Nat.reduceLeDiff, Fin.isValue, Int.reduceNatCast', Int.zero_add, Int.add_zero, decide_true, decide_false, implies_true, forall_const, true_or, or_true, or_false, false_or, false_and, and_false, Int.toNat_natCast, ↓oF_11_0, ↓aF_12, ↓oF_11_1, ↓aF_13, ↓oF_11_2, ↓aF_14, ↓oF_11_3, ↓aF_15, ↓oF_11_4, oC_0, oC_1, oC_4, oC_11, oC_16, oC_18, oC_20, oC_23, oC_25, oC_26, oC_29, oC_31, oC_33, oC_35, oC_37, isT_29, isT_31, isT_33, isT_35, isL_16, isL_18, isL_26]
    (try simp only [rI_iff, rL_iff] at *)
    repeat' (first | assumption | apply And.intro | intro _)
    all_goals first
      | omega
      | (refine st_ext fun k j => ?_; grind [updR_app, up1_app])
      | (refine Q_eq hQ ?_ ?_ <;> first | rfl | (refine st_ext fun k j => ?_; grind [updR_app, up1_app]) | grind [updR_app, up1_app])
      | grind [updR_app, up1_app]
def s_W_has : Spec := fun as σ Q => popR as fun c0 r0 => popI r0 fun s r1 => r1 = [] ∧ c0 = 11 ∧ (0 ≤ σ 11 4 ∧ σ 11 4 ≤ 100) ∧ (rI s) ∧ Q (some (.inl (b2i (0 ≤ s ∧ s < σ 11 4)))) σ
theorem e_W_has (s : Int) (σ : St) (Q : Option AV → St → Prop) : s_W_has [.inr (.inr (some 11)), .inl s] σ Q = ((0 ≤ σ 11 4 ∧ σ 11 4 ≤ 100) ∧ (rI s) ∧ Q (some (.inl (b2i (0 ≤ s ∧ s < σ 11 4)))) σ) := by
  show ([] = [] ∧ _) = _
  simp only [true_and]
set_option maxHeartbeats 4000000 in
set_option maxRecDepth 20000 in
theorem S_W_has {l : Launch} : Sat l y_W_has b_W_has 2 (some .boolean) 0 s_W_has := by
  refine sat_of (Φ := P_W) (κ := Q_W) (Γ := []) (rt := 3) (by decide +kernel) P_W_ok Q_W_ok (fun g hg => absurd hg List.not_mem_nil) (by simp) o_W_has ?_
  intro as σ Q hh0
  obtain ⟨c0, rr0, rfl, hh1⟩ := popR_inv hh0
  obtain ⟨s, rr1, rfl, hh2⟩ := popI_inv hh1
  obtain ⟨hrE, rfl, hN, hs, hQ⟩ := hh2
  subst hrE
  clear hh0 hh1
  refine ⟨Nat.le_of_ble_eq_true rfl, [], 14, ?_, cuts0⟩
  · rw [show entL 2 [.inr (.inr (some 11)), .inl s] = [.inr (.inr (some 11)), .inl s] from rfl]
    simp only [↓wpN_go, jmp_e, ↓wp_aload_n0, ↓wp_getfield, ↓wp_goto, ↓wp_icmp_ge, ↓wp_iconst, ↓wp_if_lt, ↓wp_iload_n1, ↓wp_ireturn3, wp_nil, ↓ldI_0, ↓ldI_s, ↓ldL_0, ↓ldL_s, ↓ldR_0, ↓ldR_s, sto1_0, sto1_1, sto1_s, sto2_0, sto2_1, sto2_s, isLong_i, isLong_l, isLong_r, ↓popI_c, ↓popL_c, ↓popR_c, ↓popN_0, ↓popN_s, catS_n, catS_c, psh_s, psh_n, fldV_n, fldV_s, ↓tgt_e, sw_n, ↓sw_c, ↓lk1_h, ↓lk1_m, ↓atC_h, ↓atC_m, ↓atC_n, ltO_n, ltO_s, updR_eq, updR_ne, gI_0i, gI_0l, gI_s, ltM_iff, List.cons.injEq, Sum.inl.injEq, Sum.inr.injEq, Option.some.injEq, exists_eq_left, exists_eq_left', exists_eq_right, exists_eq_right', exists_and_left, exists_and_right, exists_eq, exists_const, and_assoc, ↓j_W_has_0, ↓j_W_has_16, ↓j_W_has_17, ↓f_W_24, List.length_cons, List.length_nil, Nat.zero_add, Nat.reduceAdd, Int.reduceAdd, Int.reduceNeg, Int.reduceToNat, Int.reduceLE, Int.reduceLT, true_and, and_true, Nat.reduceLT, reduceIte, Nat.reduceEqDiff, ne_eq, not_false_eq_true, false_implies, true_implies, Bool.false_eq_true, reduceCtorEq, List.cons_append, List.nil_append, Nat.reduceSub, Nat.reduceLeDiff, Fin.isValue, Int.reduceNatCast', Int.zero_add, Int.add_zero, decide_true, decide_false, implies_true, forall_const, true_or, or_true, or_false, false_or, false_and, and_false, Int.toNat_natCast, ↓oF_11_0, ↓aF_12, ↓oF_11_1, ↓aF_13, ↓oF_11_2, ↓aF_14, ↓oF_11_3, ↓aF_15, ↓oF_11_4, oC_0, oC_1, oC_4, oC_11, oC_16, oC_18, oC_20, oC_23, oC_25, oC_26, oC_29, oC_31, oC_33, oC_35, oC_37, isT_29, isT_31, isT_33, isT_35, isL_16, isL_18, isL_26]
    (try simp only [rI_iff, rL_iff] at *)
    repeat' (first | assumption | apply And.intro | intro _)
    all_goals first
      | omega
      | (refine st_ext fun k j => ?_; grind [updR_app, up1_app, b2i])
      | (refine Q_eq hQ ?_ ?_ <;> first | rfl | (refine st_ext fun k j => ?_; grind [updR_app, up1_app, b2i]) | grind [updR_app, up1_app, b2i])
      | grind [updR_app, up1_app, b2i]
def s_W_step : Spec := fun as σ Q => popR as fun c0 r0 => popI r0 fun s r1 => popI r1 fun b r2 => r2 = [] ∧ c0 = 11 ∧ (0 ≤ σ 11 4 ∧ σ 11 4 ≤ 100) ∧ (rI s) ∧ (rI b) ∧ Q (some (.inl (stepZ (σ 11 4) (σ 12) s b))) σ
theorem e_W_step (s : Int) (b : Int) (σ : St) (Q : Option AV → St → Prop) : s_W_step [.inr (.inr (some 11)), .inl s, .inl b] σ Q = ((0 ≤ σ 11 4 ∧ σ 11 4 ≤ 100) ∧ (rI s) ∧ (rI b) ∧ Q (some (.inl (stepZ (σ 11 4) (σ 12) s b))) σ) := by
  show ([] = [] ∧ _) = _
  simp only [true_and]
set_option maxHeartbeats 4000000 in
set_option maxRecDepth 20000 in
theorem S_W_step {l : Launch} : Sat l y_W_step b_W_step 3 (some .int) 1 s_W_step := by
  refine sat_of (Φ := P_W) (κ := Q_W) (Γ := [(56, 8, 1, s_W_has)]) (rt := 1) (by decide +kernel) P_W_ok Q_W_ok (by
    refine List.forall_mem_cons.mpr ⟨?_, fun _ h => absurd h List.not_mem_nil⟩
    · exact m_W_has S_W_has (by decide) l_W_56) (by simp) o_W_step ?_
  intro as σ Q hh0
  obtain ⟨c0, rr0, rfl, hh1⟩ := popR_inv hh0
  obtain ⟨s, rr1, rfl, hh2⟩ := popI_inv hh1
  obtain ⟨b, rr2, rfl, hh3⟩ := popI_inv hh2
  obtain ⟨hrE, rfl, hN, hs, hb, hQ⟩ := hh3
  subst hrE
  clear hh0 hh1 hh2
  refine ⟨Nat.le_of_ble_eq_true rfl, [], 14, ?_, cuts0⟩
  · rw [show entL 3 [.inr (.inr (some 11)), .inl s, .inl b] = [.inr (.inr (some 11)), .inl s, .inl b] from rfl]
    simp only [↓wpN_go, jmp_e, ↓wp_aload_n0, ↓wp_getfield, ↓wp_iadd, ↓wp_iaload, ↓wp_icmp_le, ↓wp_iconst, ↓wp_if_eq, ↓wp_if_lt, ↓wp_iload_n1, ↓wp_iload_n2, ↓wp_imul, ↓wp_invokevirtual, ↓wp_ireturn1, wp_nil, ↓ldI_0, ↓ldI_s, ↓ldL_0, ↓ldL_s, ↓ldR_0, ↓ldR_s, sto1_0, sto1_1, sto1_s, sto2_0, sto2_1, sto2_s, isLong_i, isLong_l, isLong_r, ↓popI_c, ↓popL_c, ↓popR_c, ↓popN_0, ↓popN_s, catS_n, catS_c, psh_s, psh_n, fldV_n, fldV_s, ↓tgt_e, sw_n, ↓sw_c, ↓lk1_h, ↓lk1_m, ↓atC_h, ↓atC_m, ↓atC_n, ltO_n, ltO_s, updR_eq, updR_ne, gI_0i, gI_0l, gI_s, ltM_iff, List.cons.injEq, Sum.inl.injEq, Sum.inr.injEq, Option.some.injEq, exists_eq_left, exists_eq_left', exists_eq_right, exists_eq_right', exists_and_left, exists_and_right, exists_eq, exists_const, and_assoc, ↓j_W_step_0, ↓j_W_step_17, ↓j_W_step_19, ↓f_W_9, List.length_cons, List.length_nil, Nat.zero_add, Nat.reduceAdd, Int.reduceAdd, Int.reduceNeg, Int.reduceToNat, Int.reduceLE, Int.reduceLT, true_and, and_true, Nat.reduceLT, reduceIte, Nat.reduceEqDiff, ne_eq, not_false_eq_true, false_implies, true_implies, Bool.false_eq_true, reduceCtorEq, List.cons_append, List.nil_append, Nat.reduceSub, Nat.reduceLeDiff, Fin.isValue, Int.reduceNatCast', Int.zero_add, Int.add_zero, decide_true, decide_false, implies_true, forall_const, true_or, or_true, or_false, false_or, false_and, and_false, Int.toNat_natCast, ↓oF_11_0, ↓aF_12, ↓oF_11_1, ↓aF_13, ↓oF_11_2, ↓aF_14, ↓oF_11_3, ↓aF_15, ↓oF_11_4, oC_0, oC_1, oC_4, oC_11, oC_16, oC_18, oC_20, oC_23, oC_25, oC_26, oC_29, oC_31, oC_33, oC_35, oC_37, isT_29, isT_31, isT_33, isT_35, isL_16, isL_18, isL_26, b2i_0, b2i_1, b2i_01, b2i_r, ↓e_W_has]
    (try simp only [rI_iff, rL_iff] at *)
    repeat' (first | assumption | apply And.intro | intro _)
    all_goals first
      | omega
      | (refine st_ext fun k j => ?_; grind [updR_app, up1_app, stepZ])
      | (refine Q_eq hQ ?_ ?_ <;> first | rfl | (refine st_ext fun k j => ?_; grind [updR_app, up1_app, stepZ]) | grind [updR_app, up1_app, stepZ])
      | grind [updR_app, up1_app, stepZ]
theorem stepZ_r {N : Int} {f : Nat → Int} (hN : N ≤ 100) (hf : ∀ π : Nat, (π : Int) < 2 * N → -1 ≤ f π ∧ f π < N) (s b : Int) : -1 ≤ stepZ N f s b ∧ (stepZ N f s b < N ∨ stepZ N f s b = -1) := by
  unfold stepZ
  split
  · next h =>
    have := hf (2 * s + b).toNat (by omega)
    omega
  · omega
def s_W_follow : Spec := fun as σ Q => popR as fun c0 r0 => popI r0 fun s r1 => popL r1 fun row r2 => popI r2 fun n r3 => r3 = [] ∧ c0 = 11 ∧ (0 ≤ σ 11 4 ∧ σ 11 4 ≤ 100) ∧ (Wire (σ 11 4) (σ 12)) ∧ (rI s) ∧ (rL row) ∧ (0 ≤ n ∧ n ≤ 60) ∧ Q (some (.inl (folZ (σ 11 4) (σ 12) row n.toNat s))) σ
theorem e_W_follow (s : Int) (row : Int) (n : Int) (σ : St) (Q : Option AV → St → Prop) : s_W_follow [.inr (.inr (some 11)), .inl s, .inr (.inl row), .inl n] σ Q = ((0 ≤ σ 11 4 ∧ σ 11 4 ≤ 100) ∧ (Wire (σ 11 4) (σ 12)) ∧ (rI s) ∧ (rL row) ∧ (0 ≤ n ∧ n ≤ 60) ∧ Q (some (.inl (folZ (σ 11 4) (σ 12) row n.toNat s))) σ) := by
  show ([] = [] ∧ _) = _
  simp only [true_and]
set_option maxHeartbeats 4000000 in
set_option maxRecDepth 20000 in
theorem S_W_follow {l : Launch} : Sat l y_W_follow b_W_follow 7 (some .int) 2 s_W_follow := by
  refine sat_of (Φ := P_W) (κ := Q_W) (Γ := [(53, 8, 2, s_W_step)]) (rt := 1) (by decide +kernel) P_W_ok Q_W_ok (by
    refine List.forall_mem_cons.mpr ⟨?_, fun _ h => absurd h List.not_mem_nil⟩
    · exact m_W_step S_W_step (by decide) l_W_53) (by simp) o_W_follow ?_
  intro as σ Q hh0
  obtain ⟨c0, rr0, rfl, hh1⟩ := popR_inv hh0
  obtain ⟨s, rr1, rfl, hh2⟩ := popI_inv hh1
  obtain ⟨row, rr2, rfl, hh3⟩ := popL_inv hh2
  obtain ⟨n, rr3, rfl, hh4⟩ := popI_inv hh3
  obtain ⟨hrE, rfl, hN, hf, hs, hrow, hn, hQ⟩ := hh4
  subst hrE
  clear hh0 hh1 hh2 hh3
  refine ⟨Nat.le_of_ble_eq_true rfl, [(9, mkC (fun L st u => ∃ (x i : Int), L = [.inr (.inr (some 11)), .inl s, .inr (.inl row), .inr (.inr none), .inl n, .inl x, .inl i] ∧ st = [] ∧ (-1 ≤ i ∧ i < n) ∧ (folZ (σ 11 4) (σ 12) row (i + 1).toNat x = folZ (σ 11 4) (σ 12) row n.toNat s) ∧ (rI x) ∧ (u = σ)) (fun L st u => ((gI L 6 + 1).toNat, 0, 0)))], 14, ?_, cuts1 ?_ (cuts0)⟩
  · rw [show entL 7 [.inr (.inr (some 11)), .inl s, .inr (.inl row), .inl n] = [.inr (.inr (some 11)), .inl s, .inr (.inl row), .inr (.inr none), .inl n, .inr (.inr none), .inr (.inr none)] from rfl]
    simp only [↓wpN_go, jmp_e, ↓wp_aload_n0, ↓wp_goto, ↓wp_iand, ↓wp_iconst, ↓wp_if_lt, ↓wp_iinc, ↓wp_iload, ↓wp_iload_n1, ↓wp_invokevirtual, ↓wp_ireturn1, ↓wp_istore, ↓wp_isub, ↓wp_l2i, ↓wp_lload_n2, ↓wp_lshr, wp_nil, ↓ldI_0, ↓ldI_s, ↓ldL_0, ↓ldL_s, ↓ldR_0, ↓ldR_s, sto1_0, sto1_1, sto1_s, sto2_0, sto2_1, sto2_s, isLong_i, isLong_l, isLong_r, ↓popI_c, ↓popL_c, ↓popR_c, ↓popN_0, ↓popN_s, catS_n, catS_c, psh_s, psh_n, fldV_n, fldV_s, ↓tgt_e, sw_n, ↓sw_c, ↓lk1_h, ↓lk1_m, ↓atC_h, ↓atC_m, ↓atC_n, ltO_n, ltO_s, updR_eq, updR_ne, gI_0i, gI_0l, gI_s, ltM_iff, List.cons.injEq, Sum.inl.injEq, Sum.inr.injEq, Option.some.injEq, exists_eq_left, exists_eq_left', exists_eq_right, exists_eq_right', exists_and_left, exists_and_right, exists_eq, exists_const, and_assoc, ↓j_W_follow_0, ↓j_W_follow_9, ↓j_W_follow_35, List.length_cons, List.length_nil, Nat.zero_add, Nat.reduceAdd, Int.reduceAdd, Int.reduceNeg, Int.reduceToNat, Int.reduceLE, Int.reduceLT, true_and, and_true, Nat.reduceLT, reduceIte, Nat.reduceEqDiff, ne_eq, not_false_eq_true, false_implies, true_implies, Bool.false_eq_true, reduceCtorEq, List.cons_append, List.nil_append, Nat.reduceSub, Nat.reduceLeDiff, Fin.isValue, Int.reduceNatCast', Int.zero_add, Int.add_zero, decide_true, decide_false, implies_true, forall_const, true_or, or_true, or_false, false_or, false_and, and_false, Int.toNat_natCast, ↓oF_11_0, ↓aF_12, ↓oF_11_1, ↓aF_13, ↓oF_11_2, ↓aF_14, ↓oF_11_3, ↓aF_15, ↓oF_11_4, oC_0, oC_1, oC_4, oC_11, oC_16, oC_18, oC_20, oC_23, oC_25, oC_26, oC_29, oC_31, oC_33, oC_35, oC_37, isT_29, isT_31, isT_33, isT_35, isL_16, isL_18, isL_26, iandZ_1, wrapI_m, ↓e_W_step]
    (try simp only [rI_iff, rL_iff] at *)
    repeat' (first | assumption | apply And.intro | intro _)
    all_goals first
      | omega
      | (refine st_ext fun k j => ?_; grind [updR_app, up1_app, folZ])
      | (refine Q_eq hQ ?_ ?_ <;> first | rfl | (refine st_ext fun k j => ?_; grind [updR_app, up1_app, folZ]) | grind [updR_app, up1_app, folZ])
      | grind [updR_app, up1_app, folZ]
  · intro L st u hI
    obtain ⟨x, i, rfl, rfl, hi, hx, hxr, hu⟩ := hI
    simp only [↓wpN_go, jmp_e, ↓wp_aload_n0, ↓wp_goto, ↓wp_iand, ↓wp_iconst, ↓wp_if_lt, ↓wp_iinc, ↓wp_iload, ↓wp_iload_n1, ↓wp_invokevirtual, ↓wp_ireturn1, ↓wp_istore, ↓wp_isub, ↓wp_l2i, ↓wp_lload_n2, ↓wp_lshr, wp_nil, ↓ldI_0, ↓ldI_s, ↓ldL_0, ↓ldL_s, ↓ldR_0, ↓ldR_s, sto1_0, sto1_1, sto1_s, sto2_0, sto2_1, sto2_s, isLong_i, isLong_l, isLong_r, ↓popI_c, ↓popL_c, ↓popR_c, ↓popN_0, ↓popN_s, catS_n, catS_c, psh_s, psh_n, fldV_n, fldV_s, ↓tgt_e, sw_n, ↓sw_c, ↓lk1_h, ↓lk1_m, ↓atC_h, ↓atC_m, ↓atC_n, ltO_n, ltO_s, updR_eq, updR_ne, gI_0i, gI_0l, gI_s, ltM_iff, List.cons.injEq, Sum.inl.injEq, Sum.inr.injEq, Option.some.injEq, exists_eq_left, exists_eq_left', exists_eq_right, exists_eq_right', exists_and_left, exists_and_right, exists_eq, exists_const, and_assoc, ↓j_W_follow_0, ↓j_W_follow_9, ↓j_W_follow_35, List.length_cons, List.length_nil, Nat.zero_add, Nat.reduceAdd, Int.reduceAdd, Int.reduceNeg, Int.reduceToNat, Int.reduceLE, Int.reduceLT, true_and, and_true, Nat.reduceLT, reduceIte, Nat.reduceEqDiff, ne_eq, not_false_eq_true, false_implies, true_implies, Bool.false_eq_true, reduceCtorEq, List.cons_append, List.nil_append, Nat.reduceSub, Nat.reduceLeDiff, Fin.isValue, Int.reduceNatCast', Int.zero_add, Int.add_zero, decide_true, decide_false, implies_true, forall_const, true_or, or_true, or_false, false_or, false_and, and_false, Int.toNat_natCast, ↓oF_11_0, ↓aF_12, ↓oF_11_1, ↓aF_13, ↓oF_11_2, ↓aF_14, ↓oF_11_3, ↓aF_15, ↓oF_11_4, oC_0, oC_1, oC_4, oC_11, oC_16, oC_18, oC_20, oC_23, oC_25, oC_26, oC_29, oC_31, oC_33, oC_35, oC_37, isT_29, isT_31, isT_33, isT_35, isL_16, isL_18, isL_26, iandZ_1, wrapI_m, ↓e_W_step]
    subst hu
    have e0 : i + 1 - 1 = i := by omega
    have h1 := stepZ_r hN.2 hf x (row / 2 ^ i.toNat % 2)
    have e8 : i + -1 + 1 = i := by omega
    rw [e8]
    have e9 : i < 0 → folZ (u 11 4) (u 12) row (i + 1).toNat x = x := fun h => by rw [show (i + 1).toNat = 0 by omega]; rfl
    have e1 : 0 ≤ i → folZ (u 11 4) (u 12) row (i + 1).toNat x = folZ (u 11 4) (u 12) row i.toNat (stepZ (u 11 4) (u 12) x (row / 2 ^ i.toNat % 2)) := fun h => by rw [show (i + 1).toNat = i.toNat + 1 by omega]; rfl
    (try simp only [rI_iff, rL_iff] at *)
    repeat' (first | assumption | apply And.intro | intro _)
    all_goals first
      | omega
      | (refine st_ext fun k j => ?_; grind [updR_app, up1_app, folZ, bitZ])
      | (refine Q_eq hQ ?_ ?_ <;> first | rfl | (refine st_ext fun k j => ?_; grind [updR_app, up1_app, folZ, bitZ]) | grind [updR_app, up1_app, folZ, bitZ])
      | grind [updR_app, up1_app, folZ, bitZ]
def s_W_depthOf : Spec := fun as σ Q => popR as fun c0 r0 => popI r0 fun s r1 => r1 = [] ∧ c0 = 11 ∧ (0 ≤ σ 11 4 ∧ σ 11 4 ≤ 100) ∧ (rI s) ∧ Q (some (.inl (if 0 ≤ s ∧ s < σ 11 4 then σ 15 s.toNat else 0))) σ
theorem e_W_depthOf (s : Int) (σ : St) (Q : Option AV → St → Prop) : s_W_depthOf [.inr (.inr (some 11)), .inl s] σ Q = ((0 ≤ σ 11 4 ∧ σ 11 4 ≤ 100) ∧ (rI s) ∧ Q (some (.inl (if 0 ≤ s ∧ s < σ 11 4 then σ 15 s.toNat else 0))) σ) := by
  show ([] = [] ∧ _) = _
  simp only [true_and]
set_option maxHeartbeats 4000000 in
set_option maxRecDepth 20000 in
theorem S_W_depthOf {l : Launch} : Sat l y_W_depthOf b_W_depthOf 2 (some .int) 1 s_W_depthOf := by
  refine sat_of (Φ := P_W) (κ := Q_W) (Γ := [(56, 8, 1, s_W_has)]) (rt := 1) (by decide +kernel) P_W_ok Q_W_ok (by
    refine List.forall_mem_cons.mpr ⟨?_, fun _ h => absurd h List.not_mem_nil⟩
    · exact m_W_has S_W_has (by decide) l_W_56) (by simp) o_W_depthOf ?_
  intro as σ Q hh0
  obtain ⟨c0, rr0, rfl, hh1⟩ := popR_inv hh0
  obtain ⟨s, rr1, rfl, hh2⟩ := popI_inv hh1
  obtain ⟨hrE, rfl, hN, hs, hQ⟩ := hh2
  subst hrE
  clear hh0 hh1
  refine ⟨Nat.le_of_ble_eq_true rfl, [], 14, ?_, cuts0⟩
  · rw [show entL 2 [.inr (.inr (some 11)), .inl s] = [.inr (.inr (some 11)), .inl s] from rfl]
    simp only [↓wpN_go, jmp_e, ↓wp_aload_n0, ↓wp_getfield, ↓wp_goto, ↓wp_iaload, ↓wp_iconst, ↓wp_if_eq, ↓wp_iload_n1, ↓wp_invokevirtual, ↓wp_ireturn1, wp_nil, ↓ldI_0, ↓ldI_s, ↓ldL_0, ↓ldL_s, ↓ldR_0, ↓ldR_s, sto1_0, sto1_1, sto1_s, sto2_0, sto2_1, sto2_s, isLong_i, isLong_l, isLong_r, ↓popI_c, ↓popL_c, ↓popR_c, ↓popN_0, ↓popN_s, catS_n, catS_c, psh_s, psh_n, fldV_n, fldV_s, ↓tgt_e, sw_n, ↓sw_c, ↓lk1_h, ↓lk1_m, ↓atC_h, ↓atC_m, ↓atC_n, ltO_n, ltO_s, updR_eq, updR_ne, gI_0i, gI_0l, gI_s, ltM_iff, List.cons.injEq, Sum.inl.injEq, Sum.inr.injEq, Option.some.injEq, exists_eq_left, exists_eq_left', exists_eq_right, exists_eq_right', exists_and_left, exists_and_right, exists_eq, exists_const, and_assoc, ↓j_W_depthOf_0, ↓j_W_depthOf_17, ↓j_W_depthOf_18, ↓f_W_21, List.length_cons, List.length_nil, Nat.zero_add, Nat.reduceAdd, Int.reduceAdd, Int.reduceNeg, Int.reduceToNat, Int.reduceLE, Int.reduceLT, true_and, and_true, Nat.reduceLT, reduceIte, Nat.reduceEqDiff, ne_eq, not_false_eq_true, false_implies, true_implies, Bool.false_eq_true, reduceCtorEq, List.cons_append, List.nil_append, Nat.reduceSub, Nat.reduceLeDiff, Fin.isValue, Int.reduceNatCast', Int.zero_add, Int.add_zero, decide_true, decide_false, implies_true, forall_const, true_or, or_true, or_false, false_or, false_and, and_false, Int.toNat_natCast, ↓oF_11_0, ↓aF_12, ↓oF_11_1, ↓aF_13, ↓oF_11_2, ↓aF_14, ↓oF_11_3, ↓aF_15, ↓oF_11_4, oC_0, oC_1, oC_4, oC_11, oC_16, oC_18, oC_20, oC_23, oC_25, oC_26, oC_29, oC_31, oC_33, oC_35, oC_37, isT_29, isT_31, isT_33, isT_35, isL_16, isL_18, isL_26, b2i_0, b2i_1, b2i_01, b2i_r, ↓e_W_has]
    (try simp only [rI_iff, rL_iff] at *)
    repeat' (first | assumption | apply And.intro | intro _)
    all_goals first
      | omega
      | (refine st_ext fun k j => ?_; grind [updR_app, up1_app])
      | (refine Q_eq hQ ?_ ?_ <;> first | rfl | (refine st_ext fun k j => ?_; grind [updR_app, up1_app]) | grind [updR_app, up1_app])
      | grind [updR_app, up1_app]
def s_W_parentOf : Spec := fun as σ Q => popR as fun c0 r0 => popI r0 fun s r1 => r1 = [] ∧ c0 = 11 ∧ (0 ≤ σ 11 4 ∧ σ 11 4 ≤ 100) ∧ (rI s) ∧ Q (some (.inl (if 0 ≤ s ∧ s < σ 11 4 then σ 13 s.toNat else -1))) σ
theorem e_W_parentOf (s : Int) (σ : St) (Q : Option AV → St → Prop) : s_W_parentOf [.inr (.inr (some 11)), .inl s] σ Q = ((0 ≤ σ 11 4 ∧ σ 11 4 ≤ 100) ∧ (rI s) ∧ Q (some (.inl (if 0 ≤ s ∧ s < σ 11 4 then σ 13 s.toNat else -1))) σ) := by
  show ([] = [] ∧ _) = _
  simp only [true_and]
set_option maxHeartbeats 4000000 in
set_option maxRecDepth 20000 in
theorem S_W_parentOf {l : Launch} : Sat l y_W_parentOf b_W_parentOf 2 (some .int) 1 s_W_parentOf := by
  refine sat_of (Φ := P_W) (κ := Q_W) (Γ := [(56, 8, 1, s_W_has)]) (rt := 1) (by decide +kernel) P_W_ok Q_W_ok (by
    refine List.forall_mem_cons.mpr ⟨?_, fun _ h => absurd h List.not_mem_nil⟩
    · exact m_W_has S_W_has (by decide) l_W_56) (by simp) o_W_parentOf ?_
  intro as σ Q hh0
  obtain ⟨c0, rr0, rfl, hh1⟩ := popR_inv hh0
  obtain ⟨s, rr1, rfl, hh2⟩ := popI_inv hh1
  obtain ⟨hrE, rfl, hN, hs, hQ⟩ := hh2
  subst hrE
  clear hh0 hh1
  refine ⟨Nat.le_of_ble_eq_true rfl, [], 14, ?_, cuts0⟩
  · rw [show entL 2 [.inr (.inr (some 11)), .inl s] = [.inr (.inr (some 11)), .inl s] from rfl]
    simp only [↓wpN_go, jmp_e, ↓wp_aload_n0, ↓wp_getfield, ↓wp_goto, ↓wp_iaload, ↓wp_iconst, ↓wp_if_eq, ↓wp_iload_n1, ↓wp_invokevirtual, ↓wp_ireturn1, wp_nil, ↓ldI_0, ↓ldI_s, ↓ldL_0, ↓ldL_s, ↓ldR_0, ↓ldR_s, sto1_0, sto1_1, sto1_s, sto2_0, sto2_1, sto2_s, isLong_i, isLong_l, isLong_r, ↓popI_c, ↓popL_c, ↓popR_c, ↓popN_0, ↓popN_s, catS_n, catS_c, psh_s, psh_n, fldV_n, fldV_s, ↓tgt_e, sw_n, ↓sw_c, ↓lk1_h, ↓lk1_m, ↓atC_h, ↓atC_m, ↓atC_n, ltO_n, ltO_s, updR_eq, updR_ne, gI_0i, gI_0l, gI_s, ltM_iff, List.cons.injEq, Sum.inl.injEq, Sum.inr.injEq, Option.some.injEq, exists_eq_left, exists_eq_left', exists_eq_right, exists_eq_right', exists_and_left, exists_and_right, exists_eq, exists_const, and_assoc, ↓j_W_parentOf_0, ↓j_W_parentOf_17, ↓j_W_parentOf_18, ↓f_W_15, List.length_cons, List.length_nil, Nat.zero_add, Nat.reduceAdd, Int.reduceAdd, Int.reduceNeg, Int.reduceToNat, Int.reduceLE, Int.reduceLT, true_and, and_true, Nat.reduceLT, reduceIte, Nat.reduceEqDiff, ne_eq, not_false_eq_true, false_implies, true_implies, Bool.false_eq_true, reduceCtorEq, List.cons_append, List.nil_append, Nat.reduceSub, Nat.reduceLeDiff, Fin.isValue, Int.reduceNatCast', Int.zero_add, Int.add_zero, decide_true, decide_false, implies_true, forall_const, true_or, or_true, or_false, false_or, false_and, and_false, Int.toNat_natCast, ↓oF_11_0, ↓aF_12, ↓oF_11_1, ↓aF_13, ↓oF_11_2, ↓aF_14, ↓oF_11_3, ↓aF_15, ↓oF_11_4, oC_0, oC_1, oC_4, oC_11, oC_16, oC_18, oC_20, oC_23, oC_25, oC_26, oC_29, oC_31, oC_33, oC_35, oC_37, isT_29, isT_31, isT_33, isT_35, isL_16, isL_18, isL_26, b2i_0, b2i_1, b2i_01, b2i_r, ↓e_W_has]
    (try simp only [rI_iff, rL_iff] at *)
    repeat' (first | assumption | apply And.intro | intro _)
    all_goals first
      | omega
      | (refine st_ext fun k j => ?_; grind [updR_app, up1_app])
      | (refine Q_eq hQ ?_ ?_ <;> first | rfl | (refine st_ext fun k j => ?_; grind [updR_app, up1_app]) | grind [updR_app, up1_app])
      | grind [updR_app, up1_app]
def s_W_lastBitOf : Spec := fun as σ Q => popR as fun c0 r0 => popI r0 fun s r1 => r1 = [] ∧ c0 = 11 ∧ (0 ≤ σ 11 4 ∧ σ 11 4 ≤ 100) ∧ (rI s) ∧ Q (some (.inl (if 0 ≤ s ∧ s < σ 11 4 then σ 14 s.toNat else 0))) σ
theorem e_W_lastBitOf (s : Int) (σ : St) (Q : Option AV → St → Prop) : s_W_lastBitOf [.inr (.inr (some 11)), .inl s] σ Q = ((0 ≤ σ 11 4 ∧ σ 11 4 ≤ 100) ∧ (rI s) ∧ Q (some (.inl (if 0 ≤ s ∧ s < σ 11 4 then σ 14 s.toNat else 0))) σ) := by
  show ([] = [] ∧ _) = _
  simp only [true_and]
set_option maxHeartbeats 4000000 in
set_option maxRecDepth 20000 in
theorem S_W_lastBitOf {l : Launch} : Sat l y_W_lastBitOf b_W_lastBitOf 2 (some .int) 1 s_W_lastBitOf := by
  refine sat_of (Φ := P_W) (κ := Q_W) (Γ := [(56, 8, 1, s_W_has)]) (rt := 1) (by decide +kernel) P_W_ok Q_W_ok (by
    refine List.forall_mem_cons.mpr ⟨?_, fun _ h => absurd h List.not_mem_nil⟩
    · exact m_W_has S_W_has (by decide) l_W_56) (by simp) o_W_lastBitOf ?_
  intro as σ Q hh0
  obtain ⟨c0, rr0, rfl, hh1⟩ := popR_inv hh0
  obtain ⟨s, rr1, rfl, hh2⟩ := popI_inv hh1
  obtain ⟨hrE, rfl, hN, hs, hQ⟩ := hh2
  subst hrE
  clear hh0 hh1
  refine ⟨Nat.le_of_ble_eq_true rfl, [], 14, ?_, cuts0⟩
  · rw [show entL 2 [.inr (.inr (some 11)), .inl s] = [.inr (.inr (some 11)), .inl s] from rfl]
    simp only [↓wpN_go, jmp_e, ↓wp_aload_n0, ↓wp_getfield, ↓wp_goto, ↓wp_iaload, ↓wp_iconst, ↓wp_if_eq, ↓wp_iload_n1, ↓wp_invokevirtual, ↓wp_ireturn1, wp_nil, ↓ldI_0, ↓ldI_s, ↓ldL_0, ↓ldL_s, ↓ldR_0, ↓ldR_s, sto1_0, sto1_1, sto1_s, sto2_0, sto2_1, sto2_s, isLong_i, isLong_l, isLong_r, ↓popI_c, ↓popL_c, ↓popR_c, ↓popN_0, ↓popN_s, catS_n, catS_c, psh_s, psh_n, fldV_n, fldV_s, ↓tgt_e, sw_n, ↓sw_c, ↓lk1_h, ↓lk1_m, ↓atC_h, ↓atC_m, ↓atC_n, ltO_n, ltO_s, updR_eq, updR_ne, gI_0i, gI_0l, gI_s, ltM_iff, List.cons.injEq, Sum.inl.injEq, Sum.inr.injEq, Option.some.injEq, exists_eq_left, exists_eq_left', exists_eq_right, exists_eq_right', exists_and_left, exists_and_right, exists_eq, exists_const, and_assoc, ↓j_W_lastBitOf_0, ↓j_W_lastBitOf_17, ↓j_W_lastBitOf_18, ↓f_W_18, List.length_cons, List.length_nil, Nat.zero_add, Nat.reduceAdd, Int.reduceAdd, Int.reduceNeg, Int.reduceToNat, Int.reduceLE, Int.reduceLT, true_and, and_true, Nat.reduceLT, reduceIte, Nat.reduceEqDiff, ne_eq, not_false_eq_true, false_implies, true_implies, Bool.false_eq_true, reduceCtorEq, List.cons_append, List.nil_append, Nat.reduceSub, Nat.reduceLeDiff, Fin.isValue, Int.reduceNatCast', Int.zero_add, Int.add_zero, decide_true, decide_false, implies_true, forall_const, true_or, or_true, or_false, false_or, false_and, and_false, Int.toNat_natCast, ↓oF_11_0, ↓aF_12, ↓oF_11_1, ↓aF_13, ↓oF_11_2, ↓aF_14, ↓oF_11_3, ↓aF_15, ↓oF_11_4, oC_0, oC_1, oC_4, oC_11, oC_16, oC_18, oC_20, oC_23, oC_25, oC_26, oC_29, oC_31, oC_33, oC_35, oC_37, isT_29, isT_31, isT_33, isT_35, isL_16, isL_18, isL_26, b2i_0, b2i_1, b2i_01, b2i_r, ↓e_W_has]
    (try simp only [rI_iff, rL_iff] at *)
    repeat' (first | assumption | apply And.intro | intro _)
    all_goals first
      | omega
      | (refine st_ext fun k j => ?_; grind [updR_app, up1_app])
      | (refine Q_eq hQ ?_ ?_ <;> first | rfl | (refine st_ext fun k j => ?_; grind [updR_app, up1_app]) | grind [updR_app, up1_app])
      | grind [updR_app, up1_app]
