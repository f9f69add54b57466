/-! bans: keys -/
def s_B_memory : Spec := fun as σ Q => popR as fun c0 r0 => r0 = [] ∧ c0 = 1 ∧ (WordsOK (σ 1 2) (σ 2) (σ 3)) ∧ (-1 ≤ σ 1 4 ∧ σ 1 4 ≤ 7) ∧ Q (some (.inl (memW (σ 3) (σ 1 4) (σ 1 2).toNat))) σ
theorem e_B_memory  (σ : St) (Q : Option AV → St → Prop) : s_B_memory [.inr (.inr (some 1))] σ Q = ((WordsOK (σ 1 2) (σ 2) (σ 3)) ∧ (-1 ≤ σ 1 4 ∧ σ 1 4 ≤ 7) ∧ Q (some (.inl (memW (σ 3) (σ 1 4) (σ 1 2).toNat))) σ) := by
  show ([] = [] ∧ _) = _
  simp only [true_and]
set_option maxHeartbeats 4000000 in
set_option maxRecDepth 20000 in
theorem S_B_memory {l : Launch} : Sat l y_B_memory b_B_memory 3 (some .int) 1 s_B_memory := by
  refine sat_of (Φ := P_B) (κ := Q_B) (Γ := [(35, 0, 2, s_JM_max)]) (rt := 1) (by decide +kernel) P_B_ok Q_B_ok (by
    refine List.forall_mem_cons.mpr ⟨?_, fun _ h => absurd h List.not_mem_nil⟩
    · exact m_JM_max S_JM_max (by decide) l_B_35) (by simp) o_B_memory ?_
  intro as σ Q hh0
  obtain ⟨c0, rr0, rfl, hh1⟩ := popR_inv hh0
  obtain ⟨hrE, rfl, hw, hk, hQ⟩ := hh1
  subst hrE
  clear hh0
  refine ⟨Nat.le_of_ble_eq_true rfl, [(11, mkC (fun L st u => ∃ (x i : Int), L = [.inr (.inr (some 1)), .inl x, .inl i] ∧ st = [] ∧ (0 ≤ i ∧ i ≤ σ 1 2) ∧ (x = memW (σ 3) (σ 1 4) i.toNat) ∧ (u = σ)) (fun L st u => ((5 - gI L 2).toNat, 0, 0)))], 14, ?_, cuts1 ?_ (cuts0)⟩
  · rw [show entL 3 [.inr (.inr (some 1))] = [.inr (.inr (some 1)), .inr (.inr none), .inr (.inr none)] from rfl]
    simp only [↓wpN_go, jmp_e, ↓wp_aload_n0, ↓wp_getfield, ↓wp_goto, ↓wp_iaload, ↓wp_icmp_ge, ↓wp_iconst, ↓wp_iinc, ↓wp_iload_n1, ↓wp_iload_n2, ↓wp_invokestatic, ↓wp_ireturn1, ↓wp_istore_n1, ↓wp_istore_n2, ↓wp_isub, wp_nil, ↓ldI_0, ↓ldI_s, ↓ldL_0, ↓ldL_s, ↓ldR_0, ↓ldR_s, sto1_0, sto1_1, sto1_s, sto2_0, sto2_1, sto2_s, isLong_i, isLong_l, isLong_r, ↓popI_c, ↓popL_c, ↓popR_c, ↓popN_0, ↓popN_s, catS_n, catS_c, psh_s, psh_n, fldV_n, fldV_s, ↓tgt_e, sw_n, ↓sw_c, ↓lk1_h, ↓lk1_m, ↓atC_h, ↓atC_m, ↓atC_n, ltO_n, ltO_s, updR_eq, updR_ne, gI_0i, gI_0l, gI_s, ltM_iff, List.cons.injEq, Sum.inl.injEq, Sum.inr.injEq, Option.some.injEq, exists_eq_left, exists_eq_left', exists_eq_right, exists_eq_right', exists_and_left, exists_and_right, exists_eq, exists_const, and_assoc, ↓j_B_memory_0, ↓j_B_memory_11, ↓j_B_memory_38, ↓f_B_15, ↓f_B_18, ↓f_B_25, List.length_cons, List.length_nil, Nat.zero_add, Nat.reduceAdd, Int.reduceAdd, Int.reduceNeg, Int.reduceToNat, Int.reduceLE, Int.reduceLT, true_and, and_true, Nat.reduceLT, reduceIte, Nat.reduceEqDiff, ne_eq, not_false_eq_true, false_implies, true_implies, Bool.false_eq_true, reduceCtorEq, List.cons_append, List.nil_append, Nat.reduceSub, Nat.reduceLeDiff, Fin.isValue, Int.reduceNatCast', Int.zero_add, Int.add_zero, decide_true, decide_false, implies_true, forall_const, true_or, or_true, or_false, false_or, false_and, and_false, Int.toNat_natCast, ↓oF_1_0, ↓aF_2, ↓oF_1_1, ↓aF_3, ↓oF_1_2, ↓oF_1_3, ↓oF_1_4, ↓oF_1_5, oC_0, oC_1, oC_4, oC_11, oC_16, oC_18, oC_20, oC_23, oC_25, oC_26, oC_29, oC_31, oC_33, oC_35, oC_37, isT_29, isT_31, isT_33, isT_35, isL_16, isL_18, isL_26, ↓e_JM_max]
    have hw1 := hw.1
    have hw2 := hw.2.1
    (try simp only [rI_iff, rL_iff] at *)
    repeat' (with_reducible (first | assumption | apply And.intro | intro _))
    all_goals first | omega | with_reducible assumption | exact True.intro | skip
    · rfl
  · intro L st u hI
    obtain ⟨x, i, rfl, rfl, hi, hx, hu⟩ := hI
    simp only [↓wpN_go, jmp_e, ↓wp_aload_n0, ↓wp_getfield, ↓wp_goto, ↓wp_iaload, ↓wp_icmp_ge, ↓wp_iconst, ↓wp_iinc, ↓wp_iload_n1, ↓wp_iload_n2, ↓wp_invokestatic, ↓wp_ireturn1, ↓wp_istore_n1, ↓wp_istore_n2, ↓wp_isub, wp_nil, ↓ldI_0, ↓ldI_s, ↓ldL_0, ↓ldL_s, ↓ldR_0, ↓ldR_s, sto1_0, sto1_1, sto1_s, sto2_0, sto2_1, sto2_s, isLong_i, isLong_l, isLong_r, ↓popI_c, ↓popL_c, ↓popR_c, ↓popN_0, ↓popN_s, catS_n, catS_c, psh_s, psh_n, fldV_n, fldV_s, ↓tgt_e, sw_n, ↓sw_c, ↓lk1_h, ↓lk1_m, ↓atC_h, ↓atC_m, ↓atC_n, ltO_n, ltO_s, updR_eq, updR_ne, gI_0i, gI_0l, gI_s, ltM_iff, List.cons.injEq, Sum.inl.injEq, Sum.inr.injEq, Option.some.injEq, exists_eq_left, exists_eq_left', exists_eq_right, exists_eq_right', exists_and_left, exists_and_right, exists_eq, exists_const, and_assoc, ↓j_B_memory_0, ↓j_B_memory_11, ↓j_B_memory_38, ↓f_B_15, ↓f_B_18, ↓f_B_25, List.length_cons, List.length_nil, Nat.zero_add, Nat.reduceAdd, Int.reduceAdd, Int.reduceNeg, Int.reduceToNat, Int.reduceLE, Int.reduceLT, true_and, and_true, Nat.reduceLT, reduceIte, Nat.reduceEqDiff, ne_eq, not_false_eq_true, false_implies, true_implies, Bool.false_eq_true, reduceCtorEq, List.cons_append, List.nil_append, Nat.reduceSub, Nat.reduceLeDiff, Fin.isValue, Int.reduceNatCast', Int.zero_add, Int.add_zero, decide_true, decide_false, implies_true, forall_const, true_or, or_true, or_false, false_or, false_and, and_false, Int.toNat_natCast, ↓oF_1_0, ↓aF_2, ↓oF_1_1, ↓aF_3, ↓oF_1_2, ↓oF_1_3, ↓oF_1_4, ↓oF_1_5, oC_0, oC_1, oC_4, oC_11, oC_16, oC_18, oC_20, oC_23, oC_25, oC_26, oC_29, oC_31, oC_33, oC_35, oC_37, isT_29, isT_31, isT_33, isT_35, isL_16, isL_18, isL_26, ↓e_JM_max]
    subst hu
    have hw1 := hw.1
    have hw2 := hw.2.1
    have hm := memW_r hk.2 hw i.toNat (by omega)
    have e1 : (i + 1).toNat = i.toNat + 1 := by omega
    have e2 : memW (u 3) (u 1 4) (i.toNat + 1) = max (memW (u 3) (u 1 4) i.toNat) (u 3 i.toNat - 1) := rfl
    have e3 : i < u 1 2 → 1 ≤ u 3 i.toNat ∧ u 3 i.toNat ≤ 6 := fun h => by
      have := hw.2.2 i.toNat (by omega)
      omega
    rw [e1, e2]
    subst hx
    (try simp only [rI_iff, rL_iff] at *)
    repeat' (with_reducible (first | assumption | apply And.intro | intro _))
    all_goals first | omega | with_reducible assumption | exact True.intro | skip
    · rw [show (u 1 2).toNat = i.toNat by omega] at hQ
      exact hQ
def s_B_emptyKey : Spec := fun as σ Q => popR as fun c0 r0 => r0 = [] ∧ c0 = 1 ∧ Q (some (.inl 1281)) σ
theorem e_B_emptyKey  (σ : St) (Q : Option AV → St → Prop) : s_B_emptyKey [.inr (.inr (some 1))] σ Q = (Q (some (.inl 1281)) σ) := by
  show ([] = [] ∧ _) = _
  simp only [true_and]
set_option maxHeartbeats 4000000 in
set_option maxRecDepth 20000 in
theorem S_B_emptyKey {l : Launch} : Sat l y_B_emptyKey b_B_emptyKey 1 (some .int) 0 s_B_emptyKey := by
  refine sat_of (Φ := P_B) (κ := Q_B) (Γ := []) (rt := 1) (by decide +kernel) P_B_ok Q_B_ok (fun g hg => absurd hg List.not_mem_nil) (by simp) o_B_emptyKey ?_
  intro as σ Q hh0
  obtain ⟨c0, rr0, rfl, hh1⟩ := popR_inv hh0
  obtain ⟨hrE, rfl, hQ⟩ := hh1
  subst hrE
  clear hh0
  refine ⟨Nat.le_of_ble_eq_true rfl, [], 14, ?_, cuts0⟩
  · rw [show entL 1 [.inr (.inr (some 1))] = [.inr (.inr (some 1))] from rfl]
    simp only [↓wpN_go, jmp_e, ↓wp_ireturn1, ↓wp_sipush, wp_nil, ↓ldI_0, ↓ldI_s, ↓ldL_0, ↓ldL_s, ↓ldR_0, ↓ldR_s, sto1_0, sto1_1, sto1_s, sto2_0, sto2_1, sto2_s, isLong_i, isLong_l, isLong_r, ↓popI_c, ↓popL_c, ↓popR_c, ↓popN_0, ↓popN_s, catS_n, catS_c, psh_s, psh_n, fldV_n, fldV_s, ↓tgt_e, sw_n, ↓sw_c, ↓lk1_h, ↓lk1_m, ↓atC_h, ↓atC_m, ↓atC_n, ltO_n, ltO_s, updR_eq, updR_ne, gI_0i, gI_0l, gI_s, ltM_iff, List.cons.injEq, Sum.inl.injEq, Sum.inr.injEq, Option.some.injEq, exists_eq_left, exists_eq_left', exists_eq_right, exists_eq_right', exists_and_left, exists_and_right, exists_eq, exists_const, and_assoc, ↓j_B_emptyKey_0, List.length_cons, List.length_nil, Nat.zero_add, Nat.reduceAdd, Int.reduceAdd, Int.reduceNeg, Int.reduceToNat, Int.reduceLE, Int.reduceLT, true_and, and_true, Nat.reduceLT, reduceIte, Nat.reduceEqDiff, ne_eq, not_false_eq_true, false_implies, true_implies, Bool.false_eq_true, reduceCtorEq, List.cons_append, List.nil_append, Nat.reduceSub, Nat.reduceLeDiff, Fin.isValue, Int.reduceNatCast', Int.zero_add, Int.add_zero, decide_true, decide_false, implies_true, forall_const, true_or, or_true, or_false, false_or, false_and, and_false, Int.toNat_natCast, ↓oF_1_0, ↓aF_2, ↓oF_1_1, ↓aF_3, ↓oF_1_2, ↓oF_1_3, ↓oF_1_4, ↓oF_1_5, oC_0, oC_1, oC_4, oC_11, oC_16, oC_18, oC_20, oC_23, oC_25, oC_26, oC_29, oC_31, oC_33, oC_35, oC_37, isT_29, isT_31, isT_33, isT_35, isL_16, isL_18, isL_26]
    (try simp only [rI_iff, rL_iff] at *)
    repeat' (first | assumption | apply And.intro | intro _)
    all_goals first
      | omega
      | (refine st_ext fun k j => ?_; grind [updR_app, up1_app])
      | (refine Q_eq hQ ?_ ?_ <;> first | rfl | (refine st_ext fun k j => ?_; grind [updR_app, up1_app]) | grind [updR_app, up1_app])
      | grind [updR_app, up1_app]
def s_B_shortened : Spec := fun as σ Q => popI as fun g r0 => popI r0 fun m r1 => r1 = [] ∧ (0 ≤ g ∧ g < 1024 ∧ 0 ≤ m ∧ m ≤ 7) ∧ Q (some (.inl (shortZ g m))) σ
theorem e_B_shortened (g : Int) (m : Int) (σ : St) (Q : Option AV → St → Prop) : s_B_shortened [.inl g, .inl m] σ Q = ((0 ≤ g ∧ g < 1024 ∧ 0 ≤ m ∧ m ≤ 7) ∧ Q (some (.inl (shortZ g m))) σ) := by
  show ([] = [] ∧ _) = _
  simp only [true_and]
set_option maxHeartbeats 4000000 in
set_option maxRecDepth 20000 in
theorem S_B_shortened {l : Launch} : Sat l y_B_shortened b_B_shortened 3 (some .int) 0 s_B_shortened := by
  refine sat_of (Φ := P_B) (κ := Q_B) (Γ := []) (rt := 1) (by decide +kernel) P_B_ok Q_B_ok (fun g hg => absurd hg List.not_mem_nil) (by simp) o_B_shortened ?_
  intro as σ Q hh0
  obtain ⟨g, rr0, rfl, hh1⟩ := popI_inv hh0
  obtain ⟨m, rr1, rfl, hh2⟩ := popI_inv hh1
  obtain ⟨hrE, hg, hQ⟩ := hh2
  subst hrE
  clear hh0 hh1
  refine ⟨Nat.le_of_ble_eq_true rfl, [], 14, ?_, cuts0⟩
  · rw [show entL 3 [.inl g, .inl m] = [.inl g, .inl m, .inr (.inr none)] from rfl]
    simp only [↓wpN_go, jmp_e, ↓wp_goto, ↓wp_iadd, ↓wp_icmp_ge, ↓wp_iconst, ↓wp_iload_n0, ↓wp_iload_n1, ↓wp_iload_n2, ↓wp_imul, ↓wp_irem, ↓wp_ireturn1, ↓wp_ishl, ↓wp_istore_n2, wp_nil, ↓ldI_0, ↓ldI_s, ↓ldL_0, ↓ldL_s, ↓ldR_0, ↓ldR_s, sto1_0, sto1_1, sto1_s, sto2_0, sto2_1, sto2_s, isLong_i, isLong_l, isLong_r, ↓popI_c, ↓popL_c, ↓popR_c, ↓popN_0, ↓popN_s, catS_n, catS_c, psh_s, psh_n, fldV_n, fldV_s, ↓tgt_e, sw_n, ↓sw_c, ↓lk1_h, ↓lk1_m, ↓atC_h, ↓atC_m, ↓atC_n, ltO_n, ltO_s, updR_eq, updR_ne, gI_0i, gI_0l, gI_s, ltM_iff, List.cons.injEq, Sum.inl.injEq, Sum.inr.injEq, Option.some.injEq, exists_eq_left, exists_eq_left', exists_eq_right, exists_eq_right', exists_and_left, exists_and_right, exists_eq, exists_const, and_assoc, ↓j_B_shortened_0, ↓j_B_shortened_15, ↓j_B_shortened_20, List.length_cons, List.length_nil, Nat.zero_add, Nat.reduceAdd, Int.reduceAdd, Int.reduceNeg, Int.reduceToNat, Int.reduceLE, Int.reduceLT, true_and, and_true, Nat.reduceLT, reduceIte, Nat.reduceEqDiff, ne_eq, not_false_eq_true, false_implies, true_implies, Bool.false_eq_true, reduceCtorEq, List.cons_append, List.nil_append, Nat.reduceSub, Nat.reduceLeDiff, Fin.isValue, Int.reduceNatCast', Int.zero_add, Int.add_zero, decide_true, decide_false, implies_true, forall_const, true_or, or_true, or_false, false_or, false_and, and_false, Int.toNat_natCast, ↓oF_1_0, ↓aF_2, ↓oF_1_1, ↓aF_3, ↓oF_1_2, ↓oF_1_3, ↓oF_1_4, ↓oF_1_5, oC_0, oC_1, oC_4, oC_11, oC_16, oC_18, oC_20, oC_23, oC_25, oC_26, oC_29, oC_31, oC_33, oC_35, oC_37, isT_29, isT_31, isT_33, isT_35, isL_16, isL_18, isL_26]
    have h1 := pow8 (m := m) ⟨by omega, by omega⟩
    unfold shortZ at hQ
    rw [Int.one_mul]
    (try simp only [rI_iff, rL_iff] at *)
    repeat' (with_reducible (first | assumption | apply And.intro | intro _))
    all_goals first | omega | with_reducible assumption | exact True.intro | skip
    · rw [if_neg (by omega)] at hQ; exact hQ
    · rw [if_pos (by omega)] at hQ; exact hQ
def s_B_endsInWord : Spec := fun as σ Q => popR as fun c0 r0 => popI r0 fun g r1 => r1 = [] ∧ c0 = 1 ∧ (WordsOK (σ 1 2) (σ 2) (σ 3)) ∧ (0 ≤ g ∧ g < 1024) ∧ Q (some (.inl (b2i (endW (σ 2) (σ 3) g (σ 1 2).toNat = true)))) σ
theorem e_B_endsInWord (g : Int) (σ : St) (Q : Option AV → St → Prop) : s_B_endsInWord [.inr (.inr (some 1)), .inl g] σ Q = ((WordsOK (σ 1 2) (σ 2) (σ 3)) ∧ (0 ≤ g ∧ g < 1024) ∧ Q (some (.inl (b2i (endW (σ 2) (σ 3) g (σ 1 2).toNat = true)))) σ) := by
  show ([] = [] ∧ _) = _
  simp only [true_and]
set_option maxHeartbeats 4000000 in
set_option maxRecDepth 20000 in
theorem S_B_endsInWord {l : Launch} : Sat l y_B_endsInWord b_B_endsInWord 4 (some .boolean) 0 s_B_endsInWord := by
  refine sat_of (Φ := P_B) (κ := Q_B) (Γ := []) (rt := 3) (by decide +kernel) P_B_ok Q_B_ok (fun g hg => absurd hg List.not_mem_nil) (by simp) o_B_endsInWord ?_
  intro as σ Q hh0
  obtain ⟨c0, rr0, rfl, hh1⟩ := popR_inv hh0
  obtain ⟨g, rr1, rfl, hh2⟩ := popI_inv hh1
  obtain ⟨hrE, rfl, hw, hg, hQ⟩ := hh2
  subst hrE
  clear hh0 hh1
  refine ⟨Nat.le_of_ble_eq_true rfl, [(2, mkC (fun L st u => ∃ (i : Int) (v3 : AV), L = [.inr (.inr (some 1)), .inl g, .inl i, v3] ∧ st = [] ∧ (0 ≤ i ∧ i ≤ σ 1 2) ∧ (endW (σ 2) (σ 3) g i.toNat = false) ∧ (u = σ)) (fun L st u => ((5 - gI L 2).toNat, 0, 0)))], 14, ?_, cuts1 ?_ (cuts0)⟩
  · rw [show entL 4 [.inr (.inr (some 1)), .inl g] = [.inr (.inr (some 1)), .inl g, .inr (.inr none), .inr (.inr none)] from rfl]
    simp only [↓wpN_go, jmp_e, ↓wp_aload_n0, ↓wp_getfield, ↓wp_goto, ↓wp_iaload, ↓wp_icmp_ge, ↓wp_icmp_lt, ↓wp_icmp_ne, ↓wp_iconst, ↓wp_iinc, ↓wp_iload_n1, ↓wp_iload_n2, ↓wp_iload_n3, ↓wp_irem, ↓wp_ireturn3, ↓wp_ishl, ↓wp_istore_n2, ↓wp_istore_n3, wp_nil, ↓ldI_0, ↓ldI_s, ↓ldL_0, ↓ldL_s, ↓ldR_0, ↓ldR_s, sto1_0, sto1_1, sto1_s, sto2_0, sto2_1, sto2_s, isLong_i, isLong_l, isLong_r, ↓popI_c, ↓popL_c, ↓popR_c, ↓popN_0, ↓popN_s, catS_n, catS_c, psh_s, psh_n, fldV_n, fldV_s, ↓tgt_e, sw_n, ↓sw_c, ↓lk1_h, ↓lk1_m, ↓atC_h, ↓atC_m, ↓atC_n, ltO_n, ltO_s, updR_eq, updR_ne, gI_0i, gI_0l, gI_s, ltM_iff, List.cons.injEq, Sum.inl.injEq, Sum.inr.injEq, Option.some.injEq, exists_eq_left, exists_eq_left', exists_eq_right, exists_eq_right', exists_and_left, exists_and_right, exists_eq, exists_const, and_assoc, ↓j_B_endsInWord_0, ↓j_B_endsInWord_2, ↓j_B_endsInWord_38, ↓j_B_endsInWord_44, ↓f_B_11, ↓f_B_15, ↓f_B_18, List.length_cons, List.length_nil, Nat.zero_add, Nat.reduceAdd, Int.reduceAdd, Int.reduceNeg, Int.reduceToNat, Int.reduceLE, Int.reduceLT, true_and, and_true, Nat.reduceLT, reduceIte, Nat.reduceEqDiff, ne_eq, not_false_eq_true, false_implies, true_implies, Bool.false_eq_true, reduceCtorEq, List.cons_append, List.nil_append, Nat.reduceSub, Nat.reduceLeDiff, Fin.isValue, Int.reduceNatCast', Int.zero_add, Int.add_zero, decide_true, decide_false, implies_true, forall_const, true_or, or_true, or_false, false_or, false_and, and_false, Int.toNat_natCast, ↓oF_1_0, ↓aF_2, ↓oF_1_1, ↓aF_3, ↓oF_1_2, ↓oF_1_3, ↓oF_1_4, ↓oF_1_5, oC_0, oC_1, oC_4, oC_11, oC_16, oC_18, oC_20, oC_23, oC_25, oC_26, oC_29, oC_31, oC_33, oC_35, oC_37, isT_29, isT_31, isT_33, isT_35, isL_16, isL_18, isL_26]
    have hw1 := hw.1
    have hw2 := hw.2.1
    (try simp only [rI_iff, rL_iff] at *)
    repeat' (with_reducible (first | assumption | apply And.intro | intro _))
    all_goals first | omega | with_reducible assumption | exact True.intro | skip
    · rfl
  · intro L st u hI
    obtain ⟨i, v3, rfl, rfl, hi, hx, hu⟩ := hI
    simp only [↓wpN_go, jmp_e, ↓wp_aload_n0, ↓wp_getfield, ↓wp_goto, ↓wp_iaload, ↓wp_icmp_ge, ↓wp_icmp_lt, ↓wp_icmp_ne, ↓wp_iconst, ↓wp_iinc, ↓wp_iload_n1, ↓wp_iload_n2, ↓wp_iload_n3, ↓wp_irem, ↓wp_ireturn3, ↓wp_ishl, ↓wp_istore_n2, ↓wp_istore_n3, wp_nil, ↓ldI_0, ↓ldI_s, ↓ldL_0, ↓ldL_s, ↓ldR_0, ↓ldR_s, sto1_0, sto1_1, sto1_s, sto2_0, sto2_1, sto2_s, isLong_i, isLong_l, isLong_r, ↓popI_c, ↓popL_c, ↓popR_c, ↓popN_0, ↓popN_s, catS_n, catS_c, psh_s, psh_n, fldV_n, fldV_s, ↓tgt_e, sw_n, ↓sw_c, ↓lk1_h, ↓lk1_m, ↓atC_h, ↓atC_m, ↓atC_n, ltO_n, ltO_s, updR_eq, updR_ne, gI_0i, gI_0l, gI_s, ltM_iff, List.cons.injEq, Sum.inl.injEq, Sum.inr.injEq, Option.some.injEq, exists_eq_left, exists_eq_left', exists_eq_right, exists_eq_right', exists_and_left, exists_and_right, exists_eq, exists_const, and_assoc, ↓j_B_endsInWord_0, ↓j_B_endsInWord_2, ↓j_B_endsInWord_38, ↓j_B_endsInWord_44, ↓f_B_11, ↓f_B_15, ↓f_B_18, List.length_cons, List.length_nil, Nat.zero_add, Nat.reduceAdd, Int.reduceAdd, Int.reduceNeg, Int.reduceToNat, Int.reduceLE, Int.reduceLT, true_and, and_true, Nat.reduceLT, reduceIte, Nat.reduceEqDiff, ne_eq, not_false_eq_true, false_implies, true_implies, Bool.false_eq_true, reduceCtorEq, List.cons_append, List.nil_append, Nat.reduceSub, Nat.reduceLeDiff, Fin.isValue, Int.reduceNatCast', Int.zero_add, Int.add_zero, decide_true, decide_false, implies_true, forall_const, true_or, or_true, or_false, false_or, false_and, and_false, Int.toNat_natCast, ↓oF_1_0, ↓aF_2, ↓oF_1_1, ↓aF_3, ↓oF_1_2, ↓oF_1_3, ↓oF_1_4, ↓oF_1_5, oC_0, oC_1, oC_4, oC_11, oC_16, oC_18, oC_20, oC_23, oC_25, oC_26, oC_29, oC_31, oC_33, oC_35, oC_37, isT_29, isT_31, isT_33, isT_35, isL_16, isL_18, isL_26]
    subst hu
    have hw1 := hw.1
    have hw2 := hw.2.1
    have e1 : (i + 1).toNat = i.toNat + 1 := by omega
    have e2 : endW (u 2) (u 3) g (i.toNat + 1) = (decide (2 ^ (u 3 i.toNat).toNat ≤ g) && decide (g % 2 ^ (u 3 i.toNat).toNat = u 2 i.toNat)) := by rw [endW, hx]; rfl
    have e3 : i < u 1 2 → 1 ≤ u 3 i.toNat ∧ u 3 i.toNat ≤ 6 ∧ 0 ≤ u 2 i.toNat ∧ u 2 i.toNat < 2 ^ (u 3 i.toNat).toNat ∧ (1 : Int) ≤ 2 ^ (u 3 i.toNat).toNat ∧ (2 : Int) ^ (u 3 i.toNat).toNat ≤ 256 ∧ 0 ≤ g % 2 ^ (u 3 i.toNat).toNat ∧ g % 2 ^ (u 3 i.toNat).toNat < 2 ^ (u 3 i.toNat).toNat := fun h => by
      have h1 := hw.2.2 i.toNat (by omega)
      have h2 := pow8 (m := u 3 i.toNat) ⟨by omega, by omega⟩
      exact ⟨h1.1, h1.2.1, h1.2.2.1, h1.2.2.2, h2.1, h2.2, Int.emod_nonneg g (by omega), Int.emod_lt_of_pos g (by omega)⟩
    have e4 : i < u 1 2 → endW (u 2) (u 3) g (i.toNat + 1) = true → Q (some (.inl 1)) u := fun h h2 => by
      rw [endW_i h2 (u 1 2).toNat (by omega)] at hQ
      exact hQ
    rw [e1, Int.one_mul]
    rw [e2] at e4 ⊢
    generalize (2 : Int) ^ (u 3 i.toNat).toNat = p at *
    (try simp only [rI_iff, rL_iff] at *)
    repeat' (with_reducible (first | assumption | apply And.intro | intro _))
    all_goals first | omega | with_reducible assumption | exact True.intro | skip
    all_goals first
      | (rw [show (u 1 2).toNat = i.toNat by omega, hx] at hQ; exact hQ)
      | (exact e4 (by assumption) (by simp; omega))
      | (simp; omega)
def s_B_breaksRuns : Spec := fun as σ Q => popR as fun c0 r0 => popI r0 fun past r1 => popI r1 fun bit r2 => r2 = [] ∧ c0 = 1 ∧ ((σ 1 4 = -1 ∧ σ 1 3 = 0 ∨ 0 ≤ σ 1 3 ∧ σ 1 3 ≤ σ 1 4 ∧ σ 1 4 ≤ 7)) ∧ (0 < past ∧ past < 1024) ∧ (rI bit) ∧ Q (some (.inl (b2i (brkZ (σ 1 3) (σ 1 4) past bit = true)))) σ
theorem e_B_breaksRuns (past : Int) (bit : Int) (σ : St) (Q : Option AV → St → Prop) : s_B_breaksRuns [.inr (.inr (some 1)), .inl past, .inl bit] σ Q = (((σ 1 4 = -1 ∧ σ 1 3 = 0 ∨ 0 ≤ σ 1 3 ∧ σ 1 3 ≤ σ 1 4 ∧ σ 1 4 ≤ 7)) ∧ (0 < past ∧ past < 1024) ∧ (rI bit) ∧ Q (some (.inl (b2i (brkZ (σ 1 3) (σ 1 4) past bit = true)))) σ) := by
  show ([] = [] ∧ _) = _
  simp only [true_and]
set_option maxHeartbeats 4000000 in
set_option maxRecDepth 20000 in
theorem S_B_breaksRuns {l : Launch} : Sat l y_B_breaksRuns b_B_breaksRuns 5 (some .boolean) 1 s_B_breaksRuns := by
  refine sat_of (Φ := P_B) (κ := Q_B) (Γ := [(52, 0, 1, s_JI_numberOfTrailingZeros)]) (rt := 3) (by decide +kernel) P_B_ok Q_B_ok (by
    refine List.forall_mem_cons.mpr ⟨?_, fun _ h => absurd h List.not_mem_nil⟩
    · exact m_JI_numberOfTrailingZeros S_JI_numberOfTrailingZeros (by decide) l_B_52) (by simp) o_B_breaksRuns ?_
  intro as σ Q hh0
  obtain ⟨c0, rr0, rfl, hh1⟩ := popR_inv hh0
  obtain ⟨past, rr1, rfl, hh2⟩ := popI_inv hh1
  obtain ⟨bit, rr2, rfl, hh3⟩ := popI_inv hh2
  obtain ⟨hrE, rfl, hd, hp, hbit, hQ⟩ := hh3
  subst hrE
  clear hh0 hh1 hh2
  refine ⟨Nat.le_of_ble_eq_true rfl, [], 14, ?_, cuts0⟩
  · rw [show entL 5 [.inr (.inr (some 1)), .inl past, .inl bit] = [.inr (.inr (some 1)), .inl past, .inl bit, .inr (.inr none), .inr (.inr none)] from rfl]
    simp only [↓wpN_go, jmp_e, ↓wp_aload_n0, ↓wp_getfield, ↓wp_goto, ↓wp_iadd, ↓wp_icmp_ge, ↓wp_icmp_le, ↓wp_icmp_ne, ↓wp_iconst, ↓wp_if_eq, ↓wp_if_ne, ↓wp_iload, ↓wp_iload_n1, ↓wp_iload_n2, ↓wp_iload_n3, ↓wp_invokestatic, ↓wp_ireturn3, ↓wp_ishr, ↓wp_istore, ↓wp_istore_n3, wp_nil, ↓ldI_0, ↓ldI_s, ↓ldL_0, ↓ldL_s, ↓ldR_0, ↓ldR_s, sto1_0, sto1_1, sto1_s, sto2_0, sto2_1, sto2_s, isLong_i, isLong_l, isLong_r, ↓popI_c, ↓popL_c, ↓popR_c, ↓popN_0, ↓popN_s, catS_n, catS_c, psh_s, psh_n, fldV_n, fldV_s, ↓tgt_e, sw_n, ↓sw_c, ↓lk1_h, ↓lk1_m, ↓atC_h, ↓atC_m, ↓atC_n, ltO_n, ltO_s, updR_eq, updR_ne, gI_0i, gI_0l, gI_s, ltM_iff, List.cons.injEq, Sum.inl.injEq, Sum.inr.injEq, Option.some.injEq, exists_eq_left, exists_eq_left', exists_eq_right, exists_eq_right', exists_and_left, exists_and_right, exists_eq, exists_const, and_assoc, ↓j_B_breaksRuns_0, ↓j_B_breaksRuns_10, ↓j_B_breaksRuns_33, ↓j_B_breaksRuns_34, ↓j_B_breaksRuns_35, ↓j_B_breaksRuns_46, ↓j_B_breaksRuns_47, ↓j_B_breaksRuns_66, ↓j_B_breaksRuns_67, ↓f_B_22, ↓f_B_25, List.length_cons, List.length_nil, Nat.zero_add, Nat.reduceAdd, Int.reduceAdd, Int.reduceNeg, Int.reduceToNat, Int.reduceLE, Int.reduceLT, true_and, and_true, Nat.reduceLT, reduceIte, Nat.reduceEqDiff, ne_eq, not_false_eq_true, false_implies, true_implies, Bool.false_eq_true, reduceCtorEq, List.cons_append, List.nil_append, Nat.reduceSub, Nat.reduceLeDiff, Fin.isValue, Int.reduceNatCast', Int.zero_add, Int.add_zero, decide_true, decide_false, implies_true, forall_const, true_or, or_true, or_false, false_or, false_and, and_false, Int.toNat_natCast, ↓oF_1_0, ↓aF_2, ↓oF_1_1, ↓aF_3, ↓oF_1_2, ↓oF_1_3, ↓oF_1_4, ↓oF_1_5, oC_0, oC_1, oC_4, oC_11, oC_16, oC_18, oC_20, oC_23, oC_25, oC_26, oC_29, oC_31, oC_33, oC_35, oC_37, isT_29, isT_31, isT_33, isT_35, isL_16, isL_18, isL_26, ↓e_JI_numberOfTrailingZeros]
    unfold brkZ at hQ
    have h1 : ∀ t : Nat, lowB (past % 4294967296).toNat t 32 → t = tzF 32 past.toNat := fun t ht => by
      rw [show past % 4294967296 = past by omega] at ht
      exact lowB_tz ht
    have h2 := tzF_8 (n := 32) (a := past.toNat) (by omega) (by omega)
    have h4 := p2_pos (tzF 32 past.toNat)
    have h5 : past / 2 ^ tzF 32 past.toNat ≤ past := Int.ediv_le_self _ (by omega)
    have h6 : 0 ≤ past / 2 ^ tzF 32 past.toNat := Int.ediv_nonneg (by omega) (by omega)
    by_cases hk1 : σ 1 4 = -1
    · rw [b2i_f (by simp [hk1])] at hQ
      rw [hk1]
      (try simp only [rI_iff, rL_iff] at *)
      repeat' (with_reducible (first | assumption | apply And.intro | intro _))
      all_goals first | omega | with_reducible assumption | exact True.intro | skip
      all_goals first
        | (exfalso; apply absurd trivial; assumption)
        | (have hs9 := h1 _ (by assumption); subst hs9; omega)
    · obtain ⟨t, ht⟩ : ∃ t : Nat, t = tzF 32 past.toNat := ⟨_, rfl⟩
      rw [← ht] at hQ h2 h4 h5 h6
      have h3 : ∀ s : Nat, lowB (past % 4294967296).toNat s 32 → s = t := fun s hs => (h1 s hs).trans ht.symm
      have h7 : bit = 0 → σ 1 4 < t + 1 → Q (some (.inl 1)) σ := fun a b => by rw [b2i_t (by simp [hk1]; omega)] at hQ; exact hQ
      have h8 : bit = 0 → (t : Int) + 1 ≤ σ 1 4 → Q (some (.inl 0)) σ := fun a b => by rw [b2i_f (by simp; omega)] at hQ; exact hQ
      have h9 : bit ≠ 0 → 1 < past / 2 ^ t → (t : Int) < σ 1 3 → Q (some (.inl 1)) σ := fun a b c => by rw [b2i_t (by simp [hk1]; omega)] at hQ; exact hQ
      have h10 : bit ≠ 0 → ¬ (1 < past / 2 ^ t ∧ (t : Int) < σ 1 3) → Q (some (.inl 0)) σ := fun a b => by rw [b2i_f (by simp; omega)] at hQ; exact hQ
      (try simp only [rI_iff, rL_iff] at *)
      repeat' (with_reducible (first | assumption | apply And.intro | intro _))
      all_goals first | omega | with_reducible assumption | exact True.intro | skip
      all_goals have hs9 := h3 _ (by assumption)
      all_goals subst hs9
      all_goals first
        | omega
        | (exfalso; apply absurd trivial; assumption)
        | exact h7 (by assumption) (by omega)
        | exact h8 (by assumption) (by omega)
        | exact h9 (by assumption) (by omega) (by omega)
        | exact h10 (by assumption) (by omega)
def s_B_keyAfter : Spec := fun as σ Q => popR as fun c0 r0 => popI r0 fun key r1 => popI r1 fun bit r2 => popI r2 fun mem r3 => r3 = [] ∧ c0 = 1 ∧ (BansOK (σ 1 3) (σ 1 4) (σ 1 2) (σ 1 5) (σ 2) (σ 3)) ∧ (0 ≤ key ∧ key < 2816 ∧ 0 < key % 256) ∧ (bit = 0 ∨ bit = 1) ∧ (0 ≤ mem ∧ mem ≤ 7) ∧ Q (some (.inl (kA (σ 1 3) (σ 1 4) (σ 1 2) (σ 1 5) (σ 2) (σ 3) mem key bit))) σ
theorem e_B_keyAfter (key : Int) (bit : Int) (mem : Int) (σ : St) (Q : Option AV → St → Prop) : s_B_keyAfter [.inr (.inr (some 1)), .inl key, .inl bit, .inl mem] σ Q = ((BansOK (σ 1 3) (σ 1 4) (σ 1 2) (σ 1 5) (σ 2) (σ 3)) ∧ (0 ≤ key ∧ key < 2816 ∧ 0 < key % 256) ∧ (bit = 0 ∨ bit = 1) ∧ (0 ≤ mem ∧ mem ≤ 7) ∧ Q (some (.inl (kA (σ 1 3) (σ 1 4) (σ 1 2) (σ 1 5) (σ 2) (σ 3) mem key bit))) σ) := by
  show ([] = [] ∧ _) = _
  simp only [true_and]
set_option maxHeartbeats 4000000 in
set_option maxRecDepth 20000 in
theorem S_B_keyAfter {l : Launch} : Sat l y_B_keyAfter b_B_keyAfter 7 (some .int) 2 s_B_keyAfter := by
  refine sat_of (Φ := P_B) (κ := Q_B) (Γ := [(41, 1, 2, s_B_breaksRuns), (45, 1, 1, s_B_endsInWord), (49, 0, 2, s_B_shortened)]) (rt := 1) (by decide +kernel) P_B_ok Q_B_ok (by
    refine List.forall_mem_cons.mpr ⟨?_, List.forall_mem_cons.mpr ⟨?_, List.forall_mem_cons.mpr ⟨?_, fun _ h => absurd h List.not_mem_nil⟩⟩⟩
    · exact m_B_breaksRuns S_B_breaksRuns (by decide) l_B_41
    · exact m_B_endsInWord S_B_endsInWord (by decide) l_B_45
    · exact m_B_shortened S_B_shortened (by decide) l_B_49) (by simp) o_B_keyAfter ?_
  intro as σ Q hh0
  obtain ⟨c0, rr0, rfl, hh1⟩ := popR_inv hh0
  obtain ⟨key, rr1, rfl, hh2⟩ := popI_inv hh1
  obtain ⟨bit, rr2, rfl, hh3⟩ := popI_inv hh2
  obtain ⟨mem, rr3, rfl, hh4⟩ := popI_inv hh3
  obtain ⟨hrE, rfl, hd, hkey, hbit, hmem, hQ⟩ := hh4
  subst hrE
  clear hh0 hh1 hh2 hh3
  refine ⟨Nat.le_of_ble_eq_true rfl, [], 14, ?_, cuts0⟩
  · rw [show entL 7 [.inr (.inr (some 1)), .inl key, .inl bit, .inl mem] = [.inr (.inr (some 1)), .inl key, .inl bit, .inl mem, .inr (.inr none), .inr (.inr none), .inr (.inr none)] from rfl]
    simp only [↓wpN_go, jmp_e, ↓wp_aload_n0, ↓wp_getfield, ↓wp_goto, ↓wp_iadd, ↓wp_icmp_eq, ↓wp_icmp_le, ↓wp_icmp_lt, ↓wp_icmp_ne, ↓wp_iconst, ↓wp_idiv, ↓wp_if_eq, ↓wp_if_ne, ↓wp_iload, ↓wp_iload_n1, ↓wp_iload_n2, ↓wp_iload_n3, ↓wp_imul, ↓wp_ineg, ↓wp_invokestatic, ↓wp_invokevirtual, ↓wp_irem, ↓wp_ireturn1, ↓wp_istore, ↓wp_isub, ↓wp_sipush, wp_nil, ↓ldI_0, ↓ldI_s, ↓ldL_0, ↓ldL_s, ↓ldR_0, ↓ldR_s, sto1_0, sto1_1, sto1_s, sto2_0, sto2_1, sto2_s, isLong_i, isLong_l, isLong_r, ↓popI_c, ↓popL_c, ↓popR_c, ↓popN_0, ↓popN_s, catS_n, catS_c, psh_s, psh_n, fldV_n, fldV_s, ↓tgt_e, sw_n, ↓sw_c, ↓lk1_h, ↓lk1_m, ↓atC_h, ↓atC_m, ↓atC_n, ltO_n, ltO_s, updR_eq, updR_ne, gI_0i, gI_0l, gI_s, ltM_iff, List.cons.injEq, Sum.inl.injEq, Sum.inr.injEq, Option.some.injEq, exists_eq_left, exists_eq_left', exists_eq_right, exists_eq_right', exists_and_left, exists_and_right, exists_eq, exists_const, and_assoc, ↓j_B_keyAfter_0, ↓j_B_keyAfter_35, ↓j_B_keyAfter_36, ↓j_B_keyAfter_58, ↓j_B_keyAfter_60, ↓j_B_keyAfter_87, ↓j_B_keyAfter_89, ↓f_B_28, List.length_cons, List.length_nil, Nat.zero_add, Nat.reduceAdd, Int.reduceAdd, Int.reduceNeg, Int.reduceToNat, Int.reduceLE, Int.reduceLT, true_and, and_true, Nat.reduceLT, reduceIte, Nat.reduceEqDiff, ne_eq, not_false_eq_true, false_implies, true_implies, Bool.false_eq_true, reduceCtorEq, List.cons_append, List.nil_append, Nat.reduceSub, Nat.reduceLeDiff, Fin.isValue, Int.reduceNatCast', Int.zero_add, Int.add_zero, decide_true, decide_false, implies_true, forall_const, true_or, or_true, or_false, false_or, false_and, and_false, Int.toNat_natCast, ↓oF_1_0, ↓aF_2, ↓oF_1_1, ↓aF_3, ↓oF_1_2, ↓oF_1_3, ↓oF_1_4, ↓oF_1_5, oC_0, oC_1, oC_4, oC_11, oC_16, oC_18, oC_20, oC_23, oC_25, oC_26, oC_29, oC_31, oC_33, oC_35, oC_37, isT_29, isT_31, isT_33, isT_35, isL_16, isL_18, isL_26, ↓e_B_breaksRuns, ↓e_B_endsInWord, ↓e_B_shortened]
    obtain ⟨hd1, hw1, hl1⟩ := hd
    have hs1 := shortZ_r (g := 2 * (key % 256) + bit) (mem := mem) (by omega) hmem
    unfold kA at hQ
    generalize shortZ (2 * (key % 256) + bit) mem = sh at *
    generalize brkZ (σ 1 3) (σ 1 4) (key % 256) bit = bz at *
    generalize endW (σ 2) (σ 3) (2 * (key % 256) + bit) (σ 1 2).toNat = ez at *
    have hb1 : b2i (bz = true) = 0 ↔ bz = false := by cases bz <;> simp [b2i]
    have hb2 : b2i (ez = true) = 0 ↔ ez = false := by cases ez <;> simp [b2i]
    have hb3 : rI (b2i (bz = true)) ∧ rI (b2i (ez = true)) := by cases bz <;> cases ez <;> simp [b2i, rI]
    rw [hb1, hb2]
    (try simp only [rI_iff, rL_iff] at *)
    repeat' (with_reducible (first | assumption | apply And.intro | intro _))
    all_goals first | omega | with_reducible assumption | exact True.intro | skip
    all_goals grind
