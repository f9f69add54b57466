/-! the reference: finding raw states, taking away what cannot go on -/
def ClrI (σ u : St) (i : Int) : Prop := FrR σ u ∧ ∀ k : Nat, (k : Int) < i → u 40 k = -1
def s_M_findRaws : Spec := fun as σ Q => popR as fun c0 r0 => r0 = [] ∧ c0 = 37 ∧ (BansOK (σ 37 0) (σ 37 1) (σ 37 2) (σ 37 5) (σ 38) (σ 39)) ∧ ∀ τ, RawI σ τ (2 * τ 37 7) (τ 37 7) → Q none τ
theorem e_M_findRaws  (σ : St) (Q : Option AV → St → Prop) : s_M_findRaws [.inr (.inr (some 37))] σ Q = ((BansOK (σ 37 0) (σ 37 1) (σ 37 2) (σ 37 5) (σ 38) (σ 39)) ∧ ∀ τ, RawI σ τ (2 * τ 37 7) (τ 37 7) → Q none τ) := by
  show ([] = [] ∧ _) = _
  simp only [true_and]
set_option maxHeartbeats 4000000 in
set_option maxRecDepth 20000 in
theorem S_M_findRaws {l : Launch} : Sat l y_M_findRaws b_M_findRaws 3 none 2 s_M_findRaws := by
  refine sat_of (Φ := P_M) (κ := Q_M) (Γ := [(136, 0, 4, s_M_codeOf), (143, 10, 1, s_M_rawOf), (147, 10, 2, s_M_behind)]) (rt := 0) (by decide +kernel) P_M_ok Q_M_ok (by
    refine List.forall_mem_cons.mpr ⟨?_, List.forall_mem_cons.mpr ⟨?_, List.forall_mem_cons.mpr ⟨?_, fun _ h => absurd h List.not_mem_nil⟩⟩⟩
    · exact m_M_codeOf S_M_codeOf (by decide) l_M_136
    · exact m_M_rawOf S_M_rawOf (by decide) l_M_143
    · exact m_M_behind S_M_behind (by decide) l_M_147) (by simp) o_M_findRaws ?_
  intro as σ Q hh0
  obtain ⟨c0, rr0, rfl, hh1⟩ := popR_inv hh0
  obtain ⟨hrE, rfl, hB, hQ⟩ := hh1
  subst hrE
  clear hh0
  refine ⟨Nat.le_of_ble_eq_true rfl, [(2, mkC (fun L st u => ∃ (i : Int) (v2 : AV), L = [.inr (.inr (some 37)), .inl i, v2] ∧ st = [] ∧ (0 ≤ i ∧ i ≤ 11264) ∧ (ClrI σ u i)) (fun L st u => (20000, (11265 - gI L 1).toNat, 0))),
    (41, mkC (fun L st u => ∃ (v1 : AV) (i : Int), L = [.inr (.inr (some 37)), v1, .inl i] ∧ st = [] ∧ (0 ≤ i ∧ i ≤ u 37 7) ∧ (RawI σ u (2 * i) i)) (fun L st u => (100, (11265 - gI L 2).toNat, 0)))], 14, ?_, cuts1 ?_ (cuts1 ?_ (cuts0))⟩
  · rw [show entL 3 [.inr (.inr (some 37))] = [.inr (.inr (some 37)), .inr (.inr none), .inr (.inr none)] from rfl]
    simp only [↓wpN_go, jmp_e, ↓wp_aload_n0, ↓wp_bastore, ↓wp_getfield, ↓wp_goto, ↓wp_iaload, ↓wp_iastore, ↓wp_icmp_ge, ↓wp_iconst, ↓wp_iinc, ↓wp_iload_n1, ↓wp_iload_n2, ↓wp_invokestatic, ↓wp_invokevirtual, ↓wp_istore_n1, ↓wp_istore_n2, ↓wp_putfield, ↓wp_return0, ↓wp_sipush, wp_nil, ↓ldI_0, ↓ldI_s, ↓ldL_0, ↓ldL_s, ↓ldR_0, ↓ldR_s, sto1_0, sto1_1, sto1_s, sto2_0, sto2_1, sto2_s, isLong_i, isLong_l, isLong_r, ↓popI_c, ↓popL_c, ↓popR_c, ↓popN_0, ↓popN_s, catS_n, catS_c, psh_s, psh_n, fldV_n, fldV_s, ↓tgt_e, sw_n, ↓sw_c, ↓lk1_h, ↓lk1_m, ↓atC_h, ↓atC_m, ↓atC_n, ltO_n, ltO_s, updR_eq, updR_ne, gI_0i, gI_0l, gI_s, ltM_iff, List.cons.injEq, Sum.inl.injEq, Sum.inr.injEq, Option.some.injEq, exists_eq_left, exists_eq_left', exists_eq_right, exists_eq_right', exists_and_left, exists_and_right, exists_eq, exists_const, and_assoc, ↓j_M_findRaws_0, ↓j_M_findRaws_2, ↓j_M_findRaws_22, ↓j_M_findRaws_41, ↓j_M_findRaws_104, ↓f_M_140, ↓f_M_23, ↓f_M_26, ↓f_M_29, ↓f_M_32, ↓f_M_35, List.length_cons, List.length_nil, Nat.zero_add, Nat.reduceAdd, Int.reduceAdd, Int.reduceNeg, Int.reduceToNat, Int.reduceLE, Int.reduceLT, true_and, and_true, Nat.reduceLT, reduceIte, Nat.reduceEqDiff, ne_eq, not_false_eq_true, false_implies, true_implies, Bool.false_eq_true, reduceCtorEq, List.cons_append, List.nil_append, Nat.reduceSub, Nat.reduceLeDiff, Fin.isValue, Int.reduceNatCast', Int.zero_add, Int.add_zero, decide_true, decide_false, implies_true, forall_const, true_or, or_true, or_false, false_or, false_and, and_false, Int.toNat_natCast, ↓oF_37_0, ↓oF_37_1, ↓oF_37_2, ↓oF_37_3, ↓aF_38, ↓oF_37_4, ↓aF_39, ↓oF_37_5, ↓oF_37_6, ↓aF_40, ↓oF_37_7, ↓oF_37_8, ↓aF_41, ↓oF_37_9, ↓aF_42, ↓oF_37_10, ↓aF_43, ↓oF_37_11, ↓aF_44, ↓oF_37_12, ↓aF_45, ↓oF_37_13, ↓aF_46, ↓oF_37_14, ↓aF_47, ↓oF_37_15, ↓aF_48, ↓oF_37_16, ↓aF_49, ↓oF_37_17, ↓oF_37_18, ↓aF_50, ↓oF_37_19, ↓aF_51, ↓oF_37_20, ↓aF_52, ↓oF_37_21, ↓aF_53, ↓oF_37_22, ↓aF_54, ↓oF_37_23, ↓aF_55, ↓oF_37_24, ↓aF_56, ↓oF_37_25, ↓aF_57, ↓oF_37_26, ↓oF_37_27, ↓oF_37_28, ↓aF_58, ↓oF_37_29, ↓aF_59, ↓oF_37_30, ↓aF_60, ↓oF_37_31, ↓aF_61, ↓oF_37_32, ↓oF_37_33, ↓oF_37_34, ↓oF_37_35, ↓aF_62, ↓oF_37_36, ↓oF_37_37, ↓aF_63, ↓oF_37_38, ↓oF_37_39, ↓aF_64, ↓oF_37_40, ↓aF_65, ↓oF_37_41, ↓aF_66, oC_0, oC_1, oC_4, oC_11, oC_16, oC_18, oC_20, oC_23, oC_25, oC_26, oC_29, oC_31, oC_33, oC_35, oC_37, isT_29, isT_31, isT_33, isT_35, isL_16, isL_18, isL_26, ↓e_M_codeOf, ↓e_M_rawOf, ↓e_M_behind]
    have h0 : ClrI σ σ 0 := ⟨⟨fun _ _ _ _ _ _ _ => rfl, fun _ _ => rfl⟩, fun k hk => by omega⟩
    clear hQ
    (try simp only [rI_iff, rL_iff] at *)
    repeat' (with_reducible (first | assumption | apply And.intro | intro _))
    all_goals first | omega | with_reducible assumption | exact True.intro | skip
    all_goals first
      | omega
      | exact h0
      | trace_state
  · intro L st u hI
    obtain ⟨i, v2, rfl, rfl, hi, hu⟩ := hI
    simp only [↓wpN_go, jmp_e, ↓wp_aload_n0, ↓wp_bastore, ↓wp_getfield, ↓wp_goto, ↓wp_iaload, ↓wp_iastore, ↓wp_icmp_ge, ↓wp_iconst, ↓wp_iinc, ↓wp_iload_n1, ↓wp_iload_n2, ↓wp_invokestatic, ↓wp_invokevirtual, ↓wp_istore_n1, ↓wp_istore_n2, ↓wp_putfield, ↓wp_return0, ↓wp_sipush, wp_nil, ↓ldI_0, ↓ldI_s, ↓ldL_0, ↓ldL_s, ↓ldR_0, ↓ldR_s, sto1_0, sto1_1, sto1_s, sto2_0, sto2_1, sto2_s, isLong_i, isLong_l, isLong_r, ↓popI_c, ↓popL_c, ↓popR_c, ↓popN_0, ↓popN_s, catS_n, catS_c, psh_s, psh_n, fldV_n, fldV_s, ↓tgt_e, sw_n, ↓sw_c, ↓lk1_h, ↓lk1_m, ↓atC_h, ↓atC_m, ↓atC_n, ltO_n, ltO_s, updR_eq, updR_ne, gI_0i, gI_0l, gI_s, ltM_iff, List.cons.injEq, Sum.inl.injEq, Sum.inr.injEq, Option.some.injEq, exists_eq_left, exists_eq_left', exists_eq_right, exists_eq_right', exists_and_left, exists_and_right, exists_eq, exists_const, and_assoc, ↓j_M_findRaws_0, ↓j_M_findRaws_2, ↓j_M_findRaws_22, ↓j_M_findRaws_41, ↓j_M_findRaws_104, ↓f_M_140, ↓f_M_23, ↓f_M_26, ↓f_M_29, ↓f_M_32, ↓f_M_35, List.length_cons, List.length_nil, Nat.zero_add, Nat.reduceAdd, Int.reduceAdd, Int.reduceNeg, Int.reduceToNat, Int.reduceLE, Int.reduceLT, true_and, and_true, Nat.reduceLT, reduceIte, Nat.reduceEqDiff, ne_eq, not_false_eq_true, false_implies, true_implies, Bool.false_eq_true, reduceCtorEq, List.cons_append, List.nil_append, Nat.reduceSub, Nat.reduceLeDiff, Fin.isValue, Int.reduceNatCast', Int.zero_add, Int.add_zero, decide_true, decide_false, implies_true, forall_const, true_or, or_true, or_false, false_or, false_and, and_false, Int.toNat_natCast, ↓oF_37_0, ↓oF_37_1, ↓oF_37_2, ↓oF_37_3, ↓aF_38, ↓oF_37_4, ↓aF_39, ↓oF_37_5, ↓oF_37_6, ↓aF_40, ↓oF_37_7, ↓oF_37_8, ↓aF_41, ↓oF_37_9, ↓aF_42, ↓oF_37_10, ↓aF_43, ↓oF_37_11, ↓aF_44, ↓oF_37_12, ↓aF_45, ↓oF_37_13, ↓aF_46, ↓oF_37_14, ↓aF_47, ↓oF_37_15, ↓aF_48, ↓oF_37_16, ↓aF_49, ↓oF_37_17, ↓oF_37_18, ↓aF_50, ↓oF_37_19, ↓aF_51, ↓oF_37_20, ↓aF_52, ↓oF_37_21, ↓aF_53, ↓oF_37_22, ↓aF_54, ↓oF_37_23, ↓aF_55, ↓oF_37_24, ↓aF_56, ↓oF_37_25, ↓aF_57, ↓oF_37_26, ↓oF_37_27, ↓oF_37_28, ↓aF_58, ↓oF_37_29, ↓aF_59, ↓oF_37_30, ↓aF_60, ↓oF_37_31, ↓aF_61, ↓oF_37_32, ↓oF_37_33, ↓oF_37_34, ↓oF_37_35, ↓aF_62, ↓oF_37_36, ↓oF_37_37, ↓aF_63, ↓oF_37_38, ↓oF_37_39, ↓aF_64, ↓oF_37_40, ↓aF_65, ↓oF_37_41, ↓aF_66, oC_0, oC_1, oC_4, oC_11, oC_16, oC_18, oC_20, oC_23, oC_25, oC_26, oC_29, oC_31, oC_33, oC_35, oC_37, isT_29, isT_31, isT_33, isT_35, isL_16, isL_18, isL_26, ↓e_M_codeOf, ↓e_M_rawOf, ↓e_M_behind]
    have q1 : ClrI σ (updR u 40 (up1 (u 40) i.toNat (-1))) (i + 1) := by
      refine ⟨⟨fun k k1 k2 k3 k4 k5 k6 => ?_, fun j hj => ?_⟩, fun k hk => ?_⟩
      · rw [updR_ne _ _ _ _ k2]; exact hu.1.1 k k1 k2 k3 k4 k5 k6
      · rw [updR_ne _ 40 37 _ (by decide)]; exact hu.1.2 j hj
      · rw [updR_eq, up1_app]
        split
        · rfl
        · exact hu.2 k (by omega)
    have hfr0 : FrR σ (updR u 37 (up1 (u 37) 7 0)) := ⟨fun k k1 k2 k3 k4 k5 k6 => by rw [updR_ne _ _ _ _ k1]; exact hu.1.1 k k1 k2 k3 k4 k5 k6, fun j hj => by rw [updR_eq, up1_ne _ _ _ _ hj]; exact hu.1.2 j hj⟩
    have q2 : 11264 ≤ i → ∀ v r, RawSt (updR u 37 (up1 (u 37) 7 0)) v 16 r → RawI σ v 0 0 ∧ v 37 7 = 1 := fun h v r hp => raw_start hfr0 (by rw [updR_eq, up1_eq]) (fun k hk => by rw [updR_ne _ 37 40 _ (by decide)]; exact hu.2 k (by omega)) hp
    have q3 : 11264 ≤ i → ∀ k : Nat, k < 11264 → -2147483648 ≤ u 40 k ∧ u 40 k < 2147483648 := fun h k hk => by rw [hu.2 k (by omega)]; omega
    have e16 : cdF 0 0 1 0 = 16 := rfl
    rw [e16]
    simp only [up1_eq]
    clear hQ
    (try simp only [rI_iff, rL_iff] at *)
    repeat' (with_reducible (first | assumption | apply And.intro | intro _))
    all_goals first | omega | with_reducible assumption | exact True.intro | skip
    all_goals first
      | omega
      | exact q1
      | exact (q3 (by omega) _ (by assumption)).1
      | exact (q3 (by omega) _ (by assumption)).2
      | (have hs1 := (q2 (by omega) _ _ (by assumption)).2; omega)
      | exact (q2 (by omega) _ _ (by assumption)).1
      | exact ⟨_, 0, rfl, rfl, by omega, by have := (q2 (by omega) _ _ (by assumption)).2; omega, (q2 (by omega) _ _ (by assumption)).1⟩
      | exact ⟨0, rfl, by omega, by have := (q2 (by omega) _ _ (by assumption)).2; omega, (q2 (by omega) _ _ (by assumption)).1⟩
      | trace_state
  · intro L st u hI
    obtain ⟨v1, i, rfl, rfl, hi, hu⟩ := hI
    simp only [↓wpN_go, jmp_e, ↓wp_aload_n0, ↓wp_bastore, ↓wp_getfield, ↓wp_goto, ↓wp_iaload, ↓wp_iastore, ↓wp_icmp_ge, ↓wp_iconst, ↓wp_iinc, ↓wp_iload_n1, ↓wp_iload_n2, ↓wp_invokestatic, ↓wp_invokevirtual, ↓wp_istore_n1, ↓wp_istore_n2, ↓wp_putfield, ↓wp_return0, ↓wp_sipush, wp_nil, ↓ldI_0, ↓ldI_s, ↓ldL_0, ↓ldL_s, ↓ldR_0, ↓ldR_s, sto1_0, sto1_1, sto1_s, sto2_0, sto2_1, sto2_s, isLong_i, isLong_l, isLong_r, ↓popI_c, ↓popL_c, ↓popR_c, ↓popN_0, ↓popN_s, catS_n, catS_c, psh_s, psh_n, fldV_n, fldV_s, ↓tgt_e, sw_n, ↓sw_c, ↓lk1_h, ↓lk1_m, ↓atC_h, ↓atC_m, ↓atC_n, ltO_n, ltO_s, updR_eq, updR_ne, gI_0i, gI_0l, gI_s, ltM_iff, List.cons.injEq, Sum.inl.injEq, Sum.inr.injEq, Option.some.injEq, exists_eq_left, exists_eq_left', exists_eq_right, exists_eq_right', exists_and_left, exists_and_right, exists_eq, exists_const, and_assoc, ↓j_M_findRaws_0, ↓j_M_findRaws_2, ↓j_M_findRaws_22, ↓j_M_findRaws_41, ↓j_M_findRaws_104, ↓f_M_140, ↓f_M_23, ↓f_M_26, ↓f_M_29, ↓f_M_32, ↓f_M_35, List.length_cons, List.length_nil, Nat.zero_add, Nat.reduceAdd, Int.reduceAdd, Int.reduceNeg, Int.reduceToNat, Int.reduceLE, Int.reduceLT, true_and, and_true, Nat.reduceLT, reduceIte, Nat.reduceEqDiff, ne_eq, not_false_eq_true, false_implies, true_implies, Bool.false_eq_true, reduceCtorEq, List.cons_append, List.nil_append, Nat.reduceSub, Nat.reduceLeDiff, Fin.isValue, Int.reduceNatCast', Int.zero_add, Int.add_zero, decide_true, decide_false, implies_true, forall_const, true_or, or_true, or_false, false_or, false_and, and_false, Int.toNat_natCast, ↓oF_37_0, ↓oF_37_1, ↓oF_37_2, ↓oF_37_3, ↓aF_38, ↓oF_37_4, ↓aF_39, ↓oF_37_5, ↓oF_37_6, ↓aF_40, ↓oF_37_7, ↓oF_37_8, ↓aF_41, ↓oF_37_9, ↓aF_42, ↓oF_37_10, ↓aF_43, ↓oF_37_11, ↓aF_44, ↓oF_37_12, ↓aF_45, ↓oF_37_13, ↓aF_46, ↓oF_37_14, ↓aF_47, ↓oF_37_15, ↓aF_48, ↓oF_37_16, ↓aF_49, ↓oF_37_17, ↓oF_37_18, ↓aF_50, ↓oF_37_19, ↓aF_51, ↓oF_37_20, ↓aF_52, ↓oF_37_21, ↓aF_53, ↓oF_37_22, ↓aF_54, ↓oF_37_23, ↓aF_55, ↓oF_37_24, ↓aF_56, ↓oF_37_25, ↓aF_57, ↓oF_37_26, ↓oF_37_27, ↓oF_37_28, ↓aF_58, ↓oF_37_29, ↓aF_59, ↓oF_37_30, ↓aF_60, ↓oF_37_31, ↓aF_61, ↓oF_37_32, ↓oF_37_33, ↓oF_37_34, ↓oF_37_35, ↓aF_62, ↓oF_37_36, ↓oF_37_37, ↓aF_63, ↓oF_37_38, ↓oF_37_39, ↓aF_64, ↓oF_37_40, ↓aF_65, ↓oF_37_41, ↓aF_66, oC_0, oC_1, oC_4, oC_11, oC_16, oC_18, oC_20, oC_23, oC_25, oC_26, oC_29, oC_31, oC_33, oC_35, oC_37, isT_29, isT_31, isT_33, isT_35, isL_16, isL_18, isL_26, ↓e_M_codeOf, ↓e_M_rawOf, ↓e_M_behind]
    obtain ⟨hp0, hp1⟩ := raw_pre hu
    have e37 : ∀ j, j ≠ 7 → u 37 j = σ 37 j := hu.1.2
    have e38 := hu.1.1 38 (by decide) (by decide) (by decide) (by decide) (by decide) (by decide)
    have e39 := hu.1.1 39 (by decide) (by decide) (by decide) (by decide) (by decide) (by decide)
    have f0 := e37 0 (by decide)
    have f1 := e37 1 (by decide)
    have f2 := e37 2 (by decide)
    have f5 := e37 5 (by decide)
    have hcd : i < u 37 7 → 0 ≤ u 41 i.toNat ∧ u 41 i.toNat < 11264 ∧ 1 ≤ lastP (u 41 i.toNat) := fun h => by
      have := hu.2.2.1 i.toNat (by omega)
      exact ⟨this.1, this.2.1, this.2.2.1⟩
    have hbh : ∀ b : Int, b = 0 ∨ b = 1 → i < u 37 7 → -1 ≤ bhZ (σ 37 0) (σ 37 1) (σ 37 2) (σ 37 5) (σ 38) (σ 39) (u 41 i.toNat) b ∧ bhZ (σ 37 0) (σ 37 1) (σ 37 2) (σ 37 5) (σ 38) (σ 39) (u 41 i.toNat) b < 11264 := fun b hb h => by
      have := bhZ_ok (bit := b) hB (hu.2.2.1 i.toNat (by omega)) hb
      rcases this with h1 | h1
      · omega
      · exact ⟨by have := h1.1; omega, h1.2.1⟩
    have st0 : ∀ v r, RawSt u v (bhZ (σ 37 0) (σ 37 1) (σ 37 2) (σ 37 5) (σ 38) (σ 39) (u 41 i.toNat) 0) r → i < u 37 7 → RawI σ (updR v 42 (up1 (v 42) i.toNat r)) (2 * i + 1) i ∧ u 37 7 ≤ v 37 7 ∧ v 41 i.toNat = u 41 i.toNat := fun v r hp h => by
      have h1 := raw_set (m := 2 * i) (w := updR v 42 (up1 (v 42) i.toNat r)) hB hu (by omega) (by
        rw [show (2 * i).toNat / 2 = i.toNat by omega, show (((2 * i).toNat % 2 : Nat) : Int) = 0 by omega]
        exact hp) ⟨fun k k1 k2 => updR_ne _ _ _ _ k1, by rw [nxM_0]; congr 1; omega⟩
      have h2 := h1.2.2 i.toNat (by omega)
      rw [updR_ne _ 42 41 _ (by decide)] at h2
      have h3 := h1.2.1
      rw [updR_ne _ 42 37 _ (by decide)] at h3
      exact ⟨h1.1, h3, h2⟩
    have st0b : ∀ v r, RawSt u v (bhZ (σ 37 0) (σ 37 1) (σ 37 2) (σ 37 5) (σ 38) (σ 39) (u 41 i.toNat) 0) r → i < u 37 7 → (0 ≤ v 37 7 ∧ v 37 7 ≤ 11264) ∧ (∀ k : Nat, k < 11264 → -2147483648 ≤ v 40 k ∧ v 40 k < 2147483648 ∧ (v 40 k = -1 → v 37 7 < 11264)) ∧ (∀ j, j ≠ 7 → v 37 j = σ 37 j) ∧ v 38 = σ 38 ∧ v 39 = σ 39 := fun v r hp h => by
      obtain ⟨h1, h2, h3⟩ := st0 v r hp h
      obtain ⟨g1, g2⟩ := raw_pre h1
      have x1 : updR v 42 (up1 (v 42) i.toNat r) 37 = v 37 := updR_ne _ 42 37 _ (by decide)
      have x2 : updR v 42 (up1 (v 42) i.toNat r) 40 = v 40 := updR_ne _ 42 40 _ (by decide)
      have x3 := h1.1.1 38 (by decide) (by decide) (by decide) (by decide) (by decide) (by decide)
      have x4 := h1.1.1 39 (by decide) (by decide) (by decide) (by decide) (by decide) (by decide)
      have x5 := h1.1.2
      rw [updR_ne _ 42 38 _ (by decide)] at x3
      rw [updR_ne _ 42 39 _ (by decide)] at x4
      rw [x1] at g1 g2 x5
      rw [x2] at g2
      exact ⟨⟨by omega, by omega⟩, g2, x5, x3, x4⟩
    have st1 : ∀ v r v2 r2, RawSt u v (bhZ (σ 37 0) (σ 37 1) (σ 37 2) (σ 37 5) (σ 38) (σ 39) (u 41 i.toNat) 0) r → i < u 37 7 → RawSt (updR v 42 (up1 (v 42) i.toNat r)) v2 (bhZ (v 37 0) (v 37 1) (v 37 2) (v 37 5) (v 38) (v 39) (v 41 i.toNat) 1) r2 → RawI σ (updR (updR v2 43 (up1 (v2 43) i.toNat r2)) 44 (up1 (v2 44) i.toNat 1)) (2 * (i + 1)) (i + 1) ∧ i + 1 ≤ v2 37 7 := fun v r v2 r2 hp h hp2 => by
      obtain ⟨h1, h2, h3⟩ := st0 v r hp h
      obtain ⟨y1, y2, y3, y4, y5⟩ := st0b v r hp h
      rw [y3 0 (by decide), y3 1 (by decide), y3 2 (by decide), y3 5 (by decide), y4, y5, h3] at hp2
      have e41 : updR v 42 (up1 (v 42) i.toNat r) 41 = v 41 := updR_ne _ 42 41 _ (by decide)
      have e377 : updR v 42 (up1 (v 42) i.toNat r) 37 = v 37 := updR_ne _ 42 37 _ (by decide)
      have h4 := raw_set (m := 2 * i + 1) (w := updR v2 43 (up1 (v2 43) i.toNat r2)) hB h1 (by rw [e377]; omega) (by
        rw [e41, show (2 * i + 1).toNat / 2 = i.toNat by omega, show (((2 * i + 1).toNat % 2 : Nat) : Int) = 1 by omega, h3]
        exact hp2) ⟨fun k k1 k2 => updR_ne _ _ _ _ k2, by rw [nxM_1]; congr 1; omega⟩
      obtain ⟨⟨g1, g2, g3, g4⟩, g5, g6⟩ := h4
      rw [updR_ne _ 43 37 _ (by decide), e377] at g5
      have e44 : updR v2 43 (up1 (v2 43) i.toNat r2) 44 = v2 44 := updR_ne _ 43 44 _ (by decide)
      have w37 : updR (updR v2 43 (up1 (v2 43) i.toNat r2)) 44 (up1 (v2 44) i.toNat 1) 37 = v2 37 := by rw [updR_ne _ 44 37 _ (by decide), updR_ne _ 43 37 _ (by decide)]
      refine ⟨⟨⟨fun k k1 k2 k3 k4 k5 k6 => ?_, fun j hj => ?_⟩, ?_, fun t ht => ?_, fun t ht => ?_⟩, by omega⟩
      · rw [updR_ne _ _ _ _ k6]; exact g1.1 k k1 k2 k3 k4 k5 k6
      · rw [updR_ne _ 44 37 _ (by decide)]; exact g1.2 j hj
      · rw [updR_ne _ 44 37 _ (by decide), updR_ne _ 44 41 _ (by decide), updR_ne _ 44 40 _ (by decide), nxM_eq (u := updR v2 43 (up1 (v2 43) i.toNat r2)) (updR_ne _ 44 42 _ (by decide)) (updR_ne _ 44 43 _ (by decide)), show 2 * (i + 1) = 2 * i + 1 + 1 by omega]
        exact g2
      · rw [updR_ne _ 44 37 _ (by decide)] at ht
        rw [updR_ne _ 44 41 _ (by decide)]
        exact g3 t ht
      · rw [updR_eq, up1_app]
        by_cases e : t = i.toNat
        · rw [if_pos e]
        · rw [if_neg e, ← e44]
          exact g4 t (by omega)
    have q9 : u 37 7 ≤ i → Q none u := fun h => hQ u (by rw [show u 37 7 = i by omega]; exact hu)
    simp only [e38, e39, f0, f1, f2, f5]
    by_cases hc : i < u 37 7
    · have hcd := hcd hc
      have hb0 := hbh 0 (Or.inl rfl) hc
      have hb1 := hbh 1 (Or.inr rfl) hc
      clear hQ q9
      obtain ⟨hcd1, hcd2, hcd3⟩ := hcd
      (try simp only [rI_iff, rL_iff] at *)
      repeat' (with_reducible (first | assumption | apply And.intro | intro _))
      all_goals first | omega | with_reducible assumption | exact True.intro | skip
      all_goals first
        | omega
        | exact (hp1 _ (by assumption)).1
        | exact (hp1 _ (by assumption)).2.1
        | exact (hp1 _ (by assumption)).2.2 (by assumption)
        | (have hs1 := (st0b _ _ (by assumption) hc).1; omega)
        | exact ((st0b _ _ (by assumption) hc).2.1 _ (by assumption)).1
        | exact ((st0b _ _ (by assumption) hc).2.1 _ (by assumption)).2.1
        | exact ((st0b _ _ (by assumption) hc).2.1 _ (by assumption)).2.2 (by assumption)
        | (have hs1 := (st1 _ _ _ _ (by assumption) hc (by assumption)).2; omega)
        | exact (st1 _ _ _ _ (by assumption) hc (by assumption)).1
        | exact ⟨_, (st1 _ _ _ _ (by assumption) hc (by assumption)).1⟩
        | (obtain ⟨y1, y2, y3, y4, y5⟩ := st0b _ _ (by assumption) hc
           have hs3 := (st0 _ _ (by assumption) hc).2.2
           rw [y3 0 (by decide), y3 1 (by decide), y3 2 (by decide), y3 5 (by decide), y4, y5]
           first
             | exact hB
             | (rw [hs3]; first | exact hb1.1 | exact hb1.2))
        | (have hs3 := (st0 _ _ (by assumption) hc).2.2
           rw [hs3]
           first
             | omega
             | exact hcd1
             | exact hcd2
             | exact hcd3)
        | trace_state
    · (try simp only [rI_iff, rL_iff] at *)
      repeat' (with_reducible (first | assumption | apply And.intro | intro _))
      all_goals first | omega | with_reducible assumption | exact True.intro | skip
      all_goals first
        | omega
        | exact q9 (by omega)
        | trace_state
