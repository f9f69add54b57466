/-! the reference: marks, weights -/
def s_M_comes : Spec := fun as σ Q => popR as fun c0 r0 => popI r0 fun w r1 => popI r1 fun n r2 => r2 = [] ∧ c0 = 37 ∧ (0 ≤ σ 37 17 ∧ σ 37 17 ≤ 100) ∧ (Wire (σ 37 17) (gM σ)) ∧ (rI w) ∧ (0 ≤ n ∧ n ≤ 12) ∧ ∀ r, ((r = 0 ∧ Miss (σ 37 17) (gM σ) n.toNat w) ∨ (r = 1 ∧ ¬ Miss (σ 37 17) (gM σ) n.toNat w)) → Q (some (.inl r)) σ
theorem e_M_comes (w : Int) (n : Int) (σ : St) (Q : Option AV → St → Prop) : s_M_comes [.inr (.inr (some 37)), .inl w, .inl n] σ Q = ((0 ≤ σ 37 17 ∧ σ 37 17 ≤ 100) ∧ (Wire (σ 37 17) (gM σ)) ∧ (rI w) ∧ (0 ≤ n ∧ n ≤ 12) ∧ ∀ r, ((r = 0 ∧ Miss (σ 37 17) (gM σ) n.toNat w) ∨ (r = 1 ∧ ¬ Miss (σ 37 17) (gM σ) n.toNat w)) → Q (some (.inl r)) σ) := by
  show ([] = [] ∧ _) = _
  simp only [true_and]
set_option maxHeartbeats 4000000 in
set_option maxRecDepth 20000 in
theorem S_M_comes {l : Launch} : Sat l y_M_comes b_M_comes 4 (some .boolean) 2 s_M_comes := by
  refine sat_of (Φ := P_M) (κ := Q_M) (Γ := [(197, 10, 3, s_M_walks)]) (rt := 3) (by decide +kernel) P_M_ok Q_M_ok (by
    refine List.forall_mem_cons.mpr ⟨?_, fun _ h => absurd h List.not_mem_nil⟩
    · exact m_M_walks S_M_walks (by decide) l_M_197) (by simp) o_M_comes ?_
  intro as σ Q hh0
  obtain ⟨c0, rr0, rfl, hh1⟩ := popR_inv hh0
  obtain ⟨w, rr1, rfl, hh2⟩ := popI_inv hh1
  obtain ⟨n, rr2, rfl, hh3⟩ := popI_inv hh2
  obtain ⟨hrE, rfl, hN, hf, hrw, hn, hQ⟩ := hh3
  subst hrE
  clear hh0 hh1 hh2
  refine ⟨Nat.le_of_ble_eq_true rfl, [(2, mkC (fun L st u => ∃ (s : Int), L = [.inr (.inr (some 37)), .inl w, .inl n, .inl s] ∧ st = [] ∧ (0 ≤ s ∧ s ≤ σ 37 17) ∧ (∀ t : Int, 0 ≤ t → t < s → folZ (σ 37 17) (gM σ) w n.toNat t = -1) ∧ (u = σ)) (fun L st u => ((101 - gI L 3).toNat, 0, 0)))], 14, ?_, cuts1 ?_ (cuts0)⟩
  · rw [show entL 4 [.inr (.inr (some 37)), .inl w, .inl n] = [.inr (.inr (some 37)), .inl w, .inl n, .inr (.inr none)] from rfl]
    simp only [↓wpN_go, jmp_e, ↓wp_aload_n0, ↓wp_getfield, ↓wp_goto, ↓wp_i2l, ↓wp_icmp_eq, ↓wp_icmp_ge, ↓wp_iconst, ↓wp_iinc, ↓wp_iload_n1, ↓wp_iload_n2, ↓wp_iload_n3, ↓wp_invokevirtual, ↓wp_ireturn3, ↓wp_istore_n3, wp_nil, ↓ldI_0, ↓ldI_s, ↓ldL_0, ↓ldL_s, ↓ldR_0, ↓ldR_s, sto1_0, sto1_1, sto1_s, sto2_0, sto2_1, sto2_s, isLong_i, isLong_l, isLong_r, ↓popI_c, ↓popL_c, ↓popR_c, ↓popN_0, ↓popN_s, catS_n, catS_c, psh_s, psh_n, fldV_n, fldV_s, ↓tgt_e, sw_n, ↓sw_c, ↓lk1_h, ↓lk1_m, ↓atC_h, ↓atC_m, ↓atC_n, ltO_n, ltO_s, updR_eq, updR_ne, gI_0i, gI_0l, gI_s, ltM_iff, List.cons.injEq, Sum.inl.injEq, Sum.inr.injEq, Option.some.injEq, exists_eq_left, exists_eq_left', exists_eq_right, exists_eq_right', exists_and_left, exists_and_right, exists_eq, exists_const, and_assoc, ↓j_M_comes_0, ↓j_M_comes_2, ↓j_M_comes_24, ↓j_M_comes_30, ↓f_M_160, List.length_cons, List.length_nil, Nat.zero_add, Nat.reduceAdd, Int.reduceAdd, Int.reduceNeg, Int.reduceToNat, Int.reduceLE, Int.reduceLT, true_and, and_true, Nat.reduceLT, reduceIte, Nat.reduceEqDiff, ne_eq, not_false_eq_true, false_implies, true_implies, Bool.false_eq_true, reduceCtorEq, List.cons_append, List.nil_append, Nat.reduceSub, Nat.reduceLeDiff, Fin.isValue, Int.reduceNatCast', Int.zero_add, Int.add_zero, decide_true, decide_false, implies_true, forall_const, true_or, or_true, or_false, false_or, false_and, and_false, Int.toNat_natCast, ↓oF_37_0, ↓oF_37_1, ↓oF_37_2, ↓oF_37_3, ↓aF_38, ↓oF_37_4, ↓aF_39, ↓oF_37_5, ↓oF_37_6, ↓aF_40, ↓oF_37_7, ↓oF_37_8, ↓aF_41, ↓oF_37_9, ↓aF_42, ↓oF_37_10, ↓aF_43, ↓oF_37_11, ↓aF_44, ↓oF_37_12, ↓aF_45, ↓oF_37_13, ↓aF_46, ↓oF_37_14, ↓aF_47, ↓oF_37_15, ↓aF_48, ↓oF_37_16, ↓aF_49, ↓oF_37_17, ↓oF_37_18, ↓aF_50, ↓oF_37_19, ↓aF_51, ↓oF_37_20, ↓aF_52, ↓oF_37_21, ↓aF_53, ↓oF_37_22, ↓aF_54, ↓oF_37_23, ↓aF_55, ↓oF_37_24, ↓aF_56, ↓oF_37_25, ↓aF_57, ↓oF_37_26, ↓oF_37_27, ↓oF_37_28, ↓aF_58, ↓oF_37_29, ↓aF_59, ↓oF_37_30, ↓aF_60, ↓oF_37_31, ↓aF_61, ↓oF_37_32, ↓oF_37_33, ↓oF_37_34, ↓oF_37_35, ↓aF_62, ↓oF_37_36, ↓oF_37_37, ↓aF_63, ↓oF_37_38, ↓oF_37_39, ↓aF_64, ↓oF_37_40, ↓aF_65, ↓oF_37_41, ↓aF_66, oC_0, oC_1, oC_4, oC_11, oC_16, oC_18, oC_20, oC_23, oC_25, oC_26, oC_29, oC_31, oC_33, oC_35, oC_37, isT_29, isT_31, isT_33, isT_35, isL_16, isL_18, isL_26, b2i_0, b2i_1, b2i_01, b2i_r, ↓e_M_walks]
    (try simp only [rI_iff, rL_iff] at *)
    repeat' (with_reducible (first | assumption | apply And.intro | intro _))
    all_goals first | omega | with_reducible assumption | exact True.intro | skip
    all_goals first
      | (intro t h1 h2; omega)
      | trace_state
  · intro L st u hI
    obtain ⟨s, rfl, rfl, hs, hx, hu⟩ := hI
    simp only [↓wpN_go, jmp_e, ↓wp_aload_n0, ↓wp_getfield, ↓wp_goto, ↓wp_i2l, ↓wp_icmp_eq, ↓wp_icmp_ge, ↓wp_iconst, ↓wp_iinc, ↓wp_iload_n1, ↓wp_iload_n2, ↓wp_iload_n3, ↓wp_invokevirtual, ↓wp_ireturn3, ↓wp_istore_n3, wp_nil, ↓ldI_0, ↓ldI_s, ↓ldL_0, ↓ldL_s, ↓ldR_0, ↓ldR_s, sto1_0, sto1_1, sto1_s, sto2_0, sto2_1, sto2_s, isLong_i, isLong_l, isLong_r, ↓popI_c, ↓popL_c, ↓popR_c, ↓popN_0, ↓popN_s, catS_n, catS_c, psh_s, psh_n, fldV_n, fldV_s, ↓tgt_e, sw_n, ↓sw_c, ↓lk1_h, ↓lk1_m, ↓atC_h, ↓atC_m, ↓atC_n, ltO_n, ltO_s, updR_eq, updR_ne, gI_0i, gI_0l, gI_s, ltM_iff, List.cons.injEq, Sum.inl.injEq, Sum.inr.injEq, Option.some.injEq, exists_eq_left, exists_eq_left', exists_eq_right, exists_eq_right', exists_and_left, exists_and_right, exists_eq, exists_const, and_assoc, ↓j_M_comes_0, ↓j_M_comes_2, ↓j_M_comes_24, ↓j_M_comes_30, ↓f_M_160, List.length_cons, List.length_nil, Nat.zero_add, Nat.reduceAdd, Int.reduceAdd, Int.reduceNeg, Int.reduceToNat, Int.reduceLE, Int.reduceLT, true_and, and_true, Nat.reduceLT, reduceIte, Nat.reduceEqDiff, ne_eq, not_false_eq_true, false_implies, true_implies, Bool.false_eq_true, reduceCtorEq, List.cons_append, List.nil_append, Nat.reduceSub, Nat.reduceLeDiff, Fin.isValue, Int.reduceNatCast', Int.zero_add, Int.add_zero, decide_true, decide_false, implies_true, forall_const, true_or, or_true, or_false, false_or, false_and, and_false, Int.toNat_natCast, ↓oF_37_0, ↓oF_37_1, ↓oF_37_2, ↓oF_37_3, ↓aF_38, ↓oF_37_4, ↓aF_39, ↓oF_37_5, ↓oF_37_6, ↓aF_40, ↓oF_37_7, ↓oF_37_8, ↓aF_41, ↓oF_37_9, ↓aF_42, ↓oF_37_10, ↓aF_43, ↓oF_37_11, ↓aF_44, ↓oF_37_12, ↓aF_45, ↓oF_37_13, ↓aF_46, ↓oF_37_14, ↓aF_47, ↓oF_37_15, ↓aF_48, ↓oF_37_16, ↓aF_49, ↓oF_37_17, ↓oF_37_18, ↓aF_50, ↓oF_37_19, ↓aF_51, ↓oF_37_20, ↓aF_52, ↓oF_37_21, ↓aF_53, ↓oF_37_22, ↓aF_54, ↓oF_37_23, ↓aF_55, ↓oF_37_24, ↓aF_56, ↓oF_37_25, ↓aF_57, ↓oF_37_26, ↓oF_37_27, ↓oF_37_28, ↓aF_58, ↓oF_37_29, ↓aF_59, ↓oF_37_30, ↓aF_60, ↓oF_37_31, ↓aF_61, ↓oF_37_32, ↓oF_37_33, ↓oF_37_34, ↓oF_37_35, ↓aF_62, ↓oF_37_36, ↓oF_37_37, ↓aF_63, ↓oF_37_38, ↓oF_37_39, ↓aF_64, ↓oF_37_40, ↓aF_65, ↓oF_37_41, ↓aF_66, oC_0, oC_1, oC_4, oC_11, oC_16, oC_18, oC_20, oC_23, oC_25, oC_26, oC_29, oC_31, oC_33, oC_35, oC_37, isT_29, isT_31, isT_33, isT_35, isL_16, isL_18, isL_26, b2i_0, b2i_1, b2i_01, b2i_r, ↓e_M_walks]
    subst hu
    have hr := folZ_r (row := w) hN.2 hf n.toNat (s := s)
    have q1 : u 37 17 ≤ s → Q (some (.inl 0)) u := fun h => hQ 0 (Or.inl ⟨rfl, fun t h1 h2 => hx t h1 (by omega)⟩)
    have q2 : s < u 37 17 → ¬ folZ (u 37 17) (gM u) w n.toNat s = -1 → Q (some (.inl 1)) u := fun h h1 => hQ 1 (Or.inr ⟨rfl, fun q => h1 (q s hs.1 h)⟩)
    have q3 : folZ (u 37 17) (gM u) w n.toNat s = -1 → ∀ t : Int, 0 ≤ t → t < s + 1 → folZ (u 37 17) (gM u) w n.toNat t = -1 := fun h t h1 h2 => by
      by_cases e : t = s
      · rw [e]; exact h
      · exact hx t h1 (by omega)
    (try simp only [rI_iff, rL_iff] at *)
    repeat' (with_reducible (first | assumption | apply And.intro | intro _))
    all_goals first | omega | with_reducible assumption | exact True.intro | skip
    all_goals first
      | exact q1 (by omega)
      | exact q2 (by omega) (by assumption)
      | exact q3 (by assumption) _ (by assumption) (by assumption)
      | (have hs1 := hr (by omega); omega)
      | trace_state
def s_M_mark : Spec := fun as σ Q => popR as fun c0 r0 => popI r0 fun most r1 => r1 = [] ∧ c0 = 37 ∧ (0 ≤ σ 37 17 ∧ σ 37 17 ≤ 100) ∧ (Wire (σ 37 17) (gM σ)) ∧ (rI most) ∧ if 1 ≤ most ∧ most ≤ 12 then (if σ 37 17 = 0 then Q (some (.inl (-3))) σ else (∀ n w, FirstMiss (σ 37 17) (gM σ) n w → n ≤ most → Q (some (.inl n)) (updR σ 37 (up1 (σ 37) 27 w))) ∧ ((∀ n w, FirstMiss (σ 37 17) (gM σ) n w → most < n) → Q (some (.inl (-1))) σ)) else Q (some (.inl (-2))) σ
theorem e_M_mark (most : Int) (σ : St) (Q : Option AV → St → Prop) : s_M_mark [.inr (.inr (some 37)), .inl most] σ Q = ((0 ≤ σ 37 17 ∧ σ 37 17 ≤ 100) ∧ (Wire (σ 37 17) (gM σ)) ∧ (rI most) ∧ if 1 ≤ most ∧ most ≤ 12 then (if σ 37 17 = 0 then Q (some (.inl (-3))) σ else (∀ n w, FirstMiss (σ 37 17) (gM σ) n w → n ≤ most → Q (some (.inl n)) (updR σ 37 (up1 (σ 37) 27 w))) ∧ ((∀ n w, FirstMiss (σ 37 17) (gM σ) n w → most < n) → Q (some (.inl (-1))) σ)) else Q (some (.inl (-2))) σ) := by
  show ([] = [] ∧ _) = _
  simp only [true_and]
set_option maxHeartbeats 4000000 in
set_option maxRecDepth 20000 in
theorem S_M_mark {l : Launch} : Sat l y_M_mark b_M_mark 4 (some .int) 3 s_M_mark := by
  refine sat_of (Φ := P_M) (κ := Q_M) (Γ := [(108, 0, 3, s_M_in), (215, 10, 2, s_M_comes)]) (rt := 1) (by decide +kernel) P_M_ok Q_M_ok (by
    refine List.forall_mem_cons.mpr ⟨?_, List.forall_mem_cons.mpr ⟨?_, fun _ h => absurd h List.not_mem_nil⟩⟩
    · exact m_M_in S_M_in (by decide) l_M_108
    · exact m_M_comes S_M_comes (by decide) l_M_215) (by simp) o_M_mark ?_
  intro as σ Q hh0
  obtain ⟨c0, rr0, rfl, hh1⟩ := popR_inv hh0
  obtain ⟨most, rr1, rfl, hh2⟩ := popI_inv hh1
  obtain ⟨hrE, rfl, hN, hf, hrm, hQ⟩ := hh2
  subst hrE
  clear hh0 hh1
  refine ⟨Nat.le_of_ble_eq_true rfl, [(27, mkC (fun L st u => ∃ (n : Int) (v3 : AV), L = [.inr (.inr (some 37)), .inl most, .inl n, v3] ∧ st = [] ∧ (1 ≤ most ∧ most ≤ 12) ∧ (¬ σ 37 17 = 0) ∧ (1 ≤ n ∧ n ≤ 13) ∧ (∀ k : Nat, 1 ≤ k → (k : Int) < n → ∀ v, 0 ≤ v → v < 2 ^ k → ¬ Miss (σ 37 17) (gM σ) k v) ∧ (u = σ)) (fun L st u => ((14 - gI L 2).toNat, 5000, 0))),
    (34, mkC (fun L st u => ∃ (n w : Int), L = [.inr (.inr (some 37)), .inl most, .inl n, .inl w] ∧ st = [] ∧ (1 ≤ most ∧ most ≤ 12) ∧ (¬ σ 37 17 = 0) ∧ (1 ≤ n ∧ n ≤ most) ∧ (0 ≤ w ∧ w ≤ 2 ^ n.toNat) ∧ (∀ k : Nat, 1 ≤ k → (k : Int) < n → ∀ v, 0 ≤ v → v < 2 ^ k → ¬ Miss (σ 37 17) (gM σ) k v) ∧ (∀ v, 0 ≤ v → v < w → ¬ Miss (σ 37 17) (gM σ) n.toNat v) ∧ (u = σ)) (fun L st u => ((14 - gI L 2).toNat, (4097 - gI L 3).toNat, 0)))], 14, ?_, cuts1 ?_ (cuts1 ?_ (cuts0))⟩
  · rw [show entL 4 [.inr (.inr (some 37)), .inl most] = [.inr (.inr (some 37)), .inl most, .inr (.inr none), .inr (.inr none)] from rfl]
    simp only [↓wpN_go, jmp_e, ↓wp_aload_n0, ↓wp_bipush, ↓wp_getfield, ↓wp_goto, ↓wp_i2l, ↓wp_icmp_ge, ↓wp_icmp_gt, ↓wp_iconst, ↓wp_if_ne, ↓wp_iinc, ↓wp_iload_n1, ↓wp_iload_n2, ↓wp_iload_n3, ↓wp_invokestatic, ↓wp_invokevirtual, ↓wp_ireturn1, ↓wp_ishl, ↓wp_istore_n2, ↓wp_istore_n3, ↓wp_lconst1, ↓wp_ldc2_w, ↓wp_putfield, wp_nil, ↓ldI_0, ↓ldI_s, ↓ldL_0, ↓ldL_s, ↓ldR_0, ↓ldR_s, sto1_0, sto1_1, sto1_s, sto2_0, sto2_1, sto2_s, isLong_i, isLong_l, isLong_r, ↓popI_c, ↓popL_c, ↓popR_c, ↓popN_0, ↓popN_s, catS_n, catS_c, psh_s, psh_n, fldV_n, fldV_s, ↓tgt_e, sw_n, ↓sw_c, ↓lk1_h, ↓lk1_m, ↓atC_h, ↓atC_m, ↓atC_n, ltO_n, ltO_s, updR_eq, updR_ne, gI_0i, gI_0l, gI_s, ltM_iff, List.cons.injEq, Sum.inl.injEq, Sum.inr.injEq, Option.some.injEq, exists_eq_left, exists_eq_left', exists_eq_right, exists_eq_right', exists_and_left, exists_and_right, exists_eq, exists_const, and_assoc, ↓j_M_mark_0, ↓j_M_mark_15, ↓j_M_mark_25, ↓j_M_mark_27, ↓j_M_mark_34, ↓j_M_mark_57, ↓j_M_mark_63, ↓j_M_mark_69, ↓c_M_100209, ↓f_M_160, ↓f_M_182, List.length_cons, List.length_nil, Nat.zero_add, Nat.reduceAdd, Int.reduceAdd, Int.reduceNeg, Int.reduceToNat, Int.reduceLE, Int.reduceLT, true_and, and_true, Nat.reduceLT, reduceIte, Nat.reduceEqDiff, ne_eq, not_false_eq_true, false_implies, true_implies, Bool.false_eq_true, reduceCtorEq, List.cons_append, List.nil_append, Nat.reduceSub, Nat.reduceLeDiff, Fin.isValue, Int.reduceNatCast', Int.zero_add, Int.add_zero, decide_true, decide_false, implies_true, forall_const, true_or, or_true, or_false, false_or, false_and, and_false, Int.toNat_natCast, ↓oF_37_0, ↓oF_37_1, ↓oF_37_2, ↓oF_37_3, ↓aF_38, ↓oF_37_4, ↓aF_39, ↓oF_37_5, ↓oF_37_6, ↓aF_40, ↓oF_37_7, ↓oF_37_8, ↓aF_41, ↓oF_37_9, ↓aF_42, ↓oF_37_10, ↓aF_43, ↓oF_37_11, ↓aF_44, ↓oF_37_12, ↓aF_45, ↓oF_37_13, ↓aF_46, ↓oF_37_14, ↓aF_47, ↓oF_37_15, ↓aF_48, ↓oF_37_16, ↓aF_49, ↓oF_37_17, ↓oF_37_18, ↓aF_50, ↓oF_37_19, ↓aF_51, ↓oF_37_20, ↓aF_52, ↓oF_37_21, ↓aF_53, ↓oF_37_22, ↓aF_54, ↓oF_37_23, ↓aF_55, ↓oF_37_24, ↓aF_56, ↓oF_37_25, ↓aF_57, ↓oF_37_26, ↓oF_37_27, ↓oF_37_28, ↓aF_58, ↓oF_37_29, ↓aF_59, ↓oF_37_30, ↓aF_60, ↓oF_37_31, ↓aF_61, ↓oF_37_32, ↓oF_37_33, ↓oF_37_34, ↓oF_37_35, ↓aF_62, ↓oF_37_36, ↓oF_37_37, ↓aF_63, ↓oF_37_38, ↓oF_37_39, ↓aF_64, ↓oF_37_40, ↓aF_65, ↓oF_37_41, ↓aF_66, oC_0, oC_1, oC_4, oC_11, oC_16, oC_18, oC_20, oC_23, oC_25, oC_26, oC_29, oC_31, oC_33, oC_35, oC_37, isT_29, isT_31, isT_33, isT_35, isL_16, isL_18, isL_26, b2i_0, b2i_1, b2i_01, b2i_r, ↓e_M_in, ↓e_M_comes]
    have q1 : ¬ (1 ≤ most ∧ most ≤ 12) → Q (some (.inl (-2))) σ := fun h => by rw [if_neg h] at hQ; exact hQ
    have q2 : (1 ≤ most ∧ most ≤ 12) → σ 37 17 = 0 → Q (some (.inl (-3))) σ := fun h h1 => by rw [if_pos h, if_pos h1] at hQ; exact hQ
    (try simp only [rI_iff, rL_iff] at *)
    repeat' (with_reducible (first | assumption | apply And.intro | intro _))
    all_goals first | omega | with_reducible assumption | exact True.intro | skip
    all_goals first
      | exact q1 (by omega)
      | exact q2 (by omega) (by omega)
      | omega
      | trace_state
  · intro L st u hI
    obtain ⟨n, v3, rfl, rfl, hm, hz, hn, hx, hu⟩ := hI
    simp only [↓wpN_go, jmp_e, ↓wp_aload_n0, ↓wp_bipush, ↓wp_getfield, ↓wp_goto, ↓wp_i2l, ↓wp_icmp_ge, ↓wp_icmp_gt, ↓wp_iconst, ↓wp_if_ne, ↓wp_iinc, ↓wp_iload_n1, ↓wp_iload_n2, ↓wp_iload_n3, ↓wp_invokestatic, ↓wp_invokevirtual, ↓wp_ireturn1, ↓wp_ishl, ↓wp_istore_n2, ↓wp_istore_n3, ↓wp_lconst1, ↓wp_ldc2_w, ↓wp_putfield, wp_nil, ↓ldI_0, ↓ldI_s, ↓ldL_0, ↓ldL_s, ↓ldR_0, ↓ldR_s, sto1_0, sto1_1, sto1_s, sto2_0, sto2_1, sto2_s, isLong_i, isLong_l, isLong_r, ↓popI_c, ↓popL_c, ↓popR_c, ↓popN_0, ↓popN_s, catS_n, catS_c, psh_s, psh_n, fldV_n, fldV_s, ↓tgt_e, sw_n, ↓sw_c, ↓lk1_h, ↓lk1_m, ↓atC_h, ↓atC_m, ↓atC_n, ltO_n, ltO_s, updR_eq, updR_ne, gI_0i, gI_0l, gI_s, ltM_iff, List.cons.injEq, Sum.inl.injEq, Sum.inr.injEq, Option.some.injEq, exists_eq_left, exists_eq_left', exists_eq_right, exists_eq_right', exists_and_left, exists_and_right, exists_eq, exists_const, and_assoc, ↓j_M_mark_0, ↓j_M_mark_15, ↓j_M_mark_25, ↓j_M_mark_27, ↓j_M_mark_34, ↓j_M_mark_57, ↓j_M_mark_63, ↓j_M_mark_69, ↓c_M_100209, ↓f_M_160, ↓f_M_182, List.length_cons, List.length_nil, Nat.zero_add, Nat.reduceAdd, Int.reduceAdd, Int.reduceNeg, Int.reduceToNat, Int.reduceLE, Int.reduceLT, true_and, and_true, Nat.reduceLT, reduceIte, Nat.reduceEqDiff, ne_eq, not_false_eq_true, false_implies, true_implies, Bool.false_eq_true, reduceCtorEq, List.cons_append, List.nil_append, Nat.reduceSub, Nat.reduceLeDiff, Fin.isValue, Int.reduceNatCast', Int.zero_add, Int.add_zero, decide_true, decide_false, implies_true, forall_const, true_or, or_true, or_false, false_or, false_and, and_false, Int.toNat_natCast, ↓oF_37_0, ↓oF_37_1, ↓oF_37_2, ↓oF_37_3, ↓aF_38, ↓oF_37_4, ↓aF_39, ↓oF_37_5, ↓oF_37_6, ↓aF_40, ↓oF_37_7, ↓oF_37_8, ↓aF_41, ↓oF_37_9, ↓aF_42, ↓oF_37_10, ↓aF_43, ↓oF_37_11, ↓aF_44, ↓oF_37_12, ↓aF_45, ↓oF_37_13, ↓aF_46, ↓oF_37_14, ↓aF_47, ↓oF_37_15, ↓aF_48, ↓oF_37_16, ↓aF_49, ↓oF_37_17, ↓oF_37_18, ↓aF_50, ↓oF_37_19, ↓aF_51, ↓oF_37_20, ↓aF_52, ↓oF_37_21, ↓aF_53, ↓oF_37_22, ↓aF_54, ↓oF_37_23, ↓aF_55, ↓oF_37_24, ↓aF_56, ↓oF_37_25, ↓aF_57, ↓oF_37_26, ↓oF_37_27, ↓oF_37_28, ↓aF_58, ↓oF_37_29, ↓aF_59, ↓oF_37_30, ↓aF_60, ↓oF_37_31, ↓aF_61, ↓oF_37_32, ↓oF_37_33, ↓oF_37_34, ↓oF_37_35, ↓aF_62, ↓oF_37_36, ↓oF_37_37, ↓aF_63, ↓oF_37_38, ↓oF_37_39, ↓aF_64, ↓oF_37_40, ↓aF_65, ↓oF_37_41, ↓aF_66, oC_0, oC_1, oC_4, oC_11, oC_16, oC_18, oC_20, oC_23, oC_25, oC_26, oC_29, oC_31, oC_33, oC_35, oC_37, isT_29, isT_31, isT_33, isT_35, isL_16, isL_18, isL_26, b2i_0, b2i_1, b2i_01, b2i_r, ↓e_M_in, ↓e_M_comes]
    subst hu
    rw [if_pos hm, if_neg hz] at hQ
    have q1 : most < n → Q (some (.inl (-1))) u := fun h => hQ.2 (fun k w hk => by
      apply Classical.byContradiction
      intro hc
      obtain ⟨a1, a2, a3, a4, a5, a6⟩ := hk
      exact hx k.toNat (by omega) (by omega) w a2 a3 a4)
    have hp := p2_le60 (n := n) (by omega)
    (try simp only [rI_iff, rL_iff] at *)
    repeat' (with_reducible (first | assumption | apply And.intro | intro _))
    all_goals first | omega | with_reducible assumption | exact True.intro | skip
    all_goals first
      | exact q1 (by omega)
      | omega
      | trace_state
  · intro L st u hI
    obtain ⟨n, w, rfl, rfl, hm, hz, hn, hw, hx, hy, hu⟩ := hI
    simp only [↓wpN_go, jmp_e, ↓wp_aload_n0, ↓wp_bipush, ↓wp_getfield, ↓wp_goto, ↓wp_i2l, ↓wp_icmp_ge, ↓wp_icmp_gt, ↓wp_iconst, ↓wp_if_ne, ↓wp_iinc, ↓wp_iload_n1, ↓wp_iload_n2, ↓wp_iload_n3, ↓wp_invokestatic, ↓wp_invokevirtual, ↓wp_ireturn1, ↓wp_ishl, ↓wp_istore_n2, ↓wp_istore_n3, ↓wp_lconst1, ↓wp_ldc2_w, ↓wp_putfield, wp_nil, ↓ldI_0, ↓ldI_s, ↓ldL_0, ↓ldL_s, ↓ldR_0, ↓ldR_s, sto1_0, sto1_1, sto1_s, sto2_0, sto2_1, sto2_s, isLong_i, isLong_l, isLong_r, ↓popI_c, ↓popL_c, ↓popR_c, ↓popN_0, ↓popN_s, catS_n, catS_c, psh_s, psh_n, fldV_n, fldV_s, ↓tgt_e, sw_n, ↓sw_c, ↓lk1_h, ↓lk1_m, ↓atC_h, ↓atC_m, ↓atC_n, ltO_n, ltO_s, updR_eq, updR_ne, gI_0i, gI_0l, gI_s, ltM_iff, List.cons.injEq, Sum.inl.injEq, Sum.inr.injEq, Option.some.injEq, exists_eq_left, exists_eq_left', exists_eq_right, exists_eq_right', exists_and_left, exists_and_right, exists_eq, exists_const, and_assoc, ↓j_M_mark_0, ↓j_M_mark_15, ↓j_M_mark_25, ↓j_M_mark_27, ↓j_M_mark_34, ↓j_M_mark_57, ↓j_M_mark_63, ↓j_M_mark_69, ↓c_M_100209, ↓f_M_160, ↓f_M_182, List.length_cons, List.length_nil, Nat.zero_add, Nat.reduceAdd, Int.reduceAdd, Int.reduceNeg, Int.reduceToNat, Int.reduceLE, Int.reduceLT, true_and, and_true, Nat.reduceLT, reduceIte, Nat.reduceEqDiff, ne_eq, not_false_eq_true, false_implies, true_implies, Bool.false_eq_true, reduceCtorEq, List.cons_append, List.nil_append, Nat.reduceSub, Nat.reduceLeDiff, Fin.isValue, Int.reduceNatCast', Int.zero_add, Int.add_zero, decide_true, decide_false, implies_true, forall_const, true_or, or_true, or_false, false_or, false_and, and_false, Int.toNat_natCast, ↓oF_37_0, ↓oF_37_1, ↓oF_37_2, ↓oF_37_3, ↓aF_38, ↓oF_37_4, ↓aF_39, ↓oF_37_5, ↓oF_37_6, ↓aF_40, ↓oF_37_7, ↓oF_37_8, ↓aF_41, ↓oF_37_9, ↓aF_42, ↓oF_37_10, ↓aF_43, ↓oF_37_11, ↓aF_44, ↓oF_37_12, ↓aF_45, ↓oF_37_13, ↓aF_46, ↓oF_37_14, ↓aF_47, ↓oF_37_15, ↓aF_48, ↓oF_37_16, ↓aF_49, ↓oF_37_17, ↓oF_37_18, ↓aF_50, ↓oF_37_19, ↓aF_51, ↓oF_37_20, ↓aF_52, ↓oF_37_21, ↓aF_53, ↓oF_37_22, ↓aF_54, ↓oF_37_23, ↓aF_55, ↓oF_37_24, ↓aF_56, ↓oF_37_25, ↓aF_57, ↓oF_37_26, ↓oF_37_27, ↓oF_37_28, ↓aF_58, ↓oF_37_29, ↓aF_59, ↓oF_37_30, ↓aF_60, ↓oF_37_31, ↓aF_61, ↓oF_37_32, ↓oF_37_33, ↓oF_37_34, ↓oF_37_35, ↓aF_62, ↓oF_37_36, ↓oF_37_37, ↓aF_63, ↓oF_37_38, ↓oF_37_39, ↓aF_64, ↓oF_37_40, ↓aF_65, ↓oF_37_41, ↓aF_66, oC_0, oC_1, oC_4, oC_11, oC_16, oC_18, oC_20, oC_23, oC_25, oC_26, oC_29, oC_31, oC_33, oC_35, oC_37, isT_29, isT_31, isT_33, isT_35, isL_16, isL_18, isL_26, b2i_0, b2i_1, b2i_01, b2i_r, ↓e_M_in, ↓e_M_comes]
    subst hu
    rw [if_pos hm, if_neg hz] at hQ
    have hp := p2_le60 (n := n) (by omega)
    have hp12 := p2_le (show n.toNat ≤ 12 by omega)
    have e12 : (2 : Int) ^ 12 = 4096 := by decide
    rw [Int.one_mul]
    have q0 : ∀ r : Int, (r = 0 ∧ Miss (u 37 17) (gM u) n.toNat w) ∨ (r = 1 ∧ ¬ Miss (u 37 17) (gM u) n.toNat w) → -2147483648 ≤ r ∧ r < 2147483648 := fun r h => by rcases h with h | h <;> omega
    have q1 : ∀ r : Int, (r = 0 ∧ Miss (u 37 17) (gM u) n.toNat w) ∨ (r = 1 ∧ ¬ Miss (u 37 17) (gM u) n.toNat w) → r = 0 → w < 2 ^ n.toNat → Q (some (.inl n)) (updR u 37 (up1 (u 37) 27 w)) := fun r h h0 h1 => by
      have h2 := h.resolve_right (fun q => by omega)
      exact hQ.1 n w ⟨hn.1, hw.1, h1, h2.2, hy, hx⟩ hn.2
    have q2 : ∀ r : Int, (r = 0 ∧ Miss (u 37 17) (gM u) n.toNat w) ∨ (r = 1 ∧ ¬ Miss (u 37 17) (gM u) n.toNat w) → ¬ r = 0 → ∀ v, 0 ≤ v → v < w + 1 → ¬ Miss (u 37 17) (gM u) n.toNat v := fun r h h0 v h1 h2 => by
      have h3 := h.resolve_left (fun q => h0 q.1)
      by_cases e : v = w
      · rw [e]; exact h3.2
      · exact hy v h1 (by omega)
    have q3 : 2 ^ n.toNat ≤ w → ∀ k : Nat, 1 ≤ k → (k : Int) < n + 1 → ∀ v, 0 ≤ v → v < 2 ^ k → ¬ Miss (u 37 17) (gM u) k v := fun h k k1 k2 v v1 v2 => by
      by_cases e : k = n.toNat
      · subst e
        exact hy v v1 (by omega)
      · exact hx k k1 (by omega) v v1 v2
    clear hQ
    generalize (2 : Int) ^ n.toNat = p at *
    (try simp only [rI_iff, rL_iff] at *)
    repeat' (with_reducible (first | assumption | apply And.intro | intro _))
    all_goals first | omega | with_reducible assumption | exact True.intro | skip
    all_goals first
      | omega
      | exact (q0 _ (by assumption)).1
      | exact (q0 _ (by assumption)).2
      | exact q1 _ (by assumption) (by assumption) (by assumption)
      | exact q2 _ (by assumption) (by assumption) _ (by assumption) (by assumption) (by assumption)
      | exact q3 (by assumption) _ (by assumption) (by assumption) _ (by assumption) (by assumption) (by assumption)
      | exact q2 _ (by assumption) (by assumption) _ (by assumption) (by assumption)
      | exact q3 (by assumption) _ (by assumption) (by assumption) _ (by assumption) (by assumption)
      | exact q2 _ (by assumption) (by assumption)
      | exact q3 (by assumption)
      | trace_state
def s_M_allWeights : Spec := fun as σ Q => popR as fun c0 r0 => r0 = [] ∧ c0 = 37 ∧ (0 ≤ σ 37 17 ∧ σ 37 17 ≤ 100) ∧ Q (some (.inl (sumF (σ 57) (σ 37 17).toNat))) σ
theorem e_M_allWeights  (σ : St) (Q : Option AV → St → Prop) : s_M_allWeights [.inr (.inr (some 37))] σ Q = ((0 ≤ σ 37 17 ∧ σ 37 17 ≤ 100) ∧ Q (some (.inl (sumF (σ 57) (σ 37 17).toNat))) σ) := by
  show ([] = [] ∧ _) = _
  simp only [true_and]
set_option maxHeartbeats 4000000 in
set_option maxRecDepth 20000 in
theorem S_M_allWeights {l : Launch} : Sat l y_M_allWeights b_M_allWeights 3 (some .int) 0 s_M_allWeights := by
  refine sat_of (Φ := P_M) (κ := Q_M) (Γ := []) (rt := 1) (by decide +kernel) P_M_ok Q_M_ok (fun g hg => absurd hg List.not_mem_nil) (by simp) o_M_allWeights ?_
  intro as σ Q hh0
  obtain ⟨c0, rr0, rfl, hh1⟩ := popR_inv hh0
  obtain ⟨hrE, rfl, hN, hQ⟩ := hh1
  subst hrE
  clear hh0
  refine ⟨Nat.le_of_ble_eq_true rfl, [(4, mkC (fun L st u => ∃ (j : Int), L = [.inr (.inr (some 37)), .inl ((sumF (σ 57) j.toNat)), .inl j] ∧ st = [] ∧ (0 ≤ j ∧ j ≤ σ 37 17) ∧ (u = σ)) (fun L st u => ((101 - gI L 2).toNat, 0, 0)))], 14, ?_, cuts1 ?_ (cuts0)⟩
  · rw [show entL 3 [.inr (.inr (some 37))] = [.inr (.inr (some 37)), .inr (.inr none), .inr (.inr none)] from rfl]
    simp only [↓wpN_go, jmp_e, ↓wp_aload_n0, ↓wp_getfield, ↓wp_goto, ↓wp_iadd, ↓wp_iaload, ↓wp_icmp_ge, ↓wp_iconst, ↓wp_iinc, ↓wp_iload_n1, ↓wp_iload_n2, ↓wp_ireturn1, ↓wp_istore_n1, ↓wp_istore_n2, wp_nil, ↓ldI_0, ↓ldI_s, ↓ldL_0, ↓ldL_s, ↓ldR_0, ↓ldR_s, sto1_0, sto1_1, sto1_s, sto2_0, sto2_1, sto2_s, isLong_i, isLong_l, isLong_r, ↓popI_c, ↓popL_c, ↓popR_c, ↓popN_0, ↓popN_s, catS_n, catS_c, psh_s, psh_n, fldV_n, fldV_s, ↓tgt_e, sw_n, ↓sw_c, ↓lk1_h, ↓lk1_m, ↓atC_h, ↓atC_m, ↓atC_n, ltO_n, ltO_s, updR_eq, updR_ne, gI_0i, gI_0l, gI_s, ltM_iff, List.cons.injEq, Sum.inl.injEq, Sum.inr.injEq, Option.some.injEq, exists_eq_left, exists_eq_left', exists_eq_right, exists_eq_right', exists_and_left, exists_and_right, exists_eq, exists_const, and_assoc, ↓j_M_allWeights_0, ↓j_M_allWeights_4, ↓j_M_allWeights_27, ↓f_M_160, ↓f_M_75, List.length_cons, List.length_nil, Nat.zero_add, Nat.reduceAdd, Int.reduceAdd, Int.reduceNeg, Int.reduceToNat, Int.reduceLE, Int.reduceLT, true_and, and_true, Nat.reduceLT, reduceIte, Nat.reduceEqDiff, ne_eq, not_false_eq_true, false_implies, true_implies, Bool.false_eq_true, reduceCtorEq, List.cons_append, List.nil_append, Nat.reduceSub, Nat.reduceLeDiff, Fin.isValue, Int.reduceNatCast', Int.zero_add, Int.add_zero, decide_true, decide_false, implies_true, forall_const, true_or, or_true, or_false, false_or, false_and, and_false, Int.toNat_natCast, ↓oF_37_0, ↓oF_37_1, ↓oF_37_2, ↓oF_37_3, ↓aF_38, ↓oF_37_4, ↓aF_39, ↓oF_37_5, ↓oF_37_6, ↓aF_40, ↓oF_37_7, ↓oF_37_8, ↓aF_41, ↓oF_37_9, ↓aF_42, ↓oF_37_10, ↓aF_43, ↓oF_37_11, ↓aF_44, ↓oF_37_12, ↓aF_45, ↓oF_37_13, ↓aF_46, ↓oF_37_14, ↓aF_47, ↓oF_37_15, ↓aF_48, ↓oF_37_16, ↓aF_49, ↓oF_37_17, ↓oF_37_18, ↓aF_50, ↓oF_37_19, ↓aF_51, ↓oF_37_20, ↓aF_52, ↓oF_37_21, ↓aF_53, ↓oF_37_22, ↓aF_54, ↓oF_37_23, ↓aF_55, ↓oF_37_24, ↓aF_56, ↓oF_37_25, ↓aF_57, ↓oF_37_26, ↓oF_37_27, ↓oF_37_28, ↓aF_58, ↓oF_37_29, ↓aF_59, ↓oF_37_30, ↓aF_60, ↓oF_37_31, ↓aF_61, ↓oF_37_32, ↓oF_37_33, ↓oF_37_34, ↓oF_37_35, ↓aF_62, ↓oF_37_36, ↓oF_37_37, ↓aF_63, ↓oF_37_38, ↓oF_37_39, ↓aF_64, ↓oF_37_40, ↓aF_65, ↓oF_37_41, ↓aF_66, oC_0, oC_1, oC_4, oC_11, oC_16, oC_18, oC_20, oC_23, oC_25, oC_26, oC_29, oC_31, oC_33, oC_35, oC_37, isT_29, isT_31, isT_33, isT_35, isL_16, isL_18, isL_26]
    (try simp only [rI_iff, rL_iff] at *)
    repeat' (with_reducible (first | assumption | apply And.intro | intro _))
    all_goals first | omega | with_reducible assumption | exact True.intro | skip
    all_goals exact ⟨0, rfl, rfl, by omega, by omega⟩
  · intro L st u hI
    obtain ⟨j, rfl, rfl, hj, hu⟩ := hI
    simp only [↓wpN_go, jmp_e, ↓wp_aload_n0, ↓wp_getfield, ↓wp_goto, ↓wp_iadd, ↓wp_iaload, ↓wp_icmp_ge, ↓wp_iconst, ↓wp_iinc, ↓wp_iload_n1, ↓wp_iload_n2, ↓wp_ireturn1, ↓wp_istore_n1, ↓wp_istore_n2, wp_nil, ↓ldI_0, ↓ldI_s, ↓ldL_0, ↓ldL_s, ↓ldR_0, ↓ldR_s, sto1_0, sto1_1, sto1_s, sto2_0, sto2_1, sto2_s, isLong_i, isLong_l, isLong_r, ↓popI_c, ↓popL_c, ↓popR_c, ↓popN_0, ↓popN_s, catS_n, catS_c, psh_s, psh_n, fldV_n, fldV_s, ↓tgt_e, sw_n, ↓sw_c, ↓lk1_h, ↓lk1_m, ↓atC_h, ↓atC_m, ↓atC_n, ltO_n, ltO_s, updR_eq, updR_ne, gI_0i, gI_0l, gI_s, ltM_iff, List.cons.injEq, Sum.inl.injEq, Sum.inr.injEq, Option.some.injEq, exists_eq_left, exists_eq_left', exists_eq_right, exists_eq_right', exists_and_left, exists_and_right, exists_eq, exists_const, and_assoc, ↓j_M_allWeights_0, ↓j_M_allWeights_4, ↓j_M_allWeights_27, ↓f_M_160, ↓f_M_75, List.length_cons, List.length_nil, Nat.zero_add, Nat.reduceAdd, Int.reduceAdd, Int.reduceNeg, Int.reduceToNat, Int.reduceLE, Int.reduceLT, true_and, and_true, Nat.reduceLT, reduceIte, Nat.reduceEqDiff, ne_eq, not_false_eq_true, false_implies, true_implies, Bool.false_eq_true, reduceCtorEq, List.cons_append, List.nil_append, Nat.reduceSub, Nat.reduceLeDiff, Fin.isValue, Int.reduceNatCast', Int.zero_add, Int.add_zero, decide_true, decide_false, implies_true, forall_const, true_or, or_true, or_false, false_or, false_and, and_false, Int.toNat_natCast, ↓oF_37_0, ↓oF_37_1, ↓oF_37_2, ↓oF_37_3, ↓aF_38, ↓oF_37_4, ↓aF_39, ↓oF_37_5, ↓oF_37_6, ↓aF_40, ↓oF_37_7, ↓oF_37_8, ↓aF_41, ↓oF_37_9, ↓aF_42, ↓oF_37_10, ↓aF_43, ↓oF_37_11, ↓aF_44, ↓oF_37_12, ↓aF_45, ↓oF_37_13, ↓aF_46, ↓oF_37_14, ↓aF_47, ↓oF_37_15, ↓aF_48, ↓oF_37_16, ↓aF_49, ↓oF_37_17, ↓oF_37_18, ↓aF_50, ↓oF_37_19, ↓aF_51, ↓oF_37_20, ↓aF_52, ↓oF_37_21, ↓aF_53, ↓oF_37_22, ↓aF_54, ↓oF_37_23, ↓aF_55, ↓oF_37_24, ↓aF_56, ↓oF_37_25, ↓aF_57, ↓oF_37_26, ↓oF_37_27, ↓oF_37_28, ↓aF_58, ↓oF_37_29, ↓aF_59, ↓oF_37_30, ↓aF_60, ↓oF_37_31, ↓aF_61, ↓oF_37_32, ↓oF_37_33, ↓oF_37_34, ↓oF_37_35, ↓aF_62, ↓oF_37_36, ↓oF_37_37, ↓aF_63, ↓oF_37_38, ↓oF_37_39, ↓aF_64, ↓oF_37_40, ↓aF_65, ↓oF_37_41, ↓aF_66, oC_0, oC_1, oC_4, oC_11, oC_16, oC_18, oC_20, oC_23, oC_25, oC_26, oC_29, oC_31, oC_33, oC_35, oC_37, isT_29, isT_31, isT_33, isT_35, isL_16, isL_18, isL_26]
    subst hu
    have e1 : (j + 1).toNat = j.toNat + 1 := by omega
    have q1 : u 37 17 ≤ j → Q (some (.inl (sumF (u 57) j.toNat))) u := fun h => by rw [show j.toNat = (u 37 17).toNat by omega]; exact hQ
    (try simp only [rI_iff, rL_iff] at *)
    repeat' (with_reducible (first | assumption | apply And.intro | intro _))
    all_goals first | omega | with_reducible assumption | exact True.intro | skip
    all_goals first
      | exact q1 (by omega)
      | exact ⟨j + 1, by rw [e1]; rfl, rfl, by omega, by omega, by first | rfl | trivial⟩
      | trace_state
theorem wsum {N s : Int} {f w : Nat → Int} {r : Nat} : sumF (fun j => ladI N f (indF j) r s * w j) N.toNat = ladI N f w r s := by
  rw [ladI_sum (w := w)]
  exact sumF_congr (fun j _ => Int.mul_comm _ _)
theorem i12 {N s : Int} {f : Nat → Int} {n j : Int} (hn : 0 ≤ n ∧ n ≤ 12) : 0 ≤ ladI N f (indF j) n.toNat s ∧ ladI N f (indF j) n.toNat s ≤ 4096 := by
  have h1 := ladI_ind (N := N) (B := 1) (f := f) (j := j) n.toNat s
  have h2 := p2_le (show n.toNat ≤ 12 by omega)
  have h3 : (2 : Int) ^ 12 = 4096 := by decide
  omega
def s_M_weighed : Spec := fun as σ Q => popR as fun c0 r0 => popI r0 fun s r1 => popI r1 fun n r2 => r2 = [] ∧ c0 = 37 ∧ (0 ≤ σ 37 17 ∧ σ 37 17 ≤ 100) ∧ (Wire (σ 37 17) (gM σ)) ∧ (0 ≤ s ∧ s < σ 37 17) ∧ (0 ≤ n ∧ n ≤ 12) ∧ (AllB (σ 57) (σ 37 17) 1000000) ∧ ∀ g h, Q (some (.inr (.inl (ladI (σ 37 17) (gM σ) (σ 57) n.toNat s)))) (updR (updR σ 59 g) 60 h)
theorem e_M_weighed (s : Int) (n : Int) (σ : St) (Q : Option AV → St → Prop) : s_M_weighed [.inr (.inr (some 37)), .inl s, .inl n] σ Q = ((0 ≤ σ 37 17 ∧ σ 37 17 ≤ 100) ∧ (Wire (σ 37 17) (gM σ)) ∧ (0 ≤ s ∧ s < σ 37 17) ∧ (0 ≤ n ∧ n ≤ 12) ∧ (AllB (σ 57) (σ 37 17) 1000000) ∧ ∀ g h, Q (some (.inr (.inl (ladI (σ 37 17) (gM σ) (σ 57) n.toNat s)))) (updR (updR σ 59 g) 60 h)) := by
  show ([] = [] ∧ _) = _
  simp only [true_and]
set_option maxHeartbeats 4000000 in
set_option maxRecDepth 20000 in
theorem S_M_weighed {l : Launch} : Sat l y_M_weighed b_M_weighed 6 (some .long) 1 s_M_weighed := by
  refine sat_of (Φ := P_M) (κ := Q_M) (Γ := [(211, 10, 2, s_M_reachFrom)]) (rt := 2) (by decide +kernel) P_M_ok Q_M_ok (by
    refine List.forall_mem_cons.mpr ⟨?_, fun _ h => absurd h List.not_mem_nil⟩
    · exact m_M_reachFrom S_M_reachFrom (by decide) l_M_211) (by simp) o_M_weighed ?_
  intro as σ Q hh0
  obtain ⟨c0, rr0, rfl, hh1⟩ := popR_inv hh0
  obtain ⟨s, rr1, rfl, hh2⟩ := popI_inv hh1
  obtain ⟨n, rr2, rfl, hh3⟩ := popI_inv hh2
  obtain ⟨hrE, rfl, hN, hf, hs, hn, hw, hQ⟩ := hh3
  subst hrE
  clear hh0 hh1 hh2
  refine ⟨Nat.le_of_ble_eq_true rfl, [(11, mkC (fun L st u => ∃ (j : Int) (g h : Nat → Int), L = [.inr (.inr (some 37)), .inl s, .inl n, .inr (.inl ((sumF (fun j => ladI (σ 37 17) (gM σ) (indF j) n.toNat s * σ 57 j) j.toNat))), .inr (.inr none), .inl j] ∧ st = [] ∧ (0 ≤ j ∧ j ≤ σ 37 17) ∧ (ReachG σ (σ 37 17) s n.toNat g) ∧ (u = updR (updR σ 59 g) 60 h)) (fun L st u => ((101 - gI L 5).toNat, 0, 0)))], 14, ?_, cuts1 ?_ (cuts0)⟩
  · rw [show entL 6 [.inr (.inr (some 37)), .inl s, .inl n] = [.inr (.inr (some 37)), .inl s, .inl n, .inr (.inr none), .inr (.inr none), .inr (.inr none)] from rfl]
    simp only [↓wpN_go, jmp_e, ↓wp_aload_n0, ↓wp_getfield, ↓wp_goto, ↓wp_i2l, ↓wp_iaload, ↓wp_icmp_ge, ↓wp_iconst, ↓wp_iinc, ↓wp_iload, ↓wp_iload_n1, ↓wp_iload_n2, ↓wp_invokevirtual, ↓wp_istore, ↓wp_ladd, ↓wp_lconst0, ↓wp_lload_n3, ↓wp_lmul, ↓wp_lreturn2, ↓wp_lstore_n3, wp_nil, ↓ldI_0, ↓ldI_s, ↓ldL_0, ↓ldL_s, ↓ldR_0, ↓ldR_s, sto1_0, sto1_1, sto1_s, sto2_0, sto2_1, sto2_s, isLong_i, isLong_l, isLong_r, ↓popI_c, ↓popL_c, ↓popR_c, ↓popN_0, ↓popN_s, catS_n, catS_c, psh_s, psh_n, fldV_n, fldV_s, ↓tgt_e, sw_n, ↓sw_c, ↓lk1_h, ↓lk1_m, ↓atC_h, ↓atC_m, ↓atC_n, ltO_n, ltO_s, updR_eq, updR_ne, gI_0i, gI_0l, gI_s, ltM_iff, List.cons.injEq, Sum.inl.injEq, Sum.inr.injEq, Option.some.injEq, exists_eq_left, exists_eq_left', exists_eq_right, exists_eq_right', exists_and_left, exists_and_right, exists_eq, exists_const, and_assoc, ↓j_M_weighed_0, ↓j_M_weighed_11, ↓j_M_weighed_46, ↓f_M_160, ↓f_M_75, ↓f_M_82, List.length_cons, List.length_nil, Nat.zero_add, Nat.reduceAdd, Int.reduceAdd, Int.reduceNeg, Int.reduceToNat, Int.reduceLE, Int.reduceLT, true_and, and_true, Nat.reduceLT, reduceIte, Nat.reduceEqDiff, ne_eq, not_false_eq_true, false_implies, true_implies, Bool.false_eq_true, reduceCtorEq, List.cons_append, List.nil_append, Nat.reduceSub, Nat.reduceLeDiff, Fin.isValue, Int.reduceNatCast', Int.zero_add, Int.add_zero, decide_true, decide_false, implies_true, forall_const, true_or, or_true, or_false, false_or, false_and, and_false, Int.toNat_natCast, ↓oF_37_0, ↓oF_37_1, ↓oF_37_2, ↓oF_37_3, ↓aF_38, ↓oF_37_4, ↓aF_39, ↓oF_37_5, ↓oF_37_6, ↓aF_40, ↓oF_37_7, ↓oF_37_8, ↓aF_41, ↓oF_37_9, ↓aF_42, ↓oF_37_10, ↓aF_43, ↓oF_37_11, ↓aF_44, ↓oF_37_12, ↓aF_45, ↓oF_37_13, ↓aF_46, ↓oF_37_14, ↓aF_47, ↓oF_37_15, ↓aF_48, ↓oF_37_16, ↓aF_49, ↓oF_37_17, ↓oF_37_18, ↓aF_50, ↓oF_37_19, ↓aF_51, ↓oF_37_20, ↓aF_52, ↓oF_37_21, ↓aF_53, ↓oF_37_22, ↓aF_54, ↓oF_37_23, ↓aF_55, ↓oF_37_24, ↓aF_56, ↓oF_37_25, ↓aF_57, ↓oF_37_26, ↓oF_37_27, ↓oF_37_28, ↓aF_58, ↓oF_37_29, ↓aF_59, ↓oF_37_30, ↓aF_60, ↓oF_37_31, ↓aF_61, ↓oF_37_32, ↓oF_37_33, ↓oF_37_34, ↓oF_37_35, ↓aF_62, ↓oF_37_36, ↓oF_37_37, ↓aF_63, ↓oF_37_38, ↓oF_37_39, ↓aF_64, ↓oF_37_40, ↓aF_65, ↓oF_37_41, ↓aF_66, oC_0, oC_1, oC_4, oC_11, oC_16, oC_18, oC_20, oC_23, oC_25, oC_26, oC_29, oC_31, oC_33, oC_35, oC_37, isT_29, isT_31, isT_33, isT_35, isL_16, isL_18, isL_26, ↓e_M_reachFrom]
    (try simp only [rI_iff, rL_iff] at *)
    repeat' (with_reducible (first | assumption | apply And.intro | intro _))
    all_goals first | omega | with_reducible assumption | exact True.intro | skip
    all_goals first
      | exact ⟨0, rfl, rfl, by omega, by omega, _, by assumption, _, rfl⟩
      | trace_state
  · intro L st u hI
    obtain ⟨j, g, h, rfl, rfl, hj, hg, hu⟩ := hI
    simp only [↓wpN_go, jmp_e, ↓wp_aload_n0, ↓wp_getfield, ↓wp_goto, ↓wp_i2l, ↓wp_iaload, ↓wp_icmp_ge, ↓wp_iconst, ↓wp_iinc, ↓wp_iload, ↓wp_iload_n1, ↓wp_iload_n2, ↓wp_invokevirtual, ↓wp_istore, ↓wp_ladd, ↓wp_lconst0, ↓wp_lload_n3, ↓wp_lmul, ↓wp_lreturn2, ↓wp_lstore_n3, wp_nil, ↓ldI_0, ↓ldI_s, ↓ldL_0, ↓ldL_s, ↓ldR_0, ↓ldR_s, sto1_0, sto1_1, sto1_s, sto2_0, sto2_1, sto2_s, isLong_i, isLong_l, isLong_r, ↓popI_c, ↓popL_c, ↓popR_c, ↓popN_0, ↓popN_s, catS_n, catS_c, psh_s, psh_n, fldV_n, fldV_s, ↓tgt_e, sw_n, ↓sw_c, ↓lk1_h, ↓lk1_m, ↓atC_h, ↓atC_m, ↓atC_n, ltO_n, ltO_s, updR_eq, updR_ne, gI_0i, gI_0l, gI_s, ltM_iff, List.cons.injEq, Sum.inl.injEq, Sum.inr.injEq, Option.some.injEq, exists_eq_left, exists_eq_left', exists_eq_right, exists_eq_right', exists_and_left, exists_and_right, exists_eq, exists_const, and_assoc, ↓j_M_weighed_0, ↓j_M_weighed_11, ↓j_M_weighed_46, ↓f_M_160, ↓f_M_75, ↓f_M_82, List.length_cons, List.length_nil, Nat.zero_add, Nat.reduceAdd, Int.reduceAdd, Int.reduceNeg, Int.reduceToNat, Int.reduceLE, Int.reduceLT, true_and, and_true, Nat.reduceLT, reduceIte, Nat.reduceEqDiff, ne_eq, not_false_eq_true, false_implies, true_implies, Bool.false_eq_true, reduceCtorEq, List.cons_append, List.nil_append, Nat.reduceSub, Nat.reduceLeDiff, Fin.isValue, Int.reduceNatCast', Int.zero_add, Int.add_zero, decide_true, decide_false, implies_true, forall_const, true_or, or_true, or_false, false_or, false_and, and_false, Int.toNat_natCast, ↓oF_37_0, ↓oF_37_1, ↓oF_37_2, ↓oF_37_3, ↓aF_38, ↓oF_37_4, ↓aF_39, ↓oF_37_5, ↓oF_37_6, ↓aF_40, ↓oF_37_7, ↓oF_37_8, ↓aF_41, ↓oF_37_9, ↓aF_42, ↓oF_37_10, ↓aF_43, ↓oF_37_11, ↓aF_44, ↓oF_37_12, ↓aF_45, ↓oF_37_13, ↓aF_46, ↓oF_37_14, ↓aF_47, ↓oF_37_15, ↓aF_48, ↓oF_37_16, ↓aF_49, ↓oF_37_17, ↓oF_37_18, ↓aF_50, ↓oF_37_19, ↓aF_51, ↓oF_37_20, ↓aF_52, ↓oF_37_21, ↓aF_53, ↓oF_37_22, ↓aF_54, ↓oF_37_23, ↓aF_55, ↓oF_37_24, ↓aF_56, ↓oF_37_25, ↓aF_57, ↓oF_37_26, ↓oF_37_27, ↓oF_37_28, ↓aF_58, ↓oF_37_29, ↓aF_59, ↓oF_37_30, ↓aF_60, ↓oF_37_31, ↓aF_61, ↓oF_37_32, ↓oF_37_33, ↓oF_37_34, ↓oF_37_35, ↓aF_62, ↓oF_37_36, ↓oF_37_37, ↓aF_63, ↓oF_37_38, ↓oF_37_39, ↓aF_64, ↓oF_37_40, ↓aF_65, ↓oF_37_41, ↓aF_66, oC_0, oC_1, oC_4, oC_11, oC_16, oC_18, oC_20, oC_23, oC_25, oC_26, oC_29, oC_31, oC_33, oC_35, oC_37, isT_29, isT_31, isT_33, isT_35, isL_16, isL_18, isL_26, ↓e_M_reachFrom]
    subst hu
    have e37 : updR (updR σ 59 g) 60 h 37 = σ 37 := by rw [updR_ne _ 60 37 _ (by decide), updR_ne _ 59 37 _ (by decide)]
    have e50 : updR (updR σ 59 g) 60 h 50 = σ 50 := by rw [updR_ne _ 60 50 _ (by decide), updR_ne _ 59 50 _ (by decide)]
    have e51 : updR (updR σ 59 g) 60 h 51 = σ 51 := by rw [updR_ne _ 60 51 _ (by decide), updR_ne _ 59 51 _ (by decide)]
    have e57 : updR (updR σ 59 g) 60 h 57 = σ 57 := by rw [updR_ne _ 60 57 _ (by decide), updR_ne _ 59 57 _ (by decide)]
    have e59 : updR (updR σ 59 g) 60 h 59 = g := by rw [updR_ne _ 60 59 _ (by decide), updR_eq]
    have e60 : updR (updR σ 59 g) 60 h 60 = h := updR_eq _ _ _
    have egM : gM (updR (updR σ 59 g) 60 h) = gM σ := by rw [gM_upd _ _ _ (by decide) (by decide), gM_upd _ _ _ (by decide) (by decide)]
    have et59 : ∀ k, updR (updR (updR σ 59 g) 60 h) 59 k = updR (updR σ 59 k) 60 h := fun k => by rw [updR_swap _ 60 59 _ _ (by decide), updR_twice]
    have et60 : ∀ k, updR (updR (updR σ 59 g) 60 h) 60 k = updR (updR σ 59 g) 60 k := fun k => updR_twice _ _ _ _
    simp only [e37, e57, e59]
    have e1 : (j + 1).toNat = j.toNat + 1 := by omega
    have hg1 : j < σ 37 17 → g j.toNat = ladI (σ 37 17) (gM σ) (indF j) n.toNat s := fun q => by
      have := hg j.toNat (by omega)
      rw [Int.toNat_of_nonneg hj.1] at this
      exact this
    have hi := i12 (N := σ 37 17) (f := gM σ) (s := s) (j := j) hn
    have hw1 := hw j.toNat
    have hss : sumF (fun j => ladI (σ 37 17) (gM σ) (indF j) n.toNat s * σ 57 j) (j.toNat + 1) = sumF (fun j => ladI (σ 37 17) (gM σ) (indF j) n.toNat s * σ 57 j) j.toNat + ladI (σ 37 17) (gM σ) (indF j) n.toNat s * σ 57 j.toNat := by
      rw [sumF]
      show _ + ladI (σ 37 17) (gM σ) (indF ((j.toNat : Nat) : Int)) n.toNat s * σ 57 j.toNat = _
      rw [Int.toNat_of_nonneg hj.1]
    have q1 : σ 37 17 ≤ j → Q (some (.inr (.inl (sumF (fun j => ladI (σ 37 17) (gM σ) (indF j) n.toNat s * σ 57 j) j.toNat)))) (updR (updR σ 59 g) 60 h) := fun q => by
      rw [show j.toNat = (σ 37 17).toNat by omega, wsum]
      exact hQ g h
    by_cases hc : j < σ 37 17
    · have hg1 := hg1 hc
      rw [hg1]
      clear hQ
      (try simp only [rI_iff, rL_iff] at *)
      repeat' (with_reducible (first | assumption | apply And.intro | intro _))
      all_goals first | omega | with_reducible assumption | exact True.intro | skip
      all_goals first
        | omega
        | exact ⟨j + 1, by rw [e1, hss], rfl, by omega, by omega, _, hg, _, rfl⟩
        | trace_state
    · (try simp only [rI_iff, rL_iff] at *)
      repeat' (with_reducible (first | assumption | apply And.intro | intro _))
      all_goals first | omega | with_reducible assumption | exact True.intro | skip
      all_goals first
        | exact q1 (by omega)
        | omega
        | trace_state
theorem findF_end {p : Nat → Bool} {k n : Nat} (h0 : findF p k = -1) (hk : k < n) (hp : p k = true) : findF p n = k := by
  have h1 : findF p (k + 1) = k := by rw [findF, if_pos h0, if_pos hp]
  rw [findF_on p (k + 1) (by rw [h1]; omega) n (by omega), h1]
theorem lad_1e6 {N s : Int} {f w : Nat → Int} {n : Int} (hn : 0 ≤ n ∧ n ≤ 12) (hw : AllB w N 1000000) : 0 ≤ ladI N f w n.toNat s ∧ ladI N f w n.toNat s ≤ 4096000000 := by
  have h1 := ladI_bound (f := f) (by omega : (0 : Int) ≤ 1000000) hw n.toNat s
  have h2 := p2_le (show n.toNat ≤ 12 by omega)
  have h3 : (2 : Int) ^ 12 = 4096 := by decide
  omega
def s_M_judge : Spec := fun as σ Q => popR as fun c0 r0 => popI r0 fun m r1 => popI r1 fun n r2 => r2 = [] ∧ c0 = 37 ∧ (0 ≤ σ 37 17 ∧ σ 37 17 ≤ 100) ∧ (Wire (σ 37 17) (gM σ)) ∧ (AllB (σ 57) (σ 37 17) 1000000) ∧ (rI m) ∧ (rI n) ∧ if 0 ≤ m ∧ m ≤ 12 ∧ 1 ≤ n ∧ n ≤ 12 then (if σ 37 17 = 0 then Q (some (.inl (-3))) σ else (sumF (σ 57) (σ 37 17).toNat = 0 → Q (some (.inl 0)) σ) ∧ (sumF (σ 57) (σ 37 17).toNat ≠ 0 → ∀ g h, Q (some (.inl (findF (fun s : Nat => decide (ladI (σ 37 17) (gM σ) (σ 57) n.toNat s < σ 57 s * 2 ^ m.toNat)) (σ 37 17).toNat))) (updR (updR σ 59 g) 60 h))) else Q (some (.inl (-2))) σ
theorem e_M_judge (m : Int) (n : Int) (σ : St) (Q : Option AV → St → Prop) : s_M_judge [.inr (.inr (some 37)), .inl m, .inl n] σ Q = ((0 ≤ σ 37 17 ∧ σ 37 17 ≤ 100) ∧ (Wire (σ 37 17) (gM σ)) ∧ (AllB (σ 57) (σ 37 17) 1000000) ∧ (rI m) ∧ (rI n) ∧ if 0 ≤ m ∧ m ≤ 12 ∧ 1 ≤ n ∧ n ≤ 12 then (if σ 37 17 = 0 then Q (some (.inl (-3))) σ else (sumF (σ 57) (σ 37 17).toNat = 0 → Q (some (.inl 0)) σ) ∧ (sumF (σ 57) (σ 37 17).toNat ≠ 0 → ∀ g h, Q (some (.inl (findF (fun s : Nat => decide (ladI (σ 37 17) (gM σ) (σ 57) n.toNat s < σ 57 s * 2 ^ m.toNat)) (σ 37 17).toNat))) (updR (updR σ 59 g) 60 h))) else Q (some (.inl (-2))) σ) := by
  show ([] = [] ∧ _) = _
  simp only [true_and]
set_option maxHeartbeats 4000000 in
set_option maxRecDepth 20000 in
theorem S_M_judge {l : Launch} : Sat l y_M_judge b_M_judge 4 (some .int) 2 s_M_judge := by
  refine sat_of (Φ := P_M) (κ := Q_M) (Γ := [(108, 0, 3, s_M_in), (221, 10, 0, s_M_allWeights), (224, 10, 2, s_M_weighed)]) (rt := 1) (by decide +kernel) P_M_ok Q_M_ok (by
    refine List.forall_mem_cons.mpr ⟨?_, List.forall_mem_cons.mpr ⟨?_, List.forall_mem_cons.mpr ⟨?_, fun _ h => absurd h List.not_mem_nil⟩⟩⟩
    · exact m_M_in S_M_in (by decide) l_M_108
    · exact m_M_allWeights S_M_allWeights (by decide) l_M_221
    · exact m_M_weighed S_M_weighed (by decide) l_M_224) (by simp) o_M_judge ?_
  intro as σ Q hh0
  obtain ⟨c0, rr0, rfl, hh1⟩ := popR_inv hh0
  obtain ⟨m, rr1, rfl, hh2⟩ := popI_inv hh1
  obtain ⟨n, rr2, rfl, hh3⟩ := popI_inv hh2
  obtain ⟨hrE, rfl, hN, hf, hw, hrm, hrn, hQ⟩ := hh3
  subst hrE
  clear hh0 hh1 hh2
  refine ⟨Nat.le_of_ble_eq_true rfl, [(48, mkC (fun L st u => ∃ (s : Int) (g h : Nat → Int), L = [.inr (.inr (some 37)), .inl m, .inl n, .inl s] ∧ st = [] ∧ (0 ≤ m ∧ m ≤ 12 ∧ 1 ≤ n ∧ n ≤ 12) ∧ (¬ σ 37 17 = 0) ∧ (¬ sumF (σ 57) (σ 37 17).toNat = 0) ∧ (0 ≤ s ∧ s ≤ σ 37 17) ∧ (findF (fun s : Nat => decide (ladI (σ 37 17) (gM σ) (σ 57) n.toNat s < σ 57 s * 2 ^ m.toNat)) s.toNat = -1) ∧ (u = updR (updR σ 59 g) 60 h)) (fun L st u => ((101 - gI L 3).toNat, 0, 0)))], 14, ?_, cuts1 ?_ (cuts0)⟩
  · rw [show entL 4 [.inr (.inr (some 37)), .inl m, .inl n] = [.inr (.inr (some 37)), .inl m, .inl n, .inr (.inr none)] from rfl]
    simp only [↓wpN_go, jmp_e, ↓wp_aload_n0, ↓wp_bipush, ↓wp_getfield, ↓wp_goto, ↓wp_i2l, ↓wp_iaload, ↓wp_icmp_ge, ↓wp_iconst, ↓wp_if_eq, ↓wp_if_ge, ↓wp_if_ne, ↓wp_iinc, ↓wp_iload_n1, ↓wp_iload_n2, ↓wp_iload_n3, ↓wp_invokestatic, ↓wp_invokevirtual, ↓wp_ireturn1, ↓wp_istore_n3, ↓wp_lcmp, ↓wp_lconst0, ↓wp_lconst1, ↓wp_ldc2_w, ↓wp_lshl, wp_nil, ↓ldI_0, ↓ldI_s, ↓ldL_0, ↓ldL_s, ↓ldR_0, ↓ldR_s, sto1_0, sto1_1, sto1_s, sto2_0, sto2_1, sto2_s, isLong_i, isLong_l, isLong_r, ↓popI_c, ↓popL_c, ↓popR_c, ↓popN_0, ↓popN_s, catS_n, catS_c, psh_s, psh_n, fldV_n, fldV_s, ↓tgt_e, sw_n, ↓sw_c, ↓lk1_h, ↓lk1_m, ↓atC_h, ↓atC_m, ↓atC_n, ltO_n, ltO_s, updR_eq, updR_ne, gI_0i, gI_0l, gI_s, ltM_iff, List.cons.injEq, Sum.inl.injEq, Sum.inr.injEq, Option.some.injEq, exists_eq_left, exists_eq_left', exists_eq_right, exists_eq_right', exists_and_left, exists_and_right, exists_eq, exists_const, and_assoc, ↓j_M_judge_0, ↓j_M_judge_24, ↓j_M_judge_27, ↓j_M_judge_37, ↓j_M_judge_46, ↓j_M_judge_48, ↓j_M_judge_77, ↓j_M_judge_83, ↓c_M_100209, ↓f_M_160, ↓f_M_75, List.length_cons, List.length_nil, Nat.zero_add, Nat.reduceAdd, Int.reduceAdd, Int.reduceNeg, Int.reduceToNat, Int.reduceLE, Int.reduceLT, true_and, and_true, Nat.reduceLT, reduceIte, Nat.reduceEqDiff, ne_eq, not_false_eq_true, false_implies, true_implies, Bool.false_eq_true, reduceCtorEq, List.cons_append, List.nil_append, Nat.reduceSub, Nat.reduceLeDiff, Fin.isValue, Int.reduceNatCast', Int.zero_add, Int.add_zero, decide_true, decide_false, implies_true, forall_const, true_or, or_true, or_false, false_or, false_and, and_false, Int.toNat_natCast, ↓oF_37_0, ↓oF_37_1, ↓oF_37_2, ↓oF_37_3, ↓aF_38, ↓oF_37_4, ↓aF_39, ↓oF_37_5, ↓oF_37_6, ↓aF_40, ↓oF_37_7, ↓oF_37_8, ↓aF_41, ↓oF_37_9, ↓aF_42, ↓oF_37_10, ↓aF_43, ↓oF_37_11, ↓aF_44, ↓oF_37_12, ↓aF_45, ↓oF_37_13, ↓aF_46, ↓oF_37_14, ↓aF_47, ↓oF_37_15, ↓aF_48, ↓oF_37_16, ↓aF_49, ↓oF_37_17, ↓oF_37_18, ↓aF_50, ↓oF_37_19, ↓aF_51, ↓oF_37_20, ↓aF_52, ↓oF_37_21, ↓aF_53, ↓oF_37_22, ↓aF_54, ↓oF_37_23, ↓aF_55, ↓oF_37_24, ↓aF_56, ↓oF_37_25, ↓aF_57, ↓oF_37_26, ↓oF_37_27, ↓oF_37_28, ↓aF_58, ↓oF_37_29, ↓aF_59, ↓oF_37_30, ↓aF_60, ↓oF_37_31, ↓aF_61, ↓oF_37_32, ↓oF_37_33, ↓oF_37_34, ↓oF_37_35, ↓aF_62, ↓oF_37_36, ↓oF_37_37, ↓aF_63, ↓oF_37_38, ↓oF_37_39, ↓aF_64, ↓oF_37_40, ↓aF_65, ↓oF_37_41, ↓aF_66, oC_0, oC_1, oC_4, oC_11, oC_16, oC_18, oC_20, oC_23, oC_25, oC_26, oC_29, oC_31, oC_33, oC_35, oC_37, isT_29, isT_31, isT_33, isT_35, isL_16, isL_18, isL_26, b2i_0, b2i_1, b2i_01, b2i_r, cmpZ_r, cmpZ_lt, cmpZ_le, cmpZ_gt, cmpZ_ge, gM_upd, ↓e_M_in, ↓e_M_allWeights, ↓e_M_weighed]
    have q1 : ¬ (0 ≤ m ∧ m ≤ 12 ∧ 1 ≤ n ∧ n ≤ 12) → Q (some (.inl (-2))) σ := fun h => by rw [if_neg h] at hQ; exact hQ
    have q2 : (0 ≤ m ∧ m ≤ 12 ∧ 1 ≤ n ∧ n ≤ 12) → σ 37 17 = 0 → Q (some (.inl (-3))) σ := fun h h1 => by rw [if_pos h, if_pos h1] at hQ; exact hQ
    have q3 : (0 ≤ m ∧ m ≤ 12 ∧ 1 ≤ n ∧ n ≤ 12) → ¬ σ 37 17 = 0 → sumF (σ 57) (σ 37 17).toNat = 0 → Q (some (.inl 0)) σ := fun h h1 h2 => by rw [if_pos h, if_neg h1] at hQ; exact hQ.1 h2
    have hsb := sumF_bound (w := σ 57) (B := 1000000) (n := (σ 37 17).toNat) (fun s hs1 => hw s (by omega))
    have hsb2 : ((σ 37 17).toNat : Int) * 1000000 ≤ 100 * 1000000 := Int.mul_le_mul_of_nonneg_right (by omega) (by omega)
    have hx0 : findF (fun s : Nat => decide (ladI (σ 37 17) (gM σ) (σ 57) n.toNat s < σ 57 s * 2 ^ m.toNat)) 0 = -1 := rfl
    clear hQ
    generalize sumF (σ 57) (σ 37 17).toNat = sm at *
    (try simp only [rI_iff, rL_iff] at *)
    repeat' (with_reducible (first | assumption | apply And.intro | intro _))
    all_goals first | omega | with_reducible assumption | exact True.intro | skip
    all_goals first
      | exact q1 (by omega)
      | exact q2 (by omega) (by omega)
      | exact q3 (by omega) (by omega) (by omega)
      | exact ⟨σ 59, σ 60, by rw [updR_self, updR_self]⟩
      | omega
      | trace_state
  · intro L st u hI
    obtain ⟨s, g, h, rfl, rfl, hm, hz, hsm, hs, hx, hu⟩ := hI
    simp only [↓wpN_go, jmp_e, ↓wp_aload_n0, ↓wp_bipush, ↓wp_getfield, ↓wp_goto, ↓wp_i2l, ↓wp_iaload, ↓wp_icmp_ge, ↓wp_iconst, ↓wp_if_eq, ↓wp_if_ge, ↓wp_if_ne, ↓wp_iinc, ↓wp_iload_n1, ↓wp_iload_n2, ↓wp_iload_n3, ↓wp_invokestatic, ↓wp_invokevirtual, ↓wp_ireturn1, ↓wp_istore_n3, ↓wp_lcmp, ↓wp_lconst0, ↓wp_lconst1, ↓wp_ldc2_w, ↓wp_lshl, wp_nil, ↓ldI_0, ↓ldI_s, ↓ldL_0, ↓ldL_s, ↓ldR_0, ↓ldR_s, sto1_0, sto1_1, sto1_s, sto2_0, sto2_1, sto2_s, isLong_i, isLong_l, isLong_r, ↓popI_c, ↓popL_c, ↓popR_c, ↓popN_0, ↓popN_s, catS_n, catS_c, psh_s, psh_n, fldV_n, fldV_s, ↓tgt_e, sw_n, ↓sw_c, ↓lk1_h, ↓lk1_m, ↓atC_h, ↓atC_m, ↓atC_n, ltO_n, ltO_s, updR_eq, updR_ne, gI_0i, gI_0l, gI_s, ltM_iff, List.cons.injEq, Sum.inl.injEq, Sum.inr.injEq, Option.some.injEq, exists_eq_left, exists_eq_left', exists_eq_right, exists_eq_right', exists_and_left, exists_and_right, exists_eq, exists_const, and_assoc, ↓j_M_judge_0, ↓j_M_judge_24, ↓j_M_judge_27, ↓j_M_judge_37, ↓j_M_judge_46, ↓j_M_judge_48, ↓j_M_judge_77, ↓j_M_judge_83, ↓c_M_100209, ↓f_M_160, ↓f_M_75, List.length_cons, List.length_nil, Nat.zero_add, Nat.reduceAdd, Int.reduceAdd, Int.reduceNeg, Int.reduceToNat, Int.reduceLE, Int.reduceLT, true_and, and_true, Nat.reduceLT, reduceIte, Nat.reduceEqDiff, ne_eq, not_false_eq_true, false_implies, true_implies, Bool.false_eq_true, reduceCtorEq, List.cons_append, List.nil_append, Nat.reduceSub, Nat.reduceLeDiff, Fin.isValue, Int.reduceNatCast', Int.zero_add, Int.add_zero, decide_true, decide_false, implies_true, forall_const, true_or, or_true, or_false, false_or, false_and, and_false, Int.toNat_natCast, ↓oF_37_0, ↓oF_37_1, ↓oF_37_2, ↓oF_37_3, ↓aF_38, ↓oF_37_4, ↓aF_39, ↓oF_37_5, ↓oF_37_6, ↓aF_40, ↓oF_37_7, ↓oF_37_8, ↓aF_41, ↓oF_37_9, ↓aF_42, ↓oF_37_10, ↓aF_43, ↓oF_37_11, ↓aF_44, ↓oF_37_12, ↓aF_45, ↓oF_37_13, ↓aF_46, ↓oF_37_14, ↓aF_47, ↓oF_37_15, ↓aF_48, ↓oF_37_16, ↓aF_49, ↓oF_37_17, ↓oF_37_18, ↓aF_50, ↓oF_37_19, ↓aF_51, ↓oF_37_20, ↓aF_52, ↓oF_37_21, ↓aF_53, ↓oF_37_22, ↓aF_54, ↓oF_37_23, ↓aF_55, ↓oF_37_24, ↓aF_56, ↓oF_37_25, ↓aF_57, ↓oF_37_26, ↓oF_37_27, ↓oF_37_28, ↓aF_58, ↓oF_37_29, ↓aF_59, ↓oF_37_30, ↓aF_60, ↓oF_37_31, ↓aF_61, ↓oF_37_32, ↓oF_37_33, ↓oF_37_34, ↓oF_37_35, ↓aF_62, ↓oF_37_36, ↓oF_37_37, ↓aF_63, ↓oF_37_38, ↓oF_37_39, ↓aF_64, ↓oF_37_40, ↓aF_65, ↓oF_37_41, ↓aF_66, oC_0, oC_1, oC_4, oC_11, oC_16, oC_18, oC_20, oC_23, oC_25, oC_26, oC_29, oC_31, oC_33, oC_35, oC_37, isT_29, isT_31, isT_33, isT_35, isL_16, isL_18, isL_26, b2i_0, b2i_1, b2i_01, b2i_r, cmpZ_r, cmpZ_lt, cmpZ_le, cmpZ_gt, cmpZ_ge, gM_upd, ↓e_M_in, ↓e_M_allWeights, ↓e_M_weighed]
    subst hu
    have e37 : updR (updR σ 59 g) 60 h 37 = σ 37 := by rw [updR_ne _ 60 37 _ (by decide), updR_ne _ 59 37 _ (by decide)]
    have e50 : updR (updR σ 59 g) 60 h 50 = σ 50 := by rw [updR_ne _ 60 50 _ (by decide), updR_ne _ 59 50 _ (by decide)]
    have e51 : updR (updR σ 59 g) 60 h 51 = σ 51 := by rw [updR_ne _ 60 51 _ (by decide), updR_ne _ 59 51 _ (by decide)]
    have e57 : updR (updR σ 59 g) 60 h 57 = σ 57 := by rw [updR_ne _ 60 57 _ (by decide), updR_ne _ 59 57 _ (by decide)]
    have e59 : updR (updR σ 59 g) 60 h 59 = g := by rw [updR_ne _ 60 59 _ (by decide), updR_eq]
    have e60 : updR (updR σ 59 g) 60 h 60 = h := updR_eq _ _ _
    have egM : gM (updR (updR σ 59 g) 60 h) = gM σ := by rw [gM_upd _ _ _ (by decide) (by decide), gM_upd _ _ _ (by decide) (by decide)]
    have et59 : ∀ k, updR (updR (updR σ 59 g) 60 h) 59 k = updR (updR σ 59 k) 60 h := fun k => by rw [updR_swap _ 60 59 _ _ (by decide), updR_twice]
    have et60 : ∀ k, updR (updR (updR σ 59 g) 60 h) 60 k = updR (updR σ 59 g) 60 k := fun k => updR_twice _ _ _ _
    simp only [e37, e57, egM]
    rw [if_pos hm, if_neg hz] at hQ
    have hQ := hQ.2 hsm
    have e1 : (s + 1).toNat = s.toNat + 1 := by omega
    have hw1 := hw s.toNat
    have hl := lad_1e6 (s := s) (f := gM σ) (n := n) (by omega) hw
    have hp := p2_le60 (n := m) (by omega)
    have hp12 := p2_le (show m.toNat ≤ 12 by omega)
    have e12 : (2 : Int) ^ 12 = 4096 := by decide
    have hwp : s < σ 37 17 → 0 ≤ σ 57 s.toNat * 2 ^ m.toNat ∧ σ 57 s.toNat * 2 ^ m.toNat ≤ 1000000 * 4096 := fun q => by
      have := hw1 (by omega)
      exact ⟨Int.mul_nonneg this.1 (by omega), Int.mul_le_mul this.2 (by omega) (by omega) (by omega)⟩
    have hpj : s < σ 37 17 → (fun s : Nat => decide (ladI (σ 37 17) (gM σ) (σ 57) n.toNat s < σ 57 s * 2 ^ m.toNat)) s.toNat = decide (ladI (σ 37 17) (gM σ) (σ 57) n.toNat s < σ 57 s.toNat * 2 ^ m.toNat) := fun q => by
      show decide (ladI (σ 37 17) (gM σ) (σ 57) n.toNat ((s.toNat : Nat) : Int) < σ 57 s.toNat * 2 ^ m.toNat) = _
      rw [Int.toNat_of_nonneg hs.1]
    have q1 : σ 37 17 ≤ s → ∀ g h, Q (some (.inl (-1))) (updR (updR σ 59 g) 60 h) := fun q g h => by
      have := hQ g h
      rw [show (σ 37 17).toNat = s.toNat by omega, hx] at this
      exact this
    have q2 : s < σ 37 17 → ladI (σ 37 17) (gM σ) (σ 57) n.toNat s < σ 57 s.toNat * 2 ^ m.toNat → ∀ g h, Q (some (.inl s)) (updR (updR σ 59 g) 60 h) := fun q q2 g h => by
      have h1 := findF_end hx (show s.toNat < (σ 37 17).toNat by omega) (by rw [Int.toNat_of_nonneg hs.1]; exact decide_eq_true q2)
      have := hQ g h
      rw [h1, Int.toNat_of_nonneg hs.1] at this
      exact this
    have q3 : s < σ 37 17 → σ 57 s.toNat * 2 ^ m.toNat ≤ ladI (σ 37 17) (gM σ) (σ 57) n.toNat s → findF (fun s : Nat => decide (ladI (σ 37 17) (gM σ) (σ 57) n.toNat s < σ 57 s * 2 ^ m.toNat)) (s.toNat + 1) = -1 := fun q q2 => by
      rw [findF_s hx, Int.toNat_of_nonneg hs.1, decide_eq_false (by omega)]
      rfl
    have et59 : ∀ k m : Nat → Int, updR (updR (updR (updR σ 59 g) 60 h) 59 k) 60 m = updR (updR σ 59 k) 60 m := fun k m => by rw [updR_swap _ 60 59 _ _ (by decide), updR_twice, updR_twice]
    have r57 : ∀ k m : Nat → Int, updR (updR σ 59 k) 60 m 57 = σ 57 := fun k m => by rw [updR_ne _ 60 57 _ (by decide), updR_ne _ 59 57 _ (by decide)]
    simp only [et59, r57]
    clear hQ
    generalize ladI (σ 37 17) (gM σ) (σ 57) n.toNat s = lz at *
    generalize hwz : σ 57 s.toNat * 2 ^ m.toNat = wz at *
    (try simp only [rI_iff, rL_iff] at *)
    repeat' (with_reducible (first | assumption | apply And.intro | intro _))
    all_goals first | omega | with_reducible assumption | exact True.intro | skip
    all_goals first
      | omega
      | exact q1 (by omega) _ _
      | exact q2 (by omega) (by omega) _ _
      | exact ⟨hz, hsm, by rw [e1]; exact q3 (by omega) (by omega), _, _, rfl⟩
      | exact ⟨by rw [e1]; exact q3 (by omega) (by omega), _, _, rfl⟩
      | (rw [e1]; exact q3 (by omega) (by omega))
      | exact ⟨_, _, rfl⟩
      | trace_state
