/-! the reference: digest, writing -/
theorem addF_s {f : Nat → Int} {row sz n c : Int} (hc : 0 ≤ c) (h0 : 0 ≤ sz) (h : sz + c < 600) : addF f row sz n (c + 1) = up1 (addF f row sz n c) (sz + c).toNat (bitZ row (n - 1 - c).toNat) := by
  funext j
  rw [up1_app, addF_app, addF_app]
  by_cases e : j = (sz + c).toNat
  · rw [if_pos e, if_pos (by omega)]
    rw [show (n - 1 - ((j : Int) - sz)).toNat = (n - 1 - c).toNat by omega]
  · rw [if_neg e]
    by_cases e2 : sz ≤ j ∧ (j : Int) < sz + c ∧ j < 600
    · rw [if_pos e2, if_pos (by omega)]
    · rw [if_neg e2, if_neg (by omega)]
theorem addF_out {f : Nat → Int} {row sz n c : Int} (h : 600 ≤ sz + c) : addF f row sz n (c + 1) = addF f row sz n c := by
  funext j
  rw [addF_app, addF_app]
  by_cases e2 : sz ≤ j ∧ (j : Int) < sz + c ∧ j < 600
  · rw [if_pos e2, if_pos (by omega)]
  · rw [if_neg e2, if_neg (by omega)]
theorem addF_0 {f : Nat → Int} {row sz n : Int} : addF f row sz n 0 = f := by
  funext j
  rw [addF_app, if_neg (by omega)]
theorem partF_s {f : Nat → Int} {sz b : Int} {n : Nat} (h : b + n < sz → f (b + n).toNat = 0 ∨ f (b + n).toNat = 1) : partF f sz b (n + 1) = 2 * partF f sz b n + (if b + n < sz then f (b + n).toNat else 0) := by
  rw [partF]
  by_cases e : b + n < sz
  · rw [if_pos e]
    rcases h e with h | h
    · rw [h, if_neg (by omega)]
    · rw [h, if_pos ⟨e, rfl⟩]
  · rw [if_neg e, if_neg (fun q => e q.1)]
def s_M_digest : Spec := fun as σ Q => popR as fun c0 r0 => r0 = [] ∧ c0 = 37 ∧ (0 ≤ σ 37 17 ∧ σ 37 17 ≤ 100) ∧ (Wire (σ 37 17) (gM σ)) ∧ (0 ≤ σ 37 36 ∧ σ 37 36 ≤ 240) ∧ (0 ≤ σ 37 38 ∧ σ 37 38 ≤ 600) ∧ (∀ t : Nat, (t : Int) < σ 37 36 → σ 63 t = 0 ∨ σ 63 t = 1) ∧ (∀ t : Nat, (t : Int) < σ 37 38 → σ 64 t = 0 ∨ σ 64 t = 1) ∧ (isBits (σ 62)) ∧ (σ 37 32 ≠ 0 → ∃ s : Nat, s < 100 ∧ σ 62 s = 1) ∧ (rI (σ 37 32)) ∧ (AllB (σ 57) (σ 37 17) 1000000) ∧ (∀ w : Nat, w < 8 → rI (cntM σ w)) ∧ Q (some (.inr (.inl (digF (σ 64) (digF (σ 63) (dgS (gM σ) (σ 57) (digF (fun i => cntM σ i) 17 8) (σ 37 17).toNat) (σ 37 36).toNat) (σ 37 38).toNat)))) σ
theorem e_M_digest  (σ : St) (Q : Option AV → St → Prop) : s_M_digest [.inr (.inr (some 37))] σ Q = ((0 ≤ σ 37 17 ∧ σ 37 17 ≤ 100) ∧ (Wire (σ 37 17) (gM σ)) ∧ (0 ≤ σ 37 36 ∧ σ 37 36 ≤ 240) ∧ (0 ≤ σ 37 38 ∧ σ 37 38 ≤ 600) ∧ (∀ t : Nat, (t : Int) < σ 37 36 → σ 63 t = 0 ∨ σ 63 t = 1) ∧ (∀ t : Nat, (t : Int) < σ 37 38 → σ 64 t = 0 ∨ σ 64 t = 1) ∧ (isBits (σ 62)) ∧ (σ 37 32 ≠ 0 → ∃ s : Nat, s < 100 ∧ σ 62 s = 1) ∧ (rI (σ 37 32)) ∧ (AllB (σ 57) (σ 37 17) 1000000) ∧ (∀ w : Nat, w < 8 → rI (cntM σ w)) ∧ Q (some (.inr (.inl (digF (σ 64) (digF (σ 63) (dgS (gM σ) (σ 57) (digF (fun i => cntM σ i) 17 8) (σ 37 17).toNat) (σ 37 36).toNat) (σ 37 38).toNat)))) σ) := by
  show ([] = [] ∧ _) = _
  simp only [true_and]
set_option maxHeartbeats 4000000 in
set_option maxRecDepth 20000 in
theorem S_M_digest {l : Launch} : Sat l y_M_digest b_M_digest 4 (some .long) 2 s_M_digest := by
  refine sat_of (Φ := P_M) (κ := Q_M) (Γ := [(268, 10, 1, s_M_count1)]) (rt := 2) (by decide +kernel) P_M_ok Q_M_ok (by
    refine List.forall_mem_cons.mpr ⟨?_, fun _ h => absurd h List.not_mem_nil⟩
    · exact m_M_count1 S_M_count1 (by decide) l_M_268) (by simp) o_M_digest ?_
  intro as σ Q hh0
  obtain ⟨c0, rr0, rfl, hh1⟩ := popR_inv hh0
  obtain ⟨hrE, rfl, hN, hf, h36, h38, hbm, hbp, hb, hxh, hrz, hw, hc, hQ⟩ := hh1
  subst hrE
  clear hh0
  refine ⟨Nat.le_of_ble_eq_true rfl, [(6, mkC (fun L st u => ∃ (i : Int), L = [.inr (.inr (some 37)), .inr (.inl ((digF (fun i => cntM σ i) 17 i.toNat))), .inr (.inr none), .inl i] ∧ st = [] ∧ (0 ≤ i ∧ i ≤ 8) ∧ (u = σ)) (fun L st u => (4, (8 - gI L 3).toNat, 0))),
    (33, mkC (fun L st u => ∃ (i : Int), L = [.inr (.inr (some 37)), .inr (.inl ((dgS (gM σ) (σ 57) (digF (fun i => cntM σ i) 17 8) i.toNat))), .inr (.inr none), .inl i] ∧ st = [] ∧ (0 ≤ i ∧ i ≤ σ 37 17) ∧ (u = σ)) (fun L st u => (3, (100 - gI L 3).toNat, 0))),
    (91, mkC (fun L st u => ∃ (i : Int), L = [.inr (.inr (some 37)), .inr (.inl ((digF (σ 63) (dgS (gM σ) (σ 57) (digF (fun i => cntM σ i) 17 8) (σ 37 17).toNat) i.toNat))), .inr (.inr none), .inl i] ∧ st = [] ∧ (0 ≤ i ∧ i ≤ σ 37 36) ∧ (u = σ)) (fun L st u => (2, (600 - gI L 3).toNat, 0))),
    (121, mkC (fun L st u => ∃ (i : Int), L = [.inr (.inr (some 37)), .inr (.inl ((digF (σ 64) (digF (σ 63) (dgS (gM σ) (σ 57) (digF (fun i => cntM σ i) 17 8) (σ 37 17).toNat) (σ 37 36).toNat) i.toNat))), .inr (.inr none), .inl i] ∧ st = [] ∧ (0 ≤ i ∧ i ≤ σ 37 38) ∧ (u = σ)) (fun L st u => (1, (600 - gI L 3).toNat, 0)))], 14, ?_, cuts1 ?_ (cuts1 ?_ (cuts1 ?_ (cuts1 ?_ (cuts0))))⟩
  · rw [show entL 4 [.inr (.inr (some 37))] = [.inr (.inr (some 37)), .inr (.inr none), .inr (.inr none), .inr (.inr none)] from rfl]
    simp only [↓wpN_go, jmp_e, ↓wp_aload_n0, ↓wp_bipush, ↓wp_getfield, ↓wp_goto, ↓wp_i2l, ↓wp_iaload, ↓wp_icmp_ge, ↓wp_iconst, ↓wp_iinc, ↓wp_iload_n3, ↓wp_invokevirtual, ↓wp_istore_n3, ↓wp_ladd, ↓wp_ldc2_w, ↓wp_lload_n1, ↓wp_lmul, ↓wp_lreturn2, ↓wp_lstore_n1, wp_nil, ↓ldI_0, ↓ldI_s, ↓ldL_0, ↓ldL_s, ↓ldR_0, ↓ldR_s, sto1_0, sto1_1, sto1_s, sto2_0, sto2_1, sto2_s, isLong_i, isLong_l, isLong_r, ↓popI_c, ↓popL_c, ↓popR_c, ↓popN_0, ↓popN_s, catS_n, catS_c, psh_s, psh_n, fldV_n, fldV_s, ↓tgt_e, sw_n, ↓sw_c, ↓lk1_h, ↓lk1_m, ↓atC_h, ↓atC_m, ↓atC_n, ltO_n, ltO_s, updR_eq, updR_ne, gI_0i, gI_0l, gI_s, ltM_iff, List.cons.injEq, Sum.inl.injEq, Sum.inr.injEq, Option.some.injEq, exists_eq_left, exists_eq_left', exists_eq_right, exists_eq_right', exists_and_left, exists_and_right, exists_eq, exists_const, and_assoc, ↓j_M_digest_0, ↓j_M_digest_6, ↓j_M_digest_31, ↓j_M_digest_33, ↓j_M_digest_89, ↓j_M_digest_91, ↓j_M_digest_119, ↓j_M_digest_121, ↓j_M_digest_149, ↓c_M_100264, ↓c_M_100266, ↓f_M_160, ↓f_M_250, ↓f_M_259, ↓f_M_54, ↓f_M_57, ↓f_M_75, ↓f_M_94, ↓f_M_97, List.length_cons, List.length_nil, Nat.zero_add, Nat.reduceAdd, Int.reduceAdd, Int.reduceNeg, Int.reduceToNat, Int.reduceLE, Int.reduceLT, true_and, and_true, Nat.reduceLT, reduceIte, Nat.reduceEqDiff, ne_eq, not_false_eq_true, false_implies, true_implies, Bool.false_eq_true, reduceCtorEq, List.cons_append, List.nil_append, Nat.reduceSub, Nat.reduceLeDiff, Fin.isValue, Int.reduceNatCast', Int.zero_add, Int.add_zero, decide_true, decide_false, implies_true, forall_const, true_or, or_true, or_false, false_or, false_and, and_false, Int.toNat_natCast, ↓oF_37_0, ↓oF_37_1, ↓oF_37_2, ↓oF_37_3, ↓aF_38, ↓oF_37_4, ↓aF_39, ↓oF_37_5, ↓oF_37_6, ↓aF_40, ↓oF_37_7, ↓oF_37_8, ↓aF_41, ↓oF_37_9, ↓aF_42, ↓oF_37_10, ↓aF_43, ↓oF_37_11, ↓aF_44, ↓oF_37_12, ↓aF_45, ↓oF_37_13, ↓aF_46, ↓oF_37_14, ↓aF_47, ↓oF_37_15, ↓aF_48, ↓oF_37_16, ↓aF_49, ↓oF_37_17, ↓oF_37_18, ↓aF_50, ↓oF_37_19, ↓aF_51, ↓oF_37_20, ↓aF_52, ↓oF_37_21, ↓aF_53, ↓oF_37_22, ↓aF_54, ↓oF_37_23, ↓aF_55, ↓oF_37_24, ↓aF_56, ↓oF_37_25, ↓aF_57, ↓oF_37_26, ↓oF_37_27, ↓oF_37_28, ↓aF_58, ↓oF_37_29, ↓aF_59, ↓oF_37_30, ↓aF_60, ↓oF_37_31, ↓aF_61, ↓oF_37_32, ↓oF_37_33, ↓oF_37_34, ↓oF_37_35, ↓aF_62, ↓oF_37_36, ↓oF_37_37, ↓aF_63, ↓oF_37_38, ↓oF_37_39, ↓aF_64, ↓oF_37_40, ↓aF_65, ↓oF_37_41, ↓aF_66, oC_0, oC_1, oC_4, oC_11, oC_16, oC_18, oC_20, oC_23, oC_25, oC_26, oC_29, oC_31, oC_33, oC_35, oC_37, isT_29, isT_31, isT_33, isT_35, isL_16, isL_18, isL_26, b2i_0, b2i_1, b2i_01, b2i_r, ↓e_M_count1]
    (try simp only [rI_iff, rL_iff] at *)
    repeat' (with_reducible (first | assumption | apply And.intro | intro _))
    all_goals first | omega | with_reducible assumption | exact True.intro | skip
    all_goals exact ⟨0, rfl, rfl, by omega, by omega⟩
  · intro L st u hI
    obtain ⟨i, rfl, rfl, hi, hu⟩ := hI
    simp only [↓wpN_go, jmp_e, ↓wp_aload_n0, ↓wp_bipush, ↓wp_getfield, ↓wp_goto, ↓wp_i2l, ↓wp_iaload, ↓wp_icmp_ge, ↓wp_iconst, ↓wp_iinc, ↓wp_iload_n3, ↓wp_invokevirtual, ↓wp_istore_n3, ↓wp_ladd, ↓wp_ldc2_w, ↓wp_lload_n1, ↓wp_lmul, ↓wp_lreturn2, ↓wp_lstore_n1, wp_nil, ↓ldI_0, ↓ldI_s, ↓ldL_0, ↓ldL_s, ↓ldR_0, ↓ldR_s, sto1_0, sto1_1, sto1_s, sto2_0, sto2_1, sto2_s, isLong_i, isLong_l, isLong_r, ↓popI_c, ↓popL_c, ↓popR_c, ↓popN_0, ↓popN_s, catS_n, catS_c, psh_s, psh_n, fldV_n, fldV_s, ↓tgt_e, sw_n, ↓sw_c, ↓lk1_h, ↓lk1_m, ↓atC_h, ↓atC_m, ↓atC_n, ltO_n, ltO_s, updR_eq, updR_ne, gI_0i, gI_0l, gI_s, ltM_iff, List.cons.injEq, Sum.inl.injEq, Sum.inr.injEq, Option.some.injEq, exists_eq_left, exists_eq_left', exists_eq_right, exists_eq_right', exists_and_left, exists_and_right, exists_eq, exists_const, and_assoc, ↓j_M_digest_0, ↓j_M_digest_6, ↓j_M_digest_31, ↓j_M_digest_33, ↓j_M_digest_89, ↓j_M_digest_91, ↓j_M_digest_119, ↓j_M_digest_121, ↓j_M_digest_149, ↓c_M_100264, ↓c_M_100266, ↓f_M_160, ↓f_M_250, ↓f_M_259, ↓f_M_54, ↓f_M_57, ↓f_M_75, ↓f_M_94, ↓f_M_97, List.length_cons, List.length_nil, Nat.zero_add, Nat.reduceAdd, Int.reduceAdd, Int.reduceNeg, Int.reduceToNat, Int.reduceLE, Int.reduceLT, true_and, and_true, Nat.reduceLT, reduceIte, Nat.reduceEqDiff, ne_eq, not_false_eq_true, false_implies, true_implies, Bool.false_eq_true, reduceCtorEq, List.cons_append, List.nil_append, Nat.reduceSub, Nat.reduceLeDiff, Fin.isValue, Int.reduceNatCast', Int.zero_add, Int.add_zero, decide_true, decide_false, implies_true, forall_const, true_or, or_true, or_false, false_or, false_and, and_false, Int.toNat_natCast, ↓oF_37_0, ↓oF_37_1, ↓oF_37_2, ↓oF_37_3, ↓aF_38, ↓oF_37_4, ↓aF_39, ↓oF_37_5, ↓oF_37_6, ↓aF_40, ↓oF_37_7, ↓oF_37_8, ↓aF_41, ↓oF_37_9, ↓aF_42, ↓oF_37_10, ↓aF_43, ↓oF_37_11, ↓aF_44, ↓oF_37_12, ↓aF_45, ↓oF_37_13, ↓aF_46, ↓oF_37_14, ↓aF_47, ↓oF_37_15, ↓aF_48, ↓oF_37_16, ↓aF_49, ↓oF_37_17, ↓oF_37_18, ↓aF_50, ↓oF_37_19, ↓aF_51, ↓oF_37_20, ↓aF_52, ↓oF_37_21, ↓aF_53, ↓oF_37_22, ↓aF_54, ↓oF_37_23, ↓aF_55, ↓oF_37_24, ↓aF_56, ↓oF_37_25, ↓aF_57, ↓oF_37_26, ↓oF_37_27, ↓oF_37_28, ↓aF_58, ↓oF_37_29, ↓aF_59, ↓oF_37_30, ↓aF_60, ↓oF_37_31, ↓aF_61, ↓oF_37_32, ↓oF_37_33, ↓oF_37_34, ↓oF_37_35, ↓aF_62, ↓oF_37_36, ↓oF_37_37, ↓aF_63, ↓oF_37_38, ↓oF_37_39, ↓aF_64, ↓oF_37_40, ↓aF_65, ↓oF_37_41, ↓aF_66, oC_0, oC_1, oC_4, oC_11, oC_16, oC_18, oC_20, oC_23, oC_25, oC_26, oC_29, oC_31, oC_33, oC_35, oC_37, isT_29, isT_31, isT_33, isT_35, isL_16, isL_18, isL_26, b2i_0, b2i_1, b2i_01, b2i_r, ↓e_M_count1]
    subst hu
    have e1 : (i + 1).toNat = i.toNat + 1 := by omega
    have e2 : digF (fun i => cntM u i) 17 (i.toNat + 1) = 31 * digF (fun i => cntM u i) 17 i.toNat + cntM u i := by
      rw [digF]
      show 31 * digF (fun i => cntM u i) 17 i.toNat + cntM u (i.toNat : Int) = _
      rw [Int.toNat_of_nonneg hi.1]
    have hci : i < 8 → -2147483648 ≤ cntM u i ∧ cntM u i < 2147483648 := fun h => by
      have := hc i.toNat (by omega)
      rw [Int.toNat_of_nonneg hi.1] at this
      exact this
    have e3 : 8 ≤ i → digF (fun i => cntM u i) 17 i.toNat = digF (fun i => cntM u i) 17 8 := fun h => by rw [show i.toNat = 8 by omega]
    (try simp only [rI_iff, rL_iff] at *)
    repeat' (with_reducible (first | assumption | apply And.intro | intro _))
    all_goals first | omega | with_reducible assumption | exact True.intro | skip
    all_goals first
      | (have hs1 := hci (by omega); omega)
      | exact hxh (by assumption)
      | exact ⟨0, by rw [e3 (by omega)]; rfl, rfl, by omega, by omega, by first | rfl | trivial⟩
      | exact ⟨i + 1, by rw [e1, e2], rfl, by omega, by omega, by first | rfl | trivial⟩
      | trace_state
  · intro L st u hI
    obtain ⟨i, rfl, rfl, hi, hu⟩ := hI
    simp only [↓wpN_go, jmp_e, ↓wp_aload_n0, ↓wp_bipush, ↓wp_getfield, ↓wp_goto, ↓wp_i2l, ↓wp_iaload, ↓wp_icmp_ge, ↓wp_iconst, ↓wp_iinc, ↓wp_iload_n3, ↓wp_invokevirtual, ↓wp_istore_n3, ↓wp_ladd, ↓wp_ldc2_w, ↓wp_lload_n1, ↓wp_lmul, ↓wp_lreturn2, ↓wp_lstore_n1, wp_nil, ↓ldI_0, ↓ldI_s, ↓ldL_0, ↓ldL_s, ↓ldR_0, ↓ldR_s, sto1_0, sto1_1, sto1_s, sto2_0, sto2_1, sto2_s, isLong_i, isLong_l, isLong_r, ↓popI_c, ↓popL_c, ↓popR_c, ↓popN_0, ↓popN_s, catS_n, catS_c, psh_s, psh_n, fldV_n, fldV_s, ↓tgt_e, sw_n, ↓sw_c, ↓lk1_h, ↓lk1_m, ↓atC_h, ↓atC_m, ↓atC_n, ltO_n, ltO_s, updR_eq, updR_ne, gI_0i, gI_0l, gI_s, ltM_iff, List.cons.injEq, Sum.inl.injEq, Sum.inr.injEq, Option.some.injEq, exists_eq_left, exists_eq_left', exists_eq_right, exists_eq_right', exists_and_left, exists_and_right, exists_eq, exists_const, and_assoc, ↓j_M_digest_0, ↓j_M_digest_6, ↓j_M_digest_31, ↓j_M_digest_33, ↓j_M_digest_89, ↓j_M_digest_91, ↓j_M_digest_119, ↓j_M_digest_121, ↓j_M_digest_149, ↓c_M_100264, ↓c_M_100266, ↓f_M_160, ↓f_M_250, ↓f_M_259, ↓f_M_54, ↓f_M_57, ↓f_M_75, ↓f_M_94, ↓f_M_97, List.length_cons, List.length_nil, Nat.zero_add, Nat.reduceAdd, Int.reduceAdd, Int.reduceNeg, Int.reduceToNat, Int.reduceLE, Int.reduceLT, true_and, and_true, Nat.reduceLT, reduceIte, Nat.reduceEqDiff, ne_eq, not_false_eq_true, false_implies, true_implies, Bool.false_eq_true, reduceCtorEq, List.cons_append, List.nil_append, Nat.reduceSub, Nat.reduceLeDiff, Fin.isValue, Int.reduceNatCast', Int.zero_add, Int.add_zero, decide_true, decide_false, implies_true, forall_const, true_or, or_true, or_false, false_or, false_and, and_false, Int.toNat_natCast, ↓oF_37_0, ↓oF_37_1, ↓oF_37_2, ↓oF_37_3, ↓aF_38, ↓oF_37_4, ↓aF_39, ↓oF_37_5, ↓oF_37_6, ↓aF_40, ↓oF_37_7, ↓oF_37_8, ↓aF_41, ↓oF_37_9, ↓aF_42, ↓oF_37_10, ↓aF_43, ↓oF_37_11, ↓aF_44, ↓oF_37_12, ↓aF_45, ↓oF_37_13, ↓aF_46, ↓oF_37_14, ↓aF_47, ↓oF_37_15, ↓aF_48, ↓oF_37_16, ↓aF_49, ↓oF_37_17, ↓oF_37_18, ↓aF_50, ↓oF_37_19, ↓aF_51, ↓oF_37_20, ↓aF_52, ↓oF_37_21, ↓aF_53, ↓oF_37_22, ↓aF_54, ↓oF_37_23, ↓aF_55, ↓oF_37_24, ↓aF_56, ↓oF_37_25, ↓aF_57, ↓oF_37_26, ↓oF_37_27, ↓oF_37_28, ↓aF_58, ↓oF_37_29, ↓aF_59, ↓oF_37_30, ↓aF_60, ↓oF_37_31, ↓aF_61, ↓oF_37_32, ↓oF_37_33, ↓oF_37_34, ↓oF_37_35, ↓aF_62, ↓oF_37_36, ↓oF_37_37, ↓aF_63, ↓oF_37_38, ↓oF_37_39, ↓aF_64, ↓oF_37_40, ↓aF_65, ↓oF_37_41, ↓aF_66, oC_0, oC_1, oC_4, oC_11, oC_16, oC_18, oC_20, oC_23, oC_25, oC_26, oC_29, oC_31, oC_33, oC_35, oC_37, isT_29, isT_31, isT_33, isT_35, isL_16, isL_18, isL_26, b2i_0, b2i_1, b2i_01, b2i_r, ↓e_M_count1]
    subst hu
    have e1 : (i + 1).toNat = i.toNat + 1 := by omega
    have hw1 := hw i.toNat
    have f0 := fun h : i < u 37 17 => gM_r0 hf (show ((i.toNat : Nat) : Int) < u 37 17 by omega)
    have f1 := fun h : i < u 37 17 => gM_r1 hf (show ((i.toNat : Nat) : Int) < u 37 17 by omega)
    have e2 : ∀ h : Int, dgS (gM u) (u 57) h (i.toNat + 1) = 31 * (31 * (31 * dgS (gM u) (u 57) h i.toNat + u 50 i.toNat) + u 51 i.toNat) + u 57 i.toNat := fun h => by
      rw [dgS]
      have g0 : gM u (2 * i.toNat) = u 50 i.toNat := by
        unfold gM
        rw [if_pos (by omega)]
        congr 1
        omega
      have g1 : gM u (2 * i.toNat + 1) = u 51 i.toNat := by
        unfold gM
        rw [if_neg (by omega)]
        congr 1
        omega
      rw [g0, g1]
    by_cases hcc : i < u 37 17
    · have f0 := f0 hcc
      have f1 := f1 hcc
      (try simp only [rI_iff, rL_iff] at *)
      repeat' (with_reducible (first | assumption | apply And.intro | intro _))
      all_goals first | omega | with_reducible assumption | exact True.intro | skip
      all_goals first
        | omega
        | exact ⟨i + 1, by rw [e1, e2], rfl, by omega, by omega, by first | rfl | trivial⟩
        | trace_state
    · have e5 : (u 37 17).toNat = i.toNat := by omega
      (try simp only [rI_iff, rL_iff] at *)
      repeat' (with_reducible (first | assumption | apply And.intro | intro _))
      all_goals first | omega | with_reducible assumption | exact True.intro | skip
      all_goals first
        | omega
        | exact ⟨0, by rw [e5]; rfl, rfl, by omega, by omega, by first | rfl | trivial⟩
        | trace_state
  · intro L st u hI
    obtain ⟨i, rfl, rfl, hi, hu⟩ := hI
    simp only [↓wpN_go, jmp_e, ↓wp_aload_n0, ↓wp_bipush, ↓wp_getfield, ↓wp_goto, ↓wp_i2l, ↓wp_iaload, ↓wp_icmp_ge, ↓wp_iconst, ↓wp_iinc, ↓wp_iload_n3, ↓wp_invokevirtual, ↓wp_istore_n3, ↓wp_ladd, ↓wp_ldc2_w, ↓wp_lload_n1, ↓wp_lmul, ↓wp_lreturn2, ↓wp_lstore_n1, wp_nil, ↓ldI_0, ↓ldI_s, ↓ldL_0, ↓ldL_s, ↓ldR_0, ↓ldR_s, sto1_0, sto1_1, sto1_s, sto2_0, sto2_1, sto2_s, isLong_i, isLong_l, isLong_r, ↓popI_c, ↓popL_c, ↓popR_c, ↓popN_0, ↓popN_s, catS_n, catS_c, psh_s, psh_n, fldV_n, fldV_s, ↓tgt_e, sw_n, ↓sw_c, ↓lk1_h, ↓lk1_m, ↓atC_h, ↓atC_m, ↓atC_n, ltO_n, ltO_s, updR_eq, updR_ne, gI_0i, gI_0l, gI_s, ltM_iff, List.cons.injEq, Sum.inl.injEq, Sum.inr.injEq, Option.some.injEq, exists_eq_left, exists_eq_left', exists_eq_right, exists_eq_right', exists_and_left, exists_and_right, exists_eq, exists_const, and_assoc, ↓j_M_digest_0, ↓j_M_digest_6, ↓j_M_digest_31, ↓j_M_digest_33, ↓j_M_digest_89, ↓j_M_digest_91, ↓j_M_digest_119, ↓j_M_digest_121, ↓j_M_digest_149, ↓c_M_100264, ↓c_M_100266, ↓f_M_160, ↓f_M_250, ↓f_M_259, ↓f_M_54, ↓f_M_57, ↓f_M_75, ↓f_M_94, ↓f_M_97, List.length_cons, List.length_nil, Nat.zero_add, Nat.reduceAdd, Int.reduceAdd, Int.reduceNeg, Int.reduceToNat, Int.reduceLE, Int.reduceLT, true_and, and_true, Nat.reduceLT, reduceIte, Nat.reduceEqDiff, ne_eq, not_false_eq_true, false_implies, true_implies, Bool.false_eq_true, reduceCtorEq, List.cons_append, List.nil_append, Nat.reduceSub, Nat.reduceLeDiff, Fin.isValue, Int.reduceNatCast', Int.zero_add, Int.add_zero, decide_true, decide_false, implies_true, forall_const, true_or, or_true, or_false, false_or, false_and, and_false, Int.toNat_natCast, ↓oF_37_0, ↓oF_37_1, ↓oF_37_2, ↓oF_37_3, ↓aF_38, ↓oF_37_4, ↓aF_39, ↓oF_37_5, ↓oF_37_6, ↓aF_40, ↓oF_37_7, ↓oF_37_8, ↓aF_41, ↓oF_37_9, ↓aF_42, ↓oF_37_10, ↓aF_43, ↓oF_37_11, ↓aF_44, ↓oF_37_12, ↓aF_45, ↓oF_37_13, ↓aF_46, ↓oF_37_14, ↓aF_47, ↓oF_37_15, ↓aF_48, ↓oF_37_16, ↓aF_49, ↓oF_37_17, ↓oF_37_18, ↓aF_50, ↓oF_37_19, ↓aF_51, ↓oF_37_20, ↓aF_52, ↓oF_37_21, ↓aF_53, ↓oF_37_22, ↓aF_54, ↓oF_37_23, ↓aF_55, ↓oF_37_24, ↓aF_56, ↓oF_37_25, ↓aF_57, ↓oF_37_26, ↓oF_37_27, ↓oF_37_28, ↓aF_58, ↓oF_37_29, ↓aF_59, ↓oF_37_30, ↓aF_60, ↓oF_37_31, ↓aF_61, ↓oF_37_32, ↓oF_37_33, ↓oF_37_34, ↓oF_37_35, ↓aF_62, ↓oF_37_36, ↓oF_37_37, ↓aF_63, ↓oF_37_38, ↓oF_37_39, ↓aF_64, ↓oF_37_40, ↓aF_65, ↓oF_37_41, ↓aF_66, oC_0, oC_1, oC_4, oC_11, oC_16, oC_18, oC_20, oC_23, oC_25, oC_26, oC_29, oC_31, oC_33, oC_35, oC_37, isT_29, isT_31, isT_33, isT_35, isL_16, isL_18, isL_26, b2i_0, b2i_1, b2i_01, b2i_r, ↓e_M_count1]
    subst hu
    have e1 : (i + 1).toNat = i.toNat + 1 := by omega
    have hbi := hbm i.toNat
    have e2 : ∀ h : Int, digF (u 63) h (i.toNat + 1) = 31 * digF (u 63) h i.toNat + u 63 i.toNat := fun h => rfl
    by_cases hcc : i < u 37 36
    · (try simp only [rI_iff, rL_iff] at *)
      repeat' (with_reducible (first | assumption | apply And.intro | intro _))
      all_goals first | omega | with_reducible assumption | exact True.intro | skip
      all_goals first
        | omega
        | exact ⟨i + 1, by rw [e1, e2], rfl, by omega, by omega, by first | rfl | trivial⟩
        | trace_state
    · have e5 : (u 37 36).toNat = i.toNat := by omega
      (try simp only [rI_iff, rL_iff] at *)
      repeat' (with_reducible (first | assumption | apply And.intro | intro _))
      all_goals first | omega | with_reducible assumption | exact True.intro | skip
      all_goals first
        | omega
        | exact ⟨0, by rw [e5]; rfl, rfl, by omega, by omega, by first | rfl | trivial⟩
        | trace_state
  · intro L st u hI
    obtain ⟨i, rfl, rfl, hi, hu⟩ := hI
    simp only [↓wpN_go, jmp_e, ↓wp_aload_n0, ↓wp_bipush, ↓wp_getfield, ↓wp_goto, ↓wp_i2l, ↓wp_iaload, ↓wp_icmp_ge, ↓wp_iconst, ↓wp_iinc, ↓wp_iload_n3, ↓wp_invokevirtual, ↓wp_istore_n3, ↓wp_ladd, ↓wp_ldc2_w, ↓wp_lload_n1, ↓wp_lmul, ↓wp_lreturn2, ↓wp_lstore_n1, wp_nil, ↓ldI_0, ↓ldI_s, ↓ldL_0, ↓ldL_s, ↓ldR_0, ↓ldR_s, sto1_0, sto1_1, sto1_s, sto2_0, sto2_1, sto2_s, isLong_i, isLong_l, isLong_r, ↓popI_c, ↓popL_c, ↓popR_c, ↓popN_0, ↓popN_s, catS_n, catS_c, psh_s, psh_n, fldV_n, fldV_s, ↓tgt_e, sw_n, ↓sw_c, ↓lk1_h, ↓lk1_m, ↓atC_h, ↓atC_m, ↓atC_n, ltO_n, ltO_s, updR_eq, updR_ne, gI_0i, gI_0l, gI_s, ltM_iff, List.cons.injEq, Sum.inl.injEq, Sum.inr.injEq, Option.some.injEq, exists_eq_left, exists_eq_left', exists_eq_right, exists_eq_right', exists_and_left, exists_and_right, exists_eq, exists_const, and_assoc, ↓j_M_digest_0, ↓j_M_digest_6, ↓j_M_digest_31, ↓j_M_digest_33, ↓j_M_digest_89, ↓j_M_digest_91, ↓j_M_digest_119, ↓j_M_digest_121, ↓j_M_digest_149, ↓c_M_100264, ↓c_M_100266, ↓f_M_160, ↓f_M_250, ↓f_M_259, ↓f_M_54, ↓f_M_57, ↓f_M_75, ↓f_M_94, ↓f_M_97, List.length_cons, List.length_nil, Nat.zero_add, Nat.reduceAdd, Int.reduceAdd, Int.reduceNeg, Int.reduceToNat, Int.reduceLE, Int.reduceLT, true_and, and_true, Nat.reduceLT, reduceIte, Nat.reduceEqDiff, ne_eq, not_false_eq_true, false_implies, true_implies, Bool.false_eq_true, reduceCtorEq, List.cons_append, List.nil_append, Nat.reduceSub, Nat.reduceLeDiff, Fin.isValue, Int.reduceNatCast', Int.zero_add, Int.add_zero, decide_true, decide_false, implies_true, forall_const, true_or, or_true, or_false, false_or, false_and, and_false, Int.toNat_natCast, ↓oF_37_0, ↓oF_37_1, ↓oF_37_2, ↓oF_37_3, ↓aF_38, ↓oF_37_4, ↓aF_39, ↓oF_37_5, ↓oF_37_6, ↓aF_40, ↓oF_37_7, ↓oF_37_8, ↓aF_41, ↓oF_37_9, ↓aF_42, ↓oF_37_10, ↓aF_43, ↓oF_37_11, ↓aF_44, ↓oF_37_12, ↓aF_45, ↓oF_37_13, ↓aF_46, ↓oF_37_14, ↓aF_47, ↓oF_37_15, ↓aF_48, ↓oF_37_16, ↓aF_49, ↓oF_37_17, ↓oF_37_18, ↓aF_50, ↓oF_37_19, ↓aF_51, ↓oF_37_20, ↓aF_52, ↓oF_37_21, ↓aF_53, ↓oF_37_22, ↓aF_54, ↓oF_37_23, ↓aF_55, ↓oF_37_24, ↓aF_56, ↓oF_37_25, ↓aF_57, ↓oF_37_26, ↓oF_37_27, ↓oF_37_28, ↓aF_58, ↓oF_37_29, ↓aF_59, ↓oF_37_30, ↓aF_60, ↓oF_37_31, ↓aF_61, ↓oF_37_32, ↓oF_37_33, ↓oF_37_34, ↓oF_37_35, ↓aF_62, ↓oF_37_36, ↓oF_37_37, ↓aF_63, ↓oF_37_38, ↓oF_37_39, ↓aF_64, ↓oF_37_40, ↓aF_65, ↓oF_37_41, ↓aF_66, oC_0, oC_1, oC_4, oC_11, oC_16, oC_18, oC_20, oC_23, oC_25, oC_26, oC_29, oC_31, oC_33, oC_35, oC_37, isT_29, isT_31, isT_33, isT_35, isL_16, isL_18, isL_26, b2i_0, b2i_1, b2i_01, b2i_r, ↓e_M_count1]
    subst hu
    have e1 : (i + 1).toNat = i.toNat + 1 := by omega
    have hbi := hbp i.toNat
    have e2 : ∀ h : Int, digF (u 64) h (i.toNat + 1) = 31 * digF (u 64) h i.toNat + u 64 i.toNat := fun h => rfl
    by_cases hcc : i < u 37 38
    · (try simp only [rI_iff, rL_iff] at *)
      repeat' (with_reducible (first | assumption | apply And.intro | intro _))
      all_goals first | omega | with_reducible assumption | exact True.intro | skip
      all_goals first
        | omega
        | exact ⟨i + 1, by rw [e1, e2], rfl, by omega, by omega, by first | rfl | trivial⟩
        | trace_state
    · have e5 : (u 37 38).toNat = i.toNat := by omega
      rw [e5] at hQ
      (try simp only [rI_iff, rL_iff] at *)
      repeat' (with_reducible (first | assumption | apply And.intro | intro _))
      all_goals first | omega | with_reducible assumption | exact True.intro | skip
      all_goals first
        | omega
        | exact hQ
        | trace_state
def s_M_digestW : Spec := fun as σ Q => s_M_digest as σ (fun v u => ∀ z, v = some (.inr (.inl z)) → Q (some (.inr (.inl (wrapL z)))) u)
theorem S_M_digestW {l : Launch} : Sat l y_M_digest b_M_digest 4 (some .long) 2 s_M_digestW := by
  refine sat_repr S_M_digest (fun as σ Q hq1 => ?_)
  obtain ⟨o, rr0, rfl, hh1⟩ := popR_inv hq1
  obtain ⟨hrE, rfl, h1, h2, h3, h4, h5, h6, h7, h8, h9, h10, h11, hq2⟩ := hh1
  subst hrE
  rw [e_M_digest]
  exact ⟨h1, h2, h3, h4, h5, h6, h7, h8, h9, h10, h11, _, fun a => (by
    show some (Value.long (Int64.ofInt _)) = some (Value.long (Int64.ofInt (wrapL _)))
    rw [← wrapL_c]), hq2 _ rfl⟩
