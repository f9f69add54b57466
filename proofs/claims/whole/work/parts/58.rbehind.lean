/-! the reference: the code behind a bit -/
theorem lg_0 {ws : Nat → Int} : ∀ n : Nat, 0 ≤ lgF ws n
  | 0 => Int.le_refl _
  | n + 1 => by
    have := lg_0 (ws := ws) n
    rw [lgF]
    split <;> omega
def s_M_behind : Spec := fun as σ Q => popR as fun c0 r0 => popI r0 fun c r1 => popI r1 fun bit r2 => r2 = [] ∧ c0 = 37 ∧ (BansOK (σ 37 0) (σ 37 1) (σ 37 2) (σ 37 5) (σ 38) (σ 39)) ∧ (0 ≤ c ∧ c < 11264 ∧ 1 ≤ lastP c) ∧ (bit = 0 ∨ bit = 1) ∧ Q (some (.inl (bhZ (σ 37 0) (σ 37 1) (σ 37 2) (σ 37 5) (σ 38) (σ 39) c bit))) σ
theorem e_M_behind (c : Int) (bit : Int) (σ : St) (Q : Option AV → St → Prop) : s_M_behind [.inr (.inr (some 37)), .inl c, .inl bit] σ Q = ((BansOK (σ 37 0) (σ 37 1) (σ 37 2) (σ 37 5) (σ 38) (σ 39)) ∧ (0 ≤ c ∧ c < 11264 ∧ 1 ≤ lastP c) ∧ (bit = 0 ∨ bit = 1) ∧ Q (some (.inl (bhZ (σ 37 0) (σ 37 1) (σ 37 2) (σ 37 5) (σ 38) (σ 39) c bit))) σ) := by
  show ([] = [] ∧ _) = _
  simp only [true_and]
set_option maxHeartbeats 8000000 in
set_option maxRecDepth 20000 in
theorem S_M_behind {l : Launch} : Sat l y_M_behind b_M_behind 10 (some .int) 1 s_M_behind := by
  refine sat_of (Φ := P_M) (κ := Q_M) (Γ := [(108, 0, 3, s_M_in), (128, 10, 1, s_M_endsBanned), (132, 10, 0, s_M_longest), (136, 0, 4, s_M_codeOf)]) (rt := 1) (by decide +kernel) P_M_ok Q_M_ok (by
    refine List.forall_mem_cons.mpr ⟨?_, List.forall_mem_cons.mpr ⟨?_, List.forall_mem_cons.mpr ⟨?_, List.forall_mem_cons.mpr ⟨?_, fun _ h => absurd h List.not_mem_nil⟩⟩⟩⟩
    · exact m_M_in S_M_in (by decide) l_M_108
    · exact m_M_endsBanned S_M_endsBanned (by decide) l_M_128
    · exact m_M_longest S_M_longest (by decide) l_M_132
    · exact m_M_codeOf S_M_codeOf (by decide) l_M_136) (by simp) o_M_behind ?_
  intro as σ Q hh0
  obtain ⟨c0, rr0, rfl, hh1⟩ := popR_inv hh0
  obtain ⟨c, rr1, rfl, hh2⟩ := popI_inv hh1
  obtain ⟨bit, rr2, rfl, hh3⟩ := popI_inv hh2
  obtain ⟨hrE, rfl, hB, hc, hbit, hQ⟩ := hh3
  subst hrE
  clear hh0 hh1 hh2
  refine ⟨Nat.le_of_ble_eq_true rfl, [(101, mkC (fun L st u => ∃ (s z : Int), L = [.inr (.inr (some 37)), .inl c, .inl bit, .inl ((tP c)), .inl ((lastP c)), .inl s, .inl z, .inr (.inr none), .inr (.inr none), .inr (.inr none)] ∧ st = [] ∧ (z = (if 0 ≤ σ 37 1 then (if bit = 0 then zerP c + 1 else 0) else zerP c)) ∧ (s = (if 0 ≤ σ 37 1 then (if bit = 1 then 1 else seenP c) else seenP c)) ∧ (¬ (0 ≤ σ 37 1 ∧ ((bit = 0 ∧ zerP c = σ 37 1) ∨ (bit = 1 ∧ seenP c = 1 ∧ zerP c < σ 37 0)))) ∧ (0 ≤ z ∧ z ≤ 9 ∧ 0 ≤ s ∧ s ≤ 1) ∧ (u = σ)) (fun L st u => (100, 0, 0))),
    (142, mkC (fun L st u => ∃ (t s z : Int), L = [.inr (.inr (some 37)), .inl c, .inl bit, .inl t, .inl ((lastP c)), .inl s, .inl z, .inr (.inr none), .inr (.inr none), .inr (.inr none)] ∧ st = [] ∧ (z = (if 0 ≤ σ 37 1 then (if bit = 0 then zerP c + 1 else 0) else zerP c)) ∧ (s = (if 0 ≤ σ 37 1 then (if bit = 1 then 1 else seenP c) else seenP c)) ∧ (¬ (0 ≤ σ 37 1 ∧ ((bit = 0 ∧ zerP c = σ 37 1) ∨ (bit = 1 ∧ seenP c = 1 ∧ zerP c < σ 37 0)))) ∧ (0 ≤ z ∧ z ≤ 9 ∧ 0 ≤ s ∧ s ≤ 1) ∧ (t = (if 0 ≤ σ 37 5 then tP c + (if bit = 1 then 1 else -1) else tP c)) ∧ (¬ (0 ≤ σ 37 5 ∧ (tP c + (if bit = 1 then 1 else -1) < -(σ 37 5) ∨ σ 37 5 < tP c + (if bit = 1 then 1 else -1)))) ∧ (u = σ)) (fun L st u => (90, 0, 0))),
    (182, mkC (fun L st u => ∃ (t s z b : Int) (v9 : AV), L = [.inr (.inr (some 37)), .inl c, .inl bit, .inl t, .inl ((lastP c)), .inl s, .inl z, .inl b, .inl ((memW (σ 39) 0 (σ 37 2).toNat)), v9] ∧ st = [] ∧ (z = (if 0 ≤ σ 37 1 then (if bit = 0 then zerP c + 1 else 0) else zerP c)) ∧ (s = (if 0 ≤ σ 37 1 then (if bit = 1 then 1 else seenP c) else seenP c)) ∧ (¬ (0 ≤ σ 37 1 ∧ ((bit = 0 ∧ zerP c = σ 37 1) ∨ (bit = 1 ∧ seenP c = 1 ∧ zerP c < σ 37 0)))) ∧ (0 ≤ z ∧ z ≤ 9 ∧ 0 ≤ s ∧ s ≤ 1) ∧ (t = (if 0 ≤ σ 37 5 then tP c + (if bit = 1 then 1 else -1) else tP c)) ∧ (¬ (0 ≤ σ 37 5 ∧ (tP c + (if bit = 1 then 1 else -1) < -(σ 37 5) ∨ σ 37 5 < tP c + (if bit = 1 then 1 else -1)))) ∧ (endW (σ 38) (σ 39) (2 * lastP c + bit) (σ 37 2).toNat = false) ∧ (1 ≤ b ∧ b < 1024) ∧ (shortZ b (memW (σ 39) 0 (σ 37 2).toNat) = shortZ (2 * lastP c + bit) (memW (σ 39) 0 (σ 37 2).toNat)) ∧ (u = σ)) (fun L st u => (80, (gI L 7).toNat, 100))),
    (194, mkC (fun L st u => ∃ (t s z b n : Int), L = [.inr (.inr (some 37)), .inl c, .inl bit, .inl t, .inl ((lastP c)), .inl s, .inl z, .inl b, .inl ((memW (σ 39) 0 (σ 37 2).toNat)), .inl n] ∧ st = [] ∧ (z = (if 0 ≤ σ 37 1 then (if bit = 0 then zerP c + 1 else 0) else zerP c)) ∧ (s = (if 0 ≤ σ 37 1 then (if bit = 1 then 1 else seenP c) else seenP c)) ∧ (¬ (0 ≤ σ 37 1 ∧ ((bit = 0 ∧ zerP c = σ 37 1) ∨ (bit = 1 ∧ seenP c = 1 ∧ zerP c < σ 37 0)))) ∧ (0 ≤ z ∧ z ≤ 9 ∧ 0 ≤ s ∧ s ≤ 1) ∧ (t = (if 0 ≤ σ 37 5 then tP c + (if bit = 1 then 1 else -1) else tP c)) ∧ (¬ (0 ≤ σ 37 5 ∧ (tP c + (if bit = 1 then 1 else -1) < -(σ 37 5) ∨ σ 37 5 < tP c + (if bit = 1 then 1 else -1)))) ∧ (endW (σ 38) (σ 39) (2 * lastP c + bit) (σ 37 2).toNat = false) ∧ (1 ≤ b ∧ b < 1024 ∧ 2 * 2 ^ (memW (σ 39) 0 (σ 37 2).toNat).toNat ≤ b) ∧ (shortZ b (memW (σ 39) 0 (σ 37 2).toNat) = shortZ (2 * lastP c + bit) (memW (σ 39) 0 (σ 37 2).toNat)) ∧ (0 ≤ n ∧ 2 ^ n.toNat ≤ b) ∧ (u = σ)) (fun L st u => (80, (gI L 7).toNat, (50 - gI L 9).toNat)))], 14, ?_, cuts1 ?_ (cuts1 ?_ (cuts1 ?_ (cuts1 ?_ (cuts0))))⟩
  · rw [show entL 10 [.inr (.inr (some 37)), .inl c, .inl bit] = [.inr (.inr (some 37)), .inl c, .inl bit, .inr (.inr none), .inr (.inr none), .inr (.inr none), .inr (.inr none), .inr (.inr none), .inr (.inr none), .inr (.inr none)] from rfl]
    simp only [↓wpN_go, jmp_e, ↓wp_aload_n0, ↓wp_bipush, ↓wp_getfield, ↓wp_goto, ↓wp_i2l, ↓wp_iadd, ↓wp_iand, ↓wp_icmp_eq, ↓wp_icmp_ge, ↓wp_icmp_le, ↓wp_icmp_ne, ↓wp_iconst, ↓wp_idiv, ↓wp_if_eq, ↓wp_if_ge, ↓wp_if_lt, ↓wp_if_ne, ↓wp_iinc, ↓wp_iload, ↓wp_iload_n1, ↓wp_iload_n2, ↓wp_iload_n3, ↓wp_imul, ↓wp_ineg, ↓wp_invokestatic, ↓wp_invokevirtual, ↓wp_ior, ↓wp_irem, ↓wp_ireturn1, ↓wp_ishl, ↓wp_ishr, ↓wp_istore, ↓wp_istore_n3, ↓wp_isub, ↓wp_sipush, wp_nil, ↓ldI_0, ↓ldI_s, ↓ldL_0, ↓ldL_s, ↓ldR_0, ↓ldR_s, sto1_0, sto1_1, sto1_s, sto2_0, sto2_1, sto2_s, isLong_i, isLong_l, isLong_r, ↓popI_c, ↓popL_c, ↓popR_c, ↓popN_0, ↓popN_s, catS_n, catS_c, psh_s, psh_n, fldV_n, fldV_s, ↓tgt_e, sw_n, ↓sw_c, ↓lk1_h, ↓lk1_m, ↓atC_h, ↓atC_m, ↓atC_n, ltO_n, ltO_s, updR_eq, updR_ne, gI_0i, gI_0l, gI_s, ltM_iff, List.cons.injEq, Sum.inl.injEq, Sum.inr.injEq, Option.some.injEq, exists_eq_left, exists_eq_left', exists_eq_right, exists_eq_right', exists_and_left, exists_and_right, exists_eq, exists_const, and_assoc, ↓j_M_behind_0, ↓j_M_behind_52, ↓j_M_behind_72, ↓j_M_behind_74, ↓j_M_behind_85, ↓j_M_behind_86, ↓j_M_behind_97, ↓j_M_behind_99, ↓j_M_behind_101, ↓j_M_behind_118, ↓j_M_behind_119, ↓j_M_behind_142, ↓j_M_behind_161, ↓j_M_behind_178, ↓j_M_behind_180, ↓j_M_behind_182, ↓j_M_behind_194, ↓j_M_behind_209, ↓j_M_behind_232, ↓f_M_112, ↓f_M_20, ↓f_M_7, List.length_cons, List.length_nil, Nat.zero_add, Nat.reduceAdd, Int.reduceAdd, Int.reduceNeg, Int.reduceToNat, Int.reduceLE, Int.reduceLT, true_and, and_true, Nat.reduceLT, reduceIte, Nat.reduceEqDiff, ne_eq, not_false_eq_true, false_implies, true_implies, Bool.false_eq_true, reduceCtorEq, List.cons_append, List.nil_append, Nat.reduceSub, Nat.reduceLeDiff, Fin.isValue, Int.reduceNatCast', Int.zero_add, Int.add_zero, decide_true, decide_false, implies_true, forall_const, true_or, or_true, or_false, false_or, false_and, and_false, Int.toNat_natCast, ↓oF_37_0, ↓oF_37_1, ↓oF_37_2, ↓oF_37_3, ↓aF_38, ↓oF_37_4, ↓aF_39, ↓oF_37_5, ↓oF_37_6, ↓aF_40, ↓oF_37_7, ↓oF_37_8, ↓aF_41, ↓oF_37_9, ↓aF_42, ↓oF_37_10, ↓aF_43, ↓oF_37_11, ↓aF_44, ↓oF_37_12, ↓aF_45, ↓oF_37_13, ↓aF_46, ↓oF_37_14, ↓aF_47, ↓oF_37_15, ↓aF_48, ↓oF_37_16, ↓aF_49, ↓oF_37_17, ↓oF_37_18, ↓aF_50, ↓oF_37_19, ↓aF_51, ↓oF_37_20, ↓aF_52, ↓oF_37_21, ↓aF_53, ↓oF_37_22, ↓aF_54, ↓oF_37_23, ↓aF_55, ↓oF_37_24, ↓aF_56, ↓oF_37_25, ↓aF_57, ↓oF_37_26, ↓oF_37_27, ↓oF_37_28, ↓aF_58, ↓oF_37_29, ↓aF_59, ↓oF_37_30, ↓aF_60, ↓oF_37_31, ↓aF_61, ↓oF_37_32, ↓oF_37_33, ↓oF_37_34, ↓oF_37_35, ↓aF_62, ↓oF_37_36, ↓oF_37_37, ↓aF_63, ↓oF_37_38, ↓oF_37_39, ↓aF_64, ↓oF_37_40, ↓aF_65, ↓oF_37_41, ↓aF_66, oC_0, oC_1, oC_4, oC_11, oC_16, oC_18, oC_20, oC_23, oC_25, oC_26, oC_29, oC_31, oC_33, oC_35, oC_37, isT_29, isT_31, isT_33, isT_35, isL_16, isL_18, isL_26, b2i_0, b2i_1, b2i_01, b2i_r, ↓e_M_in, ↓e_M_endsBanned, ↓e_M_longest, ↓e_M_codeOf]
    have hk1 := hB.1
    have hw1 := hB.2.1
    have hl1 := hB.2.2
    have hlp : lastP c < 64 ∧ 0 ≤ seenP c ∧ seenP c ≤ 1 ∧ 0 ≤ zerP c ∧ zerP c ≤ 8 ∧ -5 ≤ tP c ∧ tP c ≤ 5 := by
      unfold lastP seenP zerP tP
      omega
    have eL : c / 11 % 64 = lastP c := rfl
    have eS : c / 704 % 2 = seenP c := rfl
    have eZ : c / 1408 = zerP c := rfl
    have eT : c % 11 - 5 = tP c := rfl
    simp only [eL, eS, eZ, eT]
    have q1 : ¬ ¬ (0 ≤ σ 37 1 ∧ ((bit = 0 ∧ zerP c = σ 37 1) ∨ (bit = 1 ∧ seenP c = 1 ∧ zerP c < σ 37 0))) → Q (some (.inl (-1))) σ := fun h => by
      unfold bhZ at hQ
      rw [if_pos (Or.inl (Classical.not_not.mp h))] at hQ
      exact hQ
    clear hQ eL eS eZ eT
    generalize lastP c = la at *
    generalize seenP c = se at *
    generalize zerP c = ze at *
    generalize tP c = tt at *
    (try simp only [rI_iff, rL_iff] at *)
    repeat' (with_reducible (first | assumption | apply And.intro | intro _))
    all_goals first | omega | with_reducible assumption | exact True.intro | skip
    all_goals first
      | omega
      | grind
      | trace_state
  · intro L st u hI
    obtain ⟨s, z, rfl, rfl, hz, hs, c1, hzr, hu⟩ := hI
    simp only [↓wpN_go, jmp_e, ↓wp_aload_n0, ↓wp_bipush, ↓wp_getfield, ↓wp_goto, ↓wp_i2l, ↓wp_iadd, ↓wp_iand, ↓wp_icmp_eq, ↓wp_icmp_ge, ↓wp_icmp_le, ↓wp_icmp_ne, ↓wp_iconst, ↓wp_idiv, ↓wp_if_eq, ↓wp_if_ge, ↓wp_if_lt, ↓wp_if_ne, ↓wp_iinc, ↓wp_iload, ↓wp_iload_n1, ↓wp_iload_n2, ↓wp_iload_n3, ↓wp_imul, ↓wp_ineg, ↓wp_invokestatic, ↓wp_invokevirtual, ↓wp_ior, ↓wp_irem, ↓wp_ireturn1, ↓wp_ishl, ↓wp_ishr, ↓wp_istore, ↓wp_istore_n3, ↓wp_isub, ↓wp_sipush, wp_nil, ↓ldI_0, ↓ldI_s, ↓ldL_0, ↓ldL_s, ↓ldR_0, ↓ldR_s, sto1_0, sto1_1, sto1_s, sto2_0, sto2_1, sto2_s, isLong_i, isLong_l, isLong_r, ↓popI_c, ↓popL_c, ↓popR_c, ↓popN_0, ↓popN_s, catS_n, catS_c, psh_s, psh_n, fldV_n, fldV_s, ↓tgt_e, sw_n, ↓sw_c, ↓lk1_h, ↓lk1_m, ↓atC_h, ↓atC_m, ↓atC_n, ltO_n, ltO_s, updR_eq, updR_ne, gI_0i, gI_0l, gI_s, ltM_iff, List.cons.injEq, Sum.inl.injEq, Sum.inr.injEq, Option.some.injEq, exists_eq_left, exists_eq_left', exists_eq_right, exists_eq_right', exists_and_left, exists_and_right, exists_eq, exists_const, and_assoc, ↓j_M_behind_0, ↓j_M_behind_52, ↓j_M_behind_72, ↓j_M_behind_74, ↓j_M_behind_85, ↓j_M_behind_86, ↓j_M_behind_97, ↓j_M_behind_99, ↓j_M_behind_101, ↓j_M_behind_118, ↓j_M_behind_119, ↓j_M_behind_142, ↓j_M_behind_161, ↓j_M_behind_178, ↓j_M_behind_180, ↓j_M_behind_182, ↓j_M_behind_194, ↓j_M_behind_209, ↓j_M_behind_232, ↓f_M_112, ↓f_M_20, ↓f_M_7, List.length_cons, List.length_nil, Nat.zero_add, Nat.reduceAdd, Int.reduceAdd, Int.reduceNeg, Int.reduceToNat, Int.reduceLE, Int.reduceLT, true_and, and_true, Nat.reduceLT, reduceIte, Nat.reduceEqDiff, ne_eq, not_false_eq_true, false_implies, true_implies, Bool.false_eq_true, reduceCtorEq, List.cons_append, List.nil_append, Nat.reduceSub, Nat.reduceLeDiff, Fin.isValue, Int.reduceNatCast', Int.zero_add, Int.add_zero, decide_true, decide_false, implies_true, forall_const, true_or, or_true, or_false, false_or, false_and, and_false, Int.toNat_natCast, ↓oF_37_0, ↓oF_37_1, ↓oF_37_2, ↓oF_37_3, ↓aF_38, ↓oF_37_4, ↓aF_39, ↓oF_37_5, ↓oF_37_6, ↓aF_40, ↓oF_37_7, ↓oF_37_8, ↓aF_41, ↓oF_37_9, ↓aF_42, ↓oF_37_10, ↓aF_43, ↓oF_37_11, ↓aF_44, ↓oF_37_12, ↓aF_45, ↓oF_37_13, ↓aF_46, ↓oF_37_14, ↓aF_47, ↓oF_37_15, ↓aF_48, ↓oF_37_16, ↓aF_49, ↓oF_37_17, ↓oF_37_18, ↓aF_50, ↓oF_37_19, ↓aF_51, ↓oF_37_20, ↓aF_52, ↓oF_37_21, ↓aF_53, ↓oF_37_22, ↓aF_54, ↓oF_37_23, ↓aF_55, ↓oF_37_24, ↓aF_56, ↓oF_37_25, ↓aF_57, ↓oF_37_26, ↓oF_37_27, ↓oF_37_28, ↓aF_58, ↓oF_37_29, ↓aF_59, ↓oF_37_30, ↓aF_60, ↓oF_37_31, ↓aF_61, ↓oF_37_32, ↓oF_37_33, ↓oF_37_34, ↓oF_37_35, ↓aF_62, ↓oF_37_36, ↓oF_37_37, ↓aF_63, ↓oF_37_38, ↓oF_37_39, ↓aF_64, ↓oF_37_40, ↓aF_65, ↓oF_37_41, ↓aF_66, oC_0, oC_1, oC_4, oC_11, oC_16, oC_18, oC_20, oC_23, oC_25, oC_26, oC_29, oC_31, oC_33, oC_35, oC_37, isT_29, isT_31, isT_33, isT_35, isL_16, isL_18, isL_26, b2i_0, b2i_1, b2i_01, b2i_r, ↓e_M_in, ↓e_M_endsBanned, ↓e_M_longest, ↓e_M_codeOf]
    have hk1 := hB.1
    have hw1 := hB.2.1
    have hl1 := hB.2.2
    have hlp : lastP c < 64 ∧ 0 ≤ seenP c ∧ seenP c ≤ 1 ∧ 0 ≤ zerP c ∧ zerP c ≤ 8 ∧ -5 ≤ tP c ∧ tP c ≤ 5 := by
      unfold lastP seenP zerP tP
      omega
    subst hu
    have q1 : ¬ ¬ (0 ≤ u 37 5 ∧ (tP c + (if bit = 1 then 1 else -1) < -(u 37 5) ∨ u 37 5 < tP c + (if bit = 1 then 1 else -1))) → Q (some (.inl (-1))) u := fun h => by
      unfold bhZ at hQ
      rw [if_pos (Or.inr (Or.inl (Classical.not_not.mp h)))] at hQ
      exact hQ
    clear hQ
    generalize lastP c = la at *
    generalize seenP c = se at *
    generalize zerP c = ze at *
    generalize tP c = tt at *
    (try simp only [rI_iff, rL_iff] at *)
    repeat' (with_reducible (first | assumption | apply And.intro | intro _))
    all_goals first | omega | with_reducible assumption | exact True.intro | skip
    all_goals first
      | omega
      | grind
      | trace_state
  · intro L st u hI
    obtain ⟨t, s, z, rfl, rfl, hz, hs, c1, hzr, ht, c2, hu⟩ := hI
    simp only [↓wpN_go, jmp_e, ↓wp_aload_n0, ↓wp_bipush, ↓wp_getfield, ↓wp_goto, ↓wp_i2l, ↓wp_iadd, ↓wp_iand, ↓wp_icmp_eq, ↓wp_icmp_ge, ↓wp_icmp_le, ↓wp_icmp_ne, ↓wp_iconst, ↓wp_idiv, ↓wp_if_eq, ↓wp_if_ge, ↓wp_if_lt, ↓wp_if_ne, ↓wp_iinc, ↓wp_iload, ↓wp_iload_n1, ↓wp_iload_n2, ↓wp_iload_n3, ↓wp_imul, ↓wp_ineg, ↓wp_invokestatic, ↓wp_invokevirtual, ↓wp_ior, ↓wp_irem, ↓wp_ireturn1, ↓wp_ishl, ↓wp_ishr, ↓wp_istore, ↓wp_istore_n3, ↓wp_isub, ↓wp_sipush, wp_nil, ↓ldI_0, ↓ldI_s, ↓ldL_0, ↓ldL_s, ↓ldR_0, ↓ldR_s, sto1_0, sto1_1, sto1_s, sto2_0, sto2_1, sto2_s, isLong_i, isLong_l, isLong_r, ↓popI_c, ↓popL_c, ↓popR_c, ↓popN_0, ↓popN_s, catS_n, catS_c, psh_s, psh_n, fldV_n, fldV_s, ↓tgt_e, sw_n, ↓sw_c, ↓lk1_h, ↓lk1_m, ↓atC_h, ↓atC_m, ↓atC_n, ltO_n, ltO_s, updR_eq, updR_ne, gI_0i, gI_0l, gI_s, ltM_iff, List.cons.injEq, Sum.inl.injEq, Sum.inr.injEq, Option.some.injEq, exists_eq_left, exists_eq_left', exists_eq_right, exists_eq_right', exists_and_left, exists_and_right, exists_eq, exists_const, and_assoc, ↓j_M_behind_0, ↓j_M_behind_52, ↓j_M_behind_72, ↓j_M_behind_74, ↓j_M_behind_85, ↓j_M_behind_86, ↓j_M_behind_97, ↓j_M_behind_99, ↓j_M_behind_101, ↓j_M_behind_118, ↓j_M_behind_119, ↓j_M_behind_142, ↓j_M_behind_161, ↓j_M_behind_178, ↓j_M_behind_180, ↓j_M_behind_182, ↓j_M_behind_194, ↓j_M_behind_209, ↓j_M_behind_232, ↓f_M_112, ↓f_M_20, ↓f_M_7, List.length_cons, List.length_nil, Nat.zero_add, Nat.reduceAdd, Int.reduceAdd, Int.reduceNeg, Int.reduceToNat, Int.reduceLE, Int.reduceLT, true_and, and_true, Nat.reduceLT, reduceIte, Nat.reduceEqDiff, ne_eq, not_false_eq_true, false_implies, true_implies, Bool.false_eq_true, reduceCtorEq, List.cons_append, List.nil_append, Nat.reduceSub, Nat.reduceLeDiff, Fin.isValue, Int.reduceNatCast', Int.zero_add, Int.add_zero, decide_true, decide_false, implies_true, forall_const, true_or, or_true, or_false, false_or, false_and, and_false, Int.toNat_natCast, ↓oF_37_0, ↓oF_37_1, ↓oF_37_2, ↓oF_37_3, ↓aF_38, ↓oF_37_4, ↓aF_39, ↓oF_37_5, ↓oF_37_6, ↓aF_40, ↓oF_37_7, ↓oF_37_8, ↓aF_41, ↓oF_37_9, ↓aF_42, ↓oF_37_10, ↓aF_43, ↓oF_37_11, ↓aF_44, ↓oF_37_12, ↓aF_45, ↓oF_37_13, ↓aF_46, ↓oF_37_14, ↓aF_47, ↓oF_37_15, ↓aF_48, ↓oF_37_16, ↓aF_49, ↓oF_37_17, ↓oF_37_18, ↓aF_50, ↓oF_37_19, ↓aF_51, ↓oF_37_20, ↓aF_52, ↓oF_37_21, ↓aF_53, ↓oF_37_22, ↓aF_54, ↓oF_37_23, ↓aF_55, ↓oF_37_24, ↓aF_56, ↓oF_37_25, ↓aF_57, ↓oF_37_26, ↓oF_37_27, ↓oF_37_28, ↓aF_58, ↓oF_37_29, ↓aF_59, ↓oF_37_30, ↓aF_60, ↓oF_37_31, ↓aF_61, ↓oF_37_32, ↓oF_37_33, ↓oF_37_34, ↓oF_37_35, ↓aF_62, ↓oF_37_36, ↓oF_37_37, ↓aF_63, ↓oF_37_38, ↓oF_37_39, ↓aF_64, ↓oF_37_40, ↓aF_65, ↓oF_37_41, ↓aF_66, oC_0, oC_1, oC_4, oC_11, oC_16, oC_18, oC_20, oC_23, oC_25, oC_26, oC_29, oC_31, oC_33, oC_35, oC_37, isT_29, isT_31, isT_33, isT_35, isL_16, isL_18, isL_26, b2i_0, b2i_1, b2i_01, b2i_r, ↓e_M_in, ↓e_M_endsBanned, ↓e_M_longest, ↓e_M_codeOf]
    have hk1 := hB.1
    have hw1 := hB.2.1
    have hl1 := hB.2.2
    have hlp : lastP c < 64 ∧ 0 ≤ seenP c ∧ seenP c ≤ 1 ∧ 0 ≤ zerP c ∧ zerP c ≤ 8 ∧ -5 ≤ tP c ∧ tP c ≤ 5 := by
      unfold lastP seenP zerP tP
      omega
    subst hu
    have q1 : endW (u 38) (u 39) (2 * lastP c + bit) (u 37 2).toNat = true → Q (some (.inl (-1))) u := fun h => by
      unfold bhZ at hQ
      rw [if_pos (Or.inr (Or.inr h))] at hQ
      exact hQ
    have hlm := lg_mem (ws := u 39) (u 37 2).toNat
    have hl0 := lg_0 (ws := u 39) (u 37 2).toNat
    have hmr := memW_r (k := 0) (by omega) hw1 (u 37 2).toNat (by have := hw1.1; omega)
    clear hQ
    generalize hez : endW (u 38) (u 39) (2 * lastP c + bit) (u 37 2).toNat = ez at *
    have q2 : ¬ ez = true → ez = false := fun h => by cases ez with
      | false => rfl
      | true => exact absurd rfl h
    (try simp only [rI_iff, rL_iff] at *)
    repeat' (with_reducible (first | assumption | apply And.intro | intro _))
    all_goals first | omega | with_reducible assumption | exact True.intro | skip
    all_goals first
      | omega
      | exact q1 (by assumption)
      | exact q1 (Classical.not_not.mp (by assumption))
      | exact q2 (by assumption)
      | trace_state
  · intro L st u hI
    obtain ⟨t, s, z, b, v9, rfl, rfl, hz, hs, c1, hzr, ht, c2, c3, hb, hb2, hu⟩ := hI
    simp only [↓wpN_go, jmp_e, ↓wp_aload_n0, ↓wp_bipush, ↓wp_getfield, ↓wp_goto, ↓wp_i2l, ↓wp_iadd, ↓wp_iand, ↓wp_icmp_eq, ↓wp_icmp_ge, ↓wp_icmp_le, ↓wp_icmp_ne, ↓wp_iconst, ↓wp_idiv, ↓wp_if_eq, ↓wp_if_ge, ↓wp_if_lt, ↓wp_if_ne, ↓wp_iinc, ↓wp_iload, ↓wp_iload_n1, ↓wp_iload_n2, ↓wp_iload_n3, ↓wp_imul, ↓wp_ineg, ↓wp_invokestatic, ↓wp_invokevirtual, ↓wp_ior, ↓wp_irem, ↓wp_ireturn1, ↓wp_ishl, ↓wp_ishr, ↓wp_istore, ↓wp_istore_n3, ↓wp_isub, ↓wp_sipush, wp_nil, ↓ldI_0, ↓ldI_s, ↓ldL_0, ↓ldL_s, ↓ldR_0, ↓ldR_s, sto1_0, sto1_1, sto1_s, sto2_0, sto2_1, sto2_s, isLong_i, isLong_l, isLong_r, ↓popI_c, ↓popL_c, ↓popR_c, ↓popN_0, ↓popN_s, catS_n, catS_c, psh_s, psh_n, fldV_n, fldV_s, ↓tgt_e, sw_n, ↓sw_c, ↓lk1_h, ↓lk1_m, ↓atC_h, ↓atC_m, ↓atC_n, ltO_n, ltO_s, updR_eq, updR_ne, gI_0i, gI_0l, gI_s, ltM_iff, List.cons.injEq, Sum.inl.injEq, Sum.inr.injEq, Option.some.injEq, exists_eq_left, exists_eq_left', exists_eq_right, exists_eq_right', exists_and_left, exists_and_right, exists_eq, exists_const, and_assoc, ↓j_M_behind_0, ↓j_M_behind_52, ↓j_M_behind_72, ↓j_M_behind_74, ↓j_M_behind_85, ↓j_M_behind_86, ↓j_M_behind_97, ↓j_M_behind_99, ↓j_M_behind_101, ↓j_M_behind_118, ↓j_M_behind_119, ↓j_M_behind_142, ↓j_M_behind_161, ↓j_M_behind_178, ↓j_M_behind_180, ↓j_M_behind_182, ↓j_M_behind_194, ↓j_M_behind_209, ↓j_M_behind_232, ↓f_M_112, ↓f_M_20, ↓f_M_7, List.length_cons, List.length_nil, Nat.zero_add, Nat.reduceAdd, Int.reduceAdd, Int.reduceNeg, Int.reduceToNat, Int.reduceLE, Int.reduceLT, true_and, and_true, Nat.reduceLT, reduceIte, Nat.reduceEqDiff, ne_eq, not_false_eq_true, false_implies, true_implies, Bool.false_eq_true, reduceCtorEq, List.cons_append, List.nil_append, Nat.reduceSub, Nat.reduceLeDiff, Fin.isValue, Int.reduceNatCast', Int.zero_add, Int.add_zero, decide_true, decide_false, implies_true, forall_const, true_or, or_true, or_false, false_or, false_and, and_false, Int.toNat_natCast, ↓oF_37_0, ↓oF_37_1, ↓oF_37_2, ↓oF_37_3, ↓aF_38, ↓oF_37_4, ↓aF_39, ↓oF_37_5, ↓oF_37_6, ↓aF_40, ↓oF_37_7, ↓oF_37_8, ↓aF_41, ↓oF_37_9, ↓aF_42, ↓oF_37_10, ↓aF_43, ↓oF_37_11, ↓aF_44, ↓oF_37_12, ↓aF_45, ↓oF_37_13, ↓aF_46, ↓oF_37_14, ↓aF_47, ↓oF_37_15, ↓aF_48, ↓oF_37_16, ↓aF_49, ↓oF_37_17, ↓oF_37_18, ↓aF_50, ↓oF_37_19, ↓aF_51, ↓oF_37_20, ↓aF_52, ↓oF_37_21, ↓aF_53, ↓oF_37_22, ↓aF_54, ↓oF_37_23, ↓aF_55, ↓oF_37_24, ↓aF_56, ↓oF_37_25, ↓aF_57, ↓oF_37_26, ↓oF_37_27, ↓oF_37_28, ↓aF_58, ↓oF_37_29, ↓aF_59, ↓oF_37_30, ↓aF_60, ↓oF_37_31, ↓aF_61, ↓oF_37_32, ↓oF_37_33, ↓oF_37_34, ↓oF_37_35, ↓aF_62, ↓oF_37_36, ↓oF_37_37, ↓aF_63, ↓oF_37_38, ↓oF_37_39, ↓aF_64, ↓oF_37_40, ↓aF_65, ↓oF_37_41, ↓aF_66, oC_0, oC_1, oC_4, oC_11, oC_16, oC_18, oC_20, oC_23, oC_25, oC_26, oC_29, oC_31, oC_33, oC_35, oC_37, isT_29, isT_31, isT_33, isT_35, isL_16, isL_18, isL_26, b2i_0, b2i_1, b2i_01, b2i_r, ↓e_M_in, ↓e_M_endsBanned, ↓e_M_longest, ↓e_M_codeOf]
    have hk1 := hB.1
    have hw1 := hB.2.1
    have hl1 := hB.2.2
    have hlp : lastP c < 64 ∧ 0 ≤ seenP c ∧ seenP c ≤ 1 ∧ 0 ≤ zerP c ∧ zerP c ≤ 8 ∧ -5 ≤ tP c ∧ tP c ≤ 5 := by
      unfold lastP seenP zerP tP
      omega
    subst hu
    have hm := memW_r (k := 0) (by omega) hw1 (u 37 2).toNat (by have := hw1.1; omega)
    have hp8 := pow8 (m := memW (u 39) 0 (u 37 2).toNat) ⟨by omega, by omega⟩
    have hdv : 0 ≤ b / 2 ^ (memW (u 39) 0 (u 37 2).toNat).toNat ∧ b / 2 ^ (memW (u 39) 0 (u 37 2).toNat).toNat ≤ b := ⟨Int.ediv_nonneg (by omega) (by omega), Int.ediv_le_self _ (by omega)⟩
    have hlt := fun h => log_lt (g := b) (n := (memW (u 39) 0 (u 37 2).toNat).toNat) h
    have hge := fun h => log_ge (g := b) (n := (memW (u 39) 0 (u 37 2).toNat).toNat) h
    rw [Int.pow_succ] at hlt hge
    have q1 : b / 2 ^ (memW (u 39) 0 (u 37 2).toNat).toNat ≤ 1 → Q (some (.inl (cdF z s b t))) u := fun h => by
      have h3 := hlt h
      unfold bhZ at hQ
      rw [if_neg (fun q => by
        rcases q with q | q | q
        · exact c1 q
        · exact c2 q
        · rw [c3] at q; cases q), ← hz, ← hs, ← ht, ← hb2] at hQ
      have e : shortZ b (memW (u 39) 0 (u 37 2).toNat) = b := by
        unfold shortZ
        rw [if_pos (by omega)]
      rw [e] at hQ
      exact hQ
    have h20 : (2 : Int) ^ (0 : Int).toNat = 1 := rfl
    clear hQ
    (try simp only [rI_iff, rL_iff] at *)
    repeat' (with_reducible (first | assumption | apply And.intro | intro _))
    all_goals first | omega | with_reducible assumption | exact True.intro | skip
    all_goals first
      | omega
      | exact q1 (by assumption)
      | (have hs1 := hge (by assumption); omega)
      | exact hz
      | exact hs
      | exact c1
      | exact c2
      | exact c3
      | exact ht
      | exact hb2
      | trace_state
  · intro L st u hI
    obtain ⟨t, s, z, b, n, rfl, rfl, hz, hs, c1, hzr, ht, c2, c3, hb, hb2, hn, hu⟩ := hI
    simp only [↓wpN_go, jmp_e, ↓wp_aload_n0, ↓wp_bipush, ↓wp_getfield, ↓wp_goto, ↓wp_i2l, ↓wp_iadd, ↓wp_iand, ↓wp_icmp_eq, ↓wp_icmp_ge, ↓wp_icmp_le, ↓wp_icmp_ne, ↓wp_iconst, ↓wp_idiv, ↓wp_if_eq, ↓wp_if_ge, ↓wp_if_lt, ↓wp_if_ne, ↓wp_iinc, ↓wp_iload, ↓wp_iload_n1, ↓wp_iload_n2, ↓wp_iload_n3, ↓wp_imul, ↓wp_ineg, ↓wp_invokestatic, ↓wp_invokevirtual, ↓wp_ior, ↓wp_irem, ↓wp_ireturn1, ↓wp_ishl, ↓wp_ishr, ↓wp_istore, ↓wp_istore_n3, ↓wp_isub, ↓wp_sipush, wp_nil, ↓ldI_0, ↓ldI_s, ↓ldL_0, ↓ldL_s, ↓ldR_0, ↓ldR_s, sto1_0, sto1_1, sto1_s, sto2_0, sto2_1, sto2_s, isLong_i, isLong_l, isLong_r, ↓popI_c, ↓popL_c, ↓popR_c, ↓popN_0, ↓popN_s, catS_n, catS_c, psh_s, psh_n, fldV_n, fldV_s, ↓tgt_e, sw_n, ↓sw_c, ↓lk1_h, ↓lk1_m, ↓atC_h, ↓atC_m, ↓atC_n, ltO_n, ltO_s, updR_eq, updR_ne, gI_0i, gI_0l, gI_s, ltM_iff, List.cons.injEq, Sum.inl.injEq, Sum.inr.injEq, Option.some.injEq, exists_eq_left, exists_eq_left', exists_eq_right, exists_eq_right', exists_and_left, exists_and_right, exists_eq, exists_const, and_assoc, ↓j_M_behind_0, ↓j_M_behind_52, ↓j_M_behind_72, ↓j_M_behind_74, ↓j_M_behind_85, ↓j_M_behind_86, ↓j_M_behind_97, ↓j_M_behind_99, ↓j_M_behind_101, ↓j_M_behind_118, ↓j_M_behind_119, ↓j_M_behind_142, ↓j_M_behind_161, ↓j_M_behind_178, ↓j_M_behind_180, ↓j_M_behind_182, ↓j_M_behind_194, ↓j_M_behind_209, ↓j_M_behind_232, ↓f_M_112, ↓f_M_20, ↓f_M_7, List.length_cons, List.length_nil, Nat.zero_add, Nat.reduceAdd, Int.reduceAdd, Int.reduceNeg, Int.reduceToNat, Int.reduceLE, Int.reduceLT, true_and, and_true, Nat.reduceLT, reduceIte, Nat.reduceEqDiff, ne_eq, not_false_eq_true, false_implies, true_implies, Bool.false_eq_true, reduceCtorEq, List.cons_append, List.nil_append, Nat.reduceSub, Nat.reduceLeDiff, Fin.isValue, Int.reduceNatCast', Int.zero_add, Int.add_zero, decide_true, decide_false, implies_true, forall_const, true_or, or_true, or_false, false_or, false_and, and_false, Int.toNat_natCast, ↓oF_37_0, ↓oF_37_1, ↓oF_37_2, ↓oF_37_3, ↓aF_38, ↓oF_37_4, ↓aF_39, ↓oF_37_5, ↓oF_37_6, ↓aF_40, ↓oF_37_7, ↓oF_37_8, ↓aF_41, ↓oF_37_9, ↓aF_42, ↓oF_37_10, ↓aF_43, ↓oF_37_11, ↓aF_44, ↓oF_37_12, ↓aF_45, ↓oF_37_13, ↓aF_46, ↓oF_37_14, ↓aF_47, ↓oF_37_15, ↓aF_48, ↓oF_37_16, ↓aF_49, ↓oF_37_17, ↓oF_37_18, ↓aF_50, ↓oF_37_19, ↓aF_51, ↓oF_37_20, ↓aF_52, ↓oF_37_21, ↓aF_53, ↓oF_37_22, ↓aF_54, ↓oF_37_23, ↓aF_55, ↓oF_37_24, ↓aF_56, ↓oF_37_25, ↓aF_57, ↓oF_37_26, ↓oF_37_27, ↓oF_37_28, ↓aF_58, ↓oF_37_29, ↓aF_59, ↓oF_37_30, ↓aF_60, ↓oF_37_31, ↓aF_61, ↓oF_37_32, ↓oF_37_33, ↓oF_37_34, ↓oF_37_35, ↓aF_62, ↓oF_37_36, ↓oF_37_37, ↓aF_63, ↓oF_37_38, ↓oF_37_39, ↓aF_64, ↓oF_37_40, ↓aF_65, ↓oF_37_41, ↓aF_66, oC_0, oC_1, oC_4, oC_11, oC_16, oC_18, oC_20, oC_23, oC_25, oC_26, oC_29, oC_31, oC_33, oC_35, oC_37, isT_29, isT_31, isT_33, isT_35, isL_16, isL_18, isL_26, b2i_0, b2i_1, b2i_01, b2i_r, ↓e_M_in, ↓e_M_endsBanned, ↓e_M_longest, ↓e_M_codeOf]
    have hk1 := hB.1
    have hw1 := hB.2.1
    have hl1 := hB.2.2
    have hlp : lastP c < 64 ∧ 0 ≤ seenP c ∧ seenP c ≤ 1 ∧ 0 ≤ zerP c ∧ zerP c ≤ 8 ∧ -5 ≤ tP c ∧ tP c ≤ 5 := by
      unfold lastP seenP zerP tP
      omega
    subst hu
    have hm := memW_r (k := 0) (by omega) hw1 (u 37 2).toNat (by have := hw1.1; omega)
    have hn9 : n ≤ 9 := by
      apply Classical.byContradiction
      intro hc
      have h3 := p2_le (show 10 ≤ n.toNat by omega)
      have h4 : (2 : Int) ^ 10 = 1024 := by decide
      omega
    have hp := p2_pos n.toNat
    have hdv : 0 ≤ b / 2 ^ n.toNat ∧ b / 2 ^ n.toNat ≤ b := ⟨Int.ediv_nonneg (by omega) (by omega), Int.ediv_le_self _ (by omega)⟩
    have hlt := fun h => log_lt (g := b) (n := n.toNat) h
    have hge := fun h => log_ge (g := b) (n := n.toNat) h
    have e1 : (n + 1).toNat = n.toNat + 1 := by omega
    have hq : b / 2 ^ n.toNat ≤ 1 → iorZ (iandZ b (1 * 2 ^ (n - 1).toNat - 1)) (1 * 2 ^ (n - 1).toNat) = 2 ^ (n - 1).toNat + b % 2 ^ (n - 1).toNat ∧ 1 ≤ n ∧ 1 ≤ 2 ^ (n - 1).toNat + b % 2 ^ (n - 1).toNat ∧ 2 ^ (n - 1).toNat + b % 2 ^ (n - 1).toNat < b ∧ shortZ (2 ^ (n - 1).toNat + b % 2 ^ (n - 1).toNat) (memW (u 39) 0 (u 37 2).toNat) = shortZ b (memW (u 39) 0 (u 37 2).toNat) := fun h => by
      have h3 := hlt h
      have h4 : (memW (u 39) 0 (u 37 2).toNat).toNat < n.toNat := by
        apply Classical.byContradiction
        intro hc
        have h5 := p2_le (show n.toNat + 1 ≤ (memW (u 39) 0 (u 37 2).toNat).toNat + 1 by omega)
        rw [Int.pow_succ 2 (memW (u 39) 0 (u 37 2).toNat).toNat] at h5
        omega
      have hpn := p2_pos (n - 1).toNat
      have h6 := Int.emod_nonneg b (b := 2 ^ (n - 1).toNat) (by omega)
      have h7 := Int.emod_lt_of_pos b (b := 2 ^ (n - 1).toNat) (by omega)
      have h8 : (2 : Int) ^ n.toNat = 2 ^ (n - 1).toNat * 2 := by rw [← Int.pow_succ]; congr 1; omega
      have h9 := short_cut (g := b) (n := n.toNat) (mo := (memW (u 39) 0 (u 37 2).toNat).toNat) hn.2 h3 h4
      rw [show n.toNat - 1 = (n - 1).toNat by omega, Int.toNat_of_nonneg hm.1] at h9
      refine ⟨?_, by omega, by omega, by omega, h9⟩
      rw [Int.one_mul, iandZ_mask b _ (by omega), or_low (by omega) ⟨h6, h7⟩]
    clear hQ
    rw [e1]
    by_cases hcc : b / 2 ^ n.toNat ≤ 1
    · obtain ⟨g1, g2, g3, g4, g5⟩ := hq hcc
      rw [g1]
      (try simp only [rI_iff, rL_iff] at *)
      repeat' (with_reducible (first | assumption | apply And.intro | intro _))
      all_goals first | omega | with_reducible assumption | exact True.intro | skip
      all_goals first
        | omega
        | exact hz
        | exact hs
        | exact c1
        | exact c2
        | exact c3
        | exact ht
        | (rw [g5]; exact hb2)
        | trace_state
    · have hge := hge (by omega)
      (try simp only [rI_iff, rL_iff] at *)
      repeat' (with_reducible (first | assumption | apply And.intro | intro _))
      all_goals first | omega | with_reducible assumption | exact True.intro | skip
      all_goals first
        | omega
        | exact hge
        | exact hz
        | exact hs
        | exact c1
        | exact c2
        | exact c3
        | exact ht
        | exact hb2
        | trace_state
