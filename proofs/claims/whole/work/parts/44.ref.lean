/-! the reference: arguments, bans, its wire -/
def gM (σ : St) : Nat → Int := fun π => if π % 2 = 0 then σ 50 (π / 2) else σ 51 (π / 2)
theorem gM_0 (σ : St) {i : Int} (h : 0 ≤ i) : gM σ (2 * i + 0).toNat = σ 50 i.toNat := by
  unfold gM
  rw [if_pos (by omega)]
  congr 1
  omega
theorem gM_1 (σ : St) {i : Int} (h : 0 ≤ i) : gM σ (2 * i + 1).toNat = σ 51 i.toNat := by
  unfold gM
  rw [if_neg (by omega)]
  congr 1
  omega
theorem gM_r0 {σ : St} {N : Int} (h : Wire N (gM σ)) {i : Nat} (hi : (i : Int) < N) : -1 ≤ σ 50 i ∧ σ 50 i < N := by
  have := h (2 * i) (by omega)
  unfold gM at this
  rw [if_pos (by omega), show 2 * i / 2 = i by omega] at this
  exact this
theorem gM_r1 {σ : St} {N : Int} (h : Wire N (gM σ)) {i : Nat} (hi : (i : Int) < N) : -1 ≤ σ 51 i ∧ σ 51 i < N := by
  have := h (2 * i + 1) (by omega)
  unfold gM at this
  rw [if_neg (by omega), show (2 * i + 1) / 2 = i by omega] at this
  exact this
def toldM (σ : St) (what : Int) : Int := if 10 ≤ what ∧ what ≤ 9 + σ 37 2 then σ 38 (what - 10).toNat else if 20 ≤ what ∧ what ≤ 19 + σ 37 2 then σ 39 (what - 20).toNat else if what = 0 then σ 37 0 else if what = 1 then σ 37 1 else if what = 2 then σ 37 2 else if what = 3 then σ 37 5 else -2
def s_M_in : Spec := fun as σ Q => popL as fun v r0 => popL r0 fun a r1 => popL r1 fun b r2 => r2 = [] ∧ (rL v) ∧ (rL a) ∧ (rL b) ∧ Q (some (.inl (b2i (a ≤ v ∧ v ≤ b)))) σ
theorem e_M_in (v : Int) (a : Int) (b : Int) (σ : St) (Q : Option AV → St → Prop) : s_M_in [.inr (.inl v), .inr (.inl a), .inr (.inl b)] σ Q = ((rL v) ∧ (rL a) ∧ (rL b) ∧ Q (some (.inl (b2i (a ≤ v ∧ v ≤ b)))) σ) := by
  show ([] = [] ∧ _) = _
  simp only [true_and]
set_option maxHeartbeats 4000000 in
set_option maxRecDepth 20000 in
theorem S_M_in {l : Launch} : Sat l y_M_in b_M_in 6 (some .boolean) 0 s_M_in := by
  refine sat_of (Φ := P_M) (κ := Q_M) (Γ := []) (rt := 3) (by decide +kernel) P_M_ok Q_M_ok (fun g hg => absurd hg List.not_mem_nil) (by simp) o_M_in ?_
  intro as σ Q hh0
  obtain ⟨v, rr0, rfl, hh1⟩ := popL_inv hh0
  obtain ⟨a, rr1, rfl, hh2⟩ := popL_inv hh1
  obtain ⟨b, rr2, rfl, hh3⟩ := popL_inv hh2
  obtain ⟨hrE, hv, ha, hb, hQ⟩ := hh3
  subst hrE
  clear hh0 hh1 hh2
  refine ⟨Nat.le_of_ble_eq_true rfl, [], 14, ?_, cuts0⟩
  · rw [show entL 6 [.inr (.inl v), .inr (.inl a), .inr (.inl b)] = [.inr (.inl v), .inr (.inr none), .inr (.inl a), .inr (.inr none), .inr (.inl b), .inr (.inr none)] from rfl]
    simp only [↓wpN_go, jmp_e, ↓wp_goto, ↓wp_iconst, ↓wp_if_gt, ↓wp_if_lt, ↓wp_ireturn3, ↓wp_lcmp, ↓wp_lload, ↓wp_lload_n0, ↓wp_lload_n2, wp_nil, ↓ldI_0, ↓ldI_s, ↓ldL_0, ↓ldL_s, ↓ldR_0, ↓ldR_s, sto1_0, sto1_1, sto1_s, sto2_0, sto2_1, sto2_s, isLong_i, isLong_l, isLong_r, ↓popI_c, ↓popL_c, ↓popR_c, ↓popN_0, ↓popN_s, catS_n, catS_c, psh_s, psh_n, fldV_n, fldV_s, ↓tgt_e, sw_n, ↓sw_c, ↓lk1_h, ↓lk1_m, ↓atC_h, ↓atC_m, ↓atC_n, ltO_n, ltO_s, updR_eq, updR_ne, gI_0i, gI_0l, gI_s, ltM_iff, List.cons.injEq, Sum.inl.injEq, Sum.inr.injEq, Option.some.injEq, exists_eq_left, exists_eq_left', exists_eq_right, exists_eq_right', exists_and_left, exists_and_right, exists_eq, exists_const, and_assoc, ↓j_M_in_0, ↓j_M_in_17, ↓j_M_in_18, List.length_cons, List.length_nil, Nat.zero_add, Nat.reduceAdd, Int.reduceAdd, Int.reduceNeg, Int.reduceToNat, Int.reduceLE, Int.reduceLT, true_and, and_true, Nat.reduceLT, reduceIte, Nat.reduceEqDiff, ne_eq, not_false_eq_true, false_implies, true_implies, Bool.false_eq_true, reduceCtorEq, List.cons_append, List.nil_append, Nat.reduceSub, Nat.reduceLeDiff, Fin.isValue, Int.reduceNatCast', Int.zero_add, Int.add_zero, decide_true, decide_false, implies_true, forall_const, true_or, or_true, or_false, false_or, false_and, and_false, Int.toNat_natCast, ↓oF_37_0, ↓oF_37_1, ↓oF_37_2, ↓oF_37_3, ↓aF_38, ↓oF_37_4, ↓aF_39, ↓oF_37_5, ↓oF_37_6, ↓aF_40, ↓oF_37_7, ↓oF_37_8, ↓aF_41, ↓oF_37_9, ↓aF_42, ↓oF_37_10, ↓aF_43, ↓oF_37_11, ↓aF_44, ↓oF_37_12, ↓aF_45, ↓oF_37_13, ↓aF_46, ↓oF_37_14, ↓aF_47, ↓oF_37_15, ↓aF_48, ↓oF_37_16, ↓aF_49, ↓oF_37_17, ↓oF_37_18, ↓aF_50, ↓oF_37_19, ↓aF_51, ↓oF_37_20, ↓aF_52, ↓oF_37_21, ↓aF_53, ↓oF_37_22, ↓aF_54, ↓oF_37_23, ↓aF_55, ↓oF_37_24, ↓aF_56, ↓oF_37_25, ↓aF_57, ↓oF_37_26, ↓oF_37_27, ↓oF_37_28, ↓aF_58, ↓oF_37_29, ↓aF_59, ↓oF_37_30, ↓aF_60, ↓oF_37_31, ↓aF_61, ↓oF_37_32, ↓oF_37_33, ↓oF_37_34, ↓oF_37_35, ↓aF_62, ↓oF_37_36, ↓oF_37_37, ↓aF_63, ↓oF_37_38, ↓oF_37_39, ↓aF_64, ↓oF_37_40, ↓aF_65, ↓oF_37_41, ↓aF_66, oC_0, oC_1, oC_4, oC_11, oC_16, oC_18, oC_20, oC_23, oC_25, oC_26, oC_29, oC_31, oC_33, oC_35, oC_37, isT_29, isT_31, isT_33, isT_35, isL_16, isL_18, isL_26, b2i_0, b2i_1, b2i_01, b2i_r, cmpZ_r, cmpZ_lt, cmpZ_le, cmpZ_gt, cmpZ_ge]
    (try simp only [rI_iff, rL_iff] at *)
    repeat' (first | assumption | apply And.intro | intro _)
    all_goals first
      | omega
      | (refine st_ext fun k j => ?_; grind [updR_app, up1_app, b2i])
      | (refine Q_eq hQ ?_ ?_ <;> first | rfl | (refine st_ext fun k j => ?_; grind [updR_app, up1_app, b2i]) | grind [updR_app, up1_app, b2i])
      | grind [updR_app, up1_app, b2i]
def s_M_runs : Spec := fun as σ Q => popR as fun c0 r0 => popI r0 fun d r1 => popI r1 fun k r2 => r2 = [] ∧ c0 = 37 ∧ (rI d) ∧ (rI k) ∧ if (d = 0 ∧ k = -1) ∨ (0 ≤ k ∧ k ≤ 7 ∧ 0 ≤ d ∧ d ≤ k) then Q (some (.inl 1)) (updR σ 37 (up1 (up1 (σ 37) 0 d) 1 k)) else Q (some (.inl (-2))) σ
theorem e_M_runs (d : Int) (k : Int) (σ : St) (Q : Option AV → St → Prop) : s_M_runs [.inr (.inr (some 37)), .inl d, .inl k] σ Q = ((rI d) ∧ (rI k) ∧ if (d = 0 ∧ k = -1) ∨ (0 ≤ k ∧ k ≤ 7 ∧ 0 ≤ d ∧ d ≤ k) then Q (some (.inl 1)) (updR σ 37 (up1 (up1 (σ 37) 0 d) 1 k)) else Q (some (.inl (-2))) σ) := by
  show ([] = [] ∧ _) = _
  simp only [true_and]
set_option maxHeartbeats 4000000 in
set_option maxRecDepth 20000 in
theorem S_M_runs {l : Launch} : Sat l y_M_runs b_M_runs 4 (some .int) 1 s_M_runs := by
  refine sat_of (Φ := P_M) (κ := Q_M) (Γ := [(108, 0, 3, s_M_in)]) (rt := 1) (by decide +kernel) P_M_ok Q_M_ok (by
    refine List.forall_mem_cons.mpr ⟨?_, fun _ h => absurd h List.not_mem_nil⟩
    · exact m_M_in S_M_in (by decide) l_M_108) (by simp) o_M_runs ?_
  intro as σ Q hh0
  obtain ⟨c0, rr0, rfl, hh1⟩ := popR_inv hh0
  obtain ⟨d, rr1, rfl, hh2⟩ := popI_inv hh1
  obtain ⟨k, rr2, rfl, hh3⟩ := popI_inv hh2
  obtain ⟨hrE, rfl, hrd, hrk, hQ⟩ := hh3
  subst hrE
  clear hh0 hh1 hh2
  refine ⟨Nat.le_of_ble_eq_true rfl, [], 14, ?_, cuts0⟩
  · rw [show entL 4 [.inr (.inr (some 37)), .inl d, .inl k] = [.inr (.inr (some 37)), .inl d, .inl k, .inr (.inr none)] from rfl]
    simp only [↓wpN_go, jmp_e, ↓wp_aload_n0, ↓wp_bipush, ↓wp_goto, ↓wp_i2l, ↓wp_icmp_ne, ↓wp_iconst, ↓wp_if_eq, ↓wp_if_ne, ↓wp_iload_n1, ↓wp_iload_n2, ↓wp_iload_n3, ↓wp_invokestatic, ↓wp_ireturn1, ↓wp_istore_n3, ↓wp_lconst0, ↓wp_ldc2_w, ↓wp_putfield, wp_nil, ↓ldI_0, ↓ldI_s, ↓ldL_0, ↓ldL_s, ↓ldR_0, ↓ldR_s, sto1_0, sto1_1, sto1_s, sto2_0, sto2_1, sto2_s, isLong_i, isLong_l, isLong_r, ↓popI_c, ↓popL_c, ↓popR_c, ↓popN_0, ↓popN_s, catS_n, catS_c, psh_s, psh_n, fldV_n, fldV_s, ↓tgt_e, sw_n, ↓sw_c, ↓lk1_h, ↓lk1_m, ↓atC_h, ↓atC_m, ↓atC_n, ltO_n, ltO_s, updR_eq, updR_ne, gI_0i, gI_0l, gI_s, ltM_iff, List.cons.injEq, Sum.inl.injEq, Sum.inr.injEq, Option.some.injEq, exists_eq_left, exists_eq_left', exists_eq_right, exists_eq_right', exists_and_left, exists_and_right, exists_eq, exists_const, and_assoc, ↓j_M_runs_0, ↓j_M_runs_13, ↓j_M_runs_14, ↓j_M_runs_42, ↓j_M_runs_45, ↓c_M_100106, ↓f_M_112, ↓f_M_7, List.length_cons, List.length_nil, Nat.zero_add, Nat.reduceAdd, Int.reduceAdd, Int.reduceNeg, Int.reduceToNat, Int.reduceLE, Int.reduceLT, true_and, and_true, Nat.reduceLT, reduceIte, Nat.reduceEqDiff, ne_eq, not_false_eq_true, false_implies, true_implies, Bool.false_eq_true, reduceCtorEq, List.cons_append, List.nil_append, Nat.reduceSub, Nat.reduceLeDiff, Fin.isValue, Int.reduceNatCast', Int.zero_add, Int.add_zero, decide_true, decide_false, implies_true, forall_const, true_or, or_true, or_false, false_or, false_and, and_false, Int.toNat_natCast, ↓oF_37_0, ↓oF_37_1, ↓oF_37_2, ↓oF_37_3, ↓aF_38, ↓oF_37_4, ↓aF_39, ↓oF_37_5, ↓oF_37_6, ↓aF_40, ↓oF_37_7, ↓oF_37_8, ↓aF_41, ↓oF_37_9, ↓aF_42, ↓oF_37_10, ↓aF_43, ↓oF_37_11, ↓aF_44, ↓oF_37_12, ↓aF_45, ↓oF_37_13, ↓aF_46, ↓oF_37_14, ↓aF_47, ↓oF_37_15, ↓aF_48, ↓oF_37_16, ↓aF_49, ↓oF_37_17, ↓oF_37_18, ↓aF_50, ↓oF_37_19, ↓aF_51, ↓oF_37_20, ↓aF_52, ↓oF_37_21, ↓aF_53, ↓oF_37_22, ↓aF_54, ↓oF_37_23, ↓aF_55, ↓oF_37_24, ↓aF_56, ↓oF_37_25, ↓aF_57, ↓oF_37_26, ↓oF_37_27, ↓oF_37_28, ↓aF_58, ↓oF_37_29, ↓aF_59, ↓oF_37_30, ↓aF_60, ↓oF_37_31, ↓aF_61, ↓oF_37_32, ↓oF_37_33, ↓oF_37_34, ↓oF_37_35, ↓aF_62, ↓oF_37_36, ↓oF_37_37, ↓aF_63, ↓oF_37_38, ↓oF_37_39, ↓aF_64, ↓oF_37_40, ↓aF_65, ↓oF_37_41, ↓aF_66, oC_0, oC_1, oC_4, oC_11, oC_16, oC_18, oC_20, oC_23, oC_25, oC_26, oC_29, oC_31, oC_33, oC_35, oC_37, isT_29, isT_31, isT_33, isT_35, isL_16, isL_18, isL_26, b2i_0, b2i_1, b2i_01, b2i_r, ↓e_M_in]
    simp only [updR_twice]
    (try simp only [rI_iff, rL_iff] at *)
    repeat' (with_reducible (first | assumption | apply And.intro | intro _))
    all_goals first | omega | with_reducible assumption | exact True.intro | skip
    all_goals grind
def s_M_word : Spec := fun as σ Q => popR as fun c0 r0 => popI r0 fun w r1 => popI r1 fun n r2 => r2 = [] ∧ c0 = 37 ∧ (rI w) ∧ (rI n) ∧ (0 ≤ σ 37 2 ∧ σ 37 2 ≤ 4) ∧ if 1 ≤ n ∧ n ≤ 6 ∧ 0 ≤ w ∧ w < 2 ^ n.toNat then (if σ 37 2 < 4 then Q (some (.inl (σ 37 2 + 1))) (updR (updR (updR σ 38 (up1 (σ 38) (σ 37 2).toNat w)) 39 (up1 (σ 39) (σ 37 2).toNat n)) 37 (up1 (σ 37) 2 (σ 37 2 + 1))) else Q (some (.inl (-4))) σ) else Q (some (.inl (-2))) σ
theorem e_M_word (w : Int) (n : Int) (σ : St) (Q : Option AV → St → Prop) : s_M_word [.inr (.inr (some 37)), .inl w, .inl n] σ Q = ((rI w) ∧ (rI n) ∧ (0 ≤ σ 37 2 ∧ σ 37 2 ≤ 4) ∧ if 1 ≤ n ∧ n ≤ 6 ∧ 0 ≤ w ∧ w < 2 ^ n.toNat then (if σ 37 2 < 4 then Q (some (.inl (σ 37 2 + 1))) (updR (updR (updR σ 38 (up1 (σ 38) (σ 37 2).toNat w)) 39 (up1 (σ 39) (σ 37 2).toNat n)) 37 (up1 (σ 37) 2 (σ 37 2 + 1))) else Q (some (.inl (-4))) σ) else Q (some (.inl (-2))) σ) := by
  show ([] = [] ∧ _) = _
  simp only [true_and]
set_option maxHeartbeats 4000000 in
set_option maxRecDepth 20000 in
theorem S_M_word {l : Launch} : Sat l y_M_word b_M_word 3 (some .int) 1 s_M_word := by
  refine sat_of (Φ := P_M) (κ := Q_M) (Γ := [(108, 0, 3, s_M_in)]) (rt := 1) (by decide +kernel) P_M_ok Q_M_ok (by
    refine List.forall_mem_cons.mpr ⟨?_, fun _ h => absurd h List.not_mem_nil⟩
    · exact m_M_in S_M_in (by decide) l_M_108) (by simp) o_M_word ?_
  intro as σ Q hh0
  obtain ⟨c0, rr0, rfl, hh1⟩ := popR_inv hh0
  obtain ⟨w, rr1, rfl, hh2⟩ := popI_inv hh1
  obtain ⟨n, rr2, rfl, hh3⟩ := popI_inv hh2
  obtain ⟨hrE, rfl, hrw, hrn, h1, hQ⟩ := hh3
  subst hrE
  clear hh0 hh1 hh2
  refine ⟨Nat.le_of_ble_eq_true rfl, [], 14, ?_, cuts0⟩
  · rw [show entL 3 [.inr (.inr (some 37)), .inl w, .inl n] = [.inr (.inr (some 37)), .inl w, .inl n] from rfl]
    simp only [↓wpN_go, jmp_e, ↓wp_aload_n0, ↓wp_bipush, ↓wp_dup, ↓wp_getfield, ↓wp_i2l, ↓wp_iadd, ↓wp_iastore, ↓wp_icmp_ne, ↓wp_iconst, ↓wp_if_eq, ↓wp_if_ne, ↓wp_iload_n1, ↓wp_iload_n2, ↓wp_invokestatic, ↓wp_ireturn1, ↓wp_ishl, ↓wp_isub, ↓wp_lconst0, ↓wp_lconst1, ↓wp_ldc2_w, ↓wp_putfield, wp_nil, ↓ldI_0, ↓ldI_s, ↓ldL_0, ↓ldL_s, ↓ldR_0, ↓ldR_s, sto1_0, sto1_1, sto1_s, sto2_0, sto2_1, sto2_s, isLong_i, isLong_l, isLong_r, ↓popI_c, ↓popL_c, ↓popR_c, ↓popN_0, ↓popN_s, catS_n, catS_c, psh_s, psh_n, fldV_n, fldV_s, ↓tgt_e, sw_n, ↓sw_c, ↓lk1_h, ↓lk1_m, ↓atC_h, ↓atC_m, ↓atC_n, ltO_n, ltO_s, updR_eq, updR_ne, gI_0i, gI_0l, gI_s, ltM_iff, List.cons.injEq, Sum.inl.injEq, Sum.inr.injEq, Option.some.injEq, exists_eq_left, exists_eq_left', exists_eq_right, exists_eq_right', exists_and_left, exists_and_right, exists_eq, exists_const, and_assoc, ↓j_M_word_0, ↓j_M_word_27, ↓j_M_word_30, ↓j_M_word_41, ↓c_M_100115, ↓f_M_117, ↓f_M_13, ↓f_M_17, List.length_cons, List.length_nil, Nat.zero_add, Nat.reduceAdd, Int.reduceAdd, Int.reduceNeg, Int.reduceToNat, Int.reduceLE, Int.reduceLT, true_and, and_true, Nat.reduceLT, reduceIte, Nat.reduceEqDiff, ne_eq, not_false_eq_true, false_implies, true_implies, Bool.false_eq_true, reduceCtorEq, List.cons_append, List.nil_append, Nat.reduceSub, Nat.reduceLeDiff, Fin.isValue, Int.reduceNatCast', Int.zero_add, Int.add_zero, decide_true, decide_false, implies_true, forall_const, true_or, or_true, or_false, false_or, false_and, and_false, Int.toNat_natCast, ↓oF_37_0, ↓oF_37_1, ↓oF_37_2, ↓oF_37_3, ↓aF_38, ↓oF_37_4, ↓aF_39, ↓oF_37_5, ↓oF_37_6, ↓aF_40, ↓oF_37_7, ↓oF_37_8, ↓aF_41, ↓oF_37_9, ↓aF_42, ↓oF_37_10, ↓aF_43, ↓oF_37_11, ↓aF_44, ↓oF_37_12, ↓aF_45, ↓oF_37_13, ↓aF_46, ↓oF_37_14, ↓aF_47, ↓oF_37_15, ↓aF_48, ↓oF_37_16, ↓aF_49, ↓oF_37_17, ↓oF_37_18, ↓aF_50, ↓oF_37_19, ↓aF_51, ↓oF_37_20, ↓aF_52, ↓oF_37_21, ↓aF_53, ↓oF_37_22, ↓aF_54, ↓oF_37_23, ↓aF_55, ↓oF_37_24, ↓aF_56, ↓oF_37_25, ↓aF_57, ↓oF_37_26, ↓oF_37_27, ↓oF_37_28, ↓aF_58, ↓oF_37_29, ↓aF_59, ↓oF_37_30, ↓aF_60, ↓oF_37_31, ↓aF_61, ↓oF_37_32, ↓oF_37_33, ↓oF_37_34, ↓oF_37_35, ↓aF_62, ↓oF_37_36, ↓oF_37_37, ↓aF_63, ↓oF_37_38, ↓oF_37_39, ↓aF_64, ↓oF_37_40, ↓aF_65, ↓oF_37_41, ↓aF_66, oC_0, oC_1, oC_4, oC_11, oC_16, oC_18, oC_20, oC_23, oC_25, oC_26, oC_29, oC_31, oC_33, oC_35, oC_37, isT_29, isT_31, isT_33, isT_35, isL_16, isL_18, isL_26, b2i_0, b2i_1, b2i_01, b2i_r, ↓e_M_in]
    have hp : 1 ≤ n → n ≤ 6 → (1 : Int) ≤ 2 ^ n.toNat ∧ (2 : Int) ^ n.toNat ≤ 256 := fun a b => pow8 ⟨by omega, by omega⟩
    rw [Int.one_mul]
    simp only [up1_eq]
    generalize (2 : Int) ^ n.toNat = p at *
    (try simp only [rI_iff, rL_iff] at *)
    repeat' (with_reducible (first | assumption | apply And.intro | intro _))
    all_goals first | omega | with_reducible assumption | exact True.intro | skip
    all_goals grind
def s_M_clearWords : Spec := fun as σ Q => popR as fun c0 r0 => r0 = [] ∧ c0 = 37 ∧ Q (some (.inl (σ 37 2))) (updR σ 37 (up1 (σ 37) 2 0))
theorem e_M_clearWords  (σ : St) (Q : Option AV → St → Prop) : s_M_clearWords [.inr (.inr (some 37))] σ Q = (Q (some (.inl (σ 37 2))) (updR σ 37 (up1 (σ 37) 2 0))) := by
  show ([] = [] ∧ _) = _
  simp only [true_and]
set_option maxHeartbeats 4000000 in
set_option maxRecDepth 20000 in
theorem S_M_clearWords {l : Launch} : Sat l y_M_clearWords b_M_clearWords 2 (some .int) 0 s_M_clearWords := by
  refine sat_of (Φ := P_M) (κ := Q_M) (Γ := []) (rt := 1) (by decide +kernel) P_M_ok Q_M_ok (fun g hg => absurd hg List.not_mem_nil) (by simp) o_M_clearWords ?_
  intro as σ Q hh0
  obtain ⟨c0, rr0, rfl, hh1⟩ := popR_inv hh0
  obtain ⟨hrE, rfl, hQ⟩ := hh1
  subst hrE
  clear hh0
  refine ⟨Nat.le_of_ble_eq_true rfl, [], 14, ?_, cuts0⟩
  · rw [show entL 2 [.inr (.inr (some 37))] = [.inr (.inr (some 37)), .inr (.inr none)] from rfl]
    simp only [↓wpN_go, jmp_e, ↓wp_aload_n0, ↓wp_getfield, ↓wp_iconst, ↓wp_iload_n1, ↓wp_ireturn1, ↓wp_istore_n1, ↓wp_putfield, wp_nil, ↓ldI_0, ↓ldI_s, ↓ldL_0, ↓ldL_s, ↓ldR_0, ↓ldR_s, sto1_0, sto1_1, sto1_s, sto2_0, sto2_1, sto2_s, isLong_i, isLong_l, isLong_r, ↓popI_c, ↓popL_c, ↓popR_c, ↓popN_0, ↓popN_s, catS_n, catS_c, psh_s, psh_n, fldV_n, fldV_s, ↓tgt_e, sw_n, ↓sw_c, ↓lk1_h, ↓lk1_m, ↓atC_h, ↓atC_m, ↓atC_n, ltO_n, ltO_s, updR_eq, updR_ne, gI_0i, gI_0l, gI_s, ltM_iff, List.cons.injEq, Sum.inl.injEq, Sum.inr.injEq, Option.some.injEq, exists_eq_left, exists_eq_left', exists_eq_right, exists_eq_right', exists_and_left, exists_and_right, exists_eq, exists_const, and_assoc, ↓j_M_clearWords_0, ↓f_M_117, List.length_cons, List.length_nil, Nat.zero_add, Nat.reduceAdd, Int.reduceAdd, Int.reduceNeg, Int.reduceToNat, Int.reduceLE, Int.reduceLT, true_and, and_true, Nat.reduceLT, reduceIte, Nat.reduceEqDiff, ne_eq, not_false_eq_true, false_implies, true_implies, Bool.false_eq_true, reduceCtorEq, List.cons_append, List.nil_append, Nat.reduceSub, Nat.reduceLeDiff, Fin.isValue, Int.reduceNatCast', Int.zero_add, Int.add_zero, decide_true, decide_false, implies_true, forall_const, true_or, or_true, or_false, false_or, false_and, and_false, Int.toNat_natCast, ↓oF_37_0, ↓oF_37_1, ↓oF_37_2, ↓oF_37_3, ↓aF_38, ↓oF_37_4, ↓aF_39, ↓oF_37_5, ↓oF_37_6, ↓aF_40, ↓oF_37_7, ↓oF_37_8, ↓aF_41, ↓oF_37_9, ↓aF_42, ↓oF_37_10, ↓aF_43, ↓oF_37_11, ↓aF_44, ↓oF_37_12, ↓aF_45, ↓oF_37_13, ↓aF_46, ↓oF_37_14, ↓aF_47, ↓oF_37_15, ↓aF_48, ↓oF_37_16, ↓aF_49, ↓oF_37_17, ↓oF_37_18, ↓aF_50, ↓oF_37_19, ↓aF_51, ↓oF_37_20, ↓aF_52, ↓oF_37_21, ↓aF_53, ↓oF_37_22, ↓aF_54, ↓oF_37_23, ↓aF_55, ↓oF_37_24, ↓aF_56, ↓oF_37_25, ↓aF_57, ↓oF_37_26, ↓oF_37_27, ↓oF_37_28, ↓aF_58, ↓oF_37_29, ↓aF_59, ↓oF_37_30, ↓aF_60, ↓oF_37_31, ↓aF_61, ↓oF_37_32, ↓oF_37_33, ↓oF_37_34, ↓oF_37_35, ↓aF_62, ↓oF_37_36, ↓oF_37_37, ↓aF_63, ↓oF_37_38, ↓oF_37_39, ↓aF_64, ↓oF_37_40, ↓aF_65, ↓oF_37_41, ↓aF_66, oC_0, oC_1, oC_4, oC_11, oC_16, oC_18, oC_20, oC_23, oC_25, oC_26, oC_29, oC_31, oC_33, oC_35, oC_37, isT_29, isT_31, isT_33, isT_35, isL_16, isL_18, isL_26, b2i_0, b2i_1, b2i_01, b2i_r]
    (try simp only [rI_iff, rL_iff] at *)
    repeat' (first | assumption | apply And.intro | intro _)
    all_goals first
      | omega
      | (refine st_ext fun k j => ?_; grind [updR_app, up1_app, b2i])
      | (refine Q_eq hQ ?_ ?_ <;> first | rfl | (refine st_ext fun k j => ?_; grind [updR_app, up1_app, b2i]) | grind [updR_app, up1_app, b2i])
      | grind [updR_app, up1_app, b2i]
def s_M_lean : Spec := fun as σ Q => popR as fun c0 r0 => popI r0 fun v r1 => r1 = [] ∧ c0 = 37 ∧ (rI v) ∧ if -1 ≤ v ∧ v ≤ 5 then Q (some (.inl 1)) (updR σ 37 (up1 (σ 37) 5 v)) else Q (some (.inl (-2))) σ
theorem e_M_lean (v : Int) (σ : St) (Q : Option AV → St → Prop) : s_M_lean [.inr (.inr (some 37)), .inl v] σ Q = ((rI v) ∧ if -1 ≤ v ∧ v ≤ 5 then Q (some (.inl 1)) (updR σ 37 (up1 (σ 37) 5 v)) else Q (some (.inl (-2))) σ) := by
  show ([] = [] ∧ _) = _
  simp only [true_and]
set_option maxHeartbeats 4000000 in
set_option maxRecDepth 20000 in
theorem S_M_lean {l : Launch} : Sat l y_M_lean b_M_lean 2 (some .int) 1 s_M_lean := by
  refine sat_of (Φ := P_M) (κ := Q_M) (Γ := [(108, 0, 3, s_M_in)]) (rt := 1) (by decide +kernel) P_M_ok Q_M_ok (by
    refine List.forall_mem_cons.mpr ⟨?_, fun _ h => absurd h List.not_mem_nil⟩
    · exact m_M_in S_M_in (by decide) l_M_108) (by simp) o_M_lean ?_
  intro as σ Q hh0
  obtain ⟨c0, rr0, rfl, hh1⟩ := popR_inv hh0
  obtain ⟨v, rr1, rfl, hh2⟩ := popI_inv hh1
  obtain ⟨hrE, rfl, hrv, hQ⟩ := hh2
  subst hrE
  clear hh0 hh1
  refine ⟨Nat.le_of_ble_eq_true rfl, [], 14, ?_, cuts0⟩
  · rw [show entL 2 [.inr (.inr (some 37)), .inl v] = [.inr (.inr (some 37)), .inl v] from rfl]
    simp only [↓wpN_go, jmp_e, ↓wp_aload_n0, ↓wp_bipush, ↓wp_i2l, ↓wp_iconst, ↓wp_if_ne, ↓wp_iload_n1, ↓wp_invokestatic, ↓wp_ireturn1, ↓wp_ldc2_w, ↓wp_putfield, wp_nil, ↓ldI_0, ↓ldI_s, ↓ldL_0, ↓ldL_s, ↓ldR_0, ↓ldR_s, sto1_0, sto1_1, sto1_s, sto2_0, sto2_1, sto2_s, isLong_i, isLong_l, isLong_r, ↓popI_c, ↓popL_c, ↓popR_c, ↓popN_0, ↓popN_s, catS_n, catS_c, psh_s, psh_n, fldV_n, fldV_s, ↓tgt_e, sw_n, ↓sw_c, ↓lk1_h, ↓lk1_m, ↓atC_h, ↓atC_m, ↓atC_n, ltO_n, ltO_s, updR_eq, updR_ne, gI_0i, gI_0l, gI_s, ltM_iff, List.cons.injEq, Sum.inl.injEq, Sum.inr.injEq, Option.some.injEq, exists_eq_left, exists_eq_left', exists_eq_right, exists_eq_right', exists_and_left, exists_and_right, exists_eq, exists_const, and_assoc, ↓j_M_lean_0, ↓j_M_lean_17, ↓c_M_100120, ↓c_M_100122, ↓f_M_20, List.length_cons, List.length_nil, Nat.zero_add, Nat.reduceAdd, Int.reduceAdd, Int.reduceNeg, Int.reduceToNat, Int.reduceLE, Int.reduceLT, true_and, and_true, Nat.reduceLT, reduceIte, Nat.reduceEqDiff, ne_eq, not_false_eq_true, false_implies, true_implies, Bool.false_eq_true, reduceCtorEq, List.cons_append, List.nil_append, Nat.reduceSub, Nat.reduceLeDiff, Fin.isValue, Int.reduceNatCast', Int.zero_add, Int.add_zero, decide_true, decide_false, implies_true, forall_const, true_or, or_true, or_false, false_or, false_and, and_false, Int.toNat_natCast, ↓oF_37_0, ↓oF_37_1, ↓oF_37_2, ↓oF_37_3, ↓aF_38, ↓oF_37_4, ↓aF_39, ↓oF_37_5, ↓oF_37_6, ↓aF_40, ↓oF_37_7, ↓oF_37_8, ↓aF_41, ↓oF_37_9, ↓aF_42, ↓oF_37_10, ↓aF_43, ↓oF_37_11, ↓aF_44, ↓oF_37_12, ↓aF_45, ↓oF_37_13, ↓aF_46, ↓oF_37_14, ↓aF_47, ↓oF_37_15, ↓aF_48, ↓oF_37_16, ↓aF_49, ↓oF_37_17, ↓oF_37_18, ↓aF_50, ↓oF_37_19, ↓aF_51, ↓oF_37_20, ↓aF_52, ↓oF_37_21, ↓aF_53, ↓oF_37_22, ↓aF_54, ↓oF_37_23, ↓aF_55, ↓oF_37_24, ↓aF_56, ↓oF_37_25, ↓aF_57, ↓oF_37_26, ↓oF_37_27, ↓oF_37_28, ↓aF_58, ↓oF_37_29, ↓aF_59, ↓oF_37_30, ↓aF_60, ↓oF_37_31, ↓aF_61, ↓oF_37_32, ↓oF_37_33, ↓oF_37_34, ↓oF_37_35, ↓aF_62, ↓oF_37_36, ↓oF_37_37, ↓aF_63, ↓oF_37_38, ↓oF_37_39, ↓aF_64, ↓oF_37_40, ↓aF_65, ↓oF_37_41, ↓aF_66, oC_0, oC_1, oC_4, oC_11, oC_16, oC_18, oC_20, oC_23, oC_25, oC_26, oC_29, oC_31, oC_33, oC_35, oC_37, isT_29, isT_31, isT_33, isT_35, isL_16, isL_18, isL_26, b2i_0, b2i_1, b2i_01, b2i_r, ↓e_M_in]
    (try simp only [rI_iff, rL_iff] at *)
    repeat' (first | assumption | apply And.intro | intro _)
    all_goals first
      | omega
      | (refine st_ext fun k j => ?_; grind [updR_app, up1_app, b2i])
      | (refine Q_eq hQ ?_ ?_ <;> first | rfl | (refine st_ext fun k j => ?_; grind [updR_app, up1_app, b2i]) | grind [updR_app, up1_app, b2i])
      | grind [updR_app, up1_app, b2i]
def s_M_ban : Spec := fun as σ Q => popR as fun c0 r0 => popI r0 fun what r1 => r1 = [] ∧ c0 = 37 ∧ (0 ≤ σ 37 2 ∧ σ 37 2 ≤ 4) ∧ (rI what) ∧ Q (some (.inl (toldM σ what))) σ
theorem e_M_ban (what : Int) (σ : St) (Q : Option AV → St → Prop) : s_M_ban [.inr (.inr (some 37)), .inl what] σ Q = ((0 ≤ σ 37 2 ∧ σ 37 2 ≤ 4) ∧ (rI what) ∧ Q (some (.inl (toldM σ what))) σ) := by
  show ([] = [] ∧ _) = _
  simp only [true_and]
set_option maxHeartbeats 4000000 in
set_option maxRecDepth 20000 in
theorem S_M_ban {l : Launch} : Sat l y_M_ban b_M_ban 2 (some .int) 1 s_M_ban := by
  refine sat_of (Φ := P_M) (κ := Q_M) (Γ := [(108, 0, 3, s_M_in)]) (rt := 1) (by decide +kernel) P_M_ok Q_M_ok (by
    refine List.forall_mem_cons.mpr ⟨?_, fun _ h => absurd h List.not_mem_nil⟩
    · exact m_M_in S_M_in (by decide) l_M_108) (by simp) o_M_ban ?_
  intro as σ Q hh0
  obtain ⟨c0, rr0, rfl, hh1⟩ := popR_inv hh0
  obtain ⟨what, rr1, rfl, hh2⟩ := popI_inv hh1
  obtain ⟨hrE, rfl, h1, hi0, hQ⟩ := hh2
  subst hrE
  clear hh0 hh1
  refine ⟨Nat.le_of_ble_eq_true rfl, [], 14, ?_, cuts0⟩
  · rw [show entL 2 [.inr (.inr (some 37)), .inl what] = [.inr (.inr (some 37)), .inl what] from rfl]
    simp only [↓wpN_go, jmp_e, ↓wp_aload_n0, ↓wp_bipush, ↓wp_getfield, ↓wp_i2l, ↓wp_iadd, ↓wp_iaload, ↓wp_if_eq, ↓wp_iload_n1, ↓wp_invokestatic, ↓wp_ireturn1, ↓wp_isub, ↓wp_ldc2_w, ↓wp_tableswitch, wp_nil, ↓ldI_0, ↓ldI_s, ↓ldL_0, ↓ldL_s, ↓ldR_0, ↓ldR_s, sto1_0, sto1_1, sto1_s, sto2_0, sto2_1, sto2_s, isLong_i, isLong_l, isLong_r, ↓popI_c, ↓popL_c, ↓popR_c, ↓popN_0, ↓popN_s, catS_n, catS_c, psh_s, psh_n, fldV_n, fldV_s, ↓tgt_e, sw_n, ↓sw_c, ↓lk1_h, ↓lk1_m, ↓atC_h, ↓atC_m, ↓atC_n, ltO_n, ltO_s, updR_eq, updR_ne, gI_0i, gI_0l, gI_s, ltM_iff, List.cons.injEq, Sum.inl.injEq, Sum.inr.injEq, Option.some.injEq, exists_eq_left, exists_eq_left', exists_eq_right, exists_eq_right', exists_and_left, exists_and_right, exists_eq, exists_const, and_assoc, ↓j_M_ban_0, ↓j_M_ban_29, ↓j_M_ban_58, ↓j_M_ban_88, ↓j_M_ban_93, ↓j_M_ban_98, ↓j_M_ban_103, ↓j_M_ban_108, ↓c_M_100124, ↓c_M_100126, ↓f_M_112, ↓f_M_117, ↓f_M_13, ↓f_M_17, ↓f_M_20, ↓f_M_7, List.length_cons, List.length_nil, Nat.zero_add, Nat.reduceAdd, Int.reduceAdd, Int.reduceNeg, Int.reduceToNat, Int.reduceLE, Int.reduceLT, true_and, and_true, Nat.reduceLT, reduceIte, Nat.reduceEqDiff, ne_eq, not_false_eq_true, false_implies, true_implies, Bool.false_eq_true, reduceCtorEq, List.cons_append, List.nil_append, Nat.reduceSub, Nat.reduceLeDiff, Fin.isValue, Int.reduceNatCast', Int.zero_add, Int.add_zero, decide_true, decide_false, implies_true, forall_const, true_or, or_true, or_false, false_or, false_and, and_false, Int.toNat_natCast, ↓oF_37_0, ↓oF_37_1, ↓oF_37_2, ↓oF_37_3, ↓aF_38, ↓oF_37_4, ↓aF_39, ↓oF_37_5, ↓oF_37_6, ↓aF_40, ↓oF_37_7, ↓oF_37_8, ↓aF_41, ↓oF_37_9, ↓aF_42, ↓oF_37_10, ↓aF_43, ↓oF_37_11, ↓aF_44, ↓oF_37_12, ↓aF_45, ↓oF_37_13, ↓aF_46, ↓oF_37_14, ↓aF_47, ↓oF_37_15, ↓aF_48, ↓oF_37_16, ↓aF_49, ↓oF_37_17, ↓oF_37_18, ↓aF_50, ↓oF_37_19, ↓aF_51, ↓oF_37_20, ↓aF_52, ↓oF_37_21, ↓aF_53, ↓oF_37_22, ↓aF_54, ↓oF_37_23, ↓aF_55, ↓oF_37_24, ↓aF_56, ↓oF_37_25, ↓aF_57, ↓oF_37_26, ↓oF_37_27, ↓oF_37_28, ↓aF_58, ↓oF_37_29, ↓aF_59, ↓oF_37_30, ↓aF_60, ↓oF_37_31, ↓aF_61, ↓oF_37_32, ↓oF_37_33, ↓oF_37_34, ↓oF_37_35, ↓aF_62, ↓oF_37_36, ↓oF_37_37, ↓aF_63, ↓oF_37_38, ↓oF_37_39, ↓aF_64, ↓oF_37_40, ↓aF_65, ↓oF_37_41, ↓aF_66, oC_0, oC_1, oC_4, oC_11, oC_16, oC_18, oC_20, oC_23, oC_25, oC_26, oC_29, oC_31, oC_33, oC_35, oC_37, isT_29, isT_31, isT_33, isT_35, isL_16, isL_18, isL_26, b2i_0, b2i_1, b2i_01, b2i_r, ↓e_M_in]
    unfold toldM at hQ
    (try simp only [rI_iff, rL_iff] at *)
    repeat' (with_reducible (first | assumption | apply And.intro | intro _))
    all_goals first | omega | with_reducible assumption | exact True.intro | skip
    all_goals first | rfl | grind
def s_M_states : Spec := fun as σ Q => popR as fun c0 r0 => r0 = [] ∧ c0 = 37 ∧ Q (some (.inl (σ 37 17))) σ
theorem e_M_states  (σ : St) (Q : Option AV → St → Prop) : s_M_states [.inr (.inr (some 37))] σ Q = (Q (some (.inl (σ 37 17))) σ) := by
  show ([] = [] ∧ _) = _
  simp only [true_and]
set_option maxHeartbeats 4000000 in
set_option maxRecDepth 20000 in
theorem S_M_states {l : Launch} : Sat l y_M_states b_M_states 1 (some .int) 0 s_M_states := by
  refine sat_of (Φ := P_M) (κ := Q_M) (Γ := []) (rt := 1) (by decide +kernel) P_M_ok Q_M_ok (fun g hg => absurd hg List.not_mem_nil) (by simp) o_M_states ?_
  intro as σ Q hh0
  obtain ⟨c0, rr0, rfl, hh1⟩ := popR_inv hh0
  obtain ⟨hrE, rfl, hQ⟩ := hh1
  subst hrE
  clear hh0
  refine ⟨Nat.le_of_ble_eq_true rfl, [], 14, ?_, cuts0⟩
  · rw [show entL 1 [.inr (.inr (some 37))] = [.inr (.inr (some 37))] from rfl]
    simp only [↓wpN_go, jmp_e, ↓wp_aload_n0, ↓wp_getfield, ↓wp_ireturn1, wp_nil, ↓ldI_0, ↓ldI_s, ↓ldL_0, ↓ldL_s, ↓ldR_0, ↓ldR_s, sto1_0, sto1_1, sto1_s, sto2_0, sto2_1, sto2_s, isLong_i, isLong_l, isLong_r, ↓popI_c, ↓popL_c, ↓popR_c, ↓popN_0, ↓popN_s, catS_n, catS_c, psh_s, psh_n, fldV_n, fldV_s, ↓tgt_e, sw_n, ↓sw_c, ↓lk1_h, ↓lk1_m, ↓atC_h, ↓atC_m, ↓atC_n, ltO_n, ltO_s, updR_eq, updR_ne, gI_0i, gI_0l, gI_s, ltM_iff, List.cons.injEq, Sum.inl.injEq, Sum.inr.injEq, Option.some.injEq, exists_eq_left, exists_eq_left', exists_eq_right, exists_eq_right', exists_and_left, exists_and_right, exists_eq, exists_const, and_assoc, ↓j_M_states_0, ↓f_M_160, List.length_cons, List.length_nil, Nat.zero_add, Nat.reduceAdd, Int.reduceAdd, Int.reduceNeg, Int.reduceToNat, Int.reduceLE, Int.reduceLT, true_and, and_true, Nat.reduceLT, reduceIte, Nat.reduceEqDiff, ne_eq, not_false_eq_true, false_implies, true_implies, Bool.false_eq_true, reduceCtorEq, List.cons_append, List.nil_append, Nat.reduceSub, Nat.reduceLeDiff, Fin.isValue, Int.reduceNatCast', Int.zero_add, Int.add_zero, decide_true, decide_false, implies_true, forall_const, true_or, or_true, or_false, false_or, false_and, and_false, Int.toNat_natCast, ↓oF_37_0, ↓oF_37_1, ↓oF_37_2, ↓oF_37_3, ↓aF_38, ↓oF_37_4, ↓aF_39, ↓oF_37_5, ↓oF_37_6, ↓aF_40, ↓oF_37_7, ↓oF_37_8, ↓aF_41, ↓oF_37_9, ↓aF_42, ↓oF_37_10, ↓aF_43, ↓oF_37_11, ↓aF_44, ↓oF_37_12, ↓aF_45, ↓oF_37_13, ↓aF_46, ↓oF_37_14, ↓aF_47, ↓oF_37_15, ↓aF_48, ↓oF_37_16, ↓aF_49, ↓oF_37_17, ↓oF_37_18, ↓aF_50, ↓oF_37_19, ↓aF_51, ↓oF_37_20, ↓aF_52, ↓oF_37_21, ↓aF_53, ↓oF_37_22, ↓aF_54, ↓oF_37_23, ↓aF_55, ↓oF_37_24, ↓aF_56, ↓oF_37_25, ↓aF_57, ↓oF_37_26, ↓oF_37_27, ↓oF_37_28, ↓aF_58, ↓oF_37_29, ↓aF_59, ↓oF_37_30, ↓aF_60, ↓oF_37_31, ↓aF_61, ↓oF_37_32, ↓oF_37_33, ↓oF_37_34, ↓oF_37_35, ↓aF_62, ↓oF_37_36, ↓oF_37_37, ↓aF_63, ↓oF_37_38, ↓oF_37_39, ↓aF_64, ↓oF_37_40, ↓aF_65, ↓oF_37_41, ↓aF_66, oC_0, oC_1, oC_4, oC_11, oC_16, oC_18, oC_20, oC_23, oC_25, oC_26, oC_29, oC_31, oC_33, oC_35, oC_37, isT_29, isT_31, isT_33, isT_35, isL_16, isL_18, isL_26]
    (try simp only [rI_iff, rL_iff] at *)
    repeat' (first | assumption | apply And.intro | intro _)
    all_goals first
      | omega
      | (refine st_ext fun k j => ?_; grind [updR_app, up1_app, b2i])
      | (refine Q_eq hQ ?_ ?_ <;> first | rfl | (refine st_ext fun k j => ?_; grind [updR_app, up1_app, b2i]) | grind [updR_app, up1_app, b2i])
      | grind [updR_app, up1_app, b2i]
def s_M_marked : Spec := fun as σ Q => popR as fun c0 r0 => r0 = [] ∧ c0 = 37 ∧ Q (some (.inl (σ 37 27))) σ
theorem e_M_marked  (σ : St) (Q : Option AV → St → Prop) : s_M_marked [.inr (.inr (some 37))] σ Q = (Q (some (.inl (σ 37 27))) σ) := by
  show ([] = [] ∧ _) = _
  simp only [true_and]
set_option maxHeartbeats 4000000 in
set_option maxRecDepth 20000 in
theorem S_M_marked {l : Launch} : Sat l y_M_marked b_M_marked 1 (some .int) 0 s_M_marked := by
  refine sat_of (Φ := P_M) (κ := Q_M) (Γ := []) (rt := 1) (by decide +kernel) P_M_ok Q_M_ok (fun g hg => absurd hg List.not_mem_nil) (by simp) o_M_marked ?_
  intro as σ Q hh0
  obtain ⟨c0, rr0, rfl, hh1⟩ := popR_inv hh0
  obtain ⟨hrE, rfl, hQ⟩ := hh1
  subst hrE
  clear hh0
  refine ⟨Nat.le_of_ble_eq_true rfl, [], 14, ?_, cuts0⟩
  · rw [show entL 1 [.inr (.inr (some 37))] = [.inr (.inr (some 37))] from rfl]
    simp only [↓wpN_go, jmp_e, ↓wp_aload_n0, ↓wp_getfield, ↓wp_ireturn1, wp_nil, ↓ldI_0, ↓ldI_s, ↓ldL_0, ↓ldL_s, ↓ldR_0, ↓ldR_s, sto1_0, sto1_1, sto1_s, sto2_0, sto2_1, sto2_s, isLong_i, isLong_l, isLong_r, ↓popI_c, ↓popL_c, ↓popR_c, ↓popN_0, ↓popN_s, catS_n, catS_c, psh_s, psh_n, fldV_n, fldV_s, ↓tgt_e, sw_n, ↓sw_c, ↓lk1_h, ↓lk1_m, ↓atC_h, ↓atC_m, ↓atC_n, ltO_n, ltO_s, updR_eq, updR_ne, gI_0i, gI_0l, gI_s, ltM_iff, List.cons.injEq, Sum.inl.injEq, Sum.inr.injEq, Option.some.injEq, exists_eq_left, exists_eq_left', exists_eq_right, exists_eq_right', exists_and_left, exists_and_right, exists_eq, exists_const, and_assoc, ↓j_M_marked_0, ↓f_M_182, List.length_cons, List.length_nil, Nat.zero_add, Nat.reduceAdd, Int.reduceAdd, Int.reduceNeg, Int.reduceToNat, Int.reduceLE, Int.reduceLT, true_and, and_true, Nat.reduceLT, reduceIte, Nat.reduceEqDiff, ne_eq, not_false_eq_true, false_implies, true_implies, Bool.false_eq_true, reduceCtorEq, List.cons_append, List.nil_append, Nat.reduceSub, Nat.reduceLeDiff, Fin.isValue, Int.reduceNatCast', Int.zero_add, Int.add_zero, decide_true, decide_false, implies_true, forall_const, true_or, or_true, or_false, false_or, false_and, and_false, Int.toNat_natCast, ↓oF_37_0, ↓oF_37_1, ↓oF_37_2, ↓oF_37_3, ↓aF_38, ↓oF_37_4, ↓aF_39, ↓oF_37_5, ↓oF_37_6, ↓aF_40, ↓oF_37_7, ↓oF_37_8, ↓aF_41, ↓oF_37_9, ↓aF_42, ↓oF_37_10, ↓aF_43, ↓oF_37_11, ↓aF_44, ↓oF_37_12, ↓aF_45, ↓oF_37_13, ↓aF_46, ↓oF_37_14, ↓aF_47, ↓oF_37_15, ↓aF_48, ↓oF_37_16, ↓aF_49, ↓oF_37_17, ↓oF_37_18, ↓aF_50, ↓oF_37_19, ↓aF_51, ↓oF_37_20, ↓aF_52, ↓oF_37_21, ↓aF_53, ↓oF_37_22, ↓aF_54, ↓oF_37_23, ↓aF_55, ↓oF_37_24, ↓aF_56, ↓oF_37_25, ↓aF_57, ↓oF_37_26, ↓oF_37_27, ↓oF_37_28, ↓aF_58, ↓oF_37_29, ↓aF_59, ↓oF_37_30, ↓aF_60, ↓oF_37_31, ↓aF_61, ↓oF_37_32, ↓oF_37_33, ↓oF_37_34, ↓oF_37_35, ↓aF_62, ↓oF_37_36, ↓oF_37_37, ↓aF_63, ↓oF_37_38, ↓oF_37_39, ↓aF_64, ↓oF_37_40, ↓aF_65, ↓oF_37_41, ↓aF_66, oC_0, oC_1, oC_4, oC_11, oC_16, oC_18, oC_20, oC_23, oC_25, oC_26, oC_29, oC_31, oC_33, oC_35, oC_37, isT_29, isT_31, isT_33, isT_35, isL_16, isL_18, isL_26]
    (try simp only [rI_iff, rL_iff] at *)
    repeat' (first | assumption | apply And.intro | intro _)
    all_goals first
      | omega
      | (refine st_ext fun k j => ?_; grind [updR_app, up1_app, b2i])
      | (refine Q_eq hQ ?_ ?_ <;> first | rfl | (refine st_ext fun k j => ?_; grind [updR_app, up1_app, b2i]) | grind [updR_app, up1_app, b2i])
      | grind [updR_app, up1_app, b2i]
def s_M_hush : Spec := fun as σ Q => popR as fun c0 r0 => r0 = [] ∧ c0 = 37 ∧ Q (some (.inl (σ 37 36))) (updR σ 37 (up1 (σ 37) 36 0))
theorem e_M_hush  (σ : St) (Q : Option AV → St → Prop) : s_M_hush [.inr (.inr (some 37))] σ Q = (Q (some (.inl (σ 37 36))) (updR σ 37 (up1 (σ 37) 36 0))) := by
  show ([] = [] ∧ _) = _
  simp only [true_and]
set_option maxHeartbeats 4000000 in
set_option maxRecDepth 20000 in
theorem S_M_hush {l : Launch} : Sat l y_M_hush b_M_hush 2 (some .int) 0 s_M_hush := by
  refine sat_of (Φ := P_M) (κ := Q_M) (Γ := []) (rt := 1) (by decide +kernel) P_M_ok Q_M_ok (fun g hg => absurd hg List.not_mem_nil) (by simp) o_M_hush ?_
  intro as σ Q hh0
  obtain ⟨c0, rr0, rfl, hh1⟩ := popR_inv hh0
  obtain ⟨hrE, rfl, hQ⟩ := hh1
  subst hrE
  clear hh0
  refine ⟨Nat.le_of_ble_eq_true rfl, [], 14, ?_, cuts0⟩
  · rw [show entL 2 [.inr (.inr (some 37))] = [.inr (.inr (some 37)), .inr (.inr none)] from rfl]
    simp only [↓wpN_go, jmp_e, ↓wp_aload_n0, ↓wp_getfield, ↓wp_iconst, ↓wp_iload_n1, ↓wp_ireturn1, ↓wp_istore_n1, ↓wp_putfield, wp_nil, ↓ldI_0, ↓ldI_s, ↓ldL_0, ↓ldL_s, ↓ldR_0, ↓ldR_s, sto1_0, sto1_1, sto1_s, sto2_0, sto2_1, sto2_s, isLong_i, isLong_l, isLong_r, ↓popI_c, ↓popL_c, ↓popR_c, ↓popN_0, ↓popN_s, catS_n, catS_c, psh_s, psh_n, fldV_n, fldV_s, ↓tgt_e, sw_n, ↓sw_c, ↓lk1_h, ↓lk1_m, ↓atC_h, ↓atC_m, ↓atC_n, ltO_n, ltO_s, updR_eq, updR_ne, gI_0i, gI_0l, gI_s, ltM_iff, List.cons.injEq, Sum.inl.injEq, Sum.inr.injEq, Option.some.injEq, exists_eq_left, exists_eq_left', exists_eq_right, exists_eq_right', exists_and_left, exists_and_right, exists_eq, exists_const, and_assoc, ↓j_M_hush_0, ↓f_M_250, List.length_cons, List.length_nil, Nat.zero_add, Nat.reduceAdd, Int.reduceAdd, Int.reduceNeg, Int.reduceToNat, Int.reduceLE, Int.reduceLT, true_and, and_true, Nat.reduceLT, reduceIte, Nat.reduceEqDiff, ne_eq, not_false_eq_true, false_implies, true_implies, Bool.false_eq_true, reduceCtorEq, List.cons_append, List.nil_append, Nat.reduceSub, Nat.reduceLeDiff, Fin.isValue, Int.reduceNatCast', Int.zero_add, Int.add_zero, decide_true, decide_false, implies_true, forall_const, true_or, or_true, or_false, false_or, false_and, and_false, Int.toNat_natCast, ↓oF_37_0, ↓oF_37_1, ↓oF_37_2, ↓oF_37_3, ↓aF_38, ↓oF_37_4, ↓aF_39, ↓oF_37_5, ↓oF_37_6, ↓aF_40, ↓oF_37_7, ↓oF_37_8, ↓aF_41, ↓oF_37_9, ↓aF_42, ↓oF_37_10, ↓aF_43, ↓oF_37_11, ↓aF_44, ↓oF_37_12, ↓aF_45, ↓oF_37_13, ↓aF_46, ↓oF_37_14, ↓aF_47, ↓oF_37_15, ↓aF_48, ↓oF_37_16, ↓aF_49, ↓oF_37_17, ↓oF_37_18, ↓aF_50, ↓oF_37_19, ↓aF_51, ↓oF_37_20, ↓aF_52, ↓oF_37_21, ↓aF_53, ↓oF_37_22, ↓aF_54, ↓oF_37_23, ↓aF_55, ↓oF_37_24, ↓aF_56, ↓oF_37_25, ↓aF_57, ↓oF_37_26, ↓oF_37_27, ↓oF_37_28, ↓aF_58, ↓oF_37_29, ↓aF_59, ↓oF_37_30, ↓aF_60, ↓oF_37_31, ↓aF_61, ↓oF_37_32, ↓oF_37_33, ↓oF_37_34, ↓oF_37_35, ↓aF_62, ↓oF_37_36, ↓oF_37_37, ↓aF_63, ↓oF_37_38, ↓oF_37_39, ↓aF_64, ↓oF_37_40, ↓aF_65, ↓oF_37_41, ↓aF_66, oC_0, oC_1, oC_4, oC_11, oC_16, oC_18, oC_20, oC_23, oC_25, oC_26, oC_29, oC_31, oC_33, oC_35, oC_37, isT_29, isT_31, isT_33, isT_35, isL_16, isL_18, isL_26]
    (try simp only [rI_iff, rL_iff] at *)
    repeat' (first | assumption | apply And.intro | intro _)
    all_goals first
      | omega
      | (refine st_ext fun k j => ?_; grind [updR_app, up1_app, b2i])
      | (refine Q_eq hQ ?_ ?_ <;> first | rfl | (refine st_ext fun k j => ?_; grind [updR_app, up1_app, b2i]) | grind [updR_app, up1_app, b2i])
      | grind [updR_app, up1_app, b2i]
def s_M_isState : Spec := fun as σ Q => popR as fun c0 r0 => popI r0 fun s r1 => r1 = [] ∧ c0 = 37 ∧ (0 ≤ σ 37 17 ∧ σ 37 17 ≤ 100) ∧ (rI s) ∧ Q (some (.inl (b2i (0 ≤ s ∧ s < σ 37 17)))) σ
theorem e_M_isState (s : Int) (σ : St) (Q : Option AV → St → Prop) : s_M_isState [.inr (.inr (some 37)), .inl s] σ Q = ((0 ≤ σ 37 17 ∧ σ 37 17 ≤ 100) ∧ (rI s) ∧ Q (some (.inl (b2i (0 ≤ s ∧ s < σ 37 17)))) σ) := by
  show ([] = [] ∧ _) = _
  simp only [true_and]
set_option maxHeartbeats 4000000 in
set_option maxRecDepth 20000 in
theorem S_M_isState {l : Launch} : Sat l y_M_isState b_M_isState 2 (some .boolean) 1 s_M_isState := by
  refine sat_of (Φ := P_M) (κ := Q_M) (Γ := [(108, 0, 3, s_M_in)]) (rt := 3) (by decide +kernel) P_M_ok Q_M_ok (by
    refine List.forall_mem_cons.mpr ⟨?_, fun _ h => absurd h List.not_mem_nil⟩
    · exact m_M_in S_M_in (by decide) l_M_108) (by simp) o_M_isState ?_
  intro as σ Q hh0
  obtain ⟨c0, rr0, rfl, hh1⟩ := popR_inv hh0
  obtain ⟨s, rr1, rfl, hh2⟩ := popI_inv hh1
  obtain ⟨hrE, rfl, hN, hrs, hQ⟩ := hh2
  subst hrE
  clear hh0 hh1
  refine ⟨Nat.le_of_ble_eq_true rfl, [], 14, ?_, cuts0⟩
  · rw [show entL 2 [.inr (.inr (some 37)), .inl s] = [.inr (.inr (some 37)), .inl s] from rfl]
    simp only [↓wpN_go, jmp_e, ↓wp_aload_n0, ↓wp_getfield, ↓wp_i2l, ↓wp_iconst, ↓wp_iload_n1, ↓wp_invokestatic, ↓wp_ireturn3, ↓wp_isub, ↓wp_lconst0, wp_nil, ↓ldI_0, ↓ldI_s, ↓ldL_0, ↓ldL_s, ↓ldR_0, ↓ldR_s, sto1_0, sto1_1, sto1_s, sto2_0, sto2_1, sto2_s, isLong_i, isLong_l, isLong_r, ↓popI_c, ↓popL_c, ↓popR_c, ↓popN_0, ↓popN_s, catS_n, catS_c, psh_s, psh_n, fldV_n, fldV_s, ↓tgt_e, sw_n, ↓sw_c, ↓lk1_h, ↓lk1_m, ↓atC_h, ↓atC_m, ↓atC_n, ltO_n, ltO_s, updR_eq, updR_ne, gI_0i, gI_0l, gI_s, ltM_iff, List.cons.injEq, Sum.inl.injEq, Sum.inr.injEq, Option.some.injEq, exists_eq_left, exists_eq_left', exists_eq_right, exists_eq_right', exists_and_left, exists_and_right, exists_eq, exists_const, and_assoc, ↓j_M_isState_0, ↓f_M_160, List.length_cons, List.length_nil, Nat.zero_add, Nat.reduceAdd, Int.reduceAdd, Int.reduceNeg, Int.reduceToNat, Int.reduceLE, Int.reduceLT, true_and, and_true, Nat.reduceLT, reduceIte, Nat.reduceEqDiff, ne_eq, not_false_eq_true, false_implies, true_implies, Bool.false_eq_true, reduceCtorEq, List.cons_append, List.nil_append, Nat.reduceSub, Nat.reduceLeDiff, Fin.isValue, Int.reduceNatCast', Int.zero_add, Int.add_zero, decide_true, decide_false, implies_true, forall_const, true_or, or_true, or_false, false_or, false_and, and_false, Int.toNat_natCast, ↓oF_37_0, ↓oF_37_1, ↓oF_37_2, ↓oF_37_3, ↓aF_38, ↓oF_37_4, ↓aF_39, ↓oF_37_5, ↓oF_37_6, ↓aF_40, ↓oF_37_7, ↓oF_37_8, ↓aF_41, ↓oF_37_9, ↓aF_42, ↓oF_37_10, ↓aF_43, ↓oF_37_11, ↓aF_44, ↓oF_37_12, ↓aF_45, ↓oF_37_13, ↓aF_46, ↓oF_37_14, ↓aF_47, ↓oF_37_15, ↓aF_48, ↓oF_37_16, ↓aF_49, ↓oF_37_17, ↓oF_37_18, ↓aF_50, ↓oF_37_19, ↓aF_51, ↓oF_37_20, ↓aF_52, ↓oF_37_21, ↓aF_53, ↓oF_37_22, ↓aF_54, ↓oF_37_23, ↓aF_55, ↓oF_37_24, ↓aF_56, ↓oF_37_25, ↓aF_57, ↓oF_37_26, ↓oF_37_27, ↓oF_37_28, ↓aF_58, ↓oF_37_29, ↓aF_59, ↓oF_37_30, ↓aF_60, ↓oF_37_31, ↓aF_61, ↓oF_37_32, ↓oF_37_33, ↓oF_37_34, ↓oF_37_35, ↓aF_62, ↓oF_37_36, ↓oF_37_37, ↓aF_63, ↓oF_37_38, ↓oF_37_39, ↓aF_64, ↓oF_37_40, ↓aF_65, ↓oF_37_41, ↓aF_66, oC_0, oC_1, oC_4, oC_11, oC_16, oC_18, oC_20, oC_23, oC_25, oC_26, oC_29, oC_31, oC_33, oC_35, oC_37, isT_29, isT_31, isT_33, isT_35, isL_16, isL_18, isL_26, b2i_0, b2i_1, b2i_01, b2i_r, ↓e_M_in]
    (try simp only [rI_iff, rL_iff] at *)
    repeat' (first | assumption | apply And.intro | intro _)
    all_goals first
      | omega
      | (refine st_ext fun k j => ?_; grind [updR_app, up1_app, b2i])
      | (refine Q_eq hQ ?_ ?_ <;> first | rfl | (refine st_ext fun k j => ?_; grind [updR_app, up1_app, b2i]) | grind [updR_app, up1_app, b2i])
      | grind [updR_app, up1_app, b2i]
def s_M_isRow : Spec := fun as σ Q => popL as fun row r0 => popI r0 fun n r1 => r1 = [] ∧ (rL row) ∧ (rI n) ∧ Q (some (.inl (b2i (0 ≤ n ∧ n ≤ 60 ∧ 0 ≤ row ∧ row < 2 ^ n.toNat)))) σ
theorem e_M_isRow (row : Int) (n : Int) (σ : St) (Q : Option AV → St → Prop) : s_M_isRow [.inr (.inl row), .inl n] σ Q = ((rL row) ∧ (rI n) ∧ Q (some (.inl (b2i (0 ≤ n ∧ n ≤ 60 ∧ 0 ≤ row ∧ row < 2 ^ n.toNat)))) σ) := by
  show ([] = [] ∧ _) = _
  simp only [true_and]
set_option maxHeartbeats 4000000 in
set_option maxRecDepth 20000 in
theorem S_M_isRow {l : Launch} : Sat l y_M_isRow b_M_isRow 3 (some .boolean) 1 s_M_isRow := by
  refine sat_of (Φ := P_M) (κ := Q_M) (Γ := [(108, 0, 3, s_M_in)]) (rt := 3) (by decide +kernel) P_M_ok Q_M_ok (by
    refine List.forall_mem_cons.mpr ⟨?_, fun _ h => absurd h List.not_mem_nil⟩
    · exact m_M_in S_M_in (by decide) l_M_108) (by simp) o_M_isRow ?_
  intro as σ Q hh0
  obtain ⟨row, rr0, rfl, hh1⟩ := popL_inv hh0
  obtain ⟨n, rr1, rfl, hh2⟩ := popI_inv hh1
  obtain ⟨hrE, hrrow, hrn, hQ⟩ := hh2
  subst hrE
  clear hh0 hh1
  refine ⟨Nat.le_of_ble_eq_true rfl, [], 14, ?_, cuts0⟩
  · rw [show entL 3 [.inr (.inl row), .inl n] = [.inr (.inl row), .inr (.inr none), .inl n] from rfl]
    simp only [↓wpN_go, jmp_e, ↓wp_goto, ↓wp_i2l, ↓wp_iconst, ↓wp_if_eq, ↓wp_iload_n2, ↓wp_invokestatic, ↓wp_ireturn3, ↓wp_lconst0, ↓wp_lconst1, ↓wp_ldc2_w, ↓wp_lload_n0, ↓wp_lshl, ↓wp_lsub, wp_nil, ↓ldI_0, ↓ldI_s, ↓ldL_0, ↓ldL_s, ↓ldR_0, ↓ldR_s, sto1_0, sto1_1, sto1_s, sto2_0, sto2_1, sto2_s, isLong_i, isLong_l, isLong_r, ↓popI_c, ↓popL_c, ↓popR_c, ↓popN_0, ↓popN_s, catS_n, catS_c, psh_s, psh_n, fldV_n, fldV_s, ↓tgt_e, sw_n, ↓sw_c, ↓lk1_h, ↓lk1_m, ↓atC_h, ↓atC_m, ↓atC_n, ltO_n, ltO_s, updR_eq, updR_ne, gI_0i, gI_0l, gI_s, ltM_iff, List.cons.injEq, Sum.inl.injEq, Sum.inr.injEq, Option.some.injEq, exists_eq_left, exists_eq_left', exists_eq_right, exists_eq_right', exists_and_left, exists_and_right, exists_eq, exists_const, and_assoc, ↓j_M_isRow_0, ↓j_M_isRow_29, ↓j_M_isRow_30, ↓c_M_100191, List.length_cons, List.length_nil, Nat.zero_add, Nat.reduceAdd, Int.reduceAdd, Int.reduceNeg, Int.reduceToNat, Int.reduceLE, Int.reduceLT, true_and, and_true, Nat.reduceLT, reduceIte, Nat.reduceEqDiff, ne_eq, not_false_eq_true, false_implies, true_implies, Bool.false_eq_true, reduceCtorEq, List.cons_append, List.nil_append, Nat.reduceSub, Nat.reduceLeDiff, Fin.isValue, Int.reduceNatCast', Int.zero_add, Int.add_zero, decide_true, decide_false, implies_true, forall_const, true_or, or_true, or_false, false_or, false_and, and_false, Int.toNat_natCast, ↓oF_37_0, ↓oF_37_1, ↓oF_37_2, ↓oF_37_3, ↓aF_38, ↓oF_37_4, ↓aF_39, ↓oF_37_5, ↓oF_37_6, ↓aF_40, ↓oF_37_7, ↓oF_37_8, ↓aF_41, ↓oF_37_9, ↓aF_42, ↓oF_37_10, ↓aF_43, ↓oF_37_11, ↓aF_44, ↓oF_37_12, ↓aF_45, ↓oF_37_13, ↓aF_46, ↓oF_37_14, ↓aF_47, ↓oF_37_15, ↓aF_48, ↓oF_37_16, ↓aF_49, ↓oF_37_17, ↓oF_37_18, ↓aF_50, ↓oF_37_19, ↓aF_51, ↓oF_37_20, ↓aF_52, ↓oF_37_21, ↓aF_53, ↓oF_37_22, ↓aF_54, ↓oF_37_23, ↓aF_55, ↓oF_37_24, ↓aF_56, ↓oF_37_25, ↓aF_57, ↓oF_37_26, ↓oF_37_27, ↓oF_37_28, ↓aF_58, ↓oF_37_29, ↓aF_59, ↓oF_37_30, ↓aF_60, ↓oF_37_31, ↓aF_61, ↓oF_37_32, ↓oF_37_33, ↓oF_37_34, ↓oF_37_35, ↓aF_62, ↓oF_37_36, ↓oF_37_37, ↓aF_63, ↓oF_37_38, ↓oF_37_39, ↓aF_64, ↓oF_37_40, ↓aF_65, ↓oF_37_41, ↓aF_66, oC_0, oC_1, oC_4, oC_11, oC_16, oC_18, oC_20, oC_23, oC_25, oC_26, oC_29, oC_31, oC_33, oC_35, oC_37, isT_29, isT_31, isT_33, isT_35, isL_16, isL_18, isL_26, b2i_0, b2i_1, b2i_01, b2i_r, ↓e_M_in]
    have hp := p2_le60 (n := n)
    rw [Int.one_mul]
    by_cases hn1 : 0 ≤ n ∧ n ≤ 60
    · have hp := hp hn1
      have e1 : b2i (0 ≤ n ∧ n ≤ 60 ∧ 0 ≤ row ∧ row < 2 ^ n.toNat) = b2i (0 ≤ row ∧ row < 2 ^ n.toNat) := by unfold b2i; grind
      rw [e1] at hQ
      generalize (2 : Int) ^ n.toNat = p at *
      (try simp only [rI_iff, rL_iff] at *)
      repeat' (with_reducible (first | assumption | apply And.intro | intro _))
      all_goals first | omega | with_reducible assumption | exact True.intro | skip
      all_goals grind [b2i]
    · rw [b2i_f (fun q => hn1 ⟨q.1, q.2.1⟩)] at hQ
      generalize (2 : Int) ^ n.toNat = p at *
      (try simp only [rI_iff, rL_iff] at *)
      repeat' (with_reducible (first | assumption | apply And.intro | intro _))
      all_goals first | omega | with_reducible assumption | exact True.intro | skip
      all_goals grind
def s_M_goes : Spec := fun as σ Q => popR as fun c0 r0 => popI r0 fun s r1 => popI r1 fun b r2 => r2 = [] ∧ c0 = 37 ∧ (0 ≤ σ 37 17 ∧ σ 37 17 ≤ 100) ∧ (Wire (σ 37 17) (gM σ)) ∧ (s = -1 ∨ (0 ≤ s ∧ s < σ 37 17)) ∧ (b = 0 ∨ b = 1) ∧ Q (some (.inl (stepZ (σ 37 17) (gM σ) s b))) σ
theorem e_M_goes (s : Int) (b : Int) (σ : St) (Q : Option AV → St → Prop) : s_M_goes [.inr (.inr (some 37)), .inl s, .inl b] σ Q = ((0 ≤ σ 37 17 ∧ σ 37 17 ≤ 100) ∧ (Wire (σ 37 17) (gM σ)) ∧ (s = -1 ∨ (0 ≤ s ∧ s < σ 37 17)) ∧ (b = 0 ∨ b = 1) ∧ Q (some (.inl (stepZ (σ 37 17) (gM σ) s b))) σ) := by
  show ([] = [] ∧ _) = _
  simp only [true_and]
set_option maxHeartbeats 4000000 in
set_option maxRecDepth 20000 in
theorem S_M_goes {l : Launch} : Sat l y_M_goes b_M_goes 3 (some .int) 0 s_M_goes := by
  refine sat_of (Φ := P_M) (κ := Q_M) (Γ := []) (rt := 1) (by decide +kernel) P_M_ok Q_M_ok (fun g hg => absurd hg List.not_mem_nil) (by simp) o_M_goes ?_
  intro as σ Q hh0
  obtain ⟨c0, rr0, rfl, hh1⟩ := popR_inv hh0
  obtain ⟨s, rr1, rfl, hh2⟩ := popI_inv hh1
  obtain ⟨b, rr2, rfl, hh3⟩ := popI_inv hh2
  obtain ⟨hrE, rfl, hN, hf, hs, hb, hQ⟩ := hh3
  subst hrE
  clear hh0 hh1 hh2
  refine ⟨Nat.le_of_ble_eq_true rfl, [], 14, ?_, cuts0⟩
  · rw [show entL 3 [.inr (.inr (some 37)), .inl s, .inl b] = [.inr (.inr (some 37)), .inl s, .inl b] from rfl]
    simp only [↓wpN_go, jmp_e, ↓wp_aload_n0, ↓wp_getfield, ↓wp_goto, ↓wp_iaload, ↓wp_icmp_ne, ↓wp_iconst, ↓wp_if_ne, ↓wp_iload_n1, ↓wp_iload_n2, ↓wp_ireturn1, wp_nil, ↓ldI_0, ↓ldI_s, ↓ldL_0, ↓ldL_s, ↓ldR_0, ↓ldR_s, sto1_0, sto1_1, sto1_s, sto2_0, sto2_1, sto2_s, isLong_i, isLong_l, isLong_r, ↓popI_c, ↓popL_c, ↓popR_c, ↓popN_0, ↓popN_s, catS_n, catS_c, psh_s, psh_n, fldV_n, fldV_s, ↓tgt_e, sw_n, ↓sw_c, ↓lk1_h, ↓lk1_m, ↓atC_h, ↓atC_m, ↓atC_n, ltO_n, ltO_s, updR_eq, updR_ne, gI_0i, gI_0l, gI_s, ltM_iff, List.cons.injEq, Sum.inl.injEq, Sum.inr.injEq, Option.some.injEq, exists_eq_left, exists_eq_left', exists_eq_right, exists_eq_right', exists_and_left, exists_and_right, exists_eq, exists_const, and_assoc, ↓j_M_goes_0, ↓j_M_goes_9, ↓j_M_goes_22, ↓j_M_goes_28, ↓f_M_54, ↓f_M_57, List.length_cons, List.length_nil, Nat.zero_add, Nat.reduceAdd, Int.reduceAdd, Int.reduceNeg, Int.reduceToNat, Int.reduceLE, Int.reduceLT, true_and, and_true, Nat.reduceLT, reduceIte, Nat.reduceEqDiff, ne_eq, not_false_eq_true, false_implies, true_implies, Bool.false_eq_true, reduceCtorEq, List.cons_append, List.nil_append, Nat.reduceSub, Nat.reduceLeDiff, Fin.isValue, Int.reduceNatCast', Int.zero_add, Int.add_zero, decide_true, decide_false, implies_true, forall_const, true_or, or_true, or_false, false_or, false_and, and_false, Int.toNat_natCast, ↓oF_37_0, ↓oF_37_1, ↓oF_37_2, ↓oF_37_3, ↓aF_38, ↓oF_37_4, ↓aF_39, ↓oF_37_5, ↓oF_37_6, ↓aF_40, ↓oF_37_7, ↓oF_37_8, ↓aF_41, ↓oF_37_9, ↓aF_42, ↓oF_37_10, ↓aF_43, ↓oF_37_11, ↓aF_44, ↓oF_37_12, ↓aF_45, ↓oF_37_13, ↓aF_46, ↓oF_37_14, ↓aF_47, ↓oF_37_15, ↓aF_48, ↓oF_37_16, ↓aF_49, ↓oF_37_17, ↓oF_37_18, ↓aF_50, ↓oF_37_19, ↓aF_51, ↓oF_37_20, ↓aF_52, ↓oF_37_21, ↓aF_53, ↓oF_37_22, ↓aF_54, ↓oF_37_23, ↓aF_55, ↓oF_37_24, ↓aF_56, ↓oF_37_25, ↓aF_57, ↓oF_37_26, ↓oF_37_27, ↓oF_37_28, ↓aF_58, ↓oF_37_29, ↓aF_59, ↓oF_37_30, ↓aF_60, ↓oF_37_31, ↓aF_61, ↓oF_37_32, ↓oF_37_33, ↓oF_37_34, ↓oF_37_35, ↓aF_62, ↓oF_37_36, ↓oF_37_37, ↓aF_63, ↓oF_37_38, ↓oF_37_39, ↓aF_64, ↓oF_37_40, ↓aF_65, ↓oF_37_41, ↓aF_66, oC_0, oC_1, oC_4, oC_11, oC_16, oC_18, oC_20, oC_23, oC_25, oC_26, oC_29, oC_31, oC_33, oC_35, oC_37, isT_29, isT_31, isT_33, isT_35, isL_16, isL_18, isL_26]
    have h0 : 0 ≤ s → s < σ 37 17 → b = 0 → stepZ (σ 37 17) (gM σ) s b = σ 50 s.toNat := fun h1 h2 h3 => by
      rw [step_in ⟨h1, h2⟩ (by omega), h3, gM_0 σ h1]
    have h1 : 0 ≤ s → s < σ 37 17 → b = 1 → stepZ (σ 37 17) (gM σ) s b = σ 51 s.toNat := fun h1 h2 h3 => by
      rw [step_in ⟨h1, h2⟩ (by omega), h3, gM_1 σ h1]
    have h2 : s = -1 → stepZ (σ 37 17) (gM σ) s b = -1 := fun h => by
      unfold stepZ
      rw [if_neg (by omega)]
    generalize stepZ (σ 37 17) (gM σ) s b = z at *
    (try simp only [rI_iff, rL_iff] at *)
    repeat' (with_reducible (first | assumption | apply And.intro | intro _))
    all_goals first | omega | with_reducible assumption | exact True.intro | skip
    all_goals grind
def s_M_go : Spec := fun as σ Q => popR as fun c0 r0 => popI r0 fun s r1 => popI r1 fun b r2 => r2 = [] ∧ c0 = 37 ∧ (0 ≤ σ 37 17 ∧ σ 37 17 ≤ 100) ∧ (Wire (σ 37 17) (gM σ)) ∧ (rI s) ∧ (rI b) ∧ Q (some (.inl (if (0 ≤ s ∧ s < σ 37 17) ∧ 0 ≤ b ∧ b ≤ 1 then stepZ (σ 37 17) (gM σ) s b else -2))) σ
theorem e_M_go (s : Int) (b : Int) (σ : St) (Q : Option AV → St → Prop) : s_M_go [.inr (.inr (some 37)), .inl s, .inl b] σ Q = ((0 ≤ σ 37 17 ∧ σ 37 17 ≤ 100) ∧ (Wire (σ 37 17) (gM σ)) ∧ (rI s) ∧ (rI b) ∧ Q (some (.inl (if (0 ≤ s ∧ s < σ 37 17) ∧ 0 ≤ b ∧ b ≤ 1 then stepZ (σ 37 17) (gM σ) s b else -2))) σ) := by
  show ([] = [] ∧ _) = _
  simp only [true_and]
set_option maxHeartbeats 4000000 in
set_option maxRecDepth 20000 in
theorem S_M_go {l : Launch} : Sat l y_M_go b_M_go 3 (some .int) 2 s_M_go := by
  refine sat_of (Φ := P_M) (κ := Q_M) (Γ := [(185, 10, 1, s_M_isState), (108, 0, 3, s_M_in), (188, 10, 2, s_M_goes)]) (rt := 1) (by decide +kernel) P_M_ok Q_M_ok (by
    refine List.forall_mem_cons.mpr ⟨?_, List.forall_mem_cons.mpr ⟨?_, List.forall_mem_cons.mpr ⟨?_, fun _ h => absurd h List.not_mem_nil⟩⟩⟩
    · exact m_M_isState S_M_isState (by decide) l_M_185
    · exact m_M_in S_M_in (by decide) l_M_108
    · exact m_M_goes S_M_goes (by decide) l_M_188) (by simp) o_M_go ?_
  intro as σ Q hh0
  obtain ⟨c0, rr0, rfl, hh1⟩ := popR_inv hh0
  obtain ⟨s, rr1, rfl, hh2⟩ := popI_inv hh1
  obtain ⟨b, rr2, rfl, hh3⟩ := popI_inv hh2
  obtain ⟨hrE, rfl, hN, hf, hrs, hrb, hQ⟩ := hh3
  subst hrE
  clear hh0 hh1 hh2
  refine ⟨Nat.le_of_ble_eq_true rfl, [], 14, ?_, cuts0⟩
  · rw [show entL 3 [.inr (.inr (some 37)), .inl s, .inl b] = [.inr (.inr (some 37)), .inl s, .inl b] from rfl]
    simp only [↓wpN_go, jmp_e, ↓wp_aload_n0, ↓wp_bipush, ↓wp_goto, ↓wp_i2l, ↓wp_if_eq, ↓wp_iload_n1, ↓wp_iload_n2, ↓wp_invokestatic, ↓wp_invokevirtual, ↓wp_ireturn1, ↓wp_lconst0, ↓wp_lconst1, wp_nil, ↓ldI_0, ↓ldI_s, ↓ldL_0, ↓ldL_s, ↓ldR_0, ↓ldR_s, sto1_0, sto1_1, sto1_s, sto2_0, sto2_1, sto2_s, isLong_i, isLong_l, isLong_r, ↓popI_c, ↓popL_c, ↓popR_c, ↓popN_0, ↓popN_s, catS_n, catS_c, psh_s, psh_n, fldV_n, fldV_s, ↓tgt_e, sw_n, ↓sw_c, ↓lk1_h, ↓lk1_m, ↓atC_h, ↓atC_m, ↓atC_n, ltO_n, ltO_s, updR_eq, updR_ne, gI_0i, gI_0l, gI_s, ltM_iff, List.cons.injEq, Sum.inl.injEq, Sum.inr.injEq, Option.some.injEq, exists_eq_left, exists_eq_left', exists_eq_right, exists_eq_right', exists_and_left, exists_and_right, exists_eq, exists_const, and_assoc, ↓j_M_go_0, ↓j_M_go_27, ↓j_M_go_29, List.length_cons, List.length_nil, Nat.zero_add, Nat.reduceAdd, Int.reduceAdd, Int.reduceNeg, Int.reduceToNat, Int.reduceLE, Int.reduceLT, true_and, and_true, Nat.reduceLT, reduceIte, Nat.reduceEqDiff, ne_eq, not_false_eq_true, false_implies, true_implies, Bool.false_eq_true, reduceCtorEq, List.cons_append, List.nil_append, Nat.reduceSub, Nat.reduceLeDiff, Fin.isValue, Int.reduceNatCast', Int.zero_add, Int.add_zero, decide_true, decide_false, implies_true, forall_const, true_or, or_true, or_false, false_or, false_and, and_false, Int.toNat_natCast, ↓oF_37_0, ↓oF_37_1, ↓oF_37_2, ↓oF_37_3, ↓aF_38, ↓oF_37_4, ↓aF_39, ↓oF_37_5, ↓oF_37_6, ↓aF_40, ↓oF_37_7, ↓oF_37_8, ↓aF_41, ↓oF_37_9, ↓aF_42, ↓oF_37_10, ↓aF_43, ↓oF_37_11, ↓aF_44, ↓oF_37_12, ↓aF_45, ↓oF_37_13, ↓aF_46, ↓oF_37_14, ↓aF_47, ↓oF_37_15, ↓aF_48, ↓oF_37_16, ↓aF_49, ↓oF_37_17, ↓oF_37_18, ↓aF_50, ↓oF_37_19, ↓aF_51, ↓oF_37_20, ↓aF_52, ↓oF_37_21, ↓aF_53, ↓oF_37_22, ↓aF_54, ↓oF_37_23, ↓aF_55, ↓oF_37_24, ↓aF_56, ↓oF_37_25, ↓aF_57, ↓oF_37_26, ↓oF_37_27, ↓oF_37_28, ↓aF_58, ↓oF_37_29, ↓aF_59, ↓oF_37_30, ↓aF_60, ↓oF_37_31, ↓aF_61, ↓oF_37_32, ↓oF_37_33, ↓oF_37_34, ↓oF_37_35, ↓aF_62, ↓oF_37_36, ↓oF_37_37, ↓aF_63, ↓oF_37_38, ↓oF_37_39, ↓aF_64, ↓oF_37_40, ↓aF_65, ↓oF_37_41, ↓aF_66, oC_0, oC_1, oC_4, oC_11, oC_16, oC_18, oC_20, oC_23, oC_25, oC_26, oC_29, oC_31, oC_33, oC_35, oC_37, isT_29, isT_31, isT_33, isT_35, isL_16, isL_18, isL_26, b2i_0, b2i_1, b2i_01, b2i_r, ↓e_M_isState, ↓e_M_in, ↓e_M_goes]
    (try simp only [rI_iff, rL_iff] at *)
    repeat' (with_reducible (first | assumption | apply And.intro | intro _))
    all_goals first | omega | with_reducible assumption | exact True.intro | skip
    all_goals grind
def s_M_walks : Spec := fun as σ Q => popR as fun c0 r0 => popI r0 fun s r1 => popL r1 fun row r2 => popI r2 fun n r3 => r3 = [] ∧ c0 = 37 ∧ (0 ≤ σ 37 17 ∧ σ 37 17 ≤ 100) ∧ (Wire (σ 37 17) (gM σ)) ∧ (s = -1 ∨ (0 ≤ s ∧ s < σ 37 17)) ∧ (rL row) ∧ (0 ≤ n ∧ n ≤ 60) ∧ Q (some (.inl (folZ (σ 37 17) (gM σ) row n.toNat s))) σ
theorem e_M_walks (s : Int) (row : Int) (n : Int) (σ : St) (Q : Option AV → St → Prop) : s_M_walks [.inr (.inr (some 37)), .inl s, .inr (.inl row), .inl n] σ Q = ((0 ≤ σ 37 17 ∧ σ 37 17 ≤ 100) ∧ (Wire (σ 37 17) (gM σ)) ∧ (s = -1 ∨ (0 ≤ s ∧ s < σ 37 17)) ∧ (rL row) ∧ (0 ≤ n ∧ n ≤ 60) ∧ Q (some (.inl (folZ (σ 37 17) (gM σ) row n.toNat s))) σ) := by
  show ([] = [] ∧ _) = _
  simp only [true_and]
set_option maxHeartbeats 4000000 in
set_option maxRecDepth 20000 in
theorem S_M_walks {l : Launch} : Sat l y_M_walks b_M_walks 7 (some .int) 1 s_M_walks := by
  refine sat_of (Φ := P_M) (κ := Q_M) (Γ := [(188, 10, 2, s_M_goes)]) (rt := 1) (by decide +kernel) P_M_ok Q_M_ok (by
    refine List.forall_mem_cons.mpr ⟨?_, fun _ h => absurd h List.not_mem_nil⟩
    · exact m_M_goes S_M_goes (by decide) l_M_188) (by simp) o_M_walks ?_
  intro as σ Q hh0
  obtain ⟨c0, rr0, rfl, hh1⟩ := popR_inv hh0
  obtain ⟨s, rr1, rfl, hh2⟩ := popI_inv hh1
  obtain ⟨row, rr2, rfl, hh3⟩ := popL_inv hh2
  obtain ⟨n, rr3, rfl, hh4⟩ := popI_inv hh3
  obtain ⟨hrE, rfl, hN, hf, hs, hrrow, hn, hQ⟩ := hh4
  subst hrE
  clear hh0 hh1 hh2 hh3
  refine ⟨Nat.le_of_ble_eq_true rfl, [(9, mkC (fun L st u => ∃ (x i : Int), L = [.inr (.inr (some 37)), .inl s, .inr (.inl row), .inr (.inr none), .inl n, .inl x, .inl i] ∧ st = [] ∧ (-1 ≤ i ∧ i < n) ∧ (folZ (σ 37 17) (gM σ) row (i + 1).toNat x = folZ (σ 37 17) (gM σ) row n.toNat s) ∧ (x = -1 ∨ (0 ≤ x ∧ x < σ 37 17)) ∧ (u = σ)) (fun L st u => ((gI L 6 + 1).toNat, 0, 0)))], 14, ?_, cuts1 ?_ (cuts0)⟩
  · rw [show entL 7 [.inr (.inr (some 37)), .inl s, .inr (.inl row), .inl n] = [.inr (.inr (some 37)), .inl s, .inr (.inl row), .inr (.inr none), .inl n, .inr (.inr none), .inr (.inr none)] from rfl]
    simp only [↓wpN_go, jmp_e, ↓wp_aload_n0, ↓wp_goto, ↓wp_iconst, ↓wp_if_lt, ↓wp_iinc, ↓wp_iload, ↓wp_iload_n1, ↓wp_invokevirtual, ↓wp_ireturn1, ↓wp_istore, ↓wp_isub, ↓wp_l2i, ↓wp_land, ↓wp_lconst1, ↓wp_lload_n2, ↓wp_lshr, wp_nil, ↓ldI_0, ↓ldI_s, ↓ldL_0, ↓ldL_s, ↓ldR_0, ↓ldR_s, sto1_0, sto1_1, sto1_s, sto2_0, sto2_1, sto2_s, isLong_i, isLong_l, isLong_r, ↓popI_c, ↓popL_c, ↓popR_c, ↓popN_0, ↓popN_s, catS_n, catS_c, psh_s, psh_n, fldV_n, fldV_s, ↓tgt_e, sw_n, ↓sw_c, ↓lk1_h, ↓lk1_m, ↓atC_h, ↓atC_m, ↓atC_n, ltO_n, ltO_s, updR_eq, updR_ne, gI_0i, gI_0l, gI_s, ltM_iff, List.cons.injEq, Sum.inl.injEq, Sum.inr.injEq, Option.some.injEq, exists_eq_left, exists_eq_left', exists_eq_right, exists_eq_right', exists_and_left, exists_and_right, exists_eq, exists_const, and_assoc, ↓j_M_walks_0, ↓j_M_walks_9, ↓j_M_walks_35, List.length_cons, List.length_nil, Nat.zero_add, Nat.reduceAdd, Int.reduceAdd, Int.reduceNeg, Int.reduceToNat, Int.reduceLE, Int.reduceLT, true_and, and_true, Nat.reduceLT, reduceIte, Nat.reduceEqDiff, ne_eq, not_false_eq_true, false_implies, true_implies, Bool.false_eq_true, reduceCtorEq, List.cons_append, List.nil_append, Nat.reduceSub, Nat.reduceLeDiff, Fin.isValue, Int.reduceNatCast', Int.zero_add, Int.add_zero, decide_true, decide_false, implies_true, forall_const, true_or, or_true, or_false, false_or, false_and, and_false, Int.toNat_natCast, ↓oF_37_0, ↓oF_37_1, ↓oF_37_2, ↓oF_37_3, ↓aF_38, ↓oF_37_4, ↓aF_39, ↓oF_37_5, ↓oF_37_6, ↓aF_40, ↓oF_37_7, ↓oF_37_8, ↓aF_41, ↓oF_37_9, ↓aF_42, ↓oF_37_10, ↓aF_43, ↓oF_37_11, ↓aF_44, ↓oF_37_12, ↓aF_45, ↓oF_37_13, ↓aF_46, ↓oF_37_14, ↓aF_47, ↓oF_37_15, ↓aF_48, ↓oF_37_16, ↓aF_49, ↓oF_37_17, ↓oF_37_18, ↓aF_50, ↓oF_37_19, ↓aF_51, ↓oF_37_20, ↓aF_52, ↓oF_37_21, ↓aF_53, ↓oF_37_22, ↓aF_54, ↓oF_37_23, ↓aF_55, ↓oF_37_24, ↓aF_56, ↓oF_37_25, ↓aF_57, ↓oF_37_26, ↓oF_37_27, ↓oF_37_28, ↓aF_58, ↓oF_37_29, ↓aF_59, ↓oF_37_30, ↓aF_60, ↓oF_37_31, ↓aF_61, ↓oF_37_32, ↓oF_37_33, ↓oF_37_34, ↓oF_37_35, ↓aF_62, ↓oF_37_36, ↓oF_37_37, ↓aF_63, ↓oF_37_38, ↓oF_37_39, ↓aF_64, ↓oF_37_40, ↓aF_65, ↓oF_37_41, ↓aF_66, oC_0, oC_1, oC_4, oC_11, oC_16, oC_18, oC_20, oC_23, oC_25, oC_26, oC_29, oC_31, oC_33, oC_35, oC_37, isT_29, isT_31, isT_33, isT_35, isL_16, isL_18, isL_26, b2i_0, b2i_1, b2i_01, b2i_r, landZ_1, wrapI_2, ↓e_M_goes]
    (try simp only [rI_iff, rL_iff] at *)
    repeat' (first | assumption | apply And.intro | intro _)
    all_goals first
      | omega
      | (refine st_ext fun k j => ?_; grind [updR_app, up1_app, folZ])
      | (refine Q_eq hQ ?_ ?_ <;> first | rfl | (refine st_ext fun k j => ?_; grind [updR_app, up1_app, folZ]) | grind [updR_app, up1_app, folZ])
      | grind [updR_app, up1_app, folZ]
  · intro L st u hI
    obtain ⟨x, i, rfl, rfl, hi, hx, hxr, hu⟩ := hI
    simp only [↓wpN_go, jmp_e, ↓wp_aload_n0, ↓wp_goto, ↓wp_iconst, ↓wp_if_lt, ↓wp_iinc, ↓wp_iload, ↓wp_iload_n1, ↓wp_invokevirtual, ↓wp_ireturn1, ↓wp_istore, ↓wp_isub, ↓wp_l2i, ↓wp_land, ↓wp_lconst1, ↓wp_lload_n2, ↓wp_lshr, wp_nil, ↓ldI_0, ↓ldI_s, ↓ldL_0, ↓ldL_s, ↓ldR_0, ↓ldR_s, sto1_0, sto1_1, sto1_s, sto2_0, sto2_1, sto2_s, isLong_i, isLong_l, isLong_r, ↓popI_c, ↓popL_c, ↓popR_c, ↓popN_0, ↓popN_s, catS_n, catS_c, psh_s, psh_n, fldV_n, fldV_s, ↓tgt_e, sw_n, ↓sw_c, ↓lk1_h, ↓lk1_m, ↓atC_h, ↓atC_m, ↓atC_n, ltO_n, ltO_s, updR_eq, updR_ne, gI_0i, gI_0l, gI_s, ltM_iff, List.cons.injEq, Sum.inl.injEq, Sum.inr.injEq, Option.some.injEq, exists_eq_left, exists_eq_left', exists_eq_right, exists_eq_right', exists_and_left, exists_and_right, exists_eq, exists_const, and_assoc, ↓j_M_walks_0, ↓j_M_walks_9, ↓j_M_walks_35, List.length_cons, List.length_nil, Nat.zero_add, Nat.reduceAdd, Int.reduceAdd, Int.reduceNeg, Int.reduceToNat, Int.reduceLE, Int.reduceLT, true_and, and_true, Nat.reduceLT, reduceIte, Nat.reduceEqDiff, ne_eq, not_false_eq_true, false_implies, true_implies, Bool.false_eq_true, reduceCtorEq, List.cons_append, List.nil_append, Nat.reduceSub, Nat.reduceLeDiff, Fin.isValue, Int.reduceNatCast', Int.zero_add, Int.add_zero, decide_true, decide_false, implies_true, forall_const, true_or, or_true, or_false, false_or, false_and, and_false, Int.toNat_natCast, ↓oF_37_0, ↓oF_37_1, ↓oF_37_2, ↓oF_37_3, ↓aF_38, ↓oF_37_4, ↓aF_39, ↓oF_37_5, ↓oF_37_6, ↓aF_40, ↓oF_37_7, ↓oF_37_8, ↓aF_41, ↓oF_37_9, ↓aF_42, ↓oF_37_10, ↓aF_43, ↓oF_37_11, ↓aF_44, ↓oF_37_12, ↓aF_45, ↓oF_37_13, ↓aF_46, ↓oF_37_14, ↓aF_47, ↓oF_37_15, ↓aF_48, ↓oF_37_16, ↓aF_49, ↓oF_37_17, ↓oF_37_18, ↓aF_50, ↓oF_37_19, ↓aF_51, ↓oF_37_20, ↓aF_52, ↓oF_37_21, ↓aF_53, ↓oF_37_22, ↓aF_54, ↓oF_37_23, ↓aF_55, ↓oF_37_24, ↓aF_56, ↓oF_37_25, ↓aF_57, ↓oF_37_26, ↓oF_37_27, ↓oF_37_28, ↓aF_58, ↓oF_37_29, ↓aF_59, ↓oF_37_30, ↓aF_60, ↓oF_37_31, ↓aF_61, ↓oF_37_32, ↓oF_37_33, ↓oF_37_34, ↓oF_37_35, ↓aF_62, ↓oF_37_36, ↓oF_37_37, ↓aF_63, ↓oF_37_38, ↓oF_37_39, ↓aF_64, ↓oF_37_40, ↓aF_65, ↓oF_37_41, ↓aF_66, oC_0, oC_1, oC_4, oC_11, oC_16, oC_18, oC_20, oC_23, oC_25, oC_26, oC_29, oC_31, oC_33, oC_35, oC_37, isT_29, isT_31, isT_33, isT_35, isL_16, isL_18, isL_26, b2i_0, b2i_1, b2i_01, b2i_r, landZ_1, wrapI_2, ↓e_M_goes]
    subst hu
    have h1 := stepZ_r hN.2 hf x (row / 2 ^ i.toNat % 2)
    have e8 : i + -1 + 1 = i := by omega
    rw [e8]
    have e9 : i < 0 → folZ (u 37 17) (gM u) row (i + 1).toNat x = x := fun h => by rw [show (i + 1).toNat = 0 by omega]; rfl
    have e1 : 0 ≤ i → folZ (u 37 17) (gM u) row (i + 1).toNat x = folZ (u 37 17) (gM u) row i.toNat (stepZ (u 37 17) (gM u) x (row / 2 ^ i.toNat % 2)) := fun h => by rw [show (i + 1).toNat = i.toNat + 1 by omega]; rfl
    (try simp only [rI_iff, rL_iff] at *)
    repeat' (with_reducible (first | assumption | apply And.intro | intro _))
    all_goals first | omega | with_reducible assumption | exact True.intro | skip
    all_goals grind
def s_M_walk : Spec := fun as σ Q => popR as fun c0 r0 => popI r0 fun s r1 => popL r1 fun row r2 => popI r2 fun n r3 => r3 = [] ∧ c0 = 37 ∧ (0 ≤ σ 37 17 ∧ σ 37 17 ≤ 100) ∧ (Wire (σ 37 17) (gM σ)) ∧ (rI s) ∧ (rL row) ∧ (rI n) ∧ Q (some (.inl (if (0 ≤ s ∧ s < σ 37 17) ∧ (0 ≤ n ∧ n ≤ 60 ∧ 0 ≤ row ∧ row < 2 ^ n.toNat) then folZ (σ 37 17) (gM σ) row n.toNat s else -2))) σ
theorem e_M_walk (s : Int) (row : Int) (n : Int) (σ : St) (Q : Option AV → St → Prop) : s_M_walk [.inr (.inr (some 37)), .inl s, .inr (.inl row), .inl n] σ Q = ((0 ≤ σ 37 17 ∧ σ 37 17 ≤ 100) ∧ (Wire (σ 37 17) (gM σ)) ∧ (rI s) ∧ (rL row) ∧ (rI n) ∧ Q (some (.inl (if (0 ≤ s ∧ s < σ 37 17) ∧ (0 ≤ n ∧ n ≤ 60 ∧ 0 ≤ row ∧ row < 2 ^ n.toNat) then folZ (σ 37 17) (gM σ) row n.toNat s else -2))) σ) := by
  show ([] = [] ∧ _) = _
  simp only [true_and]
set_option maxHeartbeats 4000000 in
set_option maxRecDepth 20000 in
theorem S_M_walk {l : Launch} : Sat l y_M_walk b_M_walk 5 (some .int) 2 s_M_walk := by
  refine sat_of (Φ := P_M) (κ := Q_M) (Γ := [(185, 10, 1, s_M_isState), (193, 0, 2, s_M_isRow), (197, 10, 3, s_M_walks)]) (rt := 1) (by decide +kernel) P_M_ok Q_M_ok (by
    refine List.forall_mem_cons.mpr ⟨?_, List.forall_mem_cons.mpr ⟨?_, List.forall_mem_cons.mpr ⟨?_, fun _ h => absurd h List.not_mem_nil⟩⟩⟩
    · exact m_M_isState S_M_isState (by decide) l_M_185
    · exact m_M_isRow S_M_isRow (by decide) l_M_193
    · exact m_M_walks S_M_walks (by decide) l_M_197) (by simp) o_M_walk ?_
  intro as σ Q hh0
  obtain ⟨c0, rr0, rfl, hh1⟩ := popR_inv hh0
  obtain ⟨s, rr1, rfl, hh2⟩ := popI_inv hh1
  obtain ⟨row, rr2, rfl, hh3⟩ := popL_inv hh2
  obtain ⟨n, rr3, rfl, hh4⟩ := popI_inv hh3
  obtain ⟨hrE, rfl, hN, hf, hrs, hrrow, hrn, hQ⟩ := hh4
  subst hrE
  clear hh0 hh1 hh2 hh3
  refine ⟨Nat.le_of_ble_eq_true rfl, [], 14, ?_, cuts0⟩
  · rw [show entL 5 [.inr (.inr (some 37)), .inl s, .inr (.inl row), .inl n] = [.inr (.inr (some 37)), .inl s, .inr (.inl row), .inr (.inr none), .inl n] from rfl]
    simp only [↓wpN_go, jmp_e, ↓wp_aload_n0, ↓wp_bipush, ↓wp_goto, ↓wp_if_eq, ↓wp_iload, ↓wp_iload_n1, ↓wp_invokestatic, ↓wp_invokevirtual, ↓wp_ireturn1, ↓wp_lload_n2, wp_nil, ↓ldI_0, ↓ldI_s, ↓ldL_0, ↓ldL_s, ↓ldR_0, ↓ldR_s, sto1_0, sto1_1, sto1_s, sto2_0, sto2_1, sto2_s, isLong_i, isLong_l, isLong_r, ↓popI_c, ↓popL_c, ↓popR_c, ↓popN_0, ↓popN_s, catS_n, catS_c, psh_s, psh_n, fldV_n, fldV_s, ↓tgt_e, sw_n, ↓sw_c, ↓lk1_h, ↓lk1_m, ↓atC_h, ↓atC_m, ↓atC_n, ltO_n, ltO_s, updR_eq, updR_ne, gI_0i, gI_0l, gI_s, ltM_iff, List.cons.injEq, Sum.inl.injEq, Sum.inr.injEq, Option.some.injEq, exists_eq_left, exists_eq_left', exists_eq_right, exists_eq_right', exists_and_left, exists_and_right, exists_eq, exists_const, and_assoc, ↓j_M_walk_0, ↓j_M_walk_28, ↓j_M_walk_30, List.length_cons, List.length_nil, Nat.zero_add, Nat.reduceAdd, Int.reduceAdd, Int.reduceNeg, Int.reduceToNat, Int.reduceLE, Int.reduceLT, true_and, and_true, Nat.reduceLT, reduceIte, Nat.reduceEqDiff, ne_eq, not_false_eq_true, false_implies, true_implies, Bool.false_eq_true, reduceCtorEq, List.cons_append, List.nil_append, Nat.reduceSub, Nat.reduceLeDiff, Fin.isValue, Int.reduceNatCast', Int.zero_add, Int.add_zero, decide_true, decide_false, implies_true, forall_const, true_or, or_true, or_false, false_or, false_and, and_false, Int.toNat_natCast, ↓oF_37_0, ↓oF_37_1, ↓oF_37_2, ↓oF_37_3, ↓aF_38, ↓oF_37_4, ↓aF_39, ↓oF_37_5, ↓oF_37_6, ↓aF_40, ↓oF_37_7, ↓oF_37_8, ↓aF_41, ↓oF_37_9, ↓aF_42, ↓oF_37_10, ↓aF_43, ↓oF_37_11, ↓aF_44, ↓oF_37_12, ↓aF_45, ↓oF_37_13, ↓aF_46, ↓oF_37_14, ↓aF_47, ↓oF_37_15, ↓aF_48, ↓oF_37_16, ↓aF_49, ↓oF_37_17, ↓oF_37_18, ↓aF_50, ↓oF_37_19, ↓aF_51, ↓oF_37_20, ↓aF_52, ↓oF_37_21, ↓aF_53, ↓oF_37_22, ↓aF_54, ↓oF_37_23, ↓aF_55, ↓oF_37_24, ↓aF_56, ↓oF_37_25, ↓aF_57, ↓oF_37_26, ↓oF_37_27, ↓oF_37_28, ↓aF_58, ↓oF_37_29, ↓aF_59, ↓oF_37_30, ↓aF_60, ↓oF_37_31, ↓aF_61, ↓oF_37_32, ↓oF_37_33, ↓oF_37_34, ↓oF_37_35, ↓aF_62, ↓oF_37_36, ↓oF_37_37, ↓aF_63, ↓oF_37_38, ↓oF_37_39, ↓aF_64, ↓oF_37_40, ↓aF_65, ↓oF_37_41, ↓aF_66, oC_0, oC_1, oC_4, oC_11, oC_16, oC_18, oC_20, oC_23, oC_25, oC_26, oC_29, oC_31, oC_33, oC_35, oC_37, isT_29, isT_31, isT_33, isT_35, isL_16, isL_18, isL_26, b2i_0, b2i_1, b2i_01, b2i_r, ↓e_M_isState, ↓e_M_isRow, ↓e_M_walks]
    generalize (2 : Int) ^ n.toNat = p at *
    (try simp only [rI_iff, rL_iff] at *)
    repeat' (with_reducible (first | assumption | apply And.intro | intro _))
    all_goals first | omega | with_reducible assumption | exact True.intro | skip
    all_goals grind
def s_M_first : Spec := fun as σ Q => popR as fun c0 r0 => popI r0 fun s r1 => popI r1 fun w r2 => r2 = [] ∧ c0 = 37 ∧ (0 ≤ σ 37 17 ∧ σ 37 17 ≤ 100) ∧ (Tree (σ 37 17) (σ 52) (σ 54)) ∧ (isBits (σ 53)) ∧ (rI s) ∧ (rI w) ∧ Q (some (.inr (.inl (if (0 ≤ s ∧ s < σ 37 17) ∧ 0 ≤ w ∧ w ≤ 1 then (if w = 0 then σ 54 s.toNat else (if σ 54 s.toNat ≤ 60 then pathV (σ 52) (σ 53) (σ 54 s.toNat).toNat s else -1)) else -2)))) σ
theorem e_M_first (s : Int) (w : Int) (σ : St) (Q : Option AV → St → Prop) : s_M_first [.inr (.inr (some 37)), .inl s, .inl w] σ Q = ((0 ≤ σ 37 17 ∧ σ 37 17 ≤ 100) ∧ (Tree (σ 37 17) (σ 52) (σ 54)) ∧ (isBits (σ 53)) ∧ (rI s) ∧ (rI w) ∧ Q (some (.inr (.inl (if (0 ≤ s ∧ s < σ 37 17) ∧ 0 ≤ w ∧ w ≤ 1 then (if w = 0 then σ 54 s.toNat else (if σ 54 s.toNat ≤ 60 then pathV (σ 52) (σ 53) (σ 54 s.toNat).toNat s else -1)) else -2)))) σ) := by
  show ([] = [] ∧ _) = _
  simp only [true_and]
set_option maxHeartbeats 4000000 in
set_option maxRecDepth 20000 in
theorem S_M_first {l : Launch} : Sat l y_M_first b_M_first 7 (some .long) 2 s_M_first := by
  refine sat_of (Φ := P_M) (κ := Q_M) (Γ := [(185, 10, 1, s_M_isState), (108, 0, 3, s_M_in)]) (rt := 2) (by decide +kernel) P_M_ok Q_M_ok (by
    refine List.forall_mem_cons.mpr ⟨?_, List.forall_mem_cons.mpr ⟨?_, fun _ h => absurd h List.not_mem_nil⟩⟩
    · exact m_M_isState S_M_isState (by decide) l_M_185
    · exact m_M_in S_M_in (by decide) l_M_108) (by simp) o_M_first ?_
  intro as σ Q hh0
  obtain ⟨c0, rr0, rfl, hh1⟩ := popR_inv hh0
  obtain ⟨s, rr1, rfl, hh2⟩ := popI_inv hh1
  obtain ⟨w, rr2, rfl, hh3⟩ := popI_inv hh2
  obtain ⟨hrE, rfl, hN, hT, hb, hrs, hrw, hQ⟩ := hh3
  subst hrE
  clear hh0 hh1 hh2
  refine ⟨Nat.le_of_ble_eq_true rfl, [(57, mkC (fun L st u => ∃ (x a i : Int), L = [.inr (.inr (some 37)), .inl s, .inl w, .inr (.inl x), .inr (.inr none), .inl a, .inl i] ∧ st = [] ∧ (0 ≤ s ∧ s < σ 37 17) ∧ (w = 1) ∧ (σ 54 s.toNat ≤ 60) ∧ (0 ≤ i ∧ i ≤ σ 54 s.toNat) ∧ (0 ≤ a ∧ a < σ 37 17 ∧ σ 54 a.toNat = σ 54 s.toNat - i) ∧ (x + 2 ^ i.toNat * pathV (σ 52) (σ 53) (σ 54 s.toNat - i).toNat a = pathV (σ 52) (σ 53) (σ 54 s.toNat).toNat s) ∧ (u = σ)) (fun L st u => ((61 - gI L 6).toNat, 0, 0)))], 14, ?_, cuts1 ?_ (cuts0)⟩
  · rw [show entL 7 [.inr (.inr (some 37)), .inl s, .inl w] = [.inr (.inr (some 37)), .inl s, .inl w, .inr (.inr none), .inr (.inr none), .inr (.inr none), .inr (.inr none)] from rfl]
    simp only [↓wpN_go, jmp_e, ↓wp_aload_n0, ↓wp_bipush, ↓wp_getfield, ↓wp_goto, ↓wp_i2l, ↓wp_iaload, ↓wp_icmp_ge, ↓wp_icmp_le, ↓wp_iconst, ↓wp_if_eq, ↓wp_if_ne, ↓wp_iinc, ↓wp_iload, ↓wp_iload_n1, ↓wp_iload_n2, ↓wp_invokestatic, ↓wp_invokevirtual, ↓wp_istore, ↓wp_ladd, ↓wp_lconst0, ↓wp_lconst1, ↓wp_ldc2_w, ↓wp_lload_n3, ↓wp_lreturn2, ↓wp_lshl, ↓wp_lstore_n3, wp_nil, ↓ldI_0, ↓ldI_s, ↓ldL_0, ↓ldL_s, ↓ldR_0, ↓ldR_s, sto1_0, sto1_1, sto1_s, sto2_0, sto2_1, sto2_s, isLong_i, isLong_l, isLong_r, ↓popI_c, ↓popL_c, ↓popR_c, ↓popN_0, ↓popN_s, catS_n, catS_c, psh_s, psh_n, fldV_n, fldV_s, ↓tgt_e, sw_n, ↓sw_c, ↓lk1_h, ↓lk1_m, ↓atC_h, ↓atC_m, ↓atC_n, ltO_n, ltO_s, updR_eq, updR_ne, gI_0i, gI_0l, gI_s, ltM_iff, List.cons.injEq, Sum.inl.injEq, Sum.inr.injEq, Option.some.injEq, exists_eq_left, exists_eq_left', exists_eq_right, exists_eq_right', exists_and_left, exists_and_right, exists_eq, exists_const, and_assoc, ↓j_M_first_0, ↓j_M_first_18, ↓j_M_first_22, ↓j_M_first_34, ↓j_M_first_49, ↓j_M_first_57, ↓j_M_first_97, ↓c_M_100120, ↓c_M_100201, ↓f_M_60, ↓f_M_63, ↓f_M_66, List.length_cons, List.length_nil, Nat.zero_add, Nat.reduceAdd, Int.reduceAdd, Int.reduceNeg, Int.reduceToNat, Int.reduceLE, Int.reduceLT, true_and, and_true, Nat.reduceLT, reduceIte, Nat.reduceEqDiff, ne_eq, not_false_eq_true, false_implies, true_implies, Bool.false_eq_true, reduceCtorEq, List.cons_append, List.nil_append, Nat.reduceSub, Nat.reduceLeDiff, Fin.isValue, Int.reduceNatCast', Int.zero_add, Int.add_zero, decide_true, decide_false, implies_true, forall_const, true_or, or_true, or_false, false_or, false_and, and_false, Int.toNat_natCast, ↓oF_37_0, ↓oF_37_1, ↓oF_37_2, ↓oF_37_3, ↓aF_38, ↓oF_37_4, ↓aF_39, ↓oF_37_5, ↓oF_37_6, ↓aF_40, ↓oF_37_7, ↓oF_37_8, ↓aF_41, ↓oF_37_9, ↓aF_42, ↓oF_37_10, ↓aF_43, ↓oF_37_11, ↓aF_44, ↓oF_37_12, ↓aF_45, ↓oF_37_13, ↓aF_46, ↓oF_37_14, ↓aF_47, ↓oF_37_15, ↓aF_48, ↓oF_37_16, ↓aF_49, ↓oF_37_17, ↓oF_37_18, ↓aF_50, ↓oF_37_19, ↓aF_51, ↓oF_37_20, ↓aF_52, ↓oF_37_21, ↓aF_53, ↓oF_37_22, ↓aF_54, ↓oF_37_23, ↓aF_55, ↓oF_37_24, ↓aF_56, ↓oF_37_25, ↓aF_57, ↓oF_37_26, ↓oF_37_27, ↓oF_37_28, ↓aF_58, ↓oF_37_29, ↓aF_59, ↓oF_37_30, ↓aF_60, ↓oF_37_31, ↓aF_61, ↓oF_37_32, ↓oF_37_33, ↓oF_37_34, ↓oF_37_35, ↓aF_62, ↓oF_37_36, ↓oF_37_37, ↓aF_63, ↓oF_37_38, ↓oF_37_39, ↓aF_64, ↓oF_37_40, ↓aF_65, ↓oF_37_41, ↓aF_66, oC_0, oC_1, oC_4, oC_11, oC_16, oC_18, oC_20, oC_23, oC_25, oC_26, oC_29, oC_31, oC_33, oC_35, oC_37, isT_29, isT_31, isT_33, isT_35, isL_16, isL_18, isL_26, b2i_0, b2i_1, b2i_01, b2i_r, ↓e_M_isState, ↓e_M_in]
    have hd : 0 ≤ s → s < σ 37 17 → 0 ≤ σ 54 s.toNat ∧ σ 54 s.toNat < 100 := fun h1 h2 => by
      have := hT.at ⟨h1, h2⟩
      omega
    (try simp only [rI_iff, rL_iff] at *)
    repeat' (with_reducible (first | assumption | apply And.intro | intro _))
    all_goals first | omega | with_reducible assumption | exact True.intro | skip
    all_goals grind
  · intro L st u hI
    obtain ⟨x, a, i, rfl, rfl, hs, hw1, hd, hi, ha, hx, hu⟩ := hI
    simp only [↓wpN_go, jmp_e, ↓wp_aload_n0, ↓wp_bipush, ↓wp_getfield, ↓wp_goto, ↓wp_i2l, ↓wp_iaload, ↓wp_icmp_ge, ↓wp_icmp_le, ↓wp_iconst, ↓wp_if_eq, ↓wp_if_ne, ↓wp_iinc, ↓wp_iload, ↓wp_iload_n1, ↓wp_iload_n2, ↓wp_invokestatic, ↓wp_invokevirtual, ↓wp_istore, ↓wp_ladd, ↓wp_lconst0, ↓wp_lconst1, ↓wp_ldc2_w, ↓wp_lload_n3, ↓wp_lreturn2, ↓wp_lshl, ↓wp_lstore_n3, wp_nil, ↓ldI_0, ↓ldI_s, ↓ldL_0, ↓ldL_s, ↓ldR_0, ↓ldR_s, sto1_0, sto1_1, sto1_s, sto2_0, sto2_1, sto2_s, isLong_i, isLong_l, isLong_r, ↓popI_c, ↓popL_c, ↓popR_c, ↓popN_0, ↓popN_s, catS_n, catS_c, psh_s, psh_n, fldV_n, fldV_s, ↓tgt_e, sw_n, ↓sw_c, ↓lk1_h, ↓lk1_m, ↓atC_h, ↓atC_m, ↓atC_n, ltO_n, ltO_s, updR_eq, updR_ne, gI_0i, gI_0l, gI_s, ltM_iff, List.cons.injEq, Sum.inl.injEq, Sum.inr.injEq, Option.some.injEq, exists_eq_left, exists_eq_left', exists_eq_right, exists_eq_right', exists_and_left, exists_and_right, exists_eq, exists_const, and_assoc, ↓j_M_first_0, ↓j_M_first_18, ↓j_M_first_22, ↓j_M_first_34, ↓j_M_first_49, ↓j_M_first_57, ↓j_M_first_97, ↓c_M_100120, ↓c_M_100201, ↓f_M_60, ↓f_M_63, ↓f_M_66, List.length_cons, List.length_nil, Nat.zero_add, Nat.reduceAdd, Int.reduceAdd, Int.reduceNeg, Int.reduceToNat, Int.reduceLE, Int.reduceLT, true_and, and_true, Nat.reduceLT, reduceIte, Nat.reduceEqDiff, ne_eq, not_false_eq_true, false_implies, true_implies, Bool.false_eq_true, reduceCtorEq, List.cons_append, List.nil_append, Nat.reduceSub, Nat.reduceLeDiff, Fin.isValue, Int.reduceNatCast', Int.zero_add, Int.add_zero, decide_true, decide_false, implies_true, forall_const, true_or, or_true, or_false, false_or, false_and, and_false, Int.toNat_natCast, ↓oF_37_0, ↓oF_37_1, ↓oF_37_2, ↓oF_37_3, ↓aF_38, ↓oF_37_4, ↓aF_39, ↓oF_37_5, ↓oF_37_6, ↓aF_40, ↓oF_37_7, ↓oF_37_8, ↓aF_41, ↓oF_37_9, ↓aF_42, ↓oF_37_10, ↓aF_43, ↓oF_37_11, ↓aF_44, ↓oF_37_12, ↓aF_45, ↓oF_37_13, ↓aF_46, ↓oF_37_14, ↓aF_47, ↓oF_37_15, ↓aF_48, ↓oF_37_16, ↓aF_49, ↓oF_37_17, ↓oF_37_18, ↓aF_50, ↓oF_37_19, ↓aF_51, ↓oF_37_20, ↓aF_52, ↓oF_37_21, ↓aF_53, ↓oF_37_22, ↓aF_54, ↓oF_37_23, ↓aF_55, ↓oF_37_24, ↓aF_56, ↓oF_37_25, ↓aF_57, ↓oF_37_26, ↓oF_37_27, ↓oF_37_28, ↓aF_58, ↓oF_37_29, ↓aF_59, ↓oF_37_30, ↓aF_60, ↓oF_37_31, ↓aF_61, ↓oF_37_32, ↓oF_37_33, ↓oF_37_34, ↓oF_37_35, ↓aF_62, ↓oF_37_36, ↓oF_37_37, ↓aF_63, ↓oF_37_38, ↓oF_37_39, ↓aF_64, ↓oF_37_40, ↓aF_65, ↓oF_37_41, ↓aF_66, oC_0, oC_1, oC_4, oC_11, oC_16, oC_18, oC_20, oC_23, oC_25, oC_26, oC_29, oC_31, oC_33, oC_35, oC_37, isT_29, isT_31, isT_33, isT_35, isL_16, isL_18, isL_26, b2i_0, b2i_1, b2i_01, b2i_r, ↓e_M_isState, ↓e_M_in]
    subst hu hw1
    have h1 := hT.at hs
    have h2 := hT.at ⟨ha.1, ha.2.1⟩
    have h3 := hb a.toNat
    rw [if_pos ⟨hs, by omega, by omega⟩, if_neg (by omega), if_pos hd] at hQ
    by_cases hi2 : i < u 54 s.toNat
    · have h4 := h2.2.2 (by omega)
      have e1 : (u 54 s.toNat - i).toNat = (u 54 s.toNat - (i + 1)).toNat + 1 := by omega
      have e2 : (i + 1).toNat = i.toNat + 1 := by omega
      rw [e1, pathV] at hx
      rw [e2, Int.pow_succ]
      (try simp only [rI_iff, rL_iff] at *)
      repeat' (with_reducible (first | assumption | apply And.intro | intro _))
      all_goals first | omega | with_reducible assumption | exact True.intro | skip
      all_goals grind
    · have e3 : (u 54 s.toNat - i).toNat = 0 := by omega
      rw [e3, pathV] at hx
      (try simp only [rI_iff, rL_iff] at *)
      repeat' (with_reducible (first | assumption | apply And.intro | intro _))
      all_goals first | omega | with_reducible assumption | exact True.intro | skip
      all_goals grind
def s_M_weigh : Spec := fun as σ Q => popR as fun c0 r0 => popI r0 fun s r1 => popI r1 fun v r2 => r2 = [] ∧ c0 = 37 ∧ (0 ≤ σ 37 17 ∧ σ 37 17 ≤ 100) ∧ (rI s) ∧ (rI v) ∧ if (0 ≤ s ∧ s < σ 37 17) ∧ 0 ≤ v ∧ v ≤ 1000000 then Q (some (.inl (σ 57 s.toNat))) (updR σ 57 (up1 (σ 57) s.toNat v)) else Q (some (.inl (-2))) σ
theorem e_M_weigh (s : Int) (v : Int) (σ : St) (Q : Option AV → St → Prop) : s_M_weigh [.inr (.inr (some 37)), .inl s, .inl v] σ Q = ((0 ≤ σ 37 17 ∧ σ 37 17 ≤ 100) ∧ (rI s) ∧ (rI v) ∧ if (0 ≤ s ∧ s < σ 37 17) ∧ 0 ≤ v ∧ v ≤ 1000000 then Q (some (.inl (σ 57 s.toNat))) (updR σ 57 (up1 (σ 57) s.toNat v)) else Q (some (.inl (-2))) σ) := by
  show ([] = [] ∧ _) = _
  simp only [true_and]
set_option maxHeartbeats 4000000 in
set_option maxRecDepth 20000 in
theorem S_M_weigh {l : Launch} : Sat l y_M_weigh b_M_weigh 4 (some .int) 2 s_M_weigh := by
  refine sat_of (Φ := P_M) (κ := Q_M) (Γ := [(185, 10, 1, s_M_isState), (108, 0, 3, s_M_in)]) (rt := 1) (by decide +kernel) P_M_ok Q_M_ok (by
    refine List.forall_mem_cons.mpr ⟨?_, List.forall_mem_cons.mpr ⟨?_, fun _ h => absurd h List.not_mem_nil⟩⟩
    · exact m_M_isState S_M_isState (by decide) l_M_185
    · exact m_M_in S_M_in (by decide) l_M_108) (by simp) o_M_weigh ?_
  intro as σ Q hh0
  obtain ⟨c0, rr0, rfl, hh1⟩ := popR_inv hh0
  obtain ⟨s, rr1, rfl, hh2⟩ := popI_inv hh1
  obtain ⟨v, rr2, rfl, hh3⟩ := popI_inv hh2
  obtain ⟨hrE, rfl, hN, hrs, hrv, hQ⟩ := hh3
  subst hrE
  clear hh0 hh1 hh2
  refine ⟨Nat.le_of_ble_eq_true rfl, [], 14, ?_, cuts0⟩
  · rw [show entL 4 [.inr (.inr (some 37)), .inl s, .inl v] = [.inr (.inr (some 37)), .inl s, .inl v, .inr (.inr none)] from rfl]
    simp only [↓wpN_go, jmp_e, ↓wp_aload_n0, ↓wp_bipush, ↓wp_getfield, ↓wp_i2l, ↓wp_iaload, ↓wp_iastore, ↓wp_if_eq, ↓wp_if_ne, ↓wp_iload_n1, ↓wp_iload_n2, ↓wp_iload_n3, ↓wp_invokestatic, ↓wp_invokevirtual, ↓wp_ireturn1, ↓wp_istore_n3, ↓wp_lconst0, ↓wp_ldc2_w, wp_nil, ↓ldI_0, ↓ldI_s, ↓ldL_0, ↓ldL_s, ↓ldR_0, ↓ldR_s, sto1_0, sto1_1, sto1_s, sto2_0, sto2_1, sto2_s, isLong_i, isLong_l, isLong_r, ↓popI_c, ↓popL_c, ↓popR_c, ↓popN_0, ↓popN_s, catS_n, catS_c, psh_s, psh_n, fldV_n, fldV_s, ↓tgt_e, sw_n, ↓sw_c, ↓lk1_h, ↓lk1_m, ↓atC_h, ↓atC_m, ↓atC_n, ltO_n, ltO_s, updR_eq, updR_ne, gI_0i, gI_0l, gI_s, ltM_iff, List.cons.injEq, Sum.inl.injEq, Sum.inr.injEq, Option.some.injEq, exists_eq_left, exists_eq_left', exists_eq_right, exists_eq_right', exists_and_left, exists_and_right, exists_eq, exists_const, and_assoc, ↓j_M_weigh_0, ↓j_M_weigh_20, ↓j_M_weigh_23, ↓c_M_100219, ↓f_M_75, List.length_cons, List.length_nil, Nat.zero_add, Nat.reduceAdd, Int.reduceAdd, Int.reduceNeg, Int.reduceToNat, Int.reduceLE, Int.reduceLT, true_and, and_true, Nat.reduceLT, reduceIte, Nat.reduceEqDiff, ne_eq, not_false_eq_true, false_implies, true_implies, Bool.false_eq_true, reduceCtorEq, List.cons_append, List.nil_append, Nat.reduceSub, Nat.reduceLeDiff, Fin.isValue, Int.reduceNatCast', Int.zero_add, Int.add_zero, decide_true, decide_false, implies_true, forall_const, true_or, or_true, or_false, false_or, false_and, and_false, Int.toNat_natCast, ↓oF_37_0, ↓oF_37_1, ↓oF_37_2, ↓oF_37_3, ↓aF_38, ↓oF_37_4, ↓aF_39, ↓oF_37_5, ↓oF_37_6, ↓aF_40, ↓oF_37_7, ↓oF_37_8, ↓aF_41, ↓oF_37_9, ↓aF_42, ↓oF_37_10, ↓aF_43, ↓oF_37_11, ↓aF_44, ↓oF_37_12, ↓aF_45, ↓oF_37_13, ↓aF_46, ↓oF_37_14, ↓aF_47, ↓oF_37_15, ↓aF_48, ↓oF_37_16, ↓aF_49, ↓oF_37_17, ↓oF_37_18, ↓aF_50, ↓oF_37_19, ↓aF_51, ↓oF_37_20, ↓aF_52, ↓oF_37_21, ↓aF_53, ↓oF_37_22, ↓aF_54, ↓oF_37_23, ↓aF_55, ↓oF_37_24, ↓aF_56, ↓oF_37_25, ↓aF_57, ↓oF_37_26, ↓oF_37_27, ↓oF_37_28, ↓aF_58, ↓oF_37_29, ↓aF_59, ↓oF_37_30, ↓aF_60, ↓oF_37_31, ↓aF_61, ↓oF_37_32, ↓oF_37_33, ↓oF_37_34, ↓oF_37_35, ↓aF_62, ↓oF_37_36, ↓oF_37_37, ↓aF_63, ↓oF_37_38, ↓oF_37_39, ↓aF_64, ↓oF_37_40, ↓aF_65, ↓oF_37_41, ↓aF_66, oC_0, oC_1, oC_4, oC_11, oC_16, oC_18, oC_20, oC_23, oC_25, oC_26, oC_29, oC_31, oC_33, oC_35, oC_37, isT_29, isT_31, isT_33, isT_35, isL_16, isL_18, isL_26, b2i_0, b2i_1, b2i_01, b2i_r, ↓e_M_isState, ↓e_M_in]
    (try simp only [rI_iff, rL_iff] at *)
    repeat' (with_reducible (first | assumption | apply And.intro | intro _))
    all_goals first | omega | with_reducible assumption | exact True.intro | skip
    all_goals grind
def s_M_weight : Spec := fun as σ Q => popR as fun c0 r0 => popI r0 fun s r1 => r1 = [] ∧ c0 = 37 ∧ (0 ≤ σ 37 17 ∧ σ 37 17 ≤ 100) ∧ (rI s) ∧ Q (some (.inl (if (0 ≤ s ∧ s < σ 37 17) then σ 57 s.toNat else -2))) σ
theorem e_M_weight (s : Int) (σ : St) (Q : Option AV → St → Prop) : s_M_weight [.inr (.inr (some 37)), .inl s] σ Q = ((0 ≤ σ 37 17 ∧ σ 37 17 ≤ 100) ∧ (rI s) ∧ Q (some (.inl (if (0 ≤ s ∧ s < σ 37 17) then σ 57 s.toNat else -2))) σ) := by
  show ([] = [] ∧ _) = _
  simp only [true_and]
set_option maxHeartbeats 4000000 in
set_option maxRecDepth 20000 in
theorem S_M_weight {l : Launch} : Sat l y_M_weight b_M_weight 2 (some .int) 2 s_M_weight := by
  refine sat_of (Φ := P_M) (κ := Q_M) (Γ := [(185, 10, 1, s_M_isState)]) (rt := 1) (by decide +kernel) P_M_ok Q_M_ok (by
    refine List.forall_mem_cons.mpr ⟨?_, fun _ h => absurd h List.not_mem_nil⟩
    · exact m_M_isState S_M_isState (by decide) l_M_185) (by simp) o_M_weight ?_
  intro as σ Q hh0
  obtain ⟨c0, rr0, rfl, hh1⟩ := popR_inv hh0
  obtain ⟨s, rr1, rfl, hh2⟩ := popI_inv hh1
  obtain ⟨hrE, rfl, hN, hrs, hQ⟩ := hh2
  subst hrE
  clear hh0 hh1
  refine ⟨Nat.le_of_ble_eq_true rfl, [], 14, ?_, cuts0⟩
  · rw [show entL 2 [.inr (.inr (some 37)), .inl s] = [.inr (.inr (some 37)), .inl s] from rfl]
    simp only [↓wpN_go, jmp_e, ↓wp_aload_n0, ↓wp_bipush, ↓wp_getfield, ↓wp_goto, ↓wp_iaload, ↓wp_if_eq, ↓wp_iload_n1, ↓wp_invokevirtual, ↓wp_ireturn1, wp_nil, ↓ldI_0, ↓ldI_s, ↓ldL_0, ↓ldL_s, ↓ldR_0, ↓ldR_s, sto1_0, sto1_1, sto1_s, sto2_0, sto2_1, sto2_s, isLong_i, isLong_l, isLong_r, ↓popI_c, ↓popL_c, ↓popR_c, ↓popN_0, ↓popN_s, catS_n, catS_c, psh_s, psh_n, fldV_n, fldV_s, ↓tgt_e, sw_n, ↓sw_c, ↓lk1_h, ↓lk1_m, ↓atC_h, ↓atC_m, ↓atC_n, ltO_n, ltO_s, updR_eq, updR_ne, gI_0i, gI_0l, gI_s, ltM_iff, List.cons.injEq, Sum.inl.injEq, Sum.inr.injEq, Option.some.injEq, exists_eq_left, exists_eq_left', exists_eq_right, exists_eq_right', exists_and_left, exists_and_right, exists_eq, exists_const, and_assoc, ↓j_M_weight_0, ↓j_M_weight_17, ↓j_M_weight_19, ↓f_M_75, List.length_cons, List.length_nil, Nat.zero_add, Nat.reduceAdd, Int.reduceAdd, Int.reduceNeg, Int.reduceToNat, Int.reduceLE, Int.reduceLT, true_and, and_true, Nat.reduceLT, reduceIte, Nat.reduceEqDiff, ne_eq, not_false_eq_true, false_implies, true_implies, Bool.false_eq_true, reduceCtorEq, List.cons_append, List.nil_append, Nat.reduceSub, Nat.reduceLeDiff, Fin.isValue, Int.reduceNatCast', Int.zero_add, Int.add_zero, decide_true, decide_false, implies_true, forall_const, true_or, or_true, or_false, false_or, false_and, and_false, Int.toNat_natCast, ↓oF_37_0, ↓oF_37_1, ↓oF_37_2, ↓oF_37_3, ↓aF_38, ↓oF_37_4, ↓aF_39, ↓oF_37_5, ↓oF_37_6, ↓aF_40, ↓oF_37_7, ↓oF_37_8, ↓aF_41, ↓oF_37_9, ↓aF_42, ↓oF_37_10, ↓aF_43, ↓oF_37_11, ↓aF_44, ↓oF_37_12, ↓aF_45, ↓oF_37_13, ↓aF_46, ↓oF_37_14, ↓aF_47, ↓oF_37_15, ↓aF_48, ↓oF_37_16, ↓aF_49, ↓oF_37_17, ↓oF_37_18, ↓aF_50, ↓oF_37_19, ↓aF_51, ↓oF_37_20, ↓aF_52, ↓oF_37_21, ↓aF_53, ↓oF_37_22, ↓aF_54, ↓oF_37_23, ↓aF_55, ↓oF_37_24, ↓aF_56, ↓oF_37_25, ↓aF_57, ↓oF_37_26, ↓oF_37_27, ↓oF_37_28, ↓aF_58, ↓oF_37_29, ↓aF_59, ↓oF_37_30, ↓aF_60, ↓oF_37_31, ↓aF_61, ↓oF_37_32, ↓oF_37_33, ↓oF_37_34, ↓oF_37_35, ↓aF_62, ↓oF_37_36, ↓oF_37_37, ↓aF_63, ↓oF_37_38, ↓oF_37_39, ↓aF_64, ↓oF_37_40, ↓aF_65, ↓oF_37_41, ↓aF_66, oC_0, oC_1, oC_4, oC_11, oC_16, oC_18, oC_20, oC_23, oC_25, oC_26, oC_29, oC_31, oC_33, oC_35, oC_37, isT_29, isT_31, isT_33, isT_35, isL_16, isL_18, isL_26, b2i_0, b2i_1, b2i_01, b2i_r, ↓e_M_isState]
    (try simp only [rI_iff, rL_iff] at *)
    repeat' (with_reducible (first | assumption | apply And.intro | intro _))
    all_goals first | omega | with_reducible assumption | exact True.intro | skip
    all_goals grind
