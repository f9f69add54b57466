/-! codes: words, reading, writing -/
def s_C_wordFor : Spec := fun as σ Q => popR as fun c0 r0 => popR r0 fun c1 r1 => popI r1 fun s r2 => popI r2 fun v r3 => r3 = [] ∧ c0 = 25 ∧ c1 = 11 ∧ (0 ≤ σ 11 4 ∧ σ 11 4 ≤ 100) ∧ (Wire (σ 11 4) (σ 12)) ∧ (isBits (σ 28)) ∧ (Climbed (σ 11 4) (σ 12) (σ 28) (σ 25 5) (σ 27)) ∧ (1 ≤ σ 25 5 ∧ σ 25 5 ≤ 12) ∧ (0 ≤ s ∧ s < σ 11 4) ∧ (0 ≤ v ∧ rI v) ∧ Q (some (.inl (wordZ (σ 11 4) (σ 12) (σ 28) (σ 25 5) s v))) σ
theorem e_C_wordFor (s : Int) (v : Int) (σ : St) (Q : Option AV → St → Prop) : s_C_wordFor [.inr (.inr (some 25)), .inr (.inr (some 11)), .inl s, .inl v] σ Q = ((0 ≤ σ 11 4 ∧ σ 11 4 ≤ 100) ∧ (Wire (σ 11 4) (σ 12)) ∧ (isBits (σ 28)) ∧ (Climbed (σ 11 4) (σ 12) (σ 28) (σ 25 5) (σ 27)) ∧ (1 ≤ σ 25 5 ∧ σ 25 5 ≤ 12) ∧ (0 ≤ s ∧ s < σ 11 4) ∧ (0 ≤ v ∧ rI v) ∧ Q (some (.inl (wordZ (σ 11 4) (σ 12) (σ 28) (σ 25 5) s v))) σ) := by
  show ([] = [] ∧ _) = _
  simp only [true_and]
set_option maxHeartbeats 4000000 in
set_option maxRecDepth 20000 in
theorem S_C_wordFor {l : Launch} : Sat l y_C_wordFor b_C_wordFor 4 (some .int) 3 s_C_wordFor := by
  refine sat_of (Φ := P_C) (κ := Q_C) (Γ := [(83, 4, 4, s_L_pick)]) (rt := 1) (by decide +kernel) P_C_ok Q_C_ok (by
    refine List.forall_mem_cons.mpr ⟨?_, fun _ h => absurd h List.not_mem_nil⟩
    · exact m_L_pick S_L_pick (by decide) l_C_83) (by simp) o_C_wordFor ?_
  intro as σ Q hh0
  obtain ⟨c0, rr0, rfl, hh1⟩ := popR_inv hh0
  obtain ⟨c1, rr1, rfl, hh2⟩ := popR_inv hh1
  obtain ⟨s, rr2, rfl, hh3⟩ := popI_inv hh2
  obtain ⟨v, rr3, rfl, hh4⟩ := popI_inv hh3
  obtain ⟨hrE, rfl, rfl, hN, hf, hb, hl, hn, hs, hv, hQ⟩ := hh4
  subst hrE
  clear hh0 hh1 hh2 hh3
  refine ⟨Nat.le_of_ble_eq_true rfl, [], 14, ?_, cuts0⟩
  · rw [show entL 4 [.inr (.inr (some 25)), .inr (.inr (some 11)), .inl s, .inl v] = [.inr (.inr (some 25)), .inr (.inr (some 11)), .inl s, .inl v] from rfl]
    simp only [↓wpN_go, jmp_e, ↓wp_aload_n0, ↓wp_aload_n1, ↓wp_getfield, ↓wp_i2l, ↓wp_iload_n2, ↓wp_iload_n3, ↓wp_invokevirtual, ↓wp_ireturn1, ↓wp_l2i, wp_nil, ↓ldI_0, ↓ldI_s, ↓ldL_0, ↓ldL_s, ↓ldR_0, ↓ldR_s, sto1_0, sto1_1, sto1_s, sto2_0, sto2_1, sto2_s, isLong_i, isLong_l, isLong_r, ↓popI_c, ↓popL_c, ↓popR_c, ↓popN_0, ↓popN_s, catS_n, catS_c, psh_s, psh_n, fldV_n, fldV_s, ↓tgt_e, sw_n, ↓sw_c, ↓lk1_h, ↓lk1_m, ↓atC_h, ↓atC_m, ↓atC_n, ltO_n, ltO_s, updR_eq, updR_ne, gI_0i, gI_0l, gI_s, ltM_iff, List.cons.injEq, Sum.inl.injEq, Sum.inr.injEq, Option.some.injEq, exists_eq_left, exists_eq_left', exists_eq_right, exists_eq_right', exists_and_left, exists_and_right, exists_eq, exists_const, and_assoc, ↓j_C_wordFor_0, ↓f_C_12, ↓f_C_36, List.length_cons, List.length_nil, Nat.zero_add, Nat.reduceAdd, Int.reduceAdd, Int.reduceNeg, Int.reduceToNat, Int.reduceLE, Int.reduceLT, true_and, and_true, Nat.reduceLT, reduceIte, Nat.reduceEqDiff, ne_eq, not_false_eq_true, false_implies, true_implies, Bool.false_eq_true, reduceCtorEq, List.cons_append, List.nil_append, Nat.reduceSub, Nat.reduceLeDiff, Fin.isValue, Int.reduceNatCast', Int.zero_add, Int.add_zero, decide_true, decide_false, implies_true, forall_const, true_or, or_true, or_false, false_or, false_and, and_false, Int.toNat_natCast, ↓oF_25_0, ↓oF_25_1, ↓aF_28, ↓oF_25_2, ↓oF_25_3, ↓oF_25_4, ↓oF_25_5, ↓oF_25_6, oC_0, oC_1, oC_4, oC_11, oC_16, oC_18, oC_20, oC_23, oC_25, oC_26, oC_29, oC_31, oC_33, oC_35, oC_37, isT_29, isT_31, isT_33, isT_35, isL_16, isL_18, isL_26, ↓e_L_pick]
    have hq1 := climbed_0w (by omega) hl
    have hq2 := climbed_self (by omega) hl
    have hq3 : LadB (σ 11 4) (σ 12) (σ 27) (σ 25 5) := ladB_bits hn.2 (fun s1 hs1 => by rw [hq1 s1 hs1]; have := hb s1; omega)
    have hq5 := pckZ_r (N := σ 11 4) (f := σ 12) (w := σ 27) (σ 25 5).toNat s v
    have hq6 := pow12 hn.2
    rw [wrapI_id (show rI (if ladI (σ 11 4) (σ 12) (σ 27) (σ 25 5).toNat s ≤ v then -1 else pckZ (σ 11 4) (σ 12) (σ 27) (σ 25 5).toNat s v) from by split <;> unfold rI <;> omega)]
    (try simp only [rI_iff, rL_iff] at *)
    repeat' (first | assumption | apply And.intro | intro _)
    all_goals first | omega | assumption | exact True.intro | skip
    · rw [← wordZ_congr hq1] at hQ
      exact hQ
def s_C_pieceFor : Spec := fun as σ Q => popR as fun c0 r0 => popR r0 fun c1 r1 => popI r1 fun s r2 => popI r2 fun row r3 => r3 = [] ∧ c0 = 25 ∧ c1 = 11 ∧ (0 ≤ σ 11 4 ∧ σ 11 4 ≤ 100) ∧ (Wire (σ 11 4) (σ 12)) ∧ (isBits (σ 28)) ∧ (Climbed (σ 11 4) (σ 12) (σ 28) (σ 25 5) (σ 27)) ∧ (1 ≤ σ 25 5 ∧ σ 25 5 ≤ 12) ∧ (1 ≤ σ 25 4 ∧ σ 25 4 ≤ 8) ∧ (0 ≤ s ∧ s < σ 11 4) ∧ (0 ≤ row ∧ rI row) ∧ Q (some (.inl (readZ (σ 11 4) (σ 12) (σ 28) (σ 25 4) (σ 25 5) s row))) σ
theorem e_C_pieceFor (s : Int) (row : Int) (σ : St) (Q : Option AV → St → Prop) : s_C_pieceFor [.inr (.inr (some 25)), .inr (.inr (some 11)), .inl s, .inl row] σ Q = ((0 ≤ σ 11 4 ∧ σ 11 4 ≤ 100) ∧ (Wire (σ 11 4) (σ 12)) ∧ (isBits (σ 28)) ∧ (Climbed (σ 11 4) (σ 12) (σ 28) (σ 25 5) (σ 27)) ∧ (1 ≤ σ 25 5 ∧ σ 25 5 ≤ 12) ∧ (1 ≤ σ 25 4 ∧ σ 25 4 ≤ 8) ∧ (0 ≤ s ∧ s < σ 11 4) ∧ (0 ≤ row ∧ rI row) ∧ Q (some (.inl (readZ (σ 11 4) (σ 12) (σ 28) (σ 25 4) (σ 25 5) s row))) σ) := by
  show ([] = [] ∧ _) = _
  simp only [true_and]
set_option maxHeartbeats 4000000 in
set_option maxRecDepth 20000 in
theorem S_C_pieceFor {l : Launch} : Sat l y_C_pieceFor b_C_pieceFor 6 (some .int) 3 s_C_pieceFor := by
  refine sat_of (Φ := P_C) (κ := Q_C) (Γ := [(87, 4, 4, s_L_rank)]) (rt := 1) (by decide +kernel) P_C_ok Q_C_ok (by
    refine List.forall_mem_cons.mpr ⟨?_, fun _ h => absurd h List.not_mem_nil⟩
    · exact m_L_rank S_L_rank (by decide) l_C_87) (by simp) o_C_pieceFor ?_
  intro as σ Q hh0
  obtain ⟨c0, rr0, rfl, hh1⟩ := popR_inv hh0
  obtain ⟨c1, rr1, rfl, hh2⟩ := popR_inv hh1
  obtain ⟨s, rr2, rfl, hh3⟩ := popI_inv hh2
  obtain ⟨row, rr3, rfl, hh4⟩ := popI_inv hh3
  obtain ⟨hrE, rfl, rfl, hN, hf, hb, hl, hn, hm, hs, hrow, hQ⟩ := hh4
  subst hrE
  clear hh0 hh1 hh2 hh3
  refine ⟨Nat.le_of_ble_eq_true rfl, [], 14, ?_, cuts0⟩
  · rw [show entL 6 [.inr (.inr (some 25)), .inr (.inr (some 11)), .inl s, .inl row] = [.inr (.inr (some 25)), .inr (.inr (some 11)), .inl s, .inl row, .inr (.inr none), .inr (.inr none)] from rfl]
    simp only [↓wpN_go, jmp_e, ↓wp_aload_n0, ↓wp_aload_n1, ↓wp_getfield, ↓wp_goto, ↓wp_i2l, ↓wp_iconst, ↓wp_if_ge, ↓wp_iload_n2, ↓wp_iload_n3, ↓wp_invokevirtual, ↓wp_ireturn1, ↓wp_l2i, ↓wp_lcmp, ↓wp_lconst1, ↓wp_lload, ↓wp_lshl, ↓wp_lstore, wp_nil, ↓ldI_0, ↓ldI_s, ↓ldL_0, ↓ldL_s, ↓ldR_0, ↓ldR_s, sto1_0, sto1_1, sto1_s, sto2_0, sto2_1, sto2_s, isLong_i, isLong_l, isLong_r, ↓popI_c, ↓popL_c, ↓popR_c, ↓popN_0, ↓popN_s, catS_n, catS_c, psh_s, psh_n, fldV_n, fldV_s, ↓tgt_e, sw_n, ↓sw_c, ↓lk1_h, ↓lk1_m, ↓atC_h, ↓atC_m, ↓atC_n, ltO_n, ltO_s, updR_eq, updR_ne, gI_0i, gI_0l, gI_s, ltM_iff, List.cons.injEq, Sum.inl.injEq, Sum.inr.injEq, Option.some.injEq, exists_eq_left, exists_eq_left', exists_eq_right, exists_eq_right', exists_and_left, exists_and_right, exists_eq, exists_const, and_assoc, ↓j_C_pieceFor_0, ↓j_C_pieceFor_35, ↓j_C_pieceFor_36, ↓f_C_12, ↓f_C_33, ↓f_C_36, List.length_cons, List.length_nil, Nat.zero_add, Nat.reduceAdd, Int.reduceAdd, Int.reduceNeg, Int.reduceToNat, Int.reduceLE, Int.reduceLT, true_and, and_true, Nat.reduceLT, reduceIte, Nat.reduceEqDiff, ne_eq, not_false_eq_true, false_implies, true_implies, Bool.false_eq_true, reduceCtorEq, List.cons_append, List.nil_append, Nat.reduceSub, Nat.reduceLeDiff, Fin.isValue, Int.reduceNatCast', Int.zero_add, Int.add_zero, decide_true, decide_false, implies_true, forall_const, true_or, or_true, or_false, false_or, false_and, and_false, Int.toNat_natCast, ↓oF_25_0, ↓oF_25_1, ↓aF_28, ↓oF_25_2, ↓oF_25_3, ↓oF_25_4, ↓oF_25_5, ↓oF_25_6, oC_0, oC_1, oC_4, oC_11, oC_16, oC_18, oC_20, oC_23, oC_25, oC_26, oC_29, oC_31, oC_33, oC_35, oC_37, isT_29, isT_31, isT_33, isT_35, isL_16, isL_18, isL_26, cmpZ_r, cmpZ_ge, cmpZ_lt, ↓e_L_rank]
    have hq1 := climbed_0w (by omega) hl
    have hq2 := climbed_self (by omega) hl
    have hq3 : LadB (σ 11 4) (σ 12) (σ 27) (σ 25 5) := ladB_bits hn.2 (fun s1 hs1 => by rw [hq1 s1 hs1]; have := hb s1; omega)
    have h2 := rnkZ_r (f := σ 12) (N := σ 11 4) (by omega : (0 : Int) ≤ 1) (fun s1 hs1 => by rw [hq1 s1 hs1]; have := hb s1; omega : ∀ s : Nat, (s : Int) < σ 11 4 → 0 ≤ σ 27 s ∧ σ 27 s ≤ 1) row (σ 25 5).toNat s
    have h3 := pow12 hn.2
    have h4 := pow8 (m := σ 25 4) ⟨by omega, by omega⟩
    rw [← readZ_congr hq1] at hQ
    unfold readZ at hQ
    have hzr : -1 ≤ (if ladI (σ 11 4) (σ 12) (σ 27) 0 (folZ (σ 11 4) (σ 12) row (σ 25 5).toNat s) = 0 then -1 else rnkZ (σ 11 4) (σ 12) (σ 27) row (σ 25 5).toNat s) ∧ (if ladI (σ 11 4) (σ 12) (σ 27) 0 (folZ (σ 11 4) (σ 12) row (σ 25 5).toNat s) = 0 then -1 else rnkZ (σ 11 4) (σ 12) (σ 27) row (σ 25 5).toNat s) ≤ 4096 := by split <;> omega
    generalize (if ladI (σ 11 4) (σ 12) (σ 27) 0 (folZ (σ 11 4) (σ 12) row (σ 25 5).toNat s) = 0 then -1 else rnkZ (σ 11 4) (σ 12) (σ 27) row (σ 25 5).toNat s) = z at *
    rw [wrapI_id (show rI z from ⟨by omega, by omega⟩)]
    (try simp only [rI_iff, rL_iff] at *)
    repeat' (first | assumption | apply And.intro | intro _)
    all_goals first | omega | assumption | exact True.intro | skip
    · rw [if_neg (by omega)] at hQ; exact hQ
    · rw [if_pos (by omega)] at hQ; exact hQ
def s_C_pieces : Spec := fun as σ Q => popR as fun c0 r0 => popR r0 fun o r1 => r1 = [] ∧ c0 = 25 ∧ (isT o) ∧ (0 ≤ σ 25 4 ∧ σ 25 4 ≤ 8) ∧ (0 ≤ σ o 1 ∧ σ o 1 ≤ 600) ∧ Q (some (.inl (if σ 25 4 < 1 then 0 else (σ o 1 + σ 25 4 - 1) / σ 25 4))) σ
theorem e_C_pieces (o : Nat) (σ : St) (Q : Option AV → St → Prop) : s_C_pieces [.inr (.inr (some 25)), .inr (.inr (some o))] σ Q = ((isT o) ∧ (0 ≤ σ 25 4 ∧ σ 25 4 ≤ 8) ∧ (0 ≤ σ o 1 ∧ σ o 1 ≤ 600) ∧ Q (some (.inl (if σ 25 4 < 1 then 0 else (σ o 1 + σ 25 4 - 1) / σ 25 4))) σ) := by
  show ([] = [] ∧ _) = _
  simp only [true_and]
set_option maxHeartbeats 4000000 in
set_option maxRecDepth 20000 in
theorem S_C_pieces {l : Launch} : Sat l y_C_pieces b_C_pieces 2 (some .int) 1 s_C_pieces := by
  refine sat_of (Φ := P_C) (κ := Q_C) (Γ := [(90, 2, 0, s_T_size)]) (rt := 1) (by decide +kernel) P_C_ok Q_C_ok (by
    refine List.forall_mem_cons.mpr ⟨?_, fun _ h => absurd h List.not_mem_nil⟩
    · exact m_T_size S_T_size (by decide) l_C_90) (by simp) o_C_pieces ?_
  intro as σ Q hh0
  obtain ⟨c0, rr0, rfl, hh1⟩ := popR_inv hh0
  obtain ⟨o, rr1, rfl, hh2⟩ := popR_inv hh1
  obtain ⟨hrE, rfl, hT, hm, hs, hQ⟩ := hh2
  subst hrE
  clear hh0 hh1
  refine ⟨Nat.le_of_ble_eq_true rfl, [], 14, ?_, cuts0⟩
  · rw [show entL 2 [.inr (.inr (some 25)), .inr (.inr (some o))] = [.inr (.inr (some 25)), .inr (.inr (some o))] from rfl]
    simp only [↓wpN_go, jmp_e, ↓wp_aload_n0, ↓wp_aload_n1, ↓wp_getfield, ↓wp_goto, ↓wp_iadd, ↓wp_icmp_ge, ↓wp_iconst, ↓wp_idiv, ↓wp_invokevirtual, ↓wp_ireturn1, ↓wp_isub, wp_nil, ↓ldI_0, ↓ldI_s, ↓ldL_0, ↓ldL_s, ↓ldR_0, ↓ldR_s, sto1_0, sto1_1, sto1_s, sto2_0, sto2_1, sto2_s, isLong_i, isLong_l, isLong_r, ↓popI_c, ↓popL_c, ↓popR_c, ↓popN_0, ↓popN_s, catS_n, catS_c, psh_s, psh_n, fldV_n, fldV_s, ↓tgt_e, sw_n, ↓sw_c, ↓lk1_h, ↓lk1_m, ↓atC_h, ↓atC_m, ↓atC_n, ltO_n, ltO_s, updR_eq, updR_ne, gI_0i, gI_0l, gI_s, ltM_iff, List.cons.injEq, Sum.inl.injEq, Sum.inr.injEq, Option.some.injEq, exists_eq_left, exists_eq_left', exists_eq_right, exists_eq_right', exists_and_left, exists_and_right, exists_eq, exists_const, and_assoc, ↓j_C_pieces_0, ↓j_C_pieces_12, ↓j_C_pieces_28, ↓f_C_33, List.length_cons, List.length_nil, Nat.zero_add, Nat.reduceAdd, Int.reduceAdd, Int.reduceNeg, Int.reduceToNat, Int.reduceLE, Int.reduceLT, true_and, and_true, Nat.reduceLT, reduceIte, Nat.reduceEqDiff, ne_eq, not_false_eq_true, false_implies, true_implies, Bool.false_eq_true, reduceCtorEq, List.cons_append, List.nil_append, Nat.reduceSub, Nat.reduceLeDiff, Fin.isValue, Int.reduceNatCast', Int.zero_add, Int.add_zero, decide_true, decide_false, implies_true, forall_const, true_or, or_true, or_false, false_or, false_and, and_false, Int.toNat_natCast, ↓oF_25_0, ↓oF_25_1, ↓aF_28, ↓oF_25_2, ↓oF_25_3, ↓oF_25_4, ↓oF_25_5, ↓oF_25_6, oC_0, oC_1, oC_4, oC_11, oC_16, oC_18, oC_20, oC_23, oC_25, oC_26, oC_29, oC_31, oC_33, oC_35, oC_37, isT_29, isT_31, isT_33, isT_35, isL_16, isL_18, isL_26, hT.c, eq_true hT, ↓e_T_size]
    (try simp only [rI_iff, rL_iff] at *)
    repeat' (first | assumption | apply And.intro | intro _)
    all_goals first
      | omega
      | (refine st_ext fun k j => ?_; grind [updR_app, up1_app])
      | (refine Q_eq hQ ?_ ?_ <;> first | rfl | (refine st_ext fun k j => ?_; grind [updR_app, up1_app]) | grind [updR_app, up1_app])
      | grind [updR_app, up1_app]
def s_C_lengthWritten : Spec := fun as σ Q => popR as fun c0 r0 => popR r0 fun o r1 => r1 = [] ∧ c0 = 25 ∧ (isT o) ∧ (0 ≤ σ 25 4 ∧ σ 25 4 ≤ 8) ∧ (0 ≤ σ o 1 ∧ σ o 1 ≤ 600) ∧ (0 ≤ σ 25 5 ∧ σ 25 5 ≤ 12) ∧ (0 ≤ σ 29 1 ∧ σ 29 1 ≤ 600) ∧ Q (some (.inl (σ 29 1 + (if σ 25 4 < 1 then 0 else (σ o 1 + σ 25 4 - 1) / σ 25 4) * σ 25 5))) σ
theorem e_C_lengthWritten (o : Nat) (σ : St) (Q : Option AV → St → Prop) : s_C_lengthWritten [.inr (.inr (some 25)), .inr (.inr (some o))] σ Q = ((isT o) ∧ (0 ≤ σ 25 4 ∧ σ 25 4 ≤ 8) ∧ (0 ≤ σ o 1 ∧ σ o 1 ≤ 600) ∧ (0 ≤ σ 25 5 ∧ σ 25 5 ≤ 12) ∧ (0 ≤ σ 29 1 ∧ σ 29 1 ≤ 600) ∧ Q (some (.inl (σ 29 1 + (if σ 25 4 < 1 then 0 else (σ o 1 + σ 25 4 - 1) / σ 25 4) * σ 25 5))) σ) := by
  show ([] = [] ∧ _) = _
  simp only [true_and]
set_option maxHeartbeats 4000000 in
set_option maxRecDepth 20000 in
theorem S_C_lengthWritten {l : Launch} : Sat l y_C_lengthWritten b_C_lengthWritten 2 (some .int) 2 s_C_lengthWritten := by
  refine sat_of (Φ := P_C) (κ := Q_C) (Γ := [(90, 2, 0, s_T_size), (91, 3, 1, s_C_pieces)]) (rt := 1) (by decide +kernel) P_C_ok Q_C_ok (by
    refine List.forall_mem_cons.mpr ⟨?_, List.forall_mem_cons.mpr ⟨?_, fun _ h => absurd h List.not_mem_nil⟩⟩
    · exact m_T_size S_T_size (by decide) l_C_90
    · exact m_C_pieces S_C_pieces (by decide) l_C_91) (by simp) o_C_lengthWritten ?_
  intro as σ Q hh0
  obtain ⟨c0, rr0, rfl, hh1⟩ := popR_inv hh0
  obtain ⟨o, rr1, rfl, hh2⟩ := popR_inv hh1
  obtain ⟨hrE, rfl, hT, hm, hs, hn2, hs29, hQ⟩ := hh2
  subst hrE
  clear hh0 hh1
  refine ⟨Nat.le_of_ble_eq_true rfl, [], 14, ?_, cuts0⟩
  · rw [show entL 2 [.inr (.inr (some 25)), .inr (.inr (some o))] = [.inr (.inr (some 25)), .inr (.inr (some o))] from rfl]
    simp only [↓wpN_go, jmp_e, ↓wp_aload_n0, ↓wp_aload_n1, ↓wp_getfield, ↓wp_iadd, ↓wp_imul, ↓wp_invokevirtual, ↓wp_ireturn1, wp_nil, ↓ldI_0, ↓ldI_s, ↓ldL_0, ↓ldL_s, ↓ldR_0, ↓ldR_s, sto1_0, sto1_1, sto1_s, sto2_0, sto2_1, sto2_s, isLong_i, isLong_l, isLong_r, ↓popI_c, ↓popL_c, ↓popR_c, ↓popN_0, ↓popN_s, catS_n, catS_c, psh_s, psh_n, fldV_n, fldV_s, ↓tgt_e, sw_n, ↓sw_c, ↓lk1_h, ↓lk1_m, ↓atC_h, ↓atC_m, ↓atC_n, ltO_n, ltO_s, updR_eq, updR_ne, gI_0i, gI_0l, gI_s, ltM_iff, List.cons.injEq, Sum.inl.injEq, Sum.inr.injEq, Option.some.injEq, exists_eq_left, exists_eq_left', exists_eq_right, exists_eq_right', exists_and_left, exists_and_right, exists_eq, exists_const, and_assoc, ↓j_C_lengthWritten_0, ↓f_C_25, ↓f_C_36, List.length_cons, List.length_nil, Nat.zero_add, Nat.reduceAdd, Int.reduceAdd, Int.reduceNeg, Int.reduceToNat, Int.reduceLE, Int.reduceLT, true_and, and_true, Nat.reduceLT, reduceIte, Nat.reduceEqDiff, ne_eq, not_false_eq_true, false_implies, true_implies, Bool.false_eq_true, reduceCtorEq, List.cons_append, List.nil_append, Nat.reduceSub, Nat.reduceLeDiff, Fin.isValue, Int.reduceNatCast', Int.zero_add, Int.add_zero, decide_true, decide_false, implies_true, forall_const, true_or, or_true, or_false, false_or, false_and, and_false, Int.toNat_natCast, ↓oF_25_0, ↓oF_25_1, ↓aF_28, ↓oF_25_2, ↓oF_25_3, ↓oF_25_4, ↓oF_25_5, ↓oF_25_6, oC_0, oC_1, oC_4, oC_11, oC_16, oC_18, oC_20, oC_23, oC_25, oC_26, oC_29, oC_31, oC_33, oC_35, oC_37, isT_29, isT_31, isT_33, isT_35, isL_16, isL_18, isL_26, hT.c, eq_true hT, ↓e_T_size, ↓e_C_pieces]
    (try simp only [rI_iff, rL_iff] at *)
    repeat' (first | assumption | apply And.intro | intro _)
    all_goals first
      | omega
      | (refine st_ext fun k j => ?_; grind [updR_app, up1_app])
      | (refine Q_eq hQ ?_ ?_ <;> first | rfl | (refine st_ext fun k j => ?_; grind [updR_app, up1_app]) | grind [updR_app, up1_app])
      | grind [updR_app, up1_app]
def s_C_encode : Spec := fun as σ Q => popR as fun c0 r0 => popR r0 fun c1 r1 => popR r1 fun c2 r2 => popR r2 fun c3 r3 => r3 = [] ∧ c0 = 25 ∧ c1 = 11 ∧ c2 = 31 ∧ c3 = 33 ∧ (0 ≤ σ 11 4 ∧ σ 11 4 ≤ 100) ∧ (Wire (σ 11 4) (σ 12)) ∧ (isBits (σ 28)) ∧ (Climbed (σ 11 4) (σ 12) (σ 28) (σ 25 5) (σ 27)) ∧ (1 ≤ σ 25 5 ∧ σ 25 5 ≤ 12) ∧ (1 ≤ σ 25 4 ∧ σ 25 4 ≤ 8) ∧ (ClosedC (σ 11 4) (σ 12) (2 ^ (σ 25 4).toNat) (σ 25 5) (σ 28)) ∧ (0 ≤ σ 25 6 ∧ σ 25 6 < σ 11 4 ∧ σ 28 (σ 25 6).toNat = 1) ∧ (0 ≤ σ 29 1 ∧ σ 29 1 ≤ 600) ∧ (0 ≤ σ 31 1 ∧ σ 31 1 ≤ 600) ∧ (isBits (σ 32)) ∧ (σ 29 1 + (σ 31 1 + σ 25 4 - 1) / σ 25 4 * σ 25 5 ≤ 600) ∧ Q none (updR (updR σ 34 (EncP (σ 11 4) (σ 12) (σ 28) (σ 25 4) (σ 25 5) (σ 25 6) (σ 32) (σ 31 1) (σ 29 1) (va_cpy (σ 30) (σ 34) 0 0 (σ 29 1).toNat) ((σ 31 1 + σ 25 4 - 1) / σ 25 4).toNat)) 33 (up1 (σ 33) 1 (σ 29 1 + (σ 31 1 + σ 25 4 - 1) / σ 25 4 * σ 25 5)))
theorem e_C_encode  (σ : St) (Q : Option AV → St → Prop) : s_C_encode [.inr (.inr (some 25)), .inr (.inr (some 11)), .inr (.inr (some 31)), .inr (.inr (some 33))] σ Q = ((0 ≤ σ 11 4 ∧ σ 11 4 ≤ 100) ∧ (Wire (σ 11 4) (σ 12)) ∧ (isBits (σ 28)) ∧ (Climbed (σ 11 4) (σ 12) (σ 28) (σ 25 5) (σ 27)) ∧ (1 ≤ σ 25 5 ∧ σ 25 5 ≤ 12) ∧ (1 ≤ σ 25 4 ∧ σ 25 4 ≤ 8) ∧ (ClosedC (σ 11 4) (σ 12) (2 ^ (σ 25 4).toNat) (σ 25 5) (σ 28)) ∧ (0 ≤ σ 25 6 ∧ σ 25 6 < σ 11 4 ∧ σ 28 (σ 25 6).toNat = 1) ∧ (0 ≤ σ 29 1 ∧ σ 29 1 ≤ 600) ∧ (0 ≤ σ 31 1 ∧ σ 31 1 ≤ 600) ∧ (isBits (σ 32)) ∧ (σ 29 1 + (σ 31 1 + σ 25 4 - 1) / σ 25 4 * σ 25 5 ≤ 600) ∧ Q none (updR (updR σ 34 (EncP (σ 11 4) (σ 12) (σ 28) (σ 25 4) (σ 25 5) (σ 25 6) (σ 32) (σ 31 1) (σ 29 1) (va_cpy (σ 30) (σ 34) 0 0 (σ 29 1).toNat) ((σ 31 1 + σ 25 4 - 1) / σ 25 4).toNat)) 33 (up1 (σ 33) 1 (σ 29 1 + (σ 31 1 + σ 25 4 - 1) / σ 25 4 * σ 25 5)))) := by
  show ([] = [] ∧ _) = _
  simp only [true_and]
set_option maxHeartbeats 4000000 in
set_option maxRecDepth 20000 in
theorem S_C_encode {l : Launch} : Sat l y_C_encode b_C_encode 8 none 4 s_C_encode := by
  refine sat_of (Φ := P_C) (κ := Q_C) (Γ := [(95, 2, 1, s_T_copy), (91, 3, 1, s_C_pieces), (99, 2, 2, s_T_part), (103, 3, 3, s_C_wordFor), (107, 2, 2, s_T_add), (111, 8, 3, s_W_follow)]) (rt := 0) (by decide +kernel) P_C_ok Q_C_ok (by
    refine List.forall_mem_cons.mpr ⟨?_, List.forall_mem_cons.mpr ⟨?_, List.forall_mem_cons.mpr ⟨?_, List.forall_mem_cons.mpr ⟨?_, List.forall_mem_cons.mpr ⟨?_, List.forall_mem_cons.mpr ⟨?_, fun _ h => absurd h List.not_mem_nil⟩⟩⟩⟩⟩⟩
    · exact m_T_copy S_T_copy (by decide) l_C_95
    · exact m_C_pieces S_C_pieces (by decide) l_C_91
    · exact m_T_part S_T_part (by decide) l_C_99
    · exact m_C_wordFor S_C_wordFor (by decide) l_C_103
    · exact m_T_add S_T_add (by decide) l_C_107
    · exact m_W_follow S_W_follow (by decide) l_C_111) (by simp) o_C_encode ?_
  intro as σ Q hh0
  obtain ⟨c0, rr0, rfl, hh1⟩ := popR_inv hh0
  obtain ⟨c1, rr1, rfl, hh2⟩ := popR_inv hh1
  obtain ⟨c2, rr2, rfl, hh3⟩ := popR_inv hh2
  obtain ⟨c3, rr3, rfl, hh4⟩ := popR_inv hh3
  obtain ⟨hrE, rfl, rfl, rfl, rfl, hN, hf, hb, hl, hn, hm, hcl, hh, hs29, hs31, hb32, hfit, hQ⟩ := hh4
  subst hrE
  clear hh0 hh1 hh2 hh3
  refine ⟨Nat.le_of_ble_eq_true rfl, [(17, mkC (fun L st u => ∃ (a p : Int) (v6 v7 : AV), L = [.inr (.inr (some 25)), .inr (.inr (some 11)), .inr (.inr (some 31)), .inr (.inr (some 33)), .inl a, .inl p, v6, v7] ∧ st = [] ∧ (0 ≤ p ∧ p ≤ (σ 31 1 + σ 25 4 - 1) / σ 25 4) ∧ (a = EncS (σ 11 4) (σ 12) (σ 28) (σ 25 4) (σ 25 5) (σ 25 6) (σ 32) (σ 31 1) p.toNat) ∧ (u = updR (updR σ 34 (EncP (σ 11 4) (σ 12) (σ 28) (σ 25 4) (σ 25 5) (σ 25 6) (σ 32) (σ 31 1) (σ 29 1) (va_cpy (σ 30) (σ 34) 0 0 (σ 29 1).toNat) p.toNat)) 33 (up1 (σ 33) 1 (σ 29 1 + p * σ 25 5)))) (fun L st u => ((700 - gI L 5).toNat, 0, 0)))], 14, ?_, cuts1 ?_ (cuts0)⟩
  · rw [show entL 8 [.inr (.inr (some 25)), .inr (.inr (some 11)), .inr (.inr (some 31)), .inr (.inr (some 33))] = [.inr (.inr (some 25)), .inr (.inr (some 11)), .inr (.inr (some 31)), .inr (.inr (some 33)), .inr (.inr none), .inr (.inr none), .inr (.inr none), .inr (.inr none)] from rfl]
    simp only [↓wpN_go, jmp_e, ↓wp_aload_n0, ↓wp_aload_n1, ↓wp_aload_n2, ↓wp_aload_n3, ↓wp_getfield, ↓wp_goto, ↓wp_i2l, ↓wp_icmp_ge, ↓wp_iconst, ↓wp_iinc, ↓wp_iload, ↓wp_imul, ↓wp_invokevirtual, ↓wp_istore, ↓wp_return0, wp_nil, ↓ldI_0, ↓ldI_s, ↓ldL_0, ↓ldL_s, ↓ldR_0, ↓ldR_s, sto1_0, sto1_1, sto1_s, sto2_0, sto2_1, sto2_s, isLong_i, isLong_l, isLong_r, ↓popI_c, ↓popL_c, ↓popR_c, ↓popN_0, ↓popN_s, catS_n, catS_c, psh_s, psh_n, fldV_n, fldV_s, ↓tgt_e, sw_n, ↓sw_c, ↓lk1_h, ↓lk1_m, ↓atC_h, ↓atC_m, ↓atC_n, ltO_n, ltO_s, updR_eq, updR_ne, gI_0i, gI_0l, gI_s, ltM_iff, List.cons.injEq, Sum.inl.injEq, Sum.inr.injEq, Option.some.injEq, exists_eq_left, exists_eq_left', exists_eq_right, exists_eq_right', exists_and_left, exists_and_right, exists_eq, exists_const, and_assoc, ↓j_C_encode_0, ↓j_C_encode_17, ↓j_C_encode_87, ↓f_C_25, ↓f_C_33, ↓f_C_36, ↓f_C_39, List.length_cons, List.length_nil, Nat.zero_add, Nat.reduceAdd, Int.reduceAdd, Int.reduceNeg, Int.reduceToNat, Int.reduceLE, Int.reduceLT, true_and, and_true, Nat.reduceLT, reduceIte, Nat.reduceEqDiff, ne_eq, not_false_eq_true, false_implies, true_implies, Bool.false_eq_true, reduceCtorEq, List.cons_append, List.nil_append, Nat.reduceSub, Nat.reduceLeDiff, Fin.isValue, Int.reduceNatCast', Int.zero_add, Int.add_zero, decide_true, decide_false, implies_true, forall_const, true_or, or_true, or_false, false_or, false_and, and_false, Int.toNat_natCast, ↓oF_25_0, ↓oF_25_1, ↓aF_28, ↓oF_25_2, ↓oF_25_3, ↓oF_25_4, ↓oF_25_5, ↓oF_25_6, oC_0, oC_1, oC_4, oC_11, oC_16, oC_18, oC_20, oC_23, oC_25, oC_26, oC_29, oC_31, oC_33, oC_35, oC_37, isT_29, isT_31, isT_33, isT_35, isL_16, isL_18, isL_26, ↓e_T_copy, ↓e_C_pieces, ↓e_T_part, ↓e_C_wordFor, ↓e_T_add, ↓e_W_follow]
    have hP := Int.ediv_nonneg (a := σ 31 1 + σ 25 4 - 1) (b := σ 25 4) (by omega) (by omega)
    (try simp only [rI_iff, rL_iff] at *)
    repeat' (first | assumption | apply And.intro | intro _)
    all_goals first | omega | assumption | exact True.intro | skip
    · rfl
    · rw [Int.zero_mul, Int.add_zero]; rfl
  · intro L st u hI
    obtain ⟨a, p, v6, v7, rfl, rfl, hp, ha, hu⟩ := hI
    simp only [↓wpN_go, jmp_e, ↓wp_aload_n0, ↓wp_aload_n1, ↓wp_aload_n2, ↓wp_aload_n3, ↓wp_getfield, ↓wp_goto, ↓wp_i2l, ↓wp_icmp_ge, ↓wp_iconst, ↓wp_iinc, ↓wp_iload, ↓wp_imul, ↓wp_invokevirtual, ↓wp_istore, ↓wp_return0, wp_nil, ↓ldI_0, ↓ldI_s, ↓ldL_0, ↓ldL_s, ↓ldR_0, ↓ldR_s, sto1_0, sto1_1, sto1_s, sto2_0, sto2_1, sto2_s, isLong_i, isLong_l, isLong_r, ↓popI_c, ↓popL_c, ↓popR_c, ↓popN_0, ↓popN_s, catS_n, catS_c, psh_s, psh_n, fldV_n, fldV_s, ↓tgt_e, sw_n, ↓sw_c, ↓lk1_h, ↓lk1_m, ↓atC_h, ↓atC_m, ↓atC_n, ltO_n, ltO_s, updR_eq, updR_ne, gI_0i, gI_0l, gI_s, ltM_iff, List.cons.injEq, Sum.inl.injEq, Sum.inr.injEq, Option.some.injEq, exists_eq_left, exists_eq_left', exists_eq_right, exists_eq_right', exists_and_left, exists_and_right, exists_eq, exists_const, and_assoc, ↓j_C_encode_0, ↓j_C_encode_17, ↓j_C_encode_87, ↓f_C_25, ↓f_C_33, ↓f_C_36, ↓f_C_39, List.length_cons, List.length_nil, Nat.zero_add, Nat.reduceAdd, Int.reduceAdd, Int.reduceNeg, Int.reduceToNat, Int.reduceLE, Int.reduceLT, true_and, and_true, Nat.reduceLT, reduceIte, Nat.reduceEqDiff, ne_eq, not_false_eq_true, false_implies, true_implies, Bool.false_eq_true, reduceCtorEq, List.cons_append, List.nil_append, Nat.reduceSub, Nat.reduceLeDiff, Fin.isValue, Int.reduceNatCast', Int.zero_add, Int.add_zero, decide_true, decide_false, implies_true, forall_const, true_or, or_true, or_false, false_or, false_and, and_false, Int.toNat_natCast, ↓oF_25_0, ↓oF_25_1, ↓aF_28, ↓oF_25_2, ↓oF_25_3, ↓oF_25_4, ↓oF_25_5, ↓oF_25_6, oC_0, oC_1, oC_4, oC_11, oC_16, oC_18, oC_20, oC_23, oC_25, oC_26, oC_29, oC_31, oC_33, oC_35, oC_37, isT_29, isT_31, isT_33, isT_35, isL_16, isL_18, isL_26, ↓e_T_copy, ↓e_C_pieces, ↓e_T_part, ↓e_C_wordFor, ↓e_T_add, ↓e_W_follow]
    subst hu ha
    obtain ⟨p0, rfl⟩ := Int.eq_ofNat_of_zero_le hp.1
    have hp1 : ((p0 : Int) + 1).toNat = p0 + 1 := by omega
    simp only [updR_ne, updR_eq, up1_eq, ne_eq, Nat.reduceEqDiff, not_false_eq_true, Nat.succ_ne_self, Int.toNat_natCast, hp1]
    have hP1 := Int.ediv_mul_le (σ 31 1 + σ 25 4 - 1) (b := σ 25 4) (by omega)
    generalize hP : (σ 31 1 + σ 25 4 - 1) / σ 25 4 = P at *
    have h1 := enc_in (sz := σ 31 1) (msg := σ 32) hb hcl hh p0
    have h2 := partF_r (f := σ 32) (sz := σ 31 1) (b := (p0 : Int) * σ 25 4) (σ 25 4).toNat
    have h3 := pow8 (m := σ 25 4) ⟨by omega, by omega⟩
    have h4 : (p0 : Int) * σ 25 4 ≤ P * σ 25 4 := Int.mul_le_mul_of_nonneg_right hp.2 (by omega)
    have h5 : (p0 : Int) * σ 25 5 ≤ P * σ 25 5 := Int.mul_le_mul_of_nonneg_right hp.2 (by omega)
    have h6 : (p0 : Int) < P → ((p0 : Int) + 1) * σ 25 5 ≤ P * σ 25 5 := fun h => Int.mul_le_mul_of_nonneg_right (by omega) (by omega)
    have h7 : ((p0 : Int) + 1) * σ 25 5 = (p0 : Int) * σ 25 5 + σ 25 5 := by rw [Int.add_mul, Int.one_mul]
    have h8 : 0 ≤ (p0 : Int) * σ 25 4 := Int.mul_nonneg hp.1 (by omega)
    have h9 : 0 ≤ (p0 : Int) * σ 25 5 := Int.mul_nonneg hp.1 (by omega)
    have h10 : P ≤ P * σ 25 4 := by
      have := Int.mul_le_mul_of_nonneg_left (show (1 : Int) ≤ σ 25 4 by omega) (show 0 ≤ P by omega)
      omega
    have h11 := encW_r (sz := σ 31 1) (msg := σ 32) hb hcl hh p0
    have h12 := pow12 hn.2
    have hfW : wordZ (σ 11 4) (σ 12) (σ 28) (σ 25 5) (EncS (σ 11 4) (σ 12) (σ 28) (σ 25 4) (σ 25 5) (σ 25 6) (σ 32) (σ 31 1) p0) (partF (σ 32) (σ 31 1) ((p0 : Int) * σ 25 4) (σ 25 4).toNat) = EncW (σ 11 4) (σ 12) (σ 28) (σ 25 4) (σ 25 5) (σ 25 6) (σ 32) (σ 31 1) p0 := rfl
    rw [hfW, if_neg (show ¬ σ 25 4 < 1 by omega)]
    clear hfW
    (try simp only [rI_iff, rL_iff] at *)
    repeat' (first | with_reducible assumption | apply And.intro | intro _)
    all_goals first | omega | with_reducible assumption | exact True.intro | skip
    · have e : P = p0 := by omega
      rw [e, Int.toNat_natCast] at hQ
      exact hQ
    · rfl
    · refine st_ext fun k j => ?_
      have e1 : min 600 (σ 29 1 + (p0 : Int) * σ 25 5 + σ 25 5) = σ 29 1 + ((p0 : Int) + 1) * σ 25 5 := by omega
      have e2 : EncP (σ 11 4) (σ 12) (σ 28) (σ 25 4) (σ 25 5) (σ 25 6) (σ 32) (σ 31 1) (σ 29 1) (va_cpy (σ 30) (σ 34) 0 0 (σ 29 1).toNat) (p0 + 1) = addF (EncP (σ 11 4) (σ 12) (σ 28) (σ 25 4) (σ 25 5) (σ 25 6) (σ 32) (σ 31 1) (σ 29 1) (va_cpy (σ 30) (σ 34) 0 0 (σ 29 1).toNat) p0) (EncW (σ 11 4) (σ 12) (σ 28) (σ 25 4) (σ 25 5) (σ 25 6) (σ 32) (σ 31 1) p0) (σ 29 1 + p0 * σ 25 5) (σ 25 5) (σ 25 5) := rfl
      rw [e1, e2]
      grind [updR_app, up1_app]
