/-! the public methods: codes, messages, plates, build -/
def s_X_code : Spec := fun as σ Q => popR as fun c0 r0 => popI r0 fun m r1 => popI r1 fun n r2 => r2 = [] ∧ c0 = 0 ∧ (0 ≤ σ 11 4 ∧ σ 11 4 ≤ 100) ∧ (Wire (σ 11 4) (σ 12)) ∧ (isBits (σ 28)) ∧ (Tree (σ 11 4) (σ 13) (σ 15)) ∧ (0 ≤ σ 29 1 ∧ σ 29 1 ≤ 600) ∧ (rI m) ∧ (rI n) ∧ if (1 ≤ m ∧ m ≤ 8) ∧ 1 ≤ n ∧ n ≤ 12 then (if σ 11 4 = 0 then Q (some (.inl (-3))) σ else ∀ σ', FindSt σ σ' m n → Q (some (.inl (σ' 25 3))) σ') else Q (some (.inl (-2))) σ
theorem e_X_code (m : Int) (n : Int) (σ : St) (Q : Option AV → St → Prop) : s_X_code [.inr (.inr (some 0)), .inl m, .inl n] σ Q = ((0 ≤ σ 11 4 ∧ σ 11 4 ≤ 100) ∧ (Wire (σ 11 4) (σ 12)) ∧ (isBits (σ 28)) ∧ (Tree (σ 11 4) (σ 13) (σ 15)) ∧ (0 ≤ σ 29 1 ∧ σ 29 1 ≤ 600) ∧ (rI m) ∧ (rI n) ∧ if (1 ≤ m ∧ m ≤ 8) ∧ 1 ≤ n ∧ n ≤ 12 then (if σ 11 4 = 0 then Q (some (.inl (-3))) σ else ∀ σ', FindSt σ σ' m n → Q (some (.inl (σ' 25 3))) σ') else Q (some (.inl (-2))) σ) := by
  show ([] = [] ∧ _) = _
  simp only [true_and]
set_option maxHeartbeats 4000000 in
set_option maxRecDepth 20000 in
theorem S_X_code {l : Launch} : Sat l y_X_code b_X_code 3 (some .int) 5 s_X_code := by
  refine sat_of (Φ := P_X) (κ := Q_X) (Γ := [(74, 0, 3, s_X_isWithin), (130, 8, 0, s_W_size), (199, 3, 3, s_C_find), (202, 3, 0, s_C_size)]) (rt := 1) (by decide +kernel) P_X_ok Q_X_ok (by
    refine List.forall_mem_cons.mpr ⟨?_, List.forall_mem_cons.mpr ⟨?_, List.forall_mem_cons.mpr ⟨?_, List.forall_mem_cons.mpr ⟨?_, fun _ h => absurd h List.not_mem_nil⟩⟩⟩⟩
    · exact m_X_isWithin S_X_isWithin (by decide) l_X_74
    · exact m_W_size S_W_size (by decide) l_X_130
    · exact m_C_find S_C_find (by decide) l_X_199
    · exact m_C_size S_C_size (by decide) l_X_202) (by simp) o_X_code ?_
  intro as σ Q hh0
  obtain ⟨c0, rr0, rfl, hh1⟩ := popR_inv hh0
  obtain ⟨m, rr1, rfl, hh2⟩ := popI_inv hh1
  obtain ⟨n, rr2, rfl, hh3⟩ := popI_inv hh2
  obtain ⟨hrE, rfl, hN, hf, hb, hT, hs29, hrm, hrn, hQ⟩ := hh3
  subst hrE
  clear hh0 hh1 hh2
  refine ⟨Nat.le_of_ble_eq_true rfl, [], 14, ?_, cuts0⟩
  · rw [show entL 3 [.inr (.inr (some 0)), .inl m, .inl n] = [.inr (.inr (some 0)), .inl m, .inl n] from rfl]
    simp only [↓wpN_go, jmp_e, ↓wp_aload_n0, ↓wp_bipush, ↓wp_getfield, ↓wp_iconst, ↓wp_if_eq, ↓wp_if_ne, ↓wp_iload_n1, ↓wp_iload_n2, ↓wp_invokestatic, ↓wp_invokevirtual, ↓wp_ireturn1, wp_nil, ↓ldI_0, ↓ldI_s, ↓ldL_0, ↓ldL_s, ↓ldR_0, ↓ldR_s, sto1_0, sto1_1, sto1_s, sto2_0, sto2_1, sto2_s, isLong_i, isLong_l, isLong_r, ↓popI_c, ↓popL_c, ↓popR_c, ↓popN_0, ↓popN_s, catS_n, catS_c, psh_s, psh_n, fldV_n, fldV_s, ↓tgt_e, sw_n, ↓sw_c, ↓lk1_h, ↓lk1_m, ↓atC_h, ↓atC_m, ↓atC_n, ltO_n, ltO_s, updR_eq, updR_ne, gI_0i, gI_0l, gI_s, ltM_iff, List.cons.injEq, Sum.inl.injEq, Sum.inr.injEq, Option.some.injEq, exists_eq_left, exists_eq_left', exists_eq_right, exists_eq_right', exists_and_left, exists_and_right, exists_eq, exists_const, and_assoc, ↓j_X_code_0, ↓j_X_code_20, ↓j_X_code_23, ↓j_X_code_36, ↓f_X_26, ↓f_X_57, List.length_cons, List.length_nil, Nat.zero_add, Nat.reduceAdd, Int.reduceAdd, Int.reduceNeg, Int.reduceToNat, Int.reduceLE, Int.reduceLT, true_and, and_true, Nat.reduceLT, reduceIte, Nat.reduceEqDiff, ne_eq, not_false_eq_true, false_implies, true_implies, Bool.false_eq_true, reduceCtorEq, List.cons_append, List.nil_append, Nat.reduceSub, Nat.reduceLeDiff, Fin.isValue, Int.reduceNatCast', Int.zero_add, Int.add_zero, decide_true, decide_false, implies_true, forall_const, true_or, or_true, or_false, false_or, false_and, and_false, Int.toNat_natCast, ↓oF_0_0, ↓oF_0_1, ↓oF_0_2, ↓oF_0_3, ↓oF_0_4, ↓oF_0_5, ↓oF_0_6, ↓oF_0_7, ↓oF_0_8, ↓oF_0_9, ↓oF_0_10, ↓oF_0_11, oC_0, oC_1, oC_4, oC_11, oC_16, oC_18, oC_20, oC_23, oC_25, oC_26, oC_29, oC_31, oC_33, oC_35, oC_37, isT_29, isT_31, isT_33, isT_35, isL_16, isL_18, isL_26, b2i_0, b2i_1, b2i_01, b2i_r, ↓e_X_isWithin, ↓e_W_size, ↓e_C_find, ↓e_C_size]
    (try simp only [rI_iff, rL_iff] at *)
    repeat' (with_reducible (first | assumption | apply And.intro | intro _))
    all_goals first | omega | with_reducible assumption | exact True.intro | skip
    all_goals grind
def s_X_wordOf : Spec := fun as σ Q => popR as fun c0 r0 => popI r0 fun s r1 => popI r1 fun v r2 => r2 = [] ∧ c0 = 0 ∧ (0 ≤ σ 11 4 ∧ σ 11 4 ≤ 100) ∧ (Wire (σ 11 4) (σ 12)) ∧ (isBits (σ 28)) ∧ (0 ≤ σ 25 3 ∧ σ 25 3 ≤ 100) ∧ (∀ s : Nat, s < 100 → ¬ (s : Int) < σ 11 4 → σ 28 s = 0) ∧ (0 < σ 25 3 → Climbed (σ 11 4) (σ 12) (σ 28) (σ 25 5) (σ 27) ∧ (1 ≤ σ 25 5 ∧ σ 25 5 ≤ 12) ∧ (1 ≤ σ 25 4 ∧ σ 25 4 ≤ 8)) ∧ (rI s) ∧ (rI v) ∧ Q (some (.inl (if σ 25 3 = 0 then -3 else if (0 ≤ s ∧ s < 100 ∧ σ 28 s.toNat = 1) ∧ 0 ≤ v ∧ v < 2 ^ (σ 25 4).toNat then wordZ (σ 11 4) (σ 12) (σ 28) (σ 25 5) s v else -2))) σ
theorem e_X_wordOf (s : Int) (v : Int) (σ : St) (Q : Option AV → St → Prop) : s_X_wordOf [.inr (.inr (some 0)), .inl s, .inl v] σ Q = ((0 ≤ σ 11 4 ∧ σ 11 4 ≤ 100) ∧ (Wire (σ 11 4) (σ 12)) ∧ (isBits (σ 28)) ∧ (0 ≤ σ 25 3 ∧ σ 25 3 ≤ 100) ∧ (∀ s : Nat, s < 100 → ¬ (s : Int) < σ 11 4 → σ 28 s = 0) ∧ (0 < σ 25 3 → Climbed (σ 11 4) (σ 12) (σ 28) (σ 25 5) (σ 27) ∧ (1 ≤ σ 25 5 ∧ σ 25 5 ≤ 12) ∧ (1 ≤ σ 25 4 ∧ σ 25 4 ≤ 8)) ∧ (rI s) ∧ (rI v) ∧ Q (some (.inl (if σ 25 3 = 0 then -3 else if (0 ≤ s ∧ s < 100 ∧ σ 28 s.toNat = 1) ∧ 0 ≤ v ∧ v < 2 ^ (σ 25 4).toNat then wordZ (σ 11 4) (σ 12) (σ 28) (σ 25 5) s v else -2))) σ) := by
  show ([] = [] ∧ _) = _
  simp only [true_and]
set_option maxHeartbeats 4000000 in
set_option maxRecDepth 20000 in
theorem S_X_wordOf {l : Launch} : Sat l y_X_wordOf b_X_wordOf 3 (some .int) 4 s_X_wordOf := by
  refine sat_of (Φ := P_X) (κ := Q_X) (Γ := [(203, 3, 0, s_C_exists), (207, 3, 1, s_C_holds), (210, 3, 0, s_C_pieceLength), (82, 0, 2, s_X_isRow), (213, 3, 3, s_C_wordFor)]) (rt := 1) (by decide +kernel) P_X_ok Q_X_ok (by
    refine List.forall_mem_cons.mpr ⟨?_, List.forall_mem_cons.mpr ⟨?_, List.forall_mem_cons.mpr ⟨?_, List.forall_mem_cons.mpr ⟨?_, List.forall_mem_cons.mpr ⟨?_, fun _ h => absurd h List.not_mem_nil⟩⟩⟩⟩⟩
    · exact m_C_exists S_C_exists (by decide) l_X_203
    · exact m_C_holds S_C_holds (by decide) l_X_207
    · exact m_C_pieceLength S_C_pieceLength (by decide) l_X_210
    · exact m_X_isRow S_X_isRow (by decide) l_X_82
    · exact m_C_wordFor S_C_wordFor (by decide) l_X_213) (by simp) o_X_wordOf ?_
  intro as σ Q hh0
  obtain ⟨c0, rr0, rfl, hh1⟩ := popR_inv hh0
  obtain ⟨s, rr1, rfl, hh2⟩ := popI_inv hh1
  obtain ⟨v, rr2, rfl, hh3⟩ := popI_inv hh2
  obtain ⟨hrE, rfl, hN, hf, hb, hz, ho, hC, hrs, hrv, hQ⟩ := hh3
  subst hrE
  clear hh0 hh1 hh2
  refine ⟨Nat.le_of_ble_eq_true rfl, [], 14, ?_, cuts0⟩
  · rw [show entL 3 [.inr (.inr (some 0)), .inl s, .inl v] = [.inr (.inr (some 0)), .inl s, .inl v] from rfl]
    simp only [↓wpN_go, jmp_e, ↓wp_aload_n0, ↓wp_bipush, ↓wp_getfield, ↓wp_i2l, ↓wp_if_eq, ↓wp_if_ne, ↓wp_iload_n1, ↓wp_iload_n2, ↓wp_invokestatic, ↓wp_invokevirtual, ↓wp_ireturn1, wp_nil, ↓ldI_0, ↓ldI_s, ↓ldL_0, ↓ldL_s, ↓ldR_0, ↓ldR_s, sto1_0, sto1_1, sto1_s, sto2_0, sto2_1, sto2_s, isLong_i, isLong_l, isLong_r, ↓popI_c, ↓popL_c, ↓popR_c, ↓popN_0, ↓popN_s, catS_n, catS_c, psh_s, psh_n, fldV_n, fldV_s, ↓tgt_e, sw_n, ↓sw_c, ↓lk1_h, ↓lk1_m, ↓atC_h, ↓atC_m, ↓atC_n, ltO_n, ltO_s, updR_eq, updR_ne, gI_0i, gI_0l, gI_s, ltM_iff, List.cons.injEq, Sum.inl.injEq, Sum.inr.injEq, Option.some.injEq, exists_eq_left, exists_eq_left', exists_eq_right, exists_eq_right', exists_and_left, exists_and_right, exists_eq, exists_const, and_assoc, ↓j_X_wordOf_0, ↓j_X_wordOf_13, ↓j_X_wordOf_39, ↓j_X_wordOf_42, ↓f_X_26, ↓f_X_57, List.length_cons, List.length_nil, Nat.zero_add, Nat.reduceAdd, Int.reduceAdd, Int.reduceNeg, Int.reduceToNat, Int.reduceLE, Int.reduceLT, true_and, and_true, Nat.reduceLT, reduceIte, Nat.reduceEqDiff, ne_eq, not_false_eq_true, false_implies, true_implies, Bool.false_eq_true, reduceCtorEq, List.cons_append, List.nil_append, Nat.reduceSub, Nat.reduceLeDiff, Fin.isValue, Int.reduceNatCast', Int.zero_add, Int.add_zero, decide_true, decide_false, implies_true, forall_const, true_or, or_true, or_false, false_or, false_and, and_false, Int.toNat_natCast, ↓oF_0_0, ↓oF_0_1, ↓oF_0_2, ↓oF_0_3, ↓oF_0_4, ↓oF_0_5, ↓oF_0_6, ↓oF_0_7, ↓oF_0_8, ↓oF_0_9, ↓oF_0_10, ↓oF_0_11, oC_0, oC_1, oC_4, oC_11, oC_16, oC_18, oC_20, oC_23, oC_25, oC_26, oC_29, oC_31, oC_33, oC_35, oC_37, isT_29, isT_31, isT_33, isT_35, isL_16, isL_18, isL_26, b2i_0, b2i_1, b2i_01, b2i_r, ↓e_C_exists, ↓e_C_holds, ↓e_C_pieceLength, ↓e_X_isRow, ↓e_C_wordFor]
    by_cases hc : 0 < σ 25 3
    · obtain ⟨hc1, hc2, hc3⟩ := hC hc
      rw [if_neg (by omega)] at hQ
      have hsN : (0 ≤ s ∧ s < 100 ∧ σ 28 s.toNat = 1) → 0 ≤ s ∧ s < σ 11 4 := fun h => by
        refine ⟨h.1, Classical.byContradiction fun q => ?_⟩
        have := ho s.toNat (by omega) (by omega)
        omega
      have q1 : (0 ≤ s ∧ s < 100 ∧ σ 28 s.toNat = 1) → 0 ≤ v → v < 2 ^ (σ 25 4).toNat → Q (some (.inl (wordZ (σ 11 4) (σ 12) (σ 28) (σ 25 5) s v))) σ := fun h1 h2 h3 => by rw [if_pos ⟨h1, h2, h3⟩] at hQ; exact hQ
      have q2 : ¬ ((0 ≤ s ∧ s < 100 ∧ σ 28 s.toNat = 1) ∧ 0 ≤ v ∧ v < 2 ^ (σ 25 4).toNat) → Q (some (.inl (-2))) σ := fun h => by rw [if_neg h] at hQ; exact hQ
      clear hQ hC
      generalize (2 : Int) ^ (σ 25 4).toNat = p at *
      (try simp only [rI_iff, rL_iff] at *)
      repeat' (with_reducible (first | assumption | apply And.intro | intro _))
      all_goals first | omega | with_reducible assumption | exact True.intro | skip
      all_goals first
        | exact q1 (by omega) (by omega) (by omega)
        | exact q2 (by omega)
        | (have hs1 := hsN (by omega); omega)
    · rw [if_pos (by omega)] at hQ
      (try simp only [rI_iff, rL_iff] at *)
      repeat' (with_reducible (first | assumption | apply And.intro | intro _))
      all_goals first | omega | with_reducible assumption | exact True.intro | skip
      all_goals first
        | exact hQ
        | (exfalso; omega)
def s_X_read : Spec := fun as σ Q => popR as fun c0 r0 => popI r0 fun s r1 => popI r1 fun v r2 => r2 = [] ∧ c0 = 0 ∧ (0 ≤ σ 11 4 ∧ σ 11 4 ≤ 100) ∧ (Wire (σ 11 4) (σ 12)) ∧ (isBits (σ 28)) ∧ (0 ≤ σ 25 3 ∧ σ 25 3 ≤ 100) ∧ (∀ s : Nat, s < 100 → ¬ (s : Int) < σ 11 4 → σ 28 s = 0) ∧ (0 < σ 25 3 → Climbed (σ 11 4) (σ 12) (σ 28) (σ 25 5) (σ 27) ∧ (1 ≤ σ 25 5 ∧ σ 25 5 ≤ 12) ∧ (1 ≤ σ 25 4 ∧ σ 25 4 ≤ 8)) ∧ (rI s) ∧ (rI v) ∧ Q (some (.inl (if σ 25 3 = 0 then -3 else if (0 ≤ s ∧ s < 100 ∧ σ 28 s.toNat = 1) ∧ 0 ≤ v ∧ v < 2 ^ (σ 25 5).toNat then readZ (σ 11 4) (σ 12) (σ 28) (σ 25 4) (σ 25 5) s v else -2))) σ
theorem e_X_read (s : Int) (v : Int) (σ : St) (Q : Option AV → St → Prop) : s_X_read [.inr (.inr (some 0)), .inl s, .inl v] σ Q = ((0 ≤ σ 11 4 ∧ σ 11 4 ≤ 100) ∧ (Wire (σ 11 4) (σ 12)) ∧ (isBits (σ 28)) ∧ (0 ≤ σ 25 3 ∧ σ 25 3 ≤ 100) ∧ (∀ s : Nat, s < 100 → ¬ (s : Int) < σ 11 4 → σ 28 s = 0) ∧ (0 < σ 25 3 → Climbed (σ 11 4) (σ 12) (σ 28) (σ 25 5) (σ 27) ∧ (1 ≤ σ 25 5 ∧ σ 25 5 ≤ 12) ∧ (1 ≤ σ 25 4 ∧ σ 25 4 ≤ 8)) ∧ (rI s) ∧ (rI v) ∧ Q (some (.inl (if σ 25 3 = 0 then -3 else if (0 ≤ s ∧ s < 100 ∧ σ 28 s.toNat = 1) ∧ 0 ≤ v ∧ v < 2 ^ (σ 25 5).toNat then readZ (σ 11 4) (σ 12) (σ 28) (σ 25 4) (σ 25 5) s v else -2))) σ) := by
  show ([] = [] ∧ _) = _
  simp only [true_and]
set_option maxHeartbeats 4000000 in
set_option maxRecDepth 20000 in
theorem S_X_read {l : Launch} : Sat l y_X_read b_X_read 3 (some .int) 4 s_X_read := by
  refine sat_of (Φ := P_X) (κ := Q_X) (Γ := [(203, 3, 0, s_C_exists), (207, 3, 1, s_C_holds), (217, 3, 0, s_C_wordLength), (82, 0, 2, s_X_isRow), (220, 3, 3, s_C_pieceFor)]) (rt := 1) (by decide +kernel) P_X_ok Q_X_ok (by
    refine List.forall_mem_cons.mpr ⟨?_, List.forall_mem_cons.mpr ⟨?_, List.forall_mem_cons.mpr ⟨?_, List.forall_mem_cons.mpr ⟨?_, List.forall_mem_cons.mpr ⟨?_, fun _ h => absurd h List.not_mem_nil⟩⟩⟩⟩⟩
    · exact m_C_exists S_C_exists (by decide) l_X_203
    · exact m_C_holds S_C_holds (by decide) l_X_207
    · exact m_C_wordLength S_C_wordLength (by decide) l_X_217
    · exact m_X_isRow S_X_isRow (by decide) l_X_82
    · exact m_C_pieceFor S_C_pieceFor (by decide) l_X_220) (by simp) o_X_read ?_
  intro as σ Q hh0
  obtain ⟨c0, rr0, rfl, hh1⟩ := popR_inv hh0
  obtain ⟨s, rr1, rfl, hh2⟩ := popI_inv hh1
  obtain ⟨v, rr2, rfl, hh3⟩ := popI_inv hh2
  obtain ⟨hrE, rfl, hN, hf, hb, hz, ho, hC, hrs, hrv, hQ⟩ := hh3
  subst hrE
  clear hh0 hh1 hh2
  refine ⟨Nat.le_of_ble_eq_true rfl, [], 14, ?_, cuts0⟩
  · rw [show entL 3 [.inr (.inr (some 0)), .inl s, .inl v] = [.inr (.inr (some 0)), .inl s, .inl v] from rfl]
    simp only [↓wpN_go, jmp_e, ↓wp_aload_n0, ↓wp_bipush, ↓wp_getfield, ↓wp_i2l, ↓wp_if_eq, ↓wp_if_ne, ↓wp_iload_n1, ↓wp_iload_n2, ↓wp_invokestatic, ↓wp_invokevirtual, ↓wp_ireturn1, wp_nil, ↓ldI_0, ↓ldI_s, ↓ldL_0, ↓ldL_s, ↓ldR_0, ↓ldR_s, sto1_0, sto1_1, sto1_s, sto2_0, sto2_1, sto2_s, isLong_i, isLong_l, isLong_r, ↓popI_c, ↓popL_c, ↓popR_c, ↓popN_0, ↓popN_s, catS_n, catS_c, psh_s, psh_n, fldV_n, fldV_s, ↓tgt_e, sw_n, ↓sw_c, ↓lk1_h, ↓lk1_m, ↓atC_h, ↓atC_m, ↓atC_n, ltO_n, ltO_s, updR_eq, updR_ne, gI_0i, gI_0l, gI_s, ltM_iff, List.cons.injEq, Sum.inl.injEq, Sum.inr.injEq, Option.some.injEq, exists_eq_left, exists_eq_left', exists_eq_right, exists_eq_right', exists_and_left, exists_and_right, exists_eq, exists_const, and_assoc, ↓j_X_read_0, ↓j_X_read_13, ↓j_X_read_39, ↓j_X_read_42, ↓f_X_26, ↓f_X_57, List.length_cons, List.length_nil, Nat.zero_add, Nat.reduceAdd, Int.reduceAdd, Int.reduceNeg, Int.reduceToNat, Int.reduceLE, Int.reduceLT, true_and, and_true, Nat.reduceLT, reduceIte, Nat.reduceEqDiff, ne_eq, not_false_eq_true, false_implies, true_implies, Bool.false_eq_true, reduceCtorEq, List.cons_append, List.nil_append, Nat.reduceSub, Nat.reduceLeDiff, Fin.isValue, Int.reduceNatCast', Int.zero_add, Int.add_zero, decide_true, decide_false, implies_true, forall_const, true_or, or_true, or_false, false_or, false_and, and_false, Int.toNat_natCast, ↓oF_0_0, ↓oF_0_1, ↓oF_0_2, ↓oF_0_3, ↓oF_0_4, ↓oF_0_5, ↓oF_0_6, ↓oF_0_7, ↓oF_0_8, ↓oF_0_9, ↓oF_0_10, ↓oF_0_11, oC_0, oC_1, oC_4, oC_11, oC_16, oC_18, oC_20, oC_23, oC_25, oC_26, oC_29, oC_31, oC_33, oC_35, oC_37, isT_29, isT_31, isT_33, isT_35, isL_16, isL_18, isL_26, b2i_0, b2i_1, b2i_01, b2i_r, ↓e_C_exists, ↓e_C_holds, ↓e_C_wordLength, ↓e_X_isRow, ↓e_C_pieceFor]
    by_cases hc : 0 < σ 25 3
    · obtain ⟨hc1, hc2, hc3⟩ := hC hc
      rw [if_neg (by omega)] at hQ
      have hsN : (0 ≤ s ∧ s < 100 ∧ σ 28 s.toNat = 1) → 0 ≤ s ∧ s < σ 11 4 := fun h => by
        refine ⟨h.1, Classical.byContradiction fun q => ?_⟩
        have := ho s.toNat (by omega) (by omega)
        omega
      have q1 : (0 ≤ s ∧ s < 100 ∧ σ 28 s.toNat = 1) → 0 ≤ v → v < 2 ^ (σ 25 5).toNat → Q (some (.inl (readZ (σ 11 4) (σ 12) (σ 28) (σ 25 4) (σ 25 5) s v))) σ := fun h1 h2 h3 => by rw [if_pos ⟨h1, h2, h3⟩] at hQ; exact hQ
      have q2 : ¬ ((0 ≤ s ∧ s < 100 ∧ σ 28 s.toNat = 1) ∧ 0 ≤ v ∧ v < 2 ^ (σ 25 5).toNat) → Q (some (.inl (-2))) σ := fun h => by rw [if_neg h] at hQ; exact hQ
      clear hQ hC
      generalize (2 : Int) ^ (σ 25 5).toNat = p at *
      (try simp only [rI_iff, rL_iff] at *)
      repeat' (with_reducible (first | assumption | apply And.intro | intro _))
      all_goals first | omega | with_reducible assumption | exact True.intro | skip
      all_goals first
        | exact q1 (by omega) (by omega) (by omega)
        | exact q2 (by omega)
        | (have hs1 := hsN (by omega); omega)
    · rw [if_pos (by omega)] at hQ
      (try simp only [rI_iff, rL_iff] at *)
      repeat' (with_reducible (first | assumption | apply And.intro | intro _))
      all_goals first | omega | with_reducible assumption | exact True.intro | skip
      all_goals first
        | exact hQ
        | (exfalso; omega)
def s_X_write : Spec := fun as σ Q => popR as fun c0 r0 => r0 = [] ∧ c0 = 0 ∧ (0 ≤ σ 11 4 ∧ σ 11 4 ≤ 100) ∧ (Wire (σ 11 4) (σ 12)) ∧ (isBits (σ 28)) ∧ (0 ≤ σ 25 3 ∧ σ 25 3 ≤ 100) ∧ (0 < σ 25 3 → Climbed (σ 11 4) (σ 12) (σ 28) (σ 25 5) (σ 27) ∧ (1 ≤ σ 25 5 ∧ σ 25 5 ≤ 12) ∧ (1 ≤ σ 25 4 ∧ σ 25 4 ≤ 8) ∧ ClosedC (σ 11 4) (σ 12) (2 ^ (σ 25 4).toNat) (σ 25 5) (σ 28) ∧ (0 ≤ σ 25 6 ∧ σ 25 6 < σ 11 4 ∧ σ 28 (σ 25 6).toNat = 1)) ∧ (0 ≤ σ 29 1 ∧ σ 29 1 ≤ 600) ∧ (0 ≤ σ 31 1 ∧ σ 31 1 ≤ 240) ∧ (isBits (σ 32)) ∧ if σ 25 3 = 0 then Q (some (.inl (-3))) σ else if 600 < σ 29 1 + (σ 31 1 + σ 25 4 - 1) / σ 25 4 * σ 25 5 then Q (some (.inl (-4))) σ else Q (some (.inl (σ 29 1 + (σ 31 1 + σ 25 4 - 1) / σ 25 4 * σ 25 5))) (updR (updR σ 34 (EncP (σ 11 4) (σ 12) (σ 28) (σ 25 4) (σ 25 5) (σ 25 6) (σ 32) (σ 31 1) (σ 29 1) (va_cpy (σ 30) (σ 34) 0 0 (σ 29 1).toNat) ((σ 31 1 + σ 25 4 - 1) / σ 25 4).toNat)) 33 (up1 (σ 33) 1 (σ 29 1 + (σ 31 1 + σ 25 4 - 1) / σ 25 4 * σ 25 5)))
theorem e_X_write  (σ : St) (Q : Option AV → St → Prop) : s_X_write [.inr (.inr (some 0))] σ Q = ((0 ≤ σ 11 4 ∧ σ 11 4 ≤ 100) ∧ (Wire (σ 11 4) (σ 12)) ∧ (isBits (σ 28)) ∧ (0 ≤ σ 25 3 ∧ σ 25 3 ≤ 100) ∧ (0 < σ 25 3 → Climbed (σ 11 4) (σ 12) (σ 28) (σ 25 5) (σ 27) ∧ (1 ≤ σ 25 5 ∧ σ 25 5 ≤ 12) ∧ (1 ≤ σ 25 4 ∧ σ 25 4 ≤ 8) ∧ ClosedC (σ 11 4) (σ 12) (2 ^ (σ 25 4).toNat) (σ 25 5) (σ 28) ∧ (0 ≤ σ 25 6 ∧ σ 25 6 < σ 11 4 ∧ σ 28 (σ 25 6).toNat = 1)) ∧ (0 ≤ σ 29 1 ∧ σ 29 1 ≤ 600) ∧ (0 ≤ σ 31 1 ∧ σ 31 1 ≤ 240) ∧ (isBits (σ 32)) ∧ if σ 25 3 = 0 then Q (some (.inl (-3))) σ else if 600 < σ 29 1 + (σ 31 1 + σ 25 4 - 1) / σ 25 4 * σ 25 5 then Q (some (.inl (-4))) σ else Q (some (.inl (σ 29 1 + (σ 31 1 + σ 25 4 - 1) / σ 25 4 * σ 25 5))) (updR (updR σ 34 (EncP (σ 11 4) (σ 12) (σ 28) (σ 25 4) (σ 25 5) (σ 25 6) (σ 32) (σ 31 1) (σ 29 1) (va_cpy (σ 30) (σ 34) 0 0 (σ 29 1).toNat) ((σ 31 1 + σ 25 4 - 1) / σ 25 4).toNat)) 33 (up1 (σ 33) 1 (σ 29 1 + (σ 31 1 + σ 25 4 - 1) / σ 25 4 * σ 25 5)))) := by
  show ([] = [] ∧ _) = _
  simp only [true_and]
set_option maxHeartbeats 4000000 in
set_option maxRecDepth 20000 in
theorem S_X_write {l : Launch} : Sat l y_X_write b_X_write 1 (some .int) 5 s_X_write := by
  refine sat_of (Φ := P_X) (κ := Q_X) (Γ := [(203, 3, 0, s_C_exists), (232, 3, 1, s_C_lengthWritten), (236, 3, 3, s_C_encode), (240, 2, 0, s_T_size)]) (rt := 1) (by decide +kernel) P_X_ok Q_X_ok (by
    refine List.forall_mem_cons.mpr ⟨?_, List.forall_mem_cons.mpr ⟨?_, List.forall_mem_cons.mpr ⟨?_, List.forall_mem_cons.mpr ⟨?_, fun _ h => absurd h List.not_mem_nil⟩⟩⟩⟩
    · exact m_C_exists S_C_exists (by decide) l_X_203
    · exact m_C_lengthWritten S_C_lengthWritten (by decide) l_X_232
    · exact m_C_encode S_C_encode (by decide) l_X_236
    · exact m_T_size S_T_size (by decide) l_X_240) (by simp) o_X_write ?_
  intro as σ Q hh0
  obtain ⟨c0, rr0, rfl, hh1⟩ := popR_inv hh0
  obtain ⟨hrE, rfl, hN, hf, hb, hz, hC, hs29, h31, hb32, hQ⟩ := hh1
  subst hrE
  clear hh0
  refine ⟨Nat.le_of_ble_eq_true rfl, [], 14, ?_, cuts0⟩
  · rw [show entL 1 [.inr (.inr (some 0))] = [.inr (.inr (some 0))] from rfl]
    simp only [↓wpN_go, jmp_e, ↓wp_aload_n0, ↓wp_bipush, ↓wp_getfield, ↓wp_icmp_le, ↓wp_if_ne, ↓wp_invokevirtual, ↓wp_ireturn1, ↓wp_sipush, wp_nil, ↓ldI_0, ↓ldI_s, ↓ldL_0, ↓ldL_s, ↓ldR_0, ↓ldR_s, sto1_0, sto1_1, sto1_s, sto2_0, sto2_1, sto2_s, isLong_i, isLong_l, isLong_r, ↓popI_c, ↓popL_c, ↓popR_c, ↓popN_0, ↓popN_s, catS_n, catS_c, psh_s, psh_n, fldV_n, fldV_s, ↓tgt_e, sw_n, ↓sw_c, ↓lk1_h, ↓lk1_m, ↓atC_h, ↓atC_m, ↓atC_n, ltO_n, ltO_s, updR_eq, updR_ne, gI_0i, gI_0l, gI_s, ltM_iff, List.cons.injEq, Sum.inl.injEq, Sum.inr.injEq, Option.some.injEq, exists_eq_left, exists_eq_left', exists_eq_right, exists_eq_right', exists_and_left, exists_and_right, exists_eq, exists_const, and_assoc, ↓j_X_write_0, ↓j_X_write_13, ↓j_X_write_33, ↓f_X_26, ↓f_X_57, ↓f_X_64, ↓f_X_68, List.length_cons, List.length_nil, Nat.zero_add, Nat.reduceAdd, Int.reduceAdd, Int.reduceNeg, Int.reduceToNat, Int.reduceLE, Int.reduceLT, true_and, and_true, Nat.reduceLT, reduceIte, Nat.reduceEqDiff, ne_eq, not_false_eq_true, false_implies, true_implies, Bool.false_eq_true, reduceCtorEq, List.cons_append, List.nil_append, Nat.reduceSub, Nat.reduceLeDiff, Fin.isValue, Int.reduceNatCast', Int.zero_add, Int.add_zero, decide_true, decide_false, implies_true, forall_const, true_or, or_true, or_false, false_or, false_and, and_false, Int.toNat_natCast, ↓oF_0_0, ↓oF_0_1, ↓oF_0_2, ↓oF_0_3, ↓oF_0_4, ↓oF_0_5, ↓oF_0_6, ↓oF_0_7, ↓oF_0_8, ↓oF_0_9, ↓oF_0_10, ↓oF_0_11, oC_0, oC_1, oC_4, oC_11, oC_16, oC_18, oC_20, oC_23, oC_25, oC_26, oC_29, oC_31, oC_33, oC_35, oC_37, isT_29, isT_31, isT_33, isT_35, isL_16, isL_18, isL_26, b2i_0, b2i_1, b2i_01, b2i_r, ↓e_C_exists, ↓e_C_lengthWritten, ↓e_C_encode, ↓e_T_size]
    by_cases hc : 0 < σ 25 3
    · obtain ⟨hc1, hc2, hc3, hc4, hc5⟩ := hC hc
      rw [if_neg (by omega)] at hQ
      rw [if_neg (show ¬ σ 25 4 < 1 by omega)]
      have hp0 : 0 ≤ (σ 31 1 + σ 25 4 - 1) / σ 25 4 := Int.ediv_nonneg (by omega) (by omega)
      have hp1 := Int.ediv_mul_le (σ 31 1 + σ 25 4 - 1) (b := σ 25 4) (by omega)
      have hp2 : (σ 31 1 + σ 25 4 - 1) / σ 25 4 ≤ 247 := by
        have := Int.mul_le_mul_of_nonneg_left (show (1 : Int) ≤ σ 25 4 by omega) hp0
        omega
      have hp3 : 0 ≤ (σ 31 1 + σ 25 4 - 1) / σ 25 4 * σ 25 5 := Int.mul_nonneg hp0 (by omega)
      have hp4 : (σ 31 1 + σ 25 4 - 1) / σ 25 4 * σ 25 5 ≤ 247 * 12 := Int.mul_le_mul hp2 hc2.2 (by omega) (by omega)
      have q1 : 600 < σ 29 1 + (σ 31 1 + σ 25 4 - 1) / σ 25 4 * σ 25 5 → Q (some (.inl (-4))) σ := fun h => by rw [if_pos h] at hQ; exact hQ
      have q2 : σ 29 1 + (σ 31 1 + σ 25 4 - 1) / σ 25 4 * σ 25 5 ≤ 600 → Q (some (.inl (σ 29 1 + (σ 31 1 + σ 25 4 - 1) / σ 25 4 * σ 25 5))) (updR (updR σ 34 (EncP (σ 11 4) (σ 12) (σ 28) (σ 25 4) (σ 25 5) (σ 25 6) (σ 32) (σ 31 1) (σ 29 1) (va_cpy (σ 30) (σ 34) 0 0 (σ 29 1).toNat) ((σ 31 1 + σ 25 4 - 1) / σ 25 4).toNat)) 33 (up1 (σ 33) 1 (σ 29 1 + (σ 31 1 + σ 25 4 - 1) / σ 25 4 * σ 25 5))) := fun h => by rw [if_neg (by omega)] at hQ; exact hQ
      clear hQ hC
      simp only [up1_eq]
      generalize hL : σ 29 1 + (σ 31 1 + σ 25 4 - 1) / σ 25 4 * σ 25 5 = L at *
      (try simp only [rI_iff, rL_iff] at *)
      repeat' (with_reducible (first | assumption | apply And.intro | intro _))
      all_goals first | omega | with_reducible assumption | exact True.intro | skip
      all_goals first
        | exact q1 (by omega)
        | exact q2 (by omega)
        | grind
    · rw [if_pos (by omega)] at hQ
      (try simp only [rI_iff, rL_iff] at *)
      repeat' (with_reducible (first | assumption | apply And.intro | intro _))
      all_goals first | omega | with_reducible assumption | exact True.intro | skip
      all_goals first
        | exact hQ
        | (exfalso; omega)
def TellSt (σ τ : St) (r : Int) : Prop := (unlikeF (σ 30) (σ 34) (σ 33 1) (σ 29 1).toNat ≠ -1 ∧ r = -100 - unlikeF (σ 30) (σ 34) (σ 33 1) (σ 29 1).toNat ∧ τ = updR σ 35 (up1 (σ 35) 1 0)) ∨
  (unlikeF (σ 30) (σ 34) (σ 33 1) (σ 29 1).toNat = -1 ∧ ∃ (P : Nat) (z : Int), (∀ q : Nat, q < P → DecGo (σ 11 4) (σ 12) (σ 28) (σ 25 4) (σ 25 5) (σ 25 6) (σ 34) (σ 33 1) (σ 29 1) q) ∧ DecR (σ 11 4) (σ 12) (σ 28) (σ 25 4) (σ 25 5) (σ 25 6) (σ 34) (σ 33 1) (σ 29 1) P z ∧ ((z ≠ -1 ∧ r = -100 - z ∧ τ = updR (updR σ 36 (DecD (σ 11 4) (σ 12) (σ 28) (σ 25 4) (σ 25 5) (σ 25 6) (σ 34) (σ 33 1) (σ 29 1) (σ 36) P)) 35 (up1 (σ 35) 1 (min 600 (P * σ 25 4)))) ∨ (z = -1 ∧ 240 < min 600 (P * σ 25 4) ∧ r = -4 ∧ τ = updR (updR σ 36 (DecD (σ 11 4) (σ 12) (σ 28) (σ 25 4) (σ 25 5) (σ 25 6) (σ 34) (σ 33 1) (σ 29 1) (σ 36) P)) 35 (up1 (σ 35) 1 (min 600 (P * σ 25 4)))) ∨
    (z = -1 ∧ min 600 (P * σ 25 4) ≤ 240 ∧ r = min 600 (P * σ 25 4) ∧ τ = updR (updR (updR (updR σ 36 (DecD (σ 11 4) (σ 12) (σ 28) (σ 25 4) (σ 25 5) (σ 25 6) (σ 34) (σ 33 1) (σ 29 1) (σ 36) P)) 35 (up1 (σ 35) 1 (min 600 (P * σ 25 4)))) 32 (va_cpy (DecD (σ 11 4) (σ 12) (σ 28) (σ 25 4) (σ 25 5) (σ 25 6) (σ 34) (σ 33 1) (σ 29 1) (σ 36) P) (σ 32) 0 0 (min 600 (P * σ 25 4)).toNat)) 31 (up1 (σ 31) 1 (min 600 (P * σ 25 4))))))
theorem unlikeF_r6 {f g : Nat → Int} {gs : Int} {n : Nat} (h : (n : Int) ≤ 600) : -1 ≤ unlikeF f g gs n ∧ unlikeF f g gs n ≤ 600 := by
  have key : ∀ m : Nat, -1 ≤ unlikeF f g gs m ∧ unlikeF f g gs m ≤ m := by
    intro m
    induction m with
    | zero => rw [unlikeF]; omega
    | succ m ih =>
      rw [unlikeF]
      split
      · split <;> omega
      · omega
  have := key n
  omega
def s_X_tell : Spec := fun as σ Q => popR as fun c0 r0 => r0 = [] ∧ c0 = 0 ∧ (0 ≤ σ 11 4 ∧ σ 11 4 ≤ 100) ∧ (Wire (σ 11 4) (σ 12)) ∧ (isBits (σ 28)) ∧ (0 ≤ σ 25 3 ∧ σ 25 3 ≤ 100) ∧ (0 < σ 25 3 → Climbed (σ 11 4) (σ 12) (σ 28) (σ 25 5) (σ 27) ∧ (1 ≤ σ 25 5 ∧ σ 25 5 ≤ 12) ∧ (1 ≤ σ 25 4 ∧ σ 25 4 ≤ 8) ∧ (0 ≤ σ 25 6 ∧ σ 25 6 < σ 11 4)) ∧ (0 ≤ σ 29 1 ∧ σ 29 1 ≤ 600) ∧ (0 ≤ σ 33 1 ∧ σ 33 1 ≤ 600) ∧ (0 ≤ σ 35 1 ∧ σ 35 1 ≤ 600) ∧ (isBits (σ 30)) ∧ (isBits (σ 34)) ∧ if σ 25 3 = 0 then Q (some (.inl (-3))) σ else ∀ τ r, TellSt σ τ r → Q (some (.inl r)) τ
theorem e_X_tell  (σ : St) (Q : Option AV → St → Prop) : s_X_tell [.inr (.inr (some 0))] σ Q = ((0 ≤ σ 11 4 ∧ σ 11 4 ≤ 100) ∧ (Wire (σ 11 4) (σ 12)) ∧ (isBits (σ 28)) ∧ (0 ≤ σ 25 3 ∧ σ 25 3 ≤ 100) ∧ (0 < σ 25 3 → Climbed (σ 11 4) (σ 12) (σ 28) (σ 25 5) (σ 27) ∧ (1 ≤ σ 25 5 ∧ σ 25 5 ≤ 12) ∧ (1 ≤ σ 25 4 ∧ σ 25 4 ≤ 8) ∧ (0 ≤ σ 25 6 ∧ σ 25 6 < σ 11 4)) ∧ (0 ≤ σ 29 1 ∧ σ 29 1 ≤ 600) ∧ (0 ≤ σ 33 1 ∧ σ 33 1 ≤ 600) ∧ (0 ≤ σ 35 1 ∧ σ 35 1 ≤ 600) ∧ (isBits (σ 30)) ∧ (isBits (σ 34)) ∧ if σ 25 3 = 0 then Q (some (.inl (-3))) σ else ∀ τ r, TellSt σ τ r → Q (some (.inl r)) τ) := by
  show ([] = [] ∧ _) = _
  simp only [true_and]
set_option maxHeartbeats 4000000 in
set_option maxRecDepth 20000 in
theorem S_X_tell {l : Launch} : Sat l y_X_tell b_X_tell 2 (some .int) 5 s_X_tell := by
  refine sat_of (Φ := P_X) (κ := Q_X) (Γ := [(203, 3, 0, s_C_exists), (241, 3, 3, s_C_decode), (240, 2, 0, s_T_size), (245, 2, 1, s_T_copy)]) (rt := 1) (by decide +kernel) P_X_ok Q_X_ok (by
    refine List.forall_mem_cons.mpr ⟨?_, List.forall_mem_cons.mpr ⟨?_, List.forall_mem_cons.mpr ⟨?_, List.forall_mem_cons.mpr ⟨?_, fun _ h => absurd h List.not_mem_nil⟩⟩⟩⟩
    · exact m_C_exists S_C_exists (by decide) l_X_203
    · exact m_C_decode S_C_decode (by decide) l_X_241
    · exact m_T_size S_T_size (by decide) l_X_240
    · exact m_T_copy S_T_copy (by decide) l_X_245) (by simp) o_X_tell ?_
  intro as σ Q hh0
  obtain ⟨c0, rr0, rfl, hh1⟩ := popR_inv hh0
  obtain ⟨hrE, rfl, hN, hf, hb, hz, hC, hs29, h33, h35, hb30, hb34, hQ⟩ := hh1
  subst hrE
  clear hh0
  refine ⟨Nat.le_of_ble_eq_true rfl, [], 14, ?_, cuts0⟩
  · rw [show entL 2 [.inr (.inr (some 0))] = [.inr (.inr (some 0)), .inr (.inr none)] from rfl]
    simp only [↓wpN_go, jmp_e, ↓wp_aload_n0, ↓wp_bipush, ↓wp_getfield, ↓wp_icmp_eq, ↓wp_icmp_le, ↓wp_iconst, ↓wp_if_ne, ↓wp_iload_n1, ↓wp_invokevirtual, ↓wp_ireturn1, ↓wp_istore_n1, ↓wp_isub, ↓wp_sipush, wp_nil, ↓ldI_0, ↓ldI_s, ↓ldL_0, ↓ldL_s, ↓ldR_0, ↓ldR_s, sto1_0, sto1_1, sto1_s, sto2_0, sto2_1, sto2_s, isLong_i, isLong_l, isLong_r, ↓popI_c, ↓popL_c, ↓popR_c, ↓popN_0, ↓popN_s, catS_n, catS_c, psh_s, psh_n, fldV_n, fldV_s, ↓tgt_e, sw_n, ↓sw_c, ↓lk1_h, ↓lk1_m, ↓atC_h, ↓atC_m, ↓atC_n, ltO_n, ltO_s, updR_eq, updR_ne, gI_0i, gI_0l, gI_s, ltM_iff, List.cons.injEq, Sum.inl.injEq, Sum.inr.injEq, Option.some.injEq, exists_eq_left, exists_eq_left', exists_eq_right, exists_eq_right', exists_and_left, exists_and_right, exists_eq, exists_const, and_assoc, ↓j_X_tell_0, ↓j_X_tell_13, ↓j_X_tell_43, ↓j_X_tell_59, ↓f_X_26, ↓f_X_57, ↓f_X_64, ↓f_X_68, ↓f_X_71, List.length_cons, List.length_nil, Nat.zero_add, Nat.reduceAdd, Int.reduceAdd, Int.reduceNeg, Int.reduceToNat, Int.reduceLE, Int.reduceLT, true_and, and_true, Nat.reduceLT, reduceIte, Nat.reduceEqDiff, ne_eq, not_false_eq_true, false_implies, true_implies, Bool.false_eq_true, reduceCtorEq, List.cons_append, List.nil_append, Nat.reduceSub, Nat.reduceLeDiff, Fin.isValue, Int.reduceNatCast', Int.zero_add, Int.add_zero, decide_true, decide_false, implies_true, forall_const, true_or, or_true, or_false, false_or, false_and, and_false, Int.toNat_natCast, ↓oF_0_0, ↓oF_0_1, ↓oF_0_2, ↓oF_0_3, ↓oF_0_4, ↓oF_0_5, ↓oF_0_6, ↓oF_0_7, ↓oF_0_8, ↓oF_0_9, ↓oF_0_10, ↓oF_0_11, oC_0, oC_1, oC_4, oC_11, oC_16, oC_18, oC_20, oC_23, oC_25, oC_26, oC_29, oC_31, oC_33, oC_35, oC_37, isT_29, isT_31, isT_33, isT_35, isL_16, isL_18, isL_26, b2i_0, b2i_1, b2i_01, b2i_r, ↓e_C_exists, ↓e_C_decode, ↓e_T_size, ↓e_T_copy]
    by_cases hc : 0 < σ 25 3
    · obtain ⟨hc1, hc2, hc3, hc4⟩ := hC hc
      rw [if_neg (by omega)] at hQ
      have hul : -1 ≤ unlikeF (σ 30) (σ 34) (σ 33 1) (σ 29 1).toNat ∧ unlikeF (σ 30) (σ 34) (σ 33 1) (σ 29 1).toNat ≤ 600 := unlikeF_r6 (by omega)
      have hz1 : ∀ (P : Nat) (z : Int), DecR (σ 11 4) (σ 12) (σ 28) (σ 25 4) (σ 25 5) (σ 25 6) (σ 34) (σ 33 1) (σ 29 1) P z → -1 ≤ z ∧ z ≤ 600 := fun P z h => by
        have h9 : 0 ≤ (P : Int) * σ 25 5 := Int.mul_nonneg (by omega) (by omega)
        rcases h with h | h <;> omega
      have hm0 : ∀ P : Nat, 0 ≤ min 600 ((P : Int) * σ 25 4) ∧ min 600 ((P : Int) * σ 25 4) ≤ 600 := fun P => by
        have h9 : 0 ≤ (P : Int) * σ 25 4 := Int.mul_nonneg (by omega) (by omega)
        omega
      have q1 : unlikeF (σ 30) (σ 34) (σ 33 1) (σ 29 1).toNat ≠ -1 → Q (some (.inl (-100 - unlikeF (σ 30) (σ 34) (σ 33 1) (σ 29 1).toNat))) (updR σ 35 (up1 (σ 35) 1 0)) := fun h => hQ _ _ (Or.inl ⟨h, rfl, rfl⟩)
      have q2 : unlikeF (σ 30) (σ 34) (σ 33 1) (σ 29 1).toNat = -1 → ∀ (P : Nat) (z : Int), (∀ q : Nat, q < P → DecGo (σ 11 4) (σ 12) (σ 28) (σ 25 4) (σ 25 5) (σ 25 6) (σ 34) (σ 33 1) (σ 29 1) q) → DecR (σ 11 4) (σ 12) (σ 28) (σ 25 4) (σ 25 5) (σ 25 6) (σ 34) (σ 33 1) (σ 29 1) P z → ¬ z = -1 → Q (some (.inl (-100 - z))) (updR (updR σ 36 (DecD (σ 11 4) (σ 12) (σ 28) (σ 25 4) (σ 25 5) (σ 25 6) (σ 34) (σ 33 1) (σ 29 1) (σ 36) P)) 35 (up1 (σ 35) 1 (min 600 (P * σ 25 4)))) := fun h P z h1 h2 h3 => hQ _ _ (Or.inr ⟨h, P, z, h1, h2, Or.inl ⟨h3, rfl, rfl⟩⟩)
      have q3 : unlikeF (σ 30) (σ 34) (σ 33 1) (σ 29 1).toNat = -1 → ∀ (P : Nat) (z : Int), (∀ q : Nat, q < P → DecGo (σ 11 4) (σ 12) (σ 28) (σ 25 4) (σ 25 5) (σ 25 6) (σ 34) (σ 33 1) (σ 29 1) q) → DecR (σ 11 4) (σ 12) (σ 28) (σ 25 4) (σ 25 5) (σ 25 6) (σ 34) (σ 33 1) (σ 29 1) P z → z = -1 → 240 < min 600 (P * σ 25 4) → Q (some (.inl (-4))) (updR (updR σ 36 (DecD (σ 11 4) (σ 12) (σ 28) (σ 25 4) (σ 25 5) (σ 25 6) (σ 34) (σ 33 1) (σ 29 1) (σ 36) P)) 35 (up1 (σ 35) 1 (min 600 (P * σ 25 4)))) := fun h P z h1 h2 h3 h4 => hQ _ _ (Or.inr ⟨h, P, z, h1, h2, Or.inr (Or.inl ⟨h3, h4, rfl, rfl⟩)⟩)
      have q4 : unlikeF (σ 30) (σ 34) (σ 33 1) (σ 29 1).toNat = -1 → ∀ (P : Nat) (z : Int), (∀ q : Nat, q < P → DecGo (σ 11 4) (σ 12) (σ 28) (σ 25 4) (σ 25 5) (σ 25 6) (σ 34) (σ 33 1) (σ 29 1) q) → DecR (σ 11 4) (σ 12) (σ 28) (σ 25 4) (σ 25 5) (σ 25 6) (σ 34) (σ 33 1) (σ 29 1) P z → z = -1 → min 600 (P * σ 25 4) ≤ 240 → Q (some (.inl (min 600 (P * σ 25 4)))) (updR (updR (updR (updR σ 36 (DecD (σ 11 4) (σ 12) (σ 28) (σ 25 4) (σ 25 5) (σ 25 6) (σ 34) (σ 33 1) (σ 29 1) (σ 36) P)) 35 (up1 (σ 35) 1 (min 600 (P * σ 25 4)))) 32 (va_cpy (DecD (σ 11 4) (σ 12) (σ 28) (σ 25 4) (σ 25 5) (σ 25 6) (σ 34) (σ 33 1) (σ 29 1) (σ 36) P) (σ 32) 0 0 (min 600 (P * σ 25 4)).toNat)) 31 (up1 (σ 31) 1 (min 600 (P * σ 25 4)))) := fun h P z h1 h2 h3 h4 => hQ _ _ (Or.inr ⟨h, P, z, h1, h2, Or.inr (Or.inr ⟨h3, h4, rfl, rfl⟩)⟩)
      clear hQ hC
      simp only [up1_eq]
      have q0 : ¬ unlikeF (σ 30) (σ 34) (σ 33 1) (σ 29 1).toNat = -1 → unlikeF (σ 30) (σ 34) (σ 33 1) (σ 29 1).toNat = -1 → False := fun a b => a b
      (try simp only [rI_iff, rL_iff] at *)
      repeat' (with_reducible (first | assumption | apply And.intro | intro _))
      all_goals first | omega | with_reducible assumption | exact True.intro | skip
      all_goals first
        | exact q1 (by assumption)
        | exact q2 (by assumption) _ _ (by assumption) (by assumption) (by assumption)
        | exact q3 (by assumption) _ _ (by assumption) (by assumption) (by assumption) (by assumption)
        | exact q4 (by assumption) _ _ (by assumption) (by assumption) (by assumption) (by assumption)
        | (have hs1 := hz1 _ _ (by assumption); omega)
        | (have hs1 := hm0 (by assumption); omega)
        | exact absurd (by assumption) (by assumption)
        | trace_state
    · rw [if_pos (by omega)] at hQ
      (try simp only [rI_iff, rL_iff] at *)
      repeat' (with_reducible (first | assumption | apply And.intro | intro _))
      all_goals first | omega | with_reducible assumption | exact True.intro | skip
      all_goals first
        | exact hQ
        | (exfalso; omega)
def BuildSt (σ ρ : St) (r : Int) : Prop := (40 ≤ σ 0 11 ∧ r = -4 ∧ ρ = σ) ∨ (σ 0 11 < 40 ∧ MakeSt (updR σ 0 (up1 (σ 0) 11 (σ 0 11 + 1))) ρ 0 ∧ r = -4) ∨
  (σ 0 11 < 40 ∧ ∃ τ τ2 g, MakeSt (updR σ 0 (up1 (σ 0) 11 (σ 0 11 + 1))) τ 1 ∧ TakeSt τ τ2 ∧ (∀ s : Nat, s < 100 → g s = 1) ∧ Climbed (τ2 11 4) (τ2 12) g 60 g ∧ r = τ2 11 4 ∧
    ρ = updR (updR (updR (updR (updR (updR τ2 17 g) 20 (up1 (up1 (up1 (up1 (τ2 20) 2 0) 3 (-1)) 4 0) 5 0)) 24 (fillF (τ2 24) 0 100 0)) 28 (fillF (τ2 28) 0 100 0)) 29 (up1 (τ2 29) 1 0)) 25 (up1 (up1 (up1 (up1 (τ2 25) 3 0) 4 0) 5 0) 6 (-1)))
def s_X_build : Spec := fun as σ Q => popR as fun c0 r0 => r0 = [] ∧ c0 = 0 ∧ (BansOK (σ 1 3) (σ 1 4) (σ 1 2) (σ 1 5) (σ 2) (σ 3)) ∧ (0 ≤ σ 0 11 ∧ σ 0 11 ≤ 40) ∧ (0 ≤ σ 4 6 ∧ σ 4 6 ≤ 900000) ∧ (TabOK σ) ∧ (isBits (σ 14)) ∧ (0 ≤ σ 29 1 ∧ σ 29 1 ≤ 600) ∧ ∀ ρ r, BuildSt σ ρ r → Q (some (.inl r)) ρ
theorem e_X_build  (σ : St) (Q : Option AV → St → Prop) : s_X_build [.inr (.inr (some 0))] σ Q = ((BansOK (σ 1 3) (σ 1 4) (σ 1 2) (σ 1 5) (σ 2) (σ 3)) ∧ (0 ≤ σ 0 11 ∧ σ 0 11 ≤ 40) ∧ (0 ≤ σ 4 6 ∧ σ 4 6 ≤ 900000) ∧ (TabOK σ) ∧ (isBits (σ 14)) ∧ (0 ≤ σ 29 1 ∧ σ 29 1 ≤ 600) ∧ ∀ ρ r, BuildSt σ ρ r → Q (some (.inl r)) ρ) := by
  show ([] = [] ∧ _) = _
  simp only [true_and]
set_option maxHeartbeats 4000000 in
set_option maxRecDepth 20000 in
theorem S_X_build {l : Launch} : Sat l y_X_build b_X_build 1 (some .int) 5 s_X_build := by
  refine sat_of (Φ := P_X) (κ := Q_X) (Γ := [(106, 5, 1, s_K_make), (110, 8, 1, s_W_take), (114, 4, 1, s_L_setAll), (118, 4, 2, s_L_climb), (122, 6, 0, s_S_forget), (125, 7, 1, s_G_setAll), (127, 3, 0, s_C_drop), (130, 8, 0, s_W_size)]) (rt := 1) (by decide +kernel) P_X_ok Q_X_ok (by
    refine List.forall_mem_cons.mpr ⟨?_, List.forall_mem_cons.mpr ⟨?_, List.forall_mem_cons.mpr ⟨?_, List.forall_mem_cons.mpr ⟨?_, List.forall_mem_cons.mpr ⟨?_, List.forall_mem_cons.mpr ⟨?_, List.forall_mem_cons.mpr ⟨?_, List.forall_mem_cons.mpr ⟨?_, fun _ h => absurd h List.not_mem_nil⟩⟩⟩⟩⟩⟩⟩⟩
    · exact m_K_make S_K_make (by decide) l_X_106
    · exact m_W_take S_W_take (by decide) l_X_110
    · exact m_L_setAll S_L_setAll (by decide) l_X_114
    · exact m_L_climb S_L_climb (by decide) l_X_118
    · exact m_S_forget S_S_forget (by decide) l_X_122
    · exact m_G_setAll S_G_setAll (by decide) l_X_125
    · exact m_C_drop S_C_drop (by decide) l_X_127
    · exact m_W_size S_W_size (by decide) l_X_130) (by simp) o_X_build ?_
  intro as σ Q hh0
  obtain ⟨c0, rr0, rfl, hh1⟩ := popR_inv hh0
  obtain ⟨hrE, rfl, hd, hn, hB, hT, hb14, hs29, hQ⟩ := hh1
  subst hrE
  clear hh0
  refine ⟨Nat.le_of_ble_eq_true rfl, [], 14, ?_, cuts0⟩
  · rw [show entL 1 [.inr (.inr (some 0))] = [.inr (.inr (some 0))] from rfl]
    simp only [↓wpN_go, jmp_e, ↓wp_aload_n0, ↓wp_bipush, ↓wp_dup, ↓wp_getfield, ↓wp_iadd, ↓wp_icmp_lt, ↓wp_iconst, ↓wp_if_ne, ↓wp_invokevirtual, ↓wp_ireturn1, ↓wp_lconst1, ↓wp_putfield, wp_nil, ↓ldI_0, ↓ldI_s, ↓ldL_0, ↓ldL_s, ↓ldR_0, ↓ldR_s, sto1_0, sto1_1, sto1_s, sto2_0, sto2_1, sto2_s, isLong_i, isLong_l, isLong_r, ↓popI_c, ↓popL_c, ↓popR_c, ↓popN_0, ↓popN_s, catS_n, catS_c, psh_s, psh_n, fldV_n, fldV_s, ↓tgt_e, sw_n, ↓sw_c, ↓lk1_h, ↓lk1_m, ↓atC_h, ↓atC_m, ↓atC_n, ltO_n, ltO_s, updR_eq, updR_ne, gI_0i, gI_0l, gI_s, ltM_iff, List.cons.injEq, Sum.inl.injEq, Sum.inr.injEq, Option.some.injEq, exists_eq_left, exists_eq_left', exists_eq_right, exists_eq_right', exists_and_left, exists_and_right, exists_eq, exists_const, and_assoc, ↓j_X_build_0, ↓j_X_build_12, ↓j_X_build_39, ↓f_X_10, ↓f_X_102, ↓f_X_19, ↓f_X_26, ↓f_X_33, ↓f_X_43, ↓f_X_50, ↓f_X_57, List.length_cons, List.length_nil, Nat.zero_add, Nat.reduceAdd, Int.reduceAdd, Int.reduceNeg, Int.reduceToNat, Int.reduceLE, Int.reduceLT, true_and, and_true, Nat.reduceLT, reduceIte, Nat.reduceEqDiff, ne_eq, not_false_eq_true, false_implies, true_implies, Bool.false_eq_true, reduceCtorEq, List.cons_append, List.nil_append, Nat.reduceSub, Nat.reduceLeDiff, Fin.isValue, Int.reduceNatCast', Int.zero_add, Int.add_zero, decide_true, decide_false, implies_true, forall_const, true_or, or_true, or_false, false_or, false_and, and_false, Int.toNat_natCast, ↓oF_0_0, ↓oF_0_1, ↓oF_0_2, ↓oF_0_3, ↓oF_0_4, ↓oF_0_5, ↓oF_0_6, ↓oF_0_7, ↓oF_0_8, ↓oF_0_9, ↓oF_0_10, ↓oF_0_11, oC_0, oC_1, oC_4, oC_11, oC_16, oC_18, oC_20, oC_23, oC_25, oC_26, oC_29, oC_31, oC_33, oC_35, oC_37, isT_29, isT_31, isT_33, isT_35, isL_16, isL_18, isL_26, b2i_0, b2i_1, b2i_01, b2i_r, ↓e_K_make, ↓e_W_take, ↓e_L_setAll, ↓e_L_climb, ↓e_S_forget, ↓e_G_setAll, ↓e_C_drop, ↓e_W_size]
    have hT2 : TabOK (updR σ 0 (up1 (σ 0) 11 (σ 0 11 + 1))) := hT
    generalize hs1 : updR σ 0 (up1 (σ 0) 11 (σ 0 11 + 1)) = w at *
    have w29 : w 29 = σ 29 := by rw [← hs1, updR_ne _ _ _ _ (by decide)]
    have w14 : w 14 = σ 14 := by rw [← hs1, updR_ne _ _ _ _ (by decide)]
    have q1 : 40 ≤ σ 0 11 → Q (some (.inl (-4))) σ := fun h => hQ _ _ (Or.inl ⟨h, rfl, rfl⟩)
    have q2 : σ 0 11 < 40 → ∀ ρ r, MakeSt w ρ r → r = 0 → Q (some (.inl (-4))) ρ := fun h ρ r h1 h2 => by
      subst h2
      refine hQ _ _ (Or.inr (Or.inl ⟨h, ?_, rfl⟩))
      rw [hs1]
      exact h1
    have q3 : ∀ τ r, MakeSt w τ r → r = 0 ∨ r = 1 := fun τ r h => by
      rcases h.2.2.2.2 with h | h
      · exact Or.inr h.1
      · exact Or.inl h.1
    have q4 : ∀ τ r, MakeSt w τ r → ¬ r = 0 → 0 ≤ τ 4 7 ∧ τ 4 7 ≤ 2816 ∧ Wire (τ 4 7) (τ 7) ∧ NumS (τ 4 7) (τ 8) ∧ 0 ≤ τ 4 8 ∧ τ 4 8 ≤ 100 ∧ (∀ F, QuoW (τ 4 7) (τ 7) (τ 8) F → Wire (τ 4 8) F ∧ OrdW (τ 4 8) F) ∧ isBits (τ 14) := fun τ r h h0 => by
      have h1 := h.2.2.2.2.resolve_right (fun q => h0 q.1)
      have h2 := h1.2.2.2.2
      refine ⟨h1.2.1, h1.2.2.1, h1.2.2.2.1, h2.1, h2.2.1, h2.2.2.1, h2.2.2.2.1, ?_⟩
      rw [h.1 14 (Or.inr (by decide)), w14]
      exact hb14
    have q5 : ∀ τ r τ2, MakeSt w τ r → ¬ r = 0 → TakeSt τ τ2 → 0 ≤ τ2 11 4 ∧ τ2 11 4 ≤ 100 ∧ Wire (τ2 11 4) (τ2 12) ∧ 0 ≤ τ2 29 1 ∧ τ2 29 1 ≤ 600 := fun τ r τ2 h h0 h1 => by
      obtain ⟨a1, a2, a3, a4, a5, a6, a7, a8⟩ := q4 τ r h h0
      have e1 : τ2 11 4 = τ 4 8 := h1.2.2.1
      rw [e1, h1.1 29 (by decide) (by decide) (by decide) (by decide) (by decide), h.1 29 (Or.inr (by decide)), w29]
      exact ⟨a5, a6, (a7 _ h1.2.2.2.1).1, hs29.1, hs29.2⟩
    have q6 : σ 0 11 < 40 → ∀ τ r τ2, MakeSt w τ r → ¬ r = 0 → TakeSt τ τ2 → ∀ g, (∀ s : Nat, s < 100 → g s = fillF (τ2 17) 0 100 1 s) → Climbed (τ2 11 4) (τ2 12) (fillF (τ2 17) 0 100 1) 60 g → Q (some (.inl (τ2 11 4))) (updR (updR (updR (updR (updR (updR τ2 17 g) 20 (up1 (up1 (up1 (up1 (τ2 20) 2 0) 3 (-1)) 4 0) 5 0)) 24 (fillF (τ2 24) 0 100 0)) 28 (fillF (τ2 28) 0 100 0)) 29 (up1 (τ2 29) 1 0)) 25 (up1 (up1 (up1 (up1 (τ2 25) 3 0) 4 0) 5 0) 6 (-1))) := fun h τ r τ2 h1 h0 h2 g g1 g2 => by
      have hr := (q3 τ r h1).resolve_left h0
      subst hr
      have g3 : ∀ s : Nat, s < 100 → g s = 1 := fun s hs => by rw [g1 s hs, fillF_app, if_pos (by omega)]
      refine hQ _ _ (Or.inr (Or.inr ⟨h, τ, τ2, g, by rw [hs1]; exact h1, h2, g3, ?_, rfl, rfl⟩))
      have h5 := q5 τ 1 τ2 h1 h0 h2
      exact climbed_congr (fun s hs => (g1 s (by omega)).symm) g2
    clear hQ
    simp only [updR_twice]
    (try simp only [rI_iff, rL_iff] at *)
    repeat' (with_reducible (first | assumption | apply And.intro | intro _))
    all_goals first | omega | with_reducible assumption | exact True.intro | skip
    all_goals first
      | exact q1 (by assumption)
      | exact q2 (by assumption) _ _ (by assumption) (by assumption)
      | (have hs2 := q3 _ _ (by assumption); omega)
      | exact q6 (by assumption) _ _ _ (by assumption) (by assumption) (by assumption) _ (by assumption) (by assumption)
      | (obtain ⟨a1, a2, a3, a4, a5, a6, a7, a8⟩ := q4 _ _ (by assumption) (by assumption)
         first
           | omega
           | exact a3
           | exact a4
           | exact a4.1
           | exact a4.2
           | exact a7 _ (by assumption)
           | exact (a7 _ (by assumption)).1
           | exact (a7 _ (by assumption)).2
           | exact a8
           | exact a8 _)
      | (obtain ⟨a1, a2, a3, a4, a5⟩ := q5 _ _ _ (by assumption) (by assumption) (by assumption)
         first
           | omega
           | exact a3)
      | trace_state
