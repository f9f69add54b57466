/-! the reference: number, row -/
theorem folZ_neg {N : Int} {f : Nat → Int} {row : Int} : ∀ n : Nat, folZ N f row n (-1) = -1
  | 0 => rfl
  | n + 1 => by
    rw [folZ]
    have : stepZ N f (-1) (bitZ row n) = -1 := by unfold stepZ; rw [if_neg (by omega)]
    rw [this]
    exact folZ_neg n
theorem one_bound {N : Int} {f : Nat → Int} (r : Nat) (s : Int) : 0 ≤ ladI N f oneF r s ∧ ladI N f oneF r s ≤ 2 ^ r := by
  have := ladI_bound (N := N) (f := f) (w := oneF) (B := 1) (by omega) (fun t _ => by unfold oneF; omega) r s
  omega
theorem one_60 {N : Int} {f : Nat → Int} {r : Nat} (hr : r ≤ 60) (s : Int) : 0 ≤ ladI N f oneF r s ∧ ladI N f oneF r s ≤ 1152921504606846976 := by
  have h1 := one_bound (N := N) (f := f) r s
  have h2 := p2_le hr
  have h3 : (2 : Int) ^ 60 = 1152921504606846976 := by decide
  omega
def s_M_count : Spec := fun as σ Q => popR as fun c0 r0 => popI r0 fun s r1 => popI r1 fun n r2 => r2 = [] ∧ c0 = 37 ∧ (0 ≤ σ 37 17 ∧ σ 37 17 ≤ 100) ∧ (Wire (σ 37 17) (gM σ)) ∧ (rI s) ∧ (rI n) ∧ if (0 ≤ s ∧ s < σ 37 17) ∧ 0 ≤ n ∧ n ≤ 60 then (∀ g, Q (some (.inr (.inl (ladI (σ 37 17) (gM σ) oneF n.toNat s)))) (updR σ 58 g)) else Q (some (.inr (.inl (-2)))) σ
theorem e_M_count (s : Int) (n : Int) (σ : St) (Q : Option AV → St → Prop) : s_M_count [.inr (.inr (some 37)), .inl s, .inl n] σ Q = ((0 ≤ σ 37 17 ∧ σ 37 17 ≤ 100) ∧ (Wire (σ 37 17) (gM σ)) ∧ (rI s) ∧ (rI n) ∧ if (0 ≤ s ∧ s < σ 37 17) ∧ 0 ≤ n ∧ n ≤ 60 then (∀ g, Q (some (.inr (.inl (ladI (σ 37 17) (gM σ) oneF n.toNat s)))) (updR σ 58 g)) else Q (some (.inr (.inl (-2)))) σ) := by
  show ([] = [] ∧ _) = _
  simp only [true_and]
set_option maxHeartbeats 4000000 in
set_option maxRecDepth 20000 in
theorem S_M_count {l : Launch} : Sat l y_M_count b_M_count 3 (some .long) 2 s_M_count := by
  refine sat_of (Φ := P_M) (κ := Q_M) (Γ := [(185, 10, 1, s_M_isState), (108, 0, 3, s_M_in), (203, 10, 1, s_M_tellMany)]) (rt := 2) (by decide +kernel) P_M_ok Q_M_ok (by
    refine List.forall_mem_cons.mpr ⟨?_, List.forall_mem_cons.mpr ⟨?_, List.forall_mem_cons.mpr ⟨?_, fun _ h => absurd h List.not_mem_nil⟩⟩⟩
    · exact m_M_isState S_M_isState (by decide) l_M_185
    · exact m_M_in S_M_in (by decide) l_M_108
    · exact m_M_tellMany S_M_tellMany (by decide) l_M_203) (by simp) o_M_count ?_
  intro as σ Q hh0
  obtain ⟨c0, rr0, rfl, hh1⟩ := popR_inv hh0
  obtain ⟨s, rr1, rfl, hh2⟩ := popI_inv hh1
  obtain ⟨n, rr2, rfl, hh3⟩ := popI_inv hh2
  obtain ⟨hrE, rfl, hN, hf, hrs, hrn, hQ⟩ := hh3
  subst hrE
  clear hh0 hh1 hh2
  refine ⟨Nat.le_of_ble_eq_true rfl, [], 14, ?_, cuts0⟩
  · rw [show entL 3 [.inr (.inr (some 37)), .inl s, .inl n] = [.inr (.inr (some 37)), .inl s, .inl n] from rfl]
    simp only [↓wpN_go, jmp_e, ↓wp_aload_n0, ↓wp_bipush, ↓wp_getfield, ↓wp_i2l, ↓wp_iadd, ↓wp_if_eq, ↓wp_if_ne, ↓wp_iload_n1, ↓wp_iload_n2, ↓wp_imul, ↓wp_invokestatic, ↓wp_invokevirtual, ↓wp_laload, ↓wp_lconst0, ↓wp_ldc2_w, ↓wp_lreturn2, wp_nil, ↓ldI_0, ↓ldI_s, ↓ldL_0, ↓ldL_s, ↓ldR_0, ↓ldR_s, sto1_0, sto1_1, sto1_s, sto2_0, sto2_1, sto2_s, isLong_i, isLong_l, isLong_r, ↓popI_c, ↓popL_c, ↓popR_c, ↓popN_0, ↓popN_s, catS_n, catS_c, psh_s, psh_n, fldV_n, fldV_s, ↓tgt_e, sw_n, ↓sw_c, ↓lk1_h, ↓lk1_m, ↓atC_h, ↓atC_m, ↓atC_n, ltO_n, ltO_s, updR_eq, updR_ne, gI_0i, gI_0l, gI_s, ltM_iff, List.cons.injEq, Sum.inl.injEq, Sum.inr.injEq, Option.some.injEq, exists_eq_left, exists_eq_left', exists_eq_right, exists_eq_right', exists_and_left, exists_and_right, exists_eq, exists_const, and_assoc, ↓j_M_count_0, ↓j_M_count_20, ↓j_M_count_24, ↓c_M_100191, ↓c_M_100201, ↓f_M_78, List.length_cons, List.length_nil, Nat.zero_add, Nat.reduceAdd, Int.reduceAdd, Int.reduceNeg, Int.reduceToNat, Int.reduceLE, Int.reduceLT, true_and, and_true, Nat.reduceLT, reduceIte, Nat.reduceEqDiff, ne_eq, not_false_eq_true, false_implies, true_implies, Bool.false_eq_true, reduceCtorEq, List.cons_append, List.nil_append, Nat.reduceSub, Nat.reduceLeDiff, Fin.isValue, Int.reduceNatCast', Int.zero_add, Int.add_zero, decide_true, decide_false, implies_true, forall_const, true_or, or_true, or_false, false_or, false_and, and_false, Int.toNat_natCast, ↓oF_37_0, ↓oF_37_1, ↓oF_37_2, ↓oF_37_3, ↓aF_38, ↓oF_37_4, ↓aF_39, ↓oF_37_5, ↓oF_37_6, ↓aF_40, ↓oF_37_7, ↓oF_37_8, ↓aF_41, ↓oF_37_9, ↓aF_42, ↓oF_37_10, ↓aF_43, ↓oF_37_11, ↓aF_44, ↓oF_37_12, ↓aF_45, ↓oF_37_13, ↓aF_46, ↓oF_37_14, ↓aF_47, ↓oF_37_15, ↓aF_48, ↓oF_37_16, ↓aF_49, ↓oF_37_17, ↓oF_37_18, ↓aF_50, ↓oF_37_19, ↓aF_51, ↓oF_37_20, ↓aF_52, ↓oF_37_21, ↓aF_53, ↓oF_37_22, ↓aF_54, ↓oF_37_23, ↓aF_55, ↓oF_37_24, ↓aF_56, ↓oF_37_25, ↓aF_57, ↓oF_37_26, ↓oF_37_27, ↓oF_37_28, ↓aF_58, ↓oF_37_29, ↓aF_59, ↓oF_37_30, ↓aF_60, ↓oF_37_31, ↓aF_61, ↓oF_37_32, ↓oF_37_33, ↓oF_37_34, ↓oF_37_35, ↓aF_62, ↓oF_37_36, ↓oF_37_37, ↓aF_63, ↓oF_37_38, ↓oF_37_39, ↓aF_64, ↓oF_37_40, ↓aF_65, ↓oF_37_41, ↓aF_66, oC_0, oC_1, oC_4, oC_11, oC_16, oC_18, oC_20, oC_23, oC_25, oC_26, oC_29, oC_31, oC_33, oC_35, oC_37, isT_29, isT_31, isT_33, isT_35, isL_16, isL_18, isL_26, b2i_0, b2i_1, b2i_01, b2i_r, gM_upd, ↓e_M_isState, ↓e_M_in, ↓e_M_tellMany]
    have q1 : ∀ g, ManyG (σ 37 17) (gM σ) g (n + 1) → 0 ≤ s ∧ s < σ 37 17 → 0 ≤ n → n ≤ 60 → Q (some (.inr (.inl (g (61 * s + n).toNat)))) (updR σ 58 g) := fun g hg h1 h2 h3 => by
      rw [if_pos ⟨h1, h2, h3⟩] at hQ
      rw [many_at hg (by omega) h1]
      exact hQ g
    have q2 : ¬ ((0 ≤ s ∧ s < σ 37 17) ∧ 0 ≤ n ∧ n ≤ 60) → Q (some (.inr (.inl (-2)))) σ := fun h => by rw [if_neg h] at hQ; exact hQ
    clear hQ
    (try simp only [rI_iff, rL_iff] at *)
    repeat' (with_reducible (first | assumption | apply And.intro | intro _))
    all_goals first | omega | with_reducible assumption | exact True.intro | skip
    all_goals first
      | exact q1 _ (by assumption) (by omega) (by omega) (by omega)
      | exact q2 (by omega)
      | grind
theorem folZ_r {N : Int} {f : Nat → Int} {row : Int} (hN : N ≤ 100) (hf : Wire N f) : ∀ (n : Nat) {s : Int}, (s = -1 ∨ (0 ≤ s ∧ s < N)) → (folZ N f row n s = -1 ∨ (0 ≤ folZ N f row n s ∧ folZ N f row n s < N))
  | 0, s, h => h
  | n + 1, s, h => by
    have := stepZ_r hN hf s (bitZ row n)
    exact folZ_r hN hf n (by omega)
def s_M_number : Spec := fun as σ Q => popR as fun c0 r0 => popI r0 fun s r1 => popL r1 fun row r2 => popI r2 fun n r3 => r3 = [] ∧ c0 = 37 ∧ (0 ≤ σ 37 17 ∧ σ 37 17 ≤ 100) ∧ (Wire (σ 37 17) (gM σ)) ∧ (rI s) ∧ (rL row) ∧ (rI n) ∧ if (0 ≤ s ∧ s < σ 37 17) ∧ (0 ≤ n ∧ n ≤ 60 ∧ 0 ≤ row ∧ row < 2 ^ n.toNat) then (if folZ (σ 37 17) (gM σ) row n.toNat s = -1 then Q (some (.inr (.inl (-1)))) σ else ∀ g, Q (some (.inr (.inl (rnkZ (σ 37 17) (gM σ) oneF row n.toNat s)))) (updR σ 58 g)) else Q (some (.inr (.inl (-2)))) σ
theorem e_M_number (s : Int) (row : Int) (n : Int) (σ : St) (Q : Option AV → St → Prop) : s_M_number [.inr (.inr (some 37)), .inl s, .inr (.inl row), .inl n] σ Q = ((0 ≤ σ 37 17 ∧ σ 37 17 ≤ 100) ∧ (Wire (σ 37 17) (gM σ)) ∧ (rI s) ∧ (rL row) ∧ (rI n) ∧ if (0 ≤ s ∧ s < σ 37 17) ∧ (0 ≤ n ∧ n ≤ 60 ∧ 0 ≤ row ∧ row < 2 ^ n.toNat) then (if folZ (σ 37 17) (gM σ) row n.toNat s = -1 then Q (some (.inr (.inl (-1)))) σ else ∀ g, Q (some (.inr (.inl (rnkZ (σ 37 17) (gM σ) oneF row n.toNat s)))) (updR σ 58 g)) else Q (some (.inr (.inl (-2)))) σ) := by
  show ([] = [] ∧ _) = _
  simp only [true_and]
set_option maxHeartbeats 4000000 in
set_option maxRecDepth 20000 in
theorem S_M_number {l : Launch} : Sat l y_M_number b_M_number 10 (some .long) 2 s_M_number := by
  refine sat_of (Φ := P_M) (κ := Q_M) (Γ := [(185, 10, 1, s_M_isState), (193, 0, 2, s_M_isRow), (197, 10, 3, s_M_walks), (203, 10, 1, s_M_tellMany), (188, 10, 2, s_M_goes)]) (rt := 2) (by decide +kernel) P_M_ok Q_M_ok (by
    refine List.forall_mem_cons.mpr ⟨?_, List.forall_mem_cons.mpr ⟨?_, List.forall_mem_cons.mpr ⟨?_, List.forall_mem_cons.mpr ⟨?_, List.forall_mem_cons.mpr ⟨?_, fun _ h => absurd h List.not_mem_nil⟩⟩⟩⟩⟩
    · exact m_M_isState S_M_isState (by decide) l_M_185
    · exact m_M_isRow S_M_isRow (by decide) l_M_193
    · exact m_M_walks S_M_walks (by decide) l_M_197
    · exact m_M_tellMany S_M_tellMany (by decide) l_M_203
    · exact m_M_goes S_M_goes (by decide) l_M_188) (by simp) o_M_number ?_
  intro as σ Q hh0
  obtain ⟨c0, rr0, rfl, hh1⟩ := popR_inv hh0
  obtain ⟨s, rr1, rfl, hh2⟩ := popI_inv hh1
  obtain ⟨row, rr2, rfl, hh3⟩ := popL_inv hh2
  obtain ⟨n, rr3, rfl, hh4⟩ := popI_inv hh3
  obtain ⟨hrE, rfl, hN, hf, hrs, hrrow, hrn, hQ⟩ := hh4
  subst hrE
  clear hh0 hh1 hh2 hh3
  refine ⟨Nat.le_of_ble_eq_true rfl, [(55, mkC (fun L st u => ∃ (x a i : Int) (v9 : AV) (g : Nat → Int), L = [.inr (.inr (some 37)), .inl s, .inr (.inl row), .inr (.inr none), .inl n, .inr (.inl x), .inr (.inr none), .inl a, .inl i, v9] ∧ st = [] ∧ (0 ≤ s ∧ s < σ 37 17) ∧ (0 ≤ n ∧ n ≤ 60) ∧ (0 ≤ row ∧ row < 2 ^ n.toNat) ∧ (-1 ≤ i ∧ i < n) ∧ (folZ (σ 37 17) (gM σ) row n.toNat s ≠ -1) ∧ (folZ (σ 37 17) (gM σ) row (i + 1).toNat a = folZ (σ 37 17) (gM σ) row n.toNat s) ∧ (a = -1 ∨ (0 ≤ a ∧ a < σ 37 17)) ∧ (x + rnkZ (σ 37 17) (gM σ) oneF row (i + 1).toNat a = rnkZ (σ 37 17) (gM σ) oneF row n.toNat s) ∧ (ManyG (σ 37 17) (gM σ) g (n + 1)) ∧ (u = updR σ 58 g)) (fun L st u => ((gI L 8 + 1).toNat, 0, 0)))], 14, ?_, cuts1 ?_ (cuts0)⟩
  · rw [show entL 10 [.inr (.inr (some 37)), .inl s, .inr (.inl row), .inl n] = [.inr (.inr (some 37)), .inl s, .inr (.inl row), .inr (.inr none), .inl n, .inr (.inr none), .inr (.inr none), .inr (.inr none), .inr (.inr none), .inr (.inr none)] from rfl]
    simp only [↓wpN_go, jmp_e, ↓wp_aload_n0, ↓wp_bipush, ↓wp_getfield, ↓wp_goto, ↓wp_iadd, ↓wp_iaload, ↓wp_icmp_eq, ↓wp_icmp_ne, ↓wp_iconst, ↓wp_if_eq, ↓wp_if_lt, ↓wp_if_ne, ↓wp_iinc, ↓wp_iload, ↓wp_iload_n1, ↓wp_imul, ↓wp_invokestatic, ↓wp_invokevirtual, ↓wp_istore, ↓wp_isub, ↓wp_l2i, ↓wp_ladd, ↓wp_laload, ↓wp_land, ↓wp_lconst0, ↓wp_lconst1, ↓wp_ldc2_w, ↓wp_lload, ↓wp_lload_n2, ↓wp_lreturn2, ↓wp_lshr, ↓wp_lstore, wp_nil, ↓ldI_0, ↓ldI_s, ↓ldL_0, ↓ldL_s, ↓ldR_0, ↓ldR_s, sto1_0, sto1_1, sto1_s, sto2_0, sto2_1, sto2_s, isLong_i, isLong_l, isLong_r, ↓popI_c, ↓popL_c, ↓popR_c, ↓popN_0, ↓popN_s, catS_n, catS_c, psh_s, psh_n, fldV_n, fldV_s, ↓tgt_e, sw_n, ↓sw_c, ↓lk1_h, ↓lk1_m, ↓atC_h, ↓atC_m, ↓atC_n, ltO_n, ltO_s, updR_eq, updR_ne, gI_0i, gI_0l, gI_s, ltM_iff, List.cons.injEq, Sum.inl.injEq, Sum.inr.injEq, Option.some.injEq, exists_eq_left, exists_eq_left', exists_eq_right, exists_eq_right', exists_and_left, exists_and_right, exists_eq, exists_const, and_assoc, ↓j_M_number_0, ↓j_M_number_17, ↓j_M_number_21, ↓j_M_number_37, ↓j_M_number_55, ↓j_M_number_109, ↓j_M_number_110, ↓j_M_number_129, ↓c_M_100120, ↓c_M_100201, ↓f_M_54, ↓f_M_78, List.length_cons, List.length_nil, Nat.zero_add, Nat.reduceAdd, Int.reduceAdd, Int.reduceNeg, Int.reduceToNat, Int.reduceLE, Int.reduceLT, true_and, and_true, Nat.reduceLT, reduceIte, Nat.reduceEqDiff, ne_eq, not_false_eq_true, false_implies, true_implies, Bool.false_eq_true, reduceCtorEq, List.cons_append, List.nil_append, Nat.reduceSub, Nat.reduceLeDiff, Fin.isValue, Int.reduceNatCast', Int.zero_add, Int.add_zero, decide_true, decide_false, implies_true, forall_const, true_or, or_true, or_false, false_or, false_and, and_false, Int.toNat_natCast, ↓oF_37_0, ↓oF_37_1, ↓oF_37_2, ↓oF_37_3, ↓aF_38, ↓oF_37_4, ↓aF_39, ↓oF_37_5, ↓oF_37_6, ↓aF_40, ↓oF_37_7, ↓oF_37_8, ↓aF_41, ↓oF_37_9, ↓aF_42, ↓oF_37_10, ↓aF_43, ↓oF_37_11, ↓aF_44, ↓oF_37_12, ↓aF_45, ↓oF_37_13, ↓aF_46, ↓oF_37_14, ↓aF_47, ↓oF_37_15, ↓aF_48, ↓oF_37_16, ↓aF_49, ↓oF_37_17, ↓oF_37_18, ↓aF_50, ↓oF_37_19, ↓aF_51, ↓oF_37_20, ↓aF_52, ↓oF_37_21, ↓aF_53, ↓oF_37_22, ↓aF_54, ↓oF_37_23, ↓aF_55, ↓oF_37_24, ↓aF_56, ↓oF_37_25, ↓aF_57, ↓oF_37_26, ↓oF_37_27, ↓oF_37_28, ↓aF_58, ↓oF_37_29, ↓aF_59, ↓oF_37_30, ↓aF_60, ↓oF_37_31, ↓aF_61, ↓oF_37_32, ↓oF_37_33, ↓oF_37_34, ↓oF_37_35, ↓aF_62, ↓oF_37_36, ↓oF_37_37, ↓aF_63, ↓oF_37_38, ↓oF_37_39, ↓aF_64, ↓oF_37_40, ↓aF_65, ↓oF_37_41, ↓aF_66, oC_0, oC_1, oC_4, oC_11, oC_16, oC_18, oC_20, oC_23, oC_25, oC_26, oC_29, oC_31, oC_33, oC_35, oC_37, isT_29, isT_31, isT_33, isT_35, isL_16, isL_18, isL_26, b2i_0, b2i_1, b2i_01, b2i_r, gM_upd, landZ_1, wrapI_2, ↓e_M_isState, ↓e_M_isRow, ↓e_M_walks, ↓e_M_tellMany, ↓e_M_goes]
    have q1 : (0 ≤ s ∧ s < σ 37 17) → 0 ≤ n → n ≤ 60 → 0 ≤ row → row < 2 ^ n.toNat → folZ (σ 37 17) (gM σ) row n.toNat s = -1 → Q (some (.inr (.inl (-1)))) σ := fun h1 h2 h3 h4 h5 h6 => by rw [if_pos ⟨h1, h2, h3, h4, h5⟩, if_pos h6] at hQ; exact hQ
    have q2 : ¬ ((0 ≤ s ∧ s < σ 37 17) ∧ 0 ≤ n ∧ n ≤ 60 ∧ 0 ≤ row ∧ row < 2 ^ n.toNat) → Q (some (.inr (.inl (-2)))) σ := fun h => by rw [if_neg h] at hQ; exact hQ
    have e8 : n - 1 + 1 = n := by omega
    have hfr : (0 ≤ s ∧ s < σ 37 17) → -1 ≤ folZ (σ 37 17) (gM σ) row n.toNat s ∧ folZ (σ 37 17) (gM σ) row n.toNat s ≤ 100 := fun h => by
      have := folZ_r (row := row) hN.2 hf n.toNat (s := s) (Or.inr h)
      omega
    clear hQ
    rw [e8]
    generalize (2 : Int) ^ n.toNat = p at *
    (try simp only [rI_iff, rL_iff] at *)
    repeat' (with_reducible (first | assumption | apply And.intro | intro _))
    all_goals first | omega | with_reducible assumption | exact True.intro | skip
    all_goals first
      | exact q1 (by omega) (by omega) (by omega) (by omega) (by omega) (by assumption)
      | exact q2 (by omega)
      | (have hs1 := hfr (by omega); omega)
      | exact ⟨_, by assumption, rfl⟩
      | trace_state
  · intro L st u hI
    obtain ⟨x, a, i, v9, g, rfl, rfl, hs, hn, hrw, hi, hz, hfo, ha, hx, hg, hu⟩ := hI
    simp only [↓wpN_go, jmp_e, ↓wp_aload_n0, ↓wp_bipush, ↓wp_getfield, ↓wp_goto, ↓wp_iadd, ↓wp_iaload, ↓wp_icmp_eq, ↓wp_icmp_ne, ↓wp_iconst, ↓wp_if_eq, ↓wp_if_lt, ↓wp_if_ne, ↓wp_iinc, ↓wp_iload, ↓wp_iload_n1, ↓wp_imul, ↓wp_invokestatic, ↓wp_invokevirtual, ↓wp_istore, ↓wp_isub, ↓wp_l2i, ↓wp_ladd, ↓wp_laload, ↓wp_land, ↓wp_lconst0, ↓wp_lconst1, ↓wp_ldc2_w, ↓wp_lload, ↓wp_lload_n2, ↓wp_lreturn2, ↓wp_lshr, ↓wp_lstore, wp_nil, ↓ldI_0, ↓ldI_s, ↓ldL_0, ↓ldL_s, ↓ldR_0, ↓ldR_s, sto1_0, sto1_1, sto1_s, sto2_0, sto2_1, sto2_s, isLong_i, isLong_l, isLong_r, ↓popI_c, ↓popL_c, ↓popR_c, ↓popN_0, ↓popN_s, catS_n, catS_c, psh_s, psh_n, fldV_n, fldV_s, ↓tgt_e, sw_n, ↓sw_c, ↓lk1_h, ↓lk1_m, ↓atC_h, ↓atC_m, ↓atC_n, ltO_n, ltO_s, updR_eq, updR_ne, gI_0i, gI_0l, gI_s, ltM_iff, List.cons.injEq, Sum.inl.injEq, Sum.inr.injEq, Option.some.injEq, exists_eq_left, exists_eq_left', exists_eq_right, exists_eq_right', exists_and_left, exists_and_right, exists_eq, exists_const, and_assoc, ↓j_M_number_0, ↓j_M_number_17, ↓j_M_number_21, ↓j_M_number_37, ↓j_M_number_55, ↓j_M_number_109, ↓j_M_number_110, ↓j_M_number_129, ↓c_M_100120, ↓c_M_100201, ↓f_M_54, ↓f_M_78, List.length_cons, List.length_nil, Nat.zero_add, Nat.reduceAdd, Int.reduceAdd, Int.reduceNeg, Int.reduceToNat, Int.reduceLE, Int.reduceLT, true_and, and_true, Nat.reduceLT, reduceIte, Nat.reduceEqDiff, ne_eq, not_false_eq_true, false_implies, true_implies, Bool.false_eq_true, reduceCtorEq, List.cons_append, List.nil_append, Nat.reduceSub, Nat.reduceLeDiff, Fin.isValue, Int.reduceNatCast', Int.zero_add, Int.add_zero, decide_true, decide_false, implies_true, forall_const, true_or, or_true, or_false, false_or, false_and, and_false, Int.toNat_natCast, ↓oF_37_0, ↓oF_37_1, ↓oF_37_2, ↓oF_37_3, ↓aF_38, ↓oF_37_4, ↓aF_39, ↓oF_37_5, ↓oF_37_6, ↓aF_40, ↓oF_37_7, ↓oF_37_8, ↓aF_41, ↓oF_37_9, ↓aF_42, ↓oF_37_10, ↓aF_43, ↓oF_37_11, ↓aF_44, ↓oF_37_12, ↓aF_45, ↓oF_37_13, ↓aF_46, ↓oF_37_14, ↓aF_47, ↓oF_37_15, ↓aF_48, ↓oF_37_16, ↓aF_49, ↓oF_37_17, ↓oF_37_18, ↓aF_50, ↓oF_37_19, ↓aF_51, ↓oF_37_20, ↓aF_52, ↓oF_37_21, ↓aF_53, ↓oF_37_22, ↓aF_54, ↓oF_37_23, ↓aF_55, ↓oF_37_24, ↓aF_56, ↓oF_37_25, ↓aF_57, ↓oF_37_26, ↓oF_37_27, ↓oF_37_28, ↓aF_58, ↓oF_37_29, ↓aF_59, ↓oF_37_30, ↓aF_60, ↓oF_37_31, ↓aF_61, ↓oF_37_32, ↓oF_37_33, ↓oF_37_34, ↓oF_37_35, ↓aF_62, ↓oF_37_36, ↓oF_37_37, ↓aF_63, ↓oF_37_38, ↓oF_37_39, ↓aF_64, ↓oF_37_40, ↓aF_65, ↓oF_37_41, ↓aF_66, oC_0, oC_1, oC_4, oC_11, oC_16, oC_18, oC_20, oC_23, oC_25, oC_26, oC_29, oC_31, oC_33, oC_35, oC_37, isT_29, isT_31, isT_33, isT_35, isL_16, isL_18, isL_26, b2i_0, b2i_1, b2i_01, b2i_r, gM_upd, landZ_1, wrapI_2, ↓e_M_isState, ↓e_M_isRow, ↓e_M_walks, ↓e_M_tellMany, ↓e_M_goes]
    subst hu
    have e58 : updR σ 58 g 58 = g := updR_eq _ _ _
    have e37 : updR σ 58 g 37 = σ 37 := updR_ne _ _ _ _ (by decide)
    have e50 : updR σ 58 g 50 = σ 50 := updR_ne _ _ _ _ (by decide)
    have e51 : updR σ 58 g 51 = σ 51 := updR_ne _ _ _ _ (by decide)
    have egM : gM (updR σ 58 g) = gM σ := gM_upd _ _ _ (by decide) (by decide)
    simp only [e37, e50, e51, e58, egM]
    rw [if_pos ⟨hs, hn.1, hn.2, hrw⟩, if_neg hz] at hQ
    have ha2 : a ≠ -1 := fun q => hz (by rw [← hfo, q, folZ_neg])
    have h1 := stepZ_r hN.2 hf a (row / 2 ^ i.toNat % 2)
    have e8 : i + -1 + 1 = i := by omega
    have f0 : 0 ≤ a → a < σ 37 17 → -1 ≤ σ 50 a.toNat ∧ σ 50 a.toNat < σ 37 17 := fun h h1 => gM_r0 hf (by omega)
    have z0 : 0 ≤ a → a < σ 37 17 → stepZ (σ 37 17) (gM σ) a 0 = σ 50 a.toNat := fun h h1 => by rw [step_in ⟨h, h1⟩ (by omega), gM_0 σ h]
    have hA : 0 ≤ i → 0 ≤ a → a < σ 37 17 → ladI (σ 37 17) (gM σ) oneF i.toNat (stepZ (σ 37 17) (gM σ) a 0) = if σ 50 a.toNat = -1 then 0 else g (61 * σ 50 a.toNat + i).toNat := fun h h1 h2 => by
      have f0 := f0 h1 h2
      rw [z0 h1 h2]
      by_cases e : σ 50 a.toNat = -1
      · rw [if_pos e, e, ladI_out (by omega)]
      · rw [if_neg e, many_at hg (by omega) ⟨by omega, f0.2⟩]
    have e9 : i < 0 → folZ (σ 37 17) (gM σ) row (i + 1).toNat a = a ∧ rnkZ (σ 37 17) (gM σ) oneF row (i + 1).toNat a = 0 := fun h => by rw [show (i + 1).toNat = 0 by omega]; exact ⟨rfl, rfl⟩
    have e1 : 0 ≤ i → folZ (σ 37 17) (gM σ) row (i + 1).toNat a = folZ (σ 37 17) (gM σ) row i.toNat (stepZ (σ 37 17) (gM σ) a (row / 2 ^ i.toNat % 2)) := fun h => by rw [show (i + 1).toNat = i.toNat + 1 by omega]; rfl
    have e2 : 0 ≤ i → rnkZ (σ 37 17) (gM σ) oneF row (i + 1).toNat a = (if row / 2 ^ i.toNat % 2 = 1 then ladI (σ 37 17) (gM σ) oneF i.toNat (stepZ (σ 37 17) (gM σ) a 0) else 0) + rnkZ (σ 37 17) (gM σ) oneF row i.toNat (stepZ (σ 37 17) (gM σ) a (row / 2 ^ i.toNat % 2)) := fun h => by rw [show (i + 1).toNat = i.toNat + 1 by omega]; rfl
    rw [e8]
    have ha3 : 0 ≤ a ∧ a < σ 37 17 := by omega
    have f0 := f0 ha3.1 ha3.2
    by_cases hc : 0 ≤ i
    · have e1 := e1 hc
      have e2 := e2 hc
      rw [hA hc ha3.1 ha3.2] at e2
      clear hQ e9
      (try simp only [rI_iff, rL_iff] at *)
      repeat' (with_reducible (first | assumption | apply And.intro | intro _))
      all_goals first | omega | with_reducible assumption | exact True.intro | skip
      all_goals first
        | omega
        | exact ⟨_, hg, rfl⟩
        | trace_state
    · have e9 := e9 (by omega)
      have hx2 : x = rnkZ (σ 37 17) (gM σ) oneF row n.toNat s := by omega
      rw [← hx2] at hQ
      (try simp only [rI_iff, rL_iff] at *)
      repeat' (with_reducible (first | assumption | apply And.intro | intro _))
      all_goals first | omega | with_reducible assumption | exact True.intro | skip
      all_goals first
        | exact hQ g
        | omega
def s_M_row : Spec := fun as σ Q => popR as fun c0 r0 => popI r0 fun s r1 => popL r1 fun num r2 => popI r2 fun n r3 => r3 = [] ∧ c0 = 37 ∧ (0 ≤ σ 37 17 ∧ σ 37 17 ≤ 100) ∧ (Wire (σ 37 17) (gM σ)) ∧ (rI s) ∧ (rL num) ∧ (rI n) ∧ if (0 ≤ s ∧ s < σ 37 17) ∧ 0 ≤ num ∧ 0 ≤ n ∧ n ≤ 60 then (∀ g, Q (some (.inr (.inl (if ladI (σ 37 17) (gM σ) oneF n.toNat s ≤ num then -1 else pckZ (σ 37 17) (gM σ) oneF n.toNat s num)))) (updR σ 58 g)) else Q (some (.inr (.inl (-2)))) σ
theorem e_M_row (s : Int) (num : Int) (n : Int) (σ : St) (Q : Option AV → St → Prop) : s_M_row [.inr (.inr (some 37)), .inl s, .inr (.inl num), .inl n] σ Q = ((0 ≤ σ 37 17 ∧ σ 37 17 ≤ 100) ∧ (Wire (σ 37 17) (gM σ)) ∧ (rI s) ∧ (rL num) ∧ (rI n) ∧ if (0 ≤ s ∧ s < σ 37 17) ∧ 0 ≤ num ∧ 0 ≤ n ∧ n ≤ 60 then (∀ g, Q (some (.inr (.inl (if ladI (σ 37 17) (gM σ) oneF n.toNat s ≤ num then -1 else pckZ (σ 37 17) (gM σ) oneF n.toNat s num)))) (updR σ 58 g)) else Q (some (.inr (.inl (-2)))) σ) := by
  show ([] = [] ∧ _) = _
  simp only [true_and]
set_option maxHeartbeats 4000000 in
set_option maxRecDepth 20000 in
theorem S_M_row {l : Launch} : Sat l y_M_row b_M_row 14 (some .long) 2 s_M_row := by
  refine sat_of (Φ := P_M) (κ := Q_M) (Γ := [(185, 10, 1, s_M_isState), (108, 0, 3, s_M_in), (203, 10, 1, s_M_tellMany), (188, 10, 2, s_M_goes)]) (rt := 2) (by decide +kernel) P_M_ok Q_M_ok (by
    refine List.forall_mem_cons.mpr ⟨?_, List.forall_mem_cons.mpr ⟨?_, List.forall_mem_cons.mpr ⟨?_, List.forall_mem_cons.mpr ⟨?_, fun _ h => absurd h List.not_mem_nil⟩⟩⟩⟩
    · exact m_M_isState S_M_isState (by decide) l_M_185
    · exact m_M_in S_M_in (by decide) l_M_108
    · exact m_M_tellMany S_M_tellMany (by decide) l_M_203
    · exact m_M_goes S_M_goes (by decide) l_M_188) (by simp) o_M_row ?_
  intro as σ Q hh0
  obtain ⟨c0, rr0, rfl, hh1⟩ := popR_inv hh0
  obtain ⟨s, rr1, rfl, hh2⟩ := popI_inv hh1
  obtain ⟨num, rr2, rfl, hh3⟩ := popL_inv hh2
  obtain ⟨n, rr3, rfl, hh4⟩ := popI_inv hh3
  obtain ⟨hrE, rfl, hN, hf, hrs, hrnum, hrn, hQ⟩ := hh4
  subst hrE
  clear hh0 hh1 hh2 hh3
  refine ⟨Nat.le_of_ble_eq_true rfl, [(73, mkC (fun L st u => ∃ (x left a i : Int) (v11 v12 v13 : AV) (g : Nat → Int), L = [.inr (.inr (some 37)), .inl s, .inr (.inl num), .inr (.inr none), .inl n, .inr (.inl x), .inr (.inr none), .inr (.inl left), .inr (.inr none), .inl a, .inl i, v11, v12, v13] ∧ st = [] ∧ (0 ≤ s ∧ s < σ 37 17) ∧ (0 ≤ n ∧ n ≤ 60) ∧ (0 ≤ num ∧ num < ladI (σ 37 17) (gM σ) oneF n.toNat s) ∧ (-1 ≤ i ∧ i < n) ∧ (0 ≤ left ∧ left < ladI (σ 37 17) (gM σ) oneF (i + 1).toNat a) ∧ (x * 2 ^ (i + 1).toNat + pckZ (σ 37 17) (gM σ) oneF (i + 1).toNat a left = pckZ (σ 37 17) (gM σ) oneF n.toNat s num) ∧ (ManyG (σ 37 17) (gM σ) g (n + 1)) ∧ (u = updR σ 58 g)) (fun L st u => ((gI L 10 + 1).toNat, 0, 0)))], 14, ?_, cuts1 ?_ (cuts0)⟩
  · rw [show entL 14 [.inr (.inr (some 37)), .inl s, .inr (.inl num), .inl n] = [.inr (.inr (some 37)), .inl s, .inr (.inl num), .inr (.inr none), .inl n, .inr (.inr none), .inr (.inr none), .inr (.inr none), .inr (.inr none), .inr (.inr none), .inr (.inr none), .inr (.inr none), .inr (.inr none), .inr (.inr none)] from rfl]
    simp only [↓wpN_go, jmp_e, ↓wp_aload_n0, ↓wp_bipush, ↓wp_getfield, ↓wp_goto, ↓wp_i2l, ↓wp_iadd, ↓wp_iaload, ↓wp_icmp_ne, ↓wp_iconst, ↓wp_if_eq, ↓wp_if_ge, ↓wp_if_lt, ↓wp_if_ne, ↓wp_iinc, ↓wp_iload, ↓wp_iload_n1, ↓wp_imul, ↓wp_invokestatic, ↓wp_invokevirtual, ↓wp_istore, ↓wp_isub, ↓wp_ladd, ↓wp_laload, ↓wp_lcmp, ↓wp_lconst0, ↓wp_ldc2_w, ↓wp_lload, ↓wp_lload_n2, ↓wp_lmul, ↓wp_lreturn2, ↓wp_lstore, ↓wp_lsub, wp_nil, ↓ldI_0, ↓ldI_s, ↓ldL_0, ↓ldL_s, ↓ldR_0, ↓ldR_s, sto1_0, sto1_1, sto1_s, sto2_0, sto2_1, sto2_s, isLong_i, isLong_l, isLong_r, ↓popI_c, ↓popL_c, ↓popR_c, ↓popN_0, ↓popN_s, catS_n, catS_c, psh_s, psh_n, fldV_n, fldV_s, ↓tgt_e, sw_n, ↓sw_c, ↓lk1_h, ↓lk1_m, ↓atC_h, ↓atC_m, ↓atC_n, ltO_n, ltO_s, updR_eq, updR_ne, gI_0i, gI_0l, gI_s, ltM_iff, List.cons.injEq, Sum.inl.injEq, Sum.inr.injEq, Option.some.injEq, exists_eq_left, exists_eq_left', exists_eq_right, exists_eq_right', exists_and_left, exists_and_right, exists_eq, exists_const, and_assoc, ↓j_M_row_0, ↓j_M_row_27, ↓j_M_row_31, ↓j_M_row_58, ↓j_M_row_73, ↓j_M_row_93, ↓j_M_row_111, ↓j_M_row_125, ↓j_M_row_126, ↓j_M_row_141, ↓j_M_row_142, ↓j_M_row_173, ↓c_M_100120, ↓c_M_100191, ↓c_M_100201, ↓c_M_100207, ↓f_M_54, ↓f_M_78, List.length_cons, List.length_nil, Nat.zero_add, Nat.reduceAdd, Int.reduceAdd, Int.reduceNeg, Int.reduceToNat, Int.reduceLE, Int.reduceLT, true_and, and_true, Nat.reduceLT, reduceIte, Nat.reduceEqDiff, ne_eq, not_false_eq_true, false_implies, true_implies, Bool.false_eq_true, reduceCtorEq, List.cons_append, List.nil_append, Nat.reduceSub, Nat.reduceLeDiff, Fin.isValue, Int.reduceNatCast', Int.zero_add, Int.add_zero, decide_true, decide_false, implies_true, forall_const, true_or, or_true, or_false, false_or, false_and, and_false, Int.toNat_natCast, ↓oF_37_0, ↓oF_37_1, ↓oF_37_2, ↓oF_37_3, ↓aF_38, ↓oF_37_4, ↓aF_39, ↓oF_37_5, ↓oF_37_6, ↓aF_40, ↓oF_37_7, ↓oF_37_8, ↓aF_41, ↓oF_37_9, ↓aF_42, ↓oF_37_10, ↓aF_43, ↓oF_37_11, ↓aF_44, ↓oF_37_12, ↓aF_45, ↓oF_37_13, ↓aF_46, ↓oF_37_14, ↓aF_47, ↓oF_37_15, ↓aF_48, ↓oF_37_16, ↓aF_49, ↓oF_37_17, ↓oF_37_18, ↓aF_50, ↓oF_37_19, ↓aF_51, ↓oF_37_20, ↓aF_52, ↓oF_37_21, ↓aF_53, ↓oF_37_22, ↓aF_54, ↓oF_37_23, ↓aF_55, ↓oF_37_24, ↓aF_56, ↓oF_37_25, ↓aF_57, ↓oF_37_26, ↓oF_37_27, ↓oF_37_28, ↓aF_58, ↓oF_37_29, ↓aF_59, ↓oF_37_30, ↓aF_60, ↓oF_37_31, ↓aF_61, ↓oF_37_32, ↓oF_37_33, ↓oF_37_34, ↓oF_37_35, ↓aF_62, ↓oF_37_36, ↓oF_37_37, ↓aF_63, ↓oF_37_38, ↓oF_37_39, ↓aF_64, ↓oF_37_40, ↓aF_65, ↓oF_37_41, ↓aF_66, oC_0, oC_1, oC_4, oC_11, oC_16, oC_18, oC_20, oC_23, oC_25, oC_26, oC_29, oC_31, oC_33, oC_35, oC_37, isT_29, isT_31, isT_33, isT_35, isL_16, isL_18, isL_26, b2i_0, b2i_1, b2i_01, b2i_r, cmpZ_r, cmpZ_lt, cmpZ_le, cmpZ_gt, cmpZ_ge, gM_upd, Int.sub_zero, ↓e_M_isState, ↓e_M_in, ↓e_M_tellMany, ↓e_M_goes]
    have q1 : ∀ g, ManyG (σ 37 17) (gM σ) g (n + 1) → (0 ≤ s ∧ s < σ 37 17) → 0 ≤ num → 0 ≤ n → n ≤ 60 → g (61 * s + n).toNat = ladI (σ 37 17) (gM σ) oneF n.toNat s := fun g hg h1 h2 h3 h4 => many_at hg (by omega) h1
    have q3 : ∀ g, ManyG (σ 37 17) (gM σ) g (n + 1) → (0 ≤ s ∧ s < σ 37 17) → 0 ≤ num → 0 ≤ n → n ≤ 60 → g (61 * s + n).toNat ≤ num → Q (some (.inr (.inl (-1)))) (updR σ 58 g) := fun g hg h1 h2 h3 h4 h5 => by
      rw [if_pos ⟨h1, h2, h3, h4⟩] at hQ
      rw [q1 g hg h1 h2 h3 h4] at h5
      rw [if_pos h5] at hQ
      exact hQ g
    have q2 : ¬ ((0 ≤ s ∧ s < σ 37 17) ∧ 0 ≤ num ∧ 0 ≤ n ∧ n ≤ 60) → Q (some (.inr (.inl (-2)))) σ := fun h => by rw [if_neg h] at hQ; exact hQ
    have e8 : n - 1 + 1 = n := by omega
    have hb := fun h => one_60 (N := σ 37 17) (f := gM σ) (r := n.toNat) h s
    clear hQ
    rw [e8]
    (try simp only [rI_iff, rL_iff] at *)
    repeat' (with_reducible (first | assumption | apply And.intro | intro _))
    all_goals first | omega | with_reducible assumption | exact True.intro | skip
    all_goals first
      | exact q2 (by omega)
      | exact q3 _ (by assumption) (by omega) (by omega) (by omega) (by omega) (by assumption)
      | (have hs1 := q1 _ (by assumption) (by omega) (by omega) (by omega) (by omega); have hs2 := hb (by omega); omega)
      | exact ⟨_, by assumption, rfl⟩
      | trace_state
  · intro L st u hI
    obtain ⟨x, left, a, i, v11, v12, v13, g, rfl, rfl, hs, hn, hnum, hi, hl, hx, hg, hu⟩ := hI
    simp only [↓wpN_go, jmp_e, ↓wp_aload_n0, ↓wp_bipush, ↓wp_getfield, ↓wp_goto, ↓wp_i2l, ↓wp_iadd, ↓wp_iaload, ↓wp_icmp_ne, ↓wp_iconst, ↓wp_if_eq, ↓wp_if_ge, ↓wp_if_lt, ↓wp_if_ne, ↓wp_iinc, ↓wp_iload, ↓wp_iload_n1, ↓wp_imul, ↓wp_invokestatic, ↓wp_invokevirtual, ↓wp_istore, ↓wp_isub, ↓wp_ladd, ↓wp_laload, ↓wp_lcmp, ↓wp_lconst0, ↓wp_ldc2_w, ↓wp_lload, ↓wp_lload_n2, ↓wp_lmul, ↓wp_lreturn2, ↓wp_lstore, ↓wp_lsub, wp_nil, ↓ldI_0, ↓ldI_s, ↓ldL_0, ↓ldL_s, ↓ldR_0, ↓ldR_s, sto1_0, sto1_1, sto1_s, sto2_0, sto2_1, sto2_s, isLong_i, isLong_l, isLong_r, ↓popI_c, ↓popL_c, ↓popR_c, ↓popN_0, ↓popN_s, catS_n, catS_c, psh_s, psh_n, fldV_n, fldV_s, ↓tgt_e, sw_n, ↓sw_c, ↓lk1_h, ↓lk1_m, ↓atC_h, ↓atC_m, ↓atC_n, ltO_n, ltO_s, updR_eq, updR_ne, gI_0i, gI_0l, gI_s, ltM_iff, List.cons.injEq, Sum.inl.injEq, Sum.inr.injEq, Option.some.injEq, exists_eq_left, exists_eq_left', exists_eq_right, exists_eq_right', exists_and_left, exists_and_right, exists_eq, exists_const, and_assoc, ↓j_M_row_0, ↓j_M_row_27, ↓j_M_row_31, ↓j_M_row_58, ↓j_M_row_73, ↓j_M_row_93, ↓j_M_row_111, ↓j_M_row_125, ↓j_M_row_126, ↓j_M_row_141, ↓j_M_row_142, ↓j_M_row_173, ↓c_M_100120, ↓c_M_100191, ↓c_M_100201, ↓c_M_100207, ↓f_M_54, ↓f_M_78, List.length_cons, List.length_nil, Nat.zero_add, Nat.reduceAdd, Int.reduceAdd, Int.reduceNeg, Int.reduceToNat, Int.reduceLE, Int.reduceLT, true_and, and_true, Nat.reduceLT, reduceIte, Nat.reduceEqDiff, ne_eq, not_false_eq_true, false_implies, true_implies, Bool.false_eq_true, reduceCtorEq, List.cons_append, List.nil_append, Nat.reduceSub, Nat.reduceLeDiff, Fin.isValue, Int.reduceNatCast', Int.zero_add, Int.add_zero, decide_true, decide_false, implies_true, forall_const, true_or, or_true, or_false, false_or, false_and, and_false, Int.toNat_natCast, ↓oF_37_0, ↓oF_37_1, ↓oF_37_2, ↓oF_37_3, ↓aF_38, ↓oF_37_4, ↓aF_39, ↓oF_37_5, ↓oF_37_6, ↓aF_40, ↓oF_37_7, ↓oF_37_8, ↓aF_41, ↓oF_37_9, ↓aF_42, ↓oF_37_10, ↓aF_43, ↓oF_37_11, ↓aF_44, ↓oF_37_12, ↓aF_45, ↓oF_37_13, ↓aF_46, ↓oF_37_14, ↓aF_47, ↓oF_37_15, ↓aF_48, ↓oF_37_16, ↓aF_49, ↓oF_37_17, ↓oF_37_18, ↓aF_50, ↓oF_37_19, ↓aF_51, ↓oF_37_20, ↓aF_52, ↓oF_37_21, ↓aF_53, ↓oF_37_22, ↓aF_54, ↓oF_37_23, ↓aF_55, ↓oF_37_24, ↓aF_56, ↓oF_37_25, ↓aF_57, ↓oF_37_26, ↓oF_37_27, ↓oF_37_28, ↓aF_58, ↓oF_37_29, ↓aF_59, ↓oF_37_30, ↓aF_60, ↓oF_37_31, ↓aF_61, ↓oF_37_32, ↓oF_37_33, ↓oF_37_34, ↓oF_37_35, ↓aF_62, ↓oF_37_36, ↓oF_37_37, ↓aF_63, ↓oF_37_38, ↓oF_37_39, ↓aF_64, ↓oF_37_40, ↓aF_65, ↓oF_37_41, ↓aF_66, oC_0, oC_1, oC_4, oC_11, oC_16, oC_18, oC_20, oC_23, oC_25, oC_26, oC_29, oC_31, oC_33, oC_35, oC_37, isT_29, isT_31, isT_33, isT_35, isL_16, isL_18, isL_26, b2i_0, b2i_1, b2i_01, b2i_r, cmpZ_r, cmpZ_lt, cmpZ_le, cmpZ_gt, cmpZ_ge, gM_upd, Int.sub_zero, ↓e_M_isState, ↓e_M_in, ↓e_M_tellMany, ↓e_M_goes]
    subst hu
    have e58 : updR σ 58 g 58 = g := updR_eq _ _ _
    have e37 : updR σ 58 g 37 = σ 37 := updR_ne _ _ _ _ (by decide)
    have e50 : updR σ 58 g 50 = σ 50 := updR_ne _ _ _ _ (by decide)
    have e51 : updR σ 58 g 51 = σ 51 := updR_ne _ _ _ _ (by decide)
    have egM : gM (updR σ 58 g) = gM σ := gM_upd _ _ _ (by decide) (by decide)
    simp only [e37, e50, e51, e58, egM]
    have ha3 : 0 ≤ a ∧ a < σ 37 17 := by
      apply Classical.byContradiction
      intro hc
      rw [ladI_out hc] at hl
      omega
    rw [if_pos ⟨hs, hnum.1, hn.1, hn.2⟩, if_neg (by omega)] at hQ
    have e8 : i + -1 + 1 = i := by omega
    have f0 : 0 ≤ a → a < σ 37 17 → -1 ≤ σ 50 a.toNat ∧ σ 50 a.toNat < σ 37 17 := fun h h1 => gM_r0 hf (by omega)
    have z0 : 0 ≤ a → a < σ 37 17 → stepZ (σ 37 17) (gM σ) a 0 = σ 50 a.toNat := fun h h1 => by rw [step_in ⟨h, h1⟩ (by omega), gM_0 σ h]
    have hA : 0 ≤ i → 0 ≤ a → a < σ 37 17 → ladI (σ 37 17) (gM σ) oneF i.toNat (stepZ (σ 37 17) (gM σ) a 0) = if σ 50 a.toNat = -1 then 0 else g (61 * σ 50 a.toNat + i).toNat := fun h h1 h2 => by
      have f0 := f0 h1 h2
      rw [z0 h1 h2]
      by_cases e : σ 50 a.toNat = -1
      · rw [if_pos e, e, ladI_out (by omega)]
      · rw [if_neg e, many_at hg (by omega) ⟨by omega, f0.2⟩]
    have e9 : i < 0 → x = pckZ (σ 37 17) (gM σ) oneF n.toNat s num := fun h => by
      rw [show (i + 1).toNat = 0 by omega] at hx
      have e : pckZ (σ 37 17) (gM σ) oneF 0 a left = 0 := rfl
      rw [e, Int.pow_zero] at hx
      omega
    have e1 : 0 ≤ i → pckZ (σ 37 17) (gM σ) oneF (i + 1).toNat a left = if left < ladI (σ 37 17) (gM σ) oneF i.toNat (stepZ (σ 37 17) (gM σ) a 0) then pckZ (σ 37 17) (gM σ) oneF i.toNat (stepZ (σ 37 17) (gM σ) a 0) left else 2 ^ i.toNat + pckZ (σ 37 17) (gM σ) oneF i.toNat (stepZ (σ 37 17) (gM σ) a 1) (left - ladI (σ 37 17) (gM σ) oneF i.toNat (stepZ (σ 37 17) (gM σ) a 0)) := fun h => by rw [show (i + 1).toNat = i.toNat + 1 by omega]; rfl
    have e2 : 0 ≤ i → ladI (σ 37 17) (gM σ) oneF (i + 1).toNat a = ladI (σ 37 17) (gM σ) oneF i.toNat (stepZ (σ 37 17) (gM σ) a 0) + ladI (σ 37 17) (gM σ) oneF i.toNat (stepZ (σ 37 17) (gM σ) a 1) := fun h => by rw [show (i + 1).toNat = i.toNat + 1 by omega]; exact ladI_s ha3
    have hnb := one_60 (N := σ 37 17) (f := gM σ) (r := n.toNat) (by omega) s
    have f0 := f0 ha3.1 ha3.2
    rw [e8]
    by_cases hc : 0 ≤ i
    · have e1 := e1 hc
      have e2 := e2 hc
      have hA := hA hc ha3.1 ha3.2
      have hb0 := one_60 (N := σ 37 17) (f := gM σ) (r := i.toNat) (by omega) (stepZ (σ 37 17) (gM σ) a 0)
      have hb1 := one_60 (N := σ 37 17) (f := gM σ) (r := i.toNat) (by omega) (stepZ (σ 37 17) (gM σ) a 1)
      have hpw : (2 : Int) ^ (i + 1).toNat = 2 ^ i.toNat * 2 := by rw [show (i + 1).toNat = i.toNat + 1 by omega, Int.pow_succ]
      have hx0 : 2 * x * 2 ^ i.toNat = x * (2 ^ i.toNat * 2) := by rw [Int.mul_comm 2 x, Int.mul_assoc, Int.mul_comm 2]
      have hx1 : (2 * x + 1) * 2 ^ i.toNat = x * (2 ^ i.toNat * 2) + 2 ^ i.toNat := by rw [Int.add_mul, hx0, Int.one_mul]
      rw [e1, hpw] at hx
      rw [e2] at hl
      have hlr : rL left := ⟨by omega, by
        have := hl.2
        omega⟩
      have hr := hx
      clear hQ e9 e1 e2 hpw
      generalize ladI (σ 37 17) (gM σ) oneF i.toNat (stepZ (σ 37 17) (gM σ) a 0) = l0 at *
      generalize ladI (σ 37 17) (gM σ) oneF i.toNat (stepZ (σ 37 17) (gM σ) a 1) = l1 at *
      by_cases e50 : σ 50 a.toNat = -1
      · rw [if_pos e50] at hA
        subst hA
        simp only [Int.sub_zero] at hx
        (try simp only [rI_iff, rL_iff] at *)
        repeat' (with_reducible (first | assumption | apply And.intro | intro _))
        all_goals first | omega | with_reducible assumption | exact True.intro | skip
        all_goals first
          | omega
          | exact ⟨_, hg, rfl⟩
          | exact absurd e50 (by assumption)
          | (exfalso; apply absurd trivial; assumption)
          | (rw [if_pos (by omega)] at hx; rw [hx0]; omega)
          | (rw [if_neg (by omega)] at hx; rw [hx1]; omega)
          | trace_state
      · rw [if_neg e50] at hA
        rw [← hA]
        clear hA
        (try simp only [rI_iff, rL_iff] at *)
        repeat' (with_reducible (first | assumption | apply And.intro | intro _))
        all_goals first | omega | with_reducible assumption | exact True.intro | skip
        all_goals first
          | omega
          | exact ⟨_, hg, rfl⟩
          | exact absurd (by assumption) e50
          | (exfalso; apply absurd trivial; assumption)
          | (rw [if_pos (by omega)] at hx; rw [hx0]; omega)
          | (rw [if_neg (by omega)] at hx; rw [hx1]; omega)
          | trace_state
    · have hx2 := e9 (by omega)
      rw [← hx2] at hQ
      (try simp only [rI_iff, rL_iff] at *)
      repeat' (with_reducible (first | assumption | apply And.intro | intro _))
      all_goals first | omega | with_reducible assumption | exact True.intro | skip
      all_goals first
        | exact hQ g
        | omega
