/-! the reference: the greatest weights -/
theorem gM_row {σ u : St} (h0 : u 50 = σ 50) (h1 : u 51 = σ 51) : gM u = gM σ := by
  unfold gM
  rw [h0, h1]
def BestM (σ τ : St) (m n most r : Int) : Prop := (∀ k, k ≠ 57 → k ≠ 59 → k ≠ 60 → k ≠ 61 → τ k = σ k) ∧ Feas (σ 37 17) (gM σ) m n (τ 57) ∧ (∀ s : Nat, (s : Int) < σ 37 17 → τ 57 s ≤ most) ∧ (∀ V, Feas (σ 37 17) (gM σ) m n V → (∀ s : Nat, (s : Int) < σ 37 17 → V s ≤ most) → ∀ s : Nat, (s : Int) < σ 37 17 → V s ≤ τ 57 s) ∧ r = sumF (τ 57) (σ 37 17).toNat
def FrB (σ u : St) : Prop := ∀ k, k ≠ 57 → k ≠ 59 → k ≠ 60 → k ≠ 61 → u k = σ k
theorem FrB.set {σ u : St} (h : FrB σ u) {k : Nat} (hk : k = 57 ∨ k = 59 ∨ k = 60 ∨ k = 61) (f : Nat → Int) : FrB σ (updR u k f) := fun j j1 j2 j3 j4 => by
  rw [updR_ne _ _ _ _ (by omega)]
  exact h j j1 j2 j3 j4
theorem FrB.at {σ u : St} (h : FrB σ u) : u 37 = σ 37 ∧ gM u = gM σ := ⟨h 37 (by decide) (by decide) (by decide) (by decide), gM_row (h 50 (by decide) (by decide) (by decide) (by decide)) (h 51 (by decide) (by decide) (by decide) (by decide))⟩
def BestI (N : Int) (f : Nat → Int) (m n most : Int) (W : Nat → Int) : Prop := (∀ s : Nat, (s : Int) < N → 0 ≤ W s ∧ W s ≤ most) ∧ ∀ V, Feas N f m n V → (∀ s : Nat, (s : Int) < N → V s ≤ most) → ∀ s : Nat, (s : Int) < N → V s ≤ W s
theorem best_low {N m n most : Int} {f W : Nat → Int} {s : Nat} (hs : (s : Int) < N) (h0 : 0 ≤ most) (h : BestI N f m n most W) (hl : bearF N f W m n s < W s) : BestI N f m n most (up1 W s (bearF N f W m n s)) := by
  have hb := bear_0 (m := m) (n := n) (f := f) h0 h.1 s
  refine ⟨fun t ht => ?_, fun V hV hm t ht => ?_⟩
  · have := h.1 t ht
    rw [up1_app]
    split
    · next e => subst e; omega
    · exact this
  · rw [up1_app]
    split
    · next e =>
      subst e
      have h1 := (hV t ht).2
      have h2 := bear_mono (m := m) (n := n) (f := f) (fun s hs => h.2 V hV hm s hs) t
      omega
    · exact h.2 V hV hm t ht
def s_M_best : Spec := fun as σ Q => popR as fun c0 r0 => popI r0 fun m r1 => popI r1 fun n r2 => popI r2 fun most r3 => r3 = [] ∧ c0 = 37 ∧ (0 ≤ σ 37 17 ∧ σ 37 17 ≤ 100) ∧ (Wire (σ 37 17) (gM σ)) ∧ (rI m) ∧ (rI n) ∧ (rI most) ∧ if (0 ≤ m ∧ m ≤ 12 ∧ 1 ≤ n ∧ n ≤ 12) ∧ 1 ≤ most ∧ most ≤ 200 then (if σ 37 17 = 0 then Q (some (.inl (-3))) σ else ∀ τ r, BestM σ τ m n most r → Q (some (.inl r)) τ) else Q (some (.inl (-2))) σ
theorem e_M_best (m : Int) (n : Int) (most : Int) (σ : St) (Q : Option AV → St → Prop) : s_M_best [.inr (.inr (some 37)), .inl m, .inl n, .inl most] σ Q = ((0 ≤ σ 37 17 ∧ σ 37 17 ≤ 100) ∧ (Wire (σ 37 17) (gM σ)) ∧ (rI m) ∧ (rI n) ∧ (rI most) ∧ if (0 ≤ m ∧ m ≤ 12 ∧ 1 ≤ n ∧ n ≤ 12) ∧ 1 ≤ most ∧ most ≤ 200 then (if σ 37 17 = 0 then Q (some (.inl (-3))) σ else ∀ τ r, BestM σ τ m n most r → Q (some (.inl r)) τ) else Q (some (.inl (-2))) σ) := by
  show ([] = [] ∧ _) = _
  simp only [true_and]
set_option maxHeartbeats 8000000 in
set_option maxRecDepth 20000 in
theorem S_M_best {l : Launch} : Sat l y_M_best b_M_best 9 (some .int) 1 s_M_best := by
  refine sat_of (Φ := P_M) (κ := Q_M) (Γ := [(108, 0, 3, s_M_in), (211, 10, 2, s_M_reachFrom), (221, 10, 0, s_M_allWeights)]) (rt := 1) (by decide +kernel) P_M_ok Q_M_ok (by
    refine List.forall_mem_cons.mpr ⟨?_, List.forall_mem_cons.mpr ⟨?_, List.forall_mem_cons.mpr ⟨?_, fun _ h => absurd h List.not_mem_nil⟩⟩⟩
    · exact m_M_in S_M_in (by decide) l_M_108
    · exact m_M_reachFrom S_M_reachFrom (by decide) l_M_211
    · exact m_M_allWeights S_M_allWeights (by decide) l_M_221) (by simp) o_M_best ?_
  intro as σ Q hh0
  obtain ⟨c0, rr0, rfl, hh1⟩ := popR_inv hh0
  obtain ⟨m, rr1, rfl, hh2⟩ := popI_inv hh1
  obtain ⟨n, rr2, rfl, hh3⟩ := popI_inv hh2
  obtain ⟨most, rr3, rfl, hh4⟩ := popI_inv hh3
  obtain ⟨hrE, rfl, hN, hf, hrm, hrn, hro, hQ⟩ := hh4
  subst hrE
  clear hh0 hh1 hh2 hh3
  refine ⟨Nat.le_of_ble_eq_true rfl, [(52, mkC (fun L st u => ∃ (s : Int) (v5 v6 v8 : AV), L = [.inr (.inr (some 37)), .inl m, .inl n, .inl most, .inl s, v5, v6, .inr (.inr none), v8] ∧ st = [] ∧ ((0 ≤ m ∧ m ≤ 12 ∧ 1 ≤ n ∧ n ≤ 12) ∧ 1 ≤ most ∧ most ≤ 200) ∧ (¬ σ 37 17 = 0) ∧ (0 ≤ s ∧ s ≤ σ 37 17) ∧ (∀ t : Nat, (t : Int) < s → u 57 t = most) ∧ (FrB σ u)) (fun L st u => (1000000, (101 - gI L 4).toNat, 0))),
    (78, mkC (fun L st u => ∃ (s : Int) (v5 v6 v8 : AV), L = [.inr (.inr (some 37)), .inl m, .inl n, .inl most, .inl s, v5, v6, .inr (.inr none), v8] ∧ st = [] ∧ ((0 ≤ m ∧ m ≤ 12 ∧ 1 ≤ n ∧ n ≤ 12) ∧ 1 ≤ most ∧ most ≤ 200) ∧ (¬ σ 37 17 = 0) ∧ (0 ≤ s ∧ s ≤ σ 37 17) ∧ (∀ t : Nat, (t : Int) < σ 37 17 → u 57 t = most) ∧ (∀ t j : Nat, (t : Int) < s → (j : Int) < σ 37 17 → u 61 (100 * t + j) = ladI (σ 37 17) (gM σ) (indF j) n.toNat t) ∧ (FrB σ u)) (fun L st u => (900000, (300 - 2 * gI L 4).toNat, 0))),
    (97, mkC (fun L st u => ∃ (s j : Int) (v6 v8 : AV), L = [.inr (.inr (some 37)), .inl m, .inl n, .inl most, .inl s, .inl j, v6, .inr (.inr none), v8] ∧ st = [] ∧ ((0 ≤ m ∧ m ≤ 12 ∧ 1 ≤ n ∧ n ≤ 12) ∧ 1 ≤ most ∧ most ≤ 200) ∧ (¬ σ 37 17 = 0) ∧ (0 ≤ s ∧ s < σ 37 17) ∧ (0 ≤ j ∧ j ≤ σ 37 17) ∧ (∀ t : Nat, (t : Int) < σ 37 17 → u 57 t = most) ∧ (∀ t k : Nat, (t : Int) < s → (k : Int) < σ 37 17 → u 61 (100 * t + k) = ladI (σ 37 17) (gM σ) (indF k) n.toNat t) ∧ (∀ k : Nat, (k : Int) < j → u 61 (100 * s.toNat + k) = ladI (σ 37 17) (gM σ) (indF k) n.toNat s) ∧ (ReachG σ (σ 37 17) s n.toNat (u 59)) ∧ (FrB σ u)) (fun L st u => (900000, (299 - 2 * gI L 4).toNat, (101 - gI L 5).toNat))),
    (141, mkC (fun L st u => ∃ (more : Int) (v5 v6 v8 : AV), L = [.inr (.inr (some 37)), .inl m, .inl n, .inl most, .inl more, v5, v6, .inr (.inr none), v8] ∧ st = [] ∧ ((0 ≤ m ∧ m ≤ 12 ∧ 1 ≤ n ∧ n ≤ 12) ∧ 1 ≤ most ∧ most ≤ 200) ∧ (¬ σ 37 17 = 0) ∧ (more = 0 ∨ more = 1) ∧ (∀ t k : Nat, (t : Int) < σ 37 17 → (k : Int) < σ 37 17 → u 61 (100 * t + k) = ladI (σ 37 17) (gM σ) (indF k) n.toNat t) ∧ (BestI (σ 37 17) (gM σ) m n most (u 57)) ∧ (more = 0 → ∀ t : Nat, (t : Int) < σ 37 17 → u 57 t ≤ bearF (σ 37 17) (gM σ) (u 57) m n t) ∧ (FrB σ u)) (fun L st u => ((2 * sumF (u 57) (u 37 17).toNat + gI L 4).toNat, 50, 0))),
    (152, mkC (fun L st u => ∃ (more s : Int) (v6 v8 : AV), L = [.inr (.inr (some 37)), .inl m, .inl n, .inl most, .inl more, .inl s, v6, .inr (.inr none), v8] ∧ st = [] ∧ ((0 ≤ m ∧ m ≤ 12 ∧ 1 ≤ n ∧ n ≤ 12) ∧ 1 ≤ most ∧ most ≤ 200) ∧ (¬ σ 37 17 = 0) ∧ (more = 0 ∨ more = 1) ∧ (0 ≤ s ∧ s ≤ σ 37 17) ∧ (∀ t k : Nat, (t : Int) < σ 37 17 → (k : Int) < σ 37 17 → u 61 (100 * t + k) = ladI (σ 37 17) (gM σ) (indF k) n.toNat t) ∧ (BestI (σ 37 17) (gM σ) m n most (u 57)) ∧ (more = 0 → ∀ t : Nat, (t : Int) < s → u 57 t ≤ bearF (σ 37 17) (gM σ) (u 57) m n t) ∧ (FrB σ u)) (fun L st u => ((2 * sumF (u 57) (u 37 17).toNat + gI L 4).toNat, (400 - 2 * gI L 5).toNat, 0))),
    (167, mkC (fun L st u => ∃ (more s k : Int), L = [.inr (.inr (some 37)), .inl m, .inl n, .inl most, .inl more, .inl s, .inr (.inl ((sumF (fun j => ladI (σ 37 17) (gM σ) (indF j) n.toNat s * u 57 j) k.toNat))), .inr (.inr none), .inl k] ∧ st = [] ∧ ((0 ≤ m ∧ m ≤ 12 ∧ 1 ≤ n ∧ n ≤ 12) ∧ 1 ≤ most ∧ most ≤ 200) ∧ (¬ σ 37 17 = 0) ∧ (more = 0 ∨ more = 1) ∧ (0 ≤ s ∧ s < σ 37 17) ∧ (0 ≤ k ∧ k ≤ σ 37 17) ∧ (∀ t k : Nat, (t : Int) < σ 37 17 → (k : Int) < σ 37 17 → u 61 (100 * t + k) = ladI (σ 37 17) (gM σ) (indF k) n.toNat t) ∧ (BestI (σ 37 17) (gM σ) m n most (u 57)) ∧ (more = 0 → ∀ t : Nat, (t : Int) < s → u 57 t ≤ bearF (σ 37 17) (gM σ) (u 57) m n t) ∧ (FrB σ u)) (fun L st u => ((2 * sumF (u 57) (u 37 17).toNat + gI L 4).toNat, (399 - 2 * gI L 5).toNat, (101 - gI L 8).toNat)))], 14, ?_, cuts1 ?_ (cuts1 ?_ (cuts1 ?_ (cuts1 ?_ (cuts1 ?_ (cuts1 ?_ (cuts0))))))⟩
  · rw [show entL 9 [.inr (.inr (some 37)), .inl m, .inl n, .inl most] = [.inr (.inr (some 37)), .inl m, .inl n, .inl most, .inr (.inr none), .inr (.inr none), .inr (.inr none), .inr (.inr none), .inr (.inr none)] from rfl]
    simp only [↓wpN_go, jmp_e, ↓wp_aload_n0, ↓wp_bipush, ↓wp_getfield, ↓wp_goto, ↓wp_i2l, ↓wp_iadd, ↓wp_iaload, ↓wp_iastore, ↓wp_icmp_ge, ↓wp_iconst, ↓wp_if_eq, ↓wp_if_ge, ↓wp_if_ne, ↓wp_iinc, ↓wp_iload, ↓wp_iload_n1, ↓wp_iload_n2, ↓wp_iload_n3, ↓wp_imul, ↓wp_invokestatic, ↓wp_invokevirtual, ↓wp_ireturn1, ↓wp_istore, ↓wp_l2i, ↓wp_ladd, ↓wp_lcmp, ↓wp_lconst0, ↓wp_lconst1, ↓wp_ldc2_w, ↓wp_lload, ↓wp_lmul, ↓wp_lshr, ↓wp_lstore, wp_nil, ↓ldI_0, ↓ldI_s, ↓ldL_0, ↓ldL_s, ↓ldR_0, ↓ldR_s, sto1_0, sto1_1, sto1_s, sto2_0, sto2_1, sto2_s, isLong_i, isLong_l, isLong_r, ↓popI_c, ↓popL_c, ↓popR_c, ↓popN_0, ↓popN_s, catS_n, catS_c, psh_s, psh_n, fldV_n, fldV_s, ↓tgt_e, sw_n, ↓sw_c, ↓lk1_h, ↓lk1_m, ↓atC_h, ↓atC_m, ↓atC_n, ltO_n, ltO_s, updR_eq, updR_ne, gI_0i, gI_0l, gI_s, ltM_iff, List.cons.injEq, Sum.inl.injEq, Sum.inr.injEq, Option.some.injEq, exists_eq_left, exists_eq_left', exists_eq_right, exists_eq_right', exists_and_left, exists_and_right, exists_eq, exists_const, and_assoc, ↓j_M_best_0, ↓j_M_best_36, ↓j_M_best_39, ↓j_M_best_49, ↓j_M_best_52, ↓j_M_best_75, ↓j_M_best_78, ↓j_M_best_97, ↓j_M_best_132, ↓j_M_best_138, ↓j_M_best_141, ↓j_M_best_152, ↓j_M_best_167, ↓j_M_best_210, ↓j_M_best_243, ↓j_M_best_249, ↓j_M_best_252, ↓c_M_100209, ↓c_M_100228, ↓f_M_160, ↓f_M_75, ↓f_M_82, ↓f_M_88, List.length_cons, List.length_nil, Nat.zero_add, Nat.reduceAdd, Int.reduceAdd, Int.reduceNeg, Int.reduceToNat, Int.reduceLE, Int.reduceLT, true_and, and_true, Nat.reduceLT, reduceIte, Nat.reduceEqDiff, ne_eq, not_false_eq_true, false_implies, true_implies, Bool.false_eq_true, reduceCtorEq, List.cons_append, List.nil_append, Nat.reduceSub, Nat.reduceLeDiff, Fin.isValue, Int.reduceNatCast', Int.zero_add, Int.add_zero, decide_true, decide_false, implies_true, forall_const, true_or, or_true, or_false, false_or, false_and, and_false, Int.toNat_natCast, ↓oF_37_0, ↓oF_37_1, ↓oF_37_2, ↓oF_37_3, ↓aF_38, ↓oF_37_4, ↓aF_39, ↓oF_37_5, ↓oF_37_6, ↓aF_40, ↓oF_37_7, ↓oF_37_8, ↓aF_41, ↓oF_37_9, ↓aF_42, ↓oF_37_10, ↓aF_43, ↓oF_37_11, ↓aF_44, ↓oF_37_12, ↓aF_45, ↓oF_37_13, ↓aF_46, ↓oF_37_14, ↓aF_47, ↓oF_37_15, ↓aF_48, ↓oF_37_16, ↓aF_49, ↓oF_37_17, ↓oF_37_18, ↓aF_50, ↓oF_37_19, ↓aF_51, ↓oF_37_20, ↓aF_52, ↓oF_37_21, ↓aF_53, ↓oF_37_22, ↓aF_54, ↓oF_37_23, ↓aF_55, ↓oF_37_24, ↓aF_56, ↓oF_37_25, ↓aF_57, ↓oF_37_26, ↓oF_37_27, ↓oF_37_28, ↓aF_58, ↓oF_37_29, ↓aF_59, ↓oF_37_30, ↓aF_60, ↓oF_37_31, ↓aF_61, ↓oF_37_32, ↓oF_37_33, ↓oF_37_34, ↓oF_37_35, ↓aF_62, ↓oF_37_36, ↓oF_37_37, ↓aF_63, ↓oF_37_38, ↓oF_37_39, ↓aF_64, ↓oF_37_40, ↓aF_65, ↓oF_37_41, ↓aF_66, oC_0, oC_1, oC_4, oC_11, oC_16, oC_18, oC_20, oC_23, oC_25, oC_26, oC_29, oC_31, oC_33, oC_35, oC_37, isT_29, isT_31, isT_33, isT_35, isL_16, isL_18, isL_26, b2i_0, b2i_1, b2i_01, b2i_r, cmpZ_r, cmpZ_lt, cmpZ_le, cmpZ_gt, cmpZ_ge, ↓e_M_in, ↓e_M_reachFrom, ↓e_M_allWeights]
    have q1 : ¬ ((0 ≤ m ∧ m ≤ 12 ∧ 1 ≤ n ∧ n ≤ 12) ∧ 1 ≤ most ∧ most ≤ 200) → Q (some (.inl (-2))) σ := fun h => by rw [if_neg h] at hQ; exact hQ
    have q2 : ((0 ≤ m ∧ m ≤ 12 ∧ 1 ≤ n ∧ n ≤ 12) ∧ 1 ≤ most ∧ most ≤ 200) → σ 37 17 = 0 → Q (some (.inl (-3))) σ := fun h h1 => by rw [if_pos h, if_pos h1] at hQ; exact hQ
    have hfr : FrB σ σ := fun _ _ _ _ _ => rfl
    clear hQ
    (try simp only [rI_iff, rL_iff] at *)
    repeat' (with_reducible (first | assumption | apply And.intro | intro _))
    all_goals first | omega | with_reducible assumption | exact True.intro | skip
    all_goals first
      | exact q1 (by omega)
      | exact q2 (by omega) (by omega)
      | omega
      | exact hfr
      | trace_state
  · intro L st u hI
    obtain ⟨s, v5, v6, v8, rfl, rfl, ha, hz, hs, hw, hu⟩ := hI
    simp only [↓wpN_go, jmp_e, ↓wp_aload_n0, ↓wp_bipush, ↓wp_getfield, ↓wp_goto, ↓wp_i2l, ↓wp_iadd, ↓wp_iaload, ↓wp_iastore, ↓wp_icmp_ge, ↓wp_iconst, ↓wp_if_eq, ↓wp_if_ge, ↓wp_if_ne, ↓wp_iinc, ↓wp_iload, ↓wp_iload_n1, ↓wp_iload_n2, ↓wp_iload_n3, ↓wp_imul, ↓wp_invokestatic, ↓wp_invokevirtual, ↓wp_ireturn1, ↓wp_istore, ↓wp_l2i, ↓wp_ladd, ↓wp_lcmp, ↓wp_lconst0, ↓wp_lconst1, ↓wp_ldc2_w, ↓wp_lload, ↓wp_lmul, ↓wp_lshr, ↓wp_lstore, wp_nil, ↓ldI_0, ↓ldI_s, ↓ldL_0, ↓ldL_s, ↓ldR_0, ↓ldR_s, sto1_0, sto1_1, sto1_s, sto2_0, sto2_1, sto2_s, isLong_i, isLong_l, isLong_r, ↓popI_c, ↓popL_c, ↓popR_c, ↓popN_0, ↓popN_s, catS_n, catS_c, psh_s, psh_n, fldV_n, fldV_s, ↓tgt_e, sw_n, ↓sw_c, ↓lk1_h, ↓lk1_m, ↓atC_h, ↓atC_m, ↓atC_n, ltO_n, ltO_s, updR_eq, updR_ne, gI_0i, gI_0l, gI_s, ltM_iff, List.cons.injEq, Sum.inl.injEq, Sum.inr.injEq, Option.some.injEq, exists_eq_left, exists_eq_left', exists_eq_right, exists_eq_right', exists_and_left, exists_and_right, exists_eq, exists_const, and_assoc, ↓j_M_best_0, ↓j_M_best_36, ↓j_M_best_39, ↓j_M_best_49, ↓j_M_best_52, ↓j_M_best_75, ↓j_M_best_78, ↓j_M_best_97, ↓j_M_best_132, ↓j_M_best_138, ↓j_M_best_141, ↓j_M_best_152, ↓j_M_best_167, ↓j_M_best_210, ↓j_M_best_243, ↓j_M_best_249, ↓j_M_best_252, ↓c_M_100209, ↓c_M_100228, ↓f_M_160, ↓f_M_75, ↓f_M_82, ↓f_M_88, List.length_cons, List.length_nil, Nat.zero_add, Nat.reduceAdd, Int.reduceAdd, Int.reduceNeg, Int.reduceToNat, Int.reduceLE, Int.reduceLT, true_and, and_true, Nat.reduceLT, reduceIte, Nat.reduceEqDiff, ne_eq, not_false_eq_true, false_implies, true_implies, Bool.false_eq_true, reduceCtorEq, List.cons_append, List.nil_append, Nat.reduceSub, Nat.reduceLeDiff, Fin.isValue, Int.reduceNatCast', Int.zero_add, Int.add_zero, decide_true, decide_false, implies_true, forall_const, true_or, or_true, or_false, false_or, false_and, and_false, Int.toNat_natCast, ↓oF_37_0, ↓oF_37_1, ↓oF_37_2, ↓oF_37_3, ↓aF_38, ↓oF_37_4, ↓aF_39, ↓oF_37_5, ↓oF_37_6, ↓aF_40, ↓oF_37_7, ↓oF_37_8, ↓aF_41, ↓oF_37_9, ↓aF_42, ↓oF_37_10, ↓aF_43, ↓oF_37_11, ↓aF_44, ↓oF_37_12, ↓aF_45, ↓oF_37_13, ↓aF_46, ↓oF_37_14, ↓aF_47, ↓oF_37_15, ↓aF_48, ↓oF_37_16, ↓aF_49, ↓oF_37_17, ↓oF_37_18, ↓aF_50, ↓oF_37_19, ↓aF_51, ↓oF_37_20, ↓aF_52, ↓oF_37_21, ↓aF_53, ↓oF_37_22, ↓aF_54, ↓oF_37_23, ↓aF_55, ↓oF_37_24, ↓aF_56, ↓oF_37_25, ↓aF_57, ↓oF_37_26, ↓oF_37_27, ↓oF_37_28, ↓aF_58, ↓oF_37_29, ↓aF_59, ↓oF_37_30, ↓aF_60, ↓oF_37_31, ↓aF_61, ↓oF_37_32, ↓oF_37_33, ↓oF_37_34, ↓oF_37_35, ↓aF_62, ↓oF_37_36, ↓oF_37_37, ↓aF_63, ↓oF_37_38, ↓oF_37_39, ↓aF_64, ↓oF_37_40, ↓aF_65, ↓oF_37_41, ↓aF_66, oC_0, oC_1, oC_4, oC_11, oC_16, oC_18, oC_20, oC_23, oC_25, oC_26, oC_29, oC_31, oC_33, oC_35, oC_37, isT_29, isT_31, isT_33, isT_35, isL_16, isL_18, isL_26, b2i_0, b2i_1, b2i_01, b2i_r, cmpZ_r, cmpZ_lt, cmpZ_le, cmpZ_gt, cmpZ_ge, ↓e_M_in, ↓e_M_reachFrom, ↓e_M_allWeights]
    obtain ⟨e37, egM⟩ := hu.at
    simp only [e37]
    have q1 : σ 37 17 ≤ s → ∀ t : Nat, (t : Int) < σ 37 17 → u 57 t = most := fun h t ht => hw t (by omega)
    have q2 : ∀ t : Nat, (t : Int) < s + 1 → up1 (u 57) s.toNat most t = most := fun t ht => by
      rw [up1_app]
      split
      · rfl
      · exact hw t (by omega)
    have q3 := hu.set (k := 57) (Or.inl rfl) (up1 (u 57) s.toNat most)
    have q4 : ∀ t j : Nat, (t : Int) < 0 → (j : Int) < σ 37 17 → u 61 (100 * t + j) = ladI (σ 37 17) (gM σ) (indF j) n.toNat t := fun t j h => by omega
    clear hQ
    (try simp only [rI_iff, rL_iff] at *)
    repeat' (with_reducible (first | assumption | apply And.intro | intro _))
    all_goals first | omega | with_reducible assumption | exact True.intro | skip
    all_goals first
      | omega
      | exact q2 _ (by assumption)
      | exact q1 (by assumption) _ (by assumption)
      | exact q4 _ _ (by assumption) (by assumption)
      | exact hu
      | exact q3
      | trace_state
  · intro L st u hI
    obtain ⟨s, v5, v6, v8, rfl, rfl, ha, hz, hs, hw, ht, hu⟩ := hI
    simp only [↓wpN_go, jmp_e, ↓wp_aload_n0, ↓wp_bipush, ↓wp_getfield, ↓wp_goto, ↓wp_i2l, ↓wp_iadd, ↓wp_iaload, ↓wp_iastore, ↓wp_icmp_ge, ↓wp_iconst, ↓wp_if_eq, ↓wp_if_ge, ↓wp_if_ne, ↓wp_iinc, ↓wp_iload, ↓wp_iload_n1, ↓wp_iload_n2, ↓wp_iload_n3, ↓wp_imul, ↓wp_invokestatic, ↓wp_invokevirtual, ↓wp_ireturn1, ↓wp_istore, ↓wp_l2i, ↓wp_ladd, ↓wp_lcmp, ↓wp_lconst0, ↓wp_lconst1, ↓wp_ldc2_w, ↓wp_lload, ↓wp_lmul, ↓wp_lshr, ↓wp_lstore, wp_nil, ↓ldI_0, ↓ldI_s, ↓ldL_0, ↓ldL_s, ↓ldR_0, ↓ldR_s, sto1_0, sto1_1, sto1_s, sto2_0, sto2_1, sto2_s, isLong_i, isLong_l, isLong_r, ↓popI_c, ↓popL_c, ↓popR_c, ↓popN_0, ↓popN_s, catS_n, catS_c, psh_s, psh_n, fldV_n, fldV_s, ↓tgt_e, sw_n, ↓sw_c, ↓lk1_h, ↓lk1_m, ↓atC_h, ↓atC_m, ↓atC_n, ltO_n, ltO_s, updR_eq, updR_ne, gI_0i, gI_0l, gI_s, ltM_iff, List.cons.injEq, Sum.inl.injEq, Sum.inr.injEq, Option.some.injEq, exists_eq_left, exists_eq_left', exists_eq_right, exists_eq_right', exists_and_left, exists_and_right, exists_eq, exists_const, and_assoc, ↓j_M_best_0, ↓j_M_best_36, ↓j_M_best_39, ↓j_M_best_49, ↓j_M_best_52, ↓j_M_best_75, ↓j_M_best_78, ↓j_M_best_97, ↓j_M_best_132, ↓j_M_best_138, ↓j_M_best_141, ↓j_M_best_152, ↓j_M_best_167, ↓j_M_best_210, ↓j_M_best_243, ↓j_M_best_249, ↓j_M_best_252, ↓c_M_100209, ↓c_M_100228, ↓f_M_160, ↓f_M_75, ↓f_M_82, ↓f_M_88, List.length_cons, List.length_nil, Nat.zero_add, Nat.reduceAdd, Int.reduceAdd, Int.reduceNeg, Int.reduceToNat, Int.reduceLE, Int.reduceLT, true_and, and_true, Nat.reduceLT, reduceIte, Nat.reduceEqDiff, ne_eq, not_false_eq_true, false_implies, true_implies, Bool.false_eq_true, reduceCtorEq, List.cons_append, List.nil_append, Nat.reduceSub, Nat.reduceLeDiff, Fin.isValue, Int.reduceNatCast', Int.zero_add, Int.add_zero, decide_true, decide_false, implies_true, forall_const, true_or, or_true, or_false, false_or, false_and, and_false, Int.toNat_natCast, ↓oF_37_0, ↓oF_37_1, ↓oF_37_2, ↓oF_37_3, ↓aF_38, ↓oF_37_4, ↓aF_39, ↓oF_37_5, ↓oF_37_6, ↓aF_40, ↓oF_37_7, ↓oF_37_8, ↓aF_41, ↓oF_37_9, ↓aF_42, ↓oF_37_10, ↓aF_43, ↓oF_37_11, ↓aF_44, ↓oF_37_12, ↓aF_45, ↓oF_37_13, ↓aF_46, ↓oF_37_14, ↓aF_47, ↓oF_37_15, ↓aF_48, ↓oF_37_16, ↓aF_49, ↓oF_37_17, ↓oF_37_18, ↓aF_50, ↓oF_37_19, ↓aF_51, ↓oF_37_20, ↓aF_52, ↓oF_37_21, ↓aF_53, ↓oF_37_22, ↓aF_54, ↓oF_37_23, ↓aF_55, ↓oF_37_24, ↓aF_56, ↓oF_37_25, ↓aF_57, ↓oF_37_26, ↓oF_37_27, ↓oF_37_28, ↓aF_58, ↓oF_37_29, ↓aF_59, ↓oF_37_30, ↓aF_60, ↓oF_37_31, ↓aF_61, ↓oF_37_32, ↓oF_37_33, ↓oF_37_34, ↓oF_37_35, ↓aF_62, ↓oF_37_36, ↓oF_37_37, ↓aF_63, ↓oF_37_38, ↓oF_37_39, ↓aF_64, ↓oF_37_40, ↓aF_65, ↓oF_37_41, ↓aF_66, oC_0, oC_1, oC_4, oC_11, oC_16, oC_18, oC_20, oC_23, oC_25, oC_26, oC_29, oC_31, oC_33, oC_35, oC_37, isT_29, isT_31, isT_33, isT_35, isL_16, isL_18, isL_26, b2i_0, b2i_1, b2i_01, b2i_r, cmpZ_r, cmpZ_lt, cmpZ_le, cmpZ_gt, cmpZ_ge, ↓e_M_in, ↓e_M_reachFrom, ↓e_M_allWeights]
    obtain ⟨e37, egM⟩ := hu.at
    simp only [e37, egM]
    have q1 : σ 37 17 ≤ s → ∀ t k : Nat, (t : Int) < σ 37 17 → (k : Int) < σ 37 17 → u 61 (100 * t + k) = ladI (σ 37 17) (gM σ) (indF k) n.toNat t := fun h t k h1 h2 => ht t k (by omega) h2
    have q2 : BestI (σ 37 17) (gM σ) m n most (u 57) := ⟨fun t h => by rw [hw t h]; omega, fun V _ hV t h => by rw [hw t h]; exact hV t h⟩
    have q3 : ∀ g h, FrB σ (updR (updR u 59 g) 60 h) := fun g h => (hu.set (k := 59) (Or.inr (Or.inl rfl)) g).set (k := 60) (Or.inr (Or.inr (Or.inl rfl))) h
    have q4 : ∀ g h, updR (updR u 59 g) 60 h 59 = g := fun g h => by rw [updR_ne _ 60 59 _ (by decide), updR_eq]
    have q5 : ∀ g, ReachG u (σ 37 17) s n.toNat g → ReachG σ (σ 37 17) s n.toNat g := fun g h x hx => by rw [h x hx, egM]
    have hsb : 0 ≤ sumF (u 57) (σ 37 17).toNat ∧ sumF (u 57) (σ 37 17).toNat ≤ 100 * 200 := by
      have h1 := sumF_bound (w := u 57) (B := 200) (n := (σ 37 17).toNat) (fun t h => by rw [hw t (by omega)]; omega)
      have h2 : ((σ 37 17).toNat : Int) * 200 ≤ 100 * 200 := Int.mul_le_mul_of_nonneg_right (by omega) (by omega)
      omega
    have q6 : ∀ k : Nat, (k : Int) < 0 → u 61 (100 * s.toNat + k) = ladI (σ 37 17) (gM σ) (indF k) n.toNat s := fun k h => by omega
    clear hQ
    try simp only [q4]
    (try simp only [rI_iff, rL_iff] at *)
    repeat' (with_reducible (first | assumption | apply And.intro | intro _))
    all_goals first | omega | with_reducible assumption | exact True.intro | skip
    all_goals first
      | omega
      | exact q1 (by assumption) _ _ (by assumption) (by assumption)
      | exact q2
      | exact hu
      | exact q3 _ _
      | exact q5 _ (by assumption)
      | exact ht _ _ (by assumption) (by assumption)
      | exact hw _ (by assumption)
      | exact q6 _ (by assumption)
      | trace_state
  · intro L st u hI
    obtain ⟨s, j, v6, v8, rfl, rfl, ha, hz, hs, hj, hw, ht, hk, hg, hu⟩ := hI
    simp only [↓wpN_go, jmp_e, ↓wp_aload_n0, ↓wp_bipush, ↓wp_getfield, ↓wp_goto, ↓wp_i2l, ↓wp_iadd, ↓wp_iaload, ↓wp_iastore, ↓wp_icmp_ge, ↓wp_iconst, ↓wp_if_eq, ↓wp_if_ge, ↓wp_if_ne, ↓wp_iinc, ↓wp_iload, ↓wp_iload_n1, ↓wp_iload_n2, ↓wp_iload_n3, ↓wp_imul, ↓wp_invokestatic, ↓wp_invokevirtual, ↓wp_ireturn1, ↓wp_istore, ↓wp_l2i, ↓wp_ladd, ↓wp_lcmp, ↓wp_lconst0, ↓wp_lconst1, ↓wp_ldc2_w, ↓wp_lload, ↓wp_lmul, ↓wp_lshr, ↓wp_lstore, wp_nil, ↓ldI_0, ↓ldI_s, ↓ldL_0, ↓ldL_s, ↓ldR_0, ↓ldR_s, sto1_0, sto1_1, sto1_s, sto2_0, sto2_1, sto2_s, isLong_i, isLong_l, isLong_r, ↓popI_c, ↓popL_c, ↓popR_c, ↓popN_0, ↓popN_s, catS_n, catS_c, psh_s, psh_n, fldV_n, fldV_s, ↓tgt_e, sw_n, ↓sw_c, ↓lk1_h, ↓lk1_m, ↓atC_h, ↓atC_m, ↓atC_n, ltO_n, ltO_s, updR_eq, updR_ne, gI_0i, gI_0l, gI_s, ltM_iff, List.cons.injEq, Sum.inl.injEq, Sum.inr.injEq, Option.some.injEq, exists_eq_left, exists_eq_left', exists_eq_right, exists_eq_right', exists_and_left, exists_and_right, exists_eq, exists_const, and_assoc, ↓j_M_best_0, ↓j_M_best_36, ↓j_M_best_39, ↓j_M_best_49, ↓j_M_best_52, ↓j_M_best_75, ↓j_M_best_78, ↓j_M_best_97, ↓j_M_best_132, ↓j_M_best_138, ↓j_M_best_141, ↓j_M_best_152, ↓j_M_best_167, ↓j_M_best_210, ↓j_M_best_243, ↓j_M_best_249, ↓j_M_best_252, ↓c_M_100209, ↓c_M_100228, ↓f_M_160, ↓f_M_75, ↓f_M_82, ↓f_M_88, List.length_cons, List.length_nil, Nat.zero_add, Nat.reduceAdd, Int.reduceAdd, Int.reduceNeg, Int.reduceToNat, Int.reduceLE, Int.reduceLT, true_and, and_true, Nat.reduceLT, reduceIte, Nat.reduceEqDiff, ne_eq, not_false_eq_true, false_implies, true_implies, Bool.false_eq_true, reduceCtorEq, List.cons_append, List.nil_append, Nat.reduceSub, Nat.reduceLeDiff, Fin.isValue, Int.reduceNatCast', Int.zero_add, Int.add_zero, decide_true, decide_false, implies_true, forall_const, true_or, or_true, or_false, false_or, false_and, and_false, Int.toNat_natCast, ↓oF_37_0, ↓oF_37_1, ↓oF_37_2, ↓oF_37_3, ↓aF_38, ↓oF_37_4, ↓aF_39, ↓oF_37_5, ↓oF_37_6, ↓aF_40, ↓oF_37_7, ↓oF_37_8, ↓aF_41, ↓oF_37_9, ↓aF_42, ↓oF_37_10, ↓aF_43, ↓oF_37_11, ↓aF_44, ↓oF_37_12, ↓aF_45, ↓oF_37_13, ↓aF_46, ↓oF_37_14, ↓aF_47, ↓oF_37_15, ↓aF_48, ↓oF_37_16, ↓aF_49, ↓oF_37_17, ↓oF_37_18, ↓aF_50, ↓oF_37_19, ↓aF_51, ↓oF_37_20, ↓aF_52, ↓oF_37_21, ↓aF_53, ↓oF_37_22, ↓aF_54, ↓oF_37_23, ↓aF_55, ↓oF_37_24, ↓aF_56, ↓oF_37_25, ↓aF_57, ↓oF_37_26, ↓oF_37_27, ↓oF_37_28, ↓aF_58, ↓oF_37_29, ↓aF_59, ↓oF_37_30, ↓aF_60, ↓oF_37_31, ↓aF_61, ↓oF_37_32, ↓oF_37_33, ↓oF_37_34, ↓oF_37_35, ↓aF_62, ↓oF_37_36, ↓oF_37_37, ↓aF_63, ↓oF_37_38, ↓oF_37_39, ↓aF_64, ↓oF_37_40, ↓aF_65, ↓oF_37_41, ↓aF_66, oC_0, oC_1, oC_4, oC_11, oC_16, oC_18, oC_20, oC_23, oC_25, oC_26, oC_29, oC_31, oC_33, oC_35, oC_37, isT_29, isT_31, isT_33, isT_35, isL_16, isL_18, isL_26, b2i_0, b2i_1, b2i_01, b2i_r, cmpZ_r, cmpZ_lt, cmpZ_le, cmpZ_gt, cmpZ_ge, ↓e_M_in, ↓e_M_reachFrom, ↓e_M_allWeights]
    obtain ⟨e37, egM⟩ := hu.at
    simp only [e37]
    have e1 : (100 * s + j).toNat = 100 * s.toNat + j.toNat := by omega
    have hgj : j < σ 37 17 → u 59 j.toNat = ladI (σ 37 17) (gM σ) (indF j) n.toNat s := fun h => by
      have := hg j.toNat (by omega)
      rw [Int.toNat_of_nonneg hj.1] at this
      exact this
    have q1 : σ 37 17 ≤ j → ∀ t k : Nat, (t : Int) < s + 1 → (k : Int) < σ 37 17 → u 61 (100 * t + k) = ladI (σ 37 17) (gM σ) (indF k) n.toNat t := fun h t k h1 h2 => by
      by_cases e : t = s.toNat
      · rw [e, hk k (by omega), Int.toNat_of_nonneg hs.1]
      · exact ht t k (by omega) h2
    have q2 : j < σ 37 17 → ∀ t k : Nat, (t : Int) < s → (k : Int) < σ 37 17 → up1 (u 61) (100 * s + j).toNat (u 59 j.toNat) (100 * t + k) = ladI (σ 37 17) (gM σ) (indF k) n.toNat t := fun h t k h1 h2 => by
      rw [up1_ne _ _ _ _ (by omega)]
      exact ht t k h1 h2
    have q3 : j < σ 37 17 → ∀ k : Nat, (k : Int) < j + 1 → up1 (u 61) (100 * s + j).toNat (u 59 j.toNat) (100 * s.toNat + k) = ladI (σ 37 17) (gM σ) (indF k) n.toNat s := fun h k h1 => by
      rw [e1, up1_app]
      by_cases e : k = j.toNat
      · rw [if_pos (by omega), hgj h, e, Int.toNat_of_nonneg hj.1]
      · rw [if_neg (by omega)]
        exact hk k (by omega)
    have q4 := hu.set (k := 61) (Or.inr (Or.inr (Or.inr rfl))) (up1 (u 61) (100 * s + j).toNat (u 59 j.toNat))
    clear hQ
    (try simp only [rI_iff, rL_iff] at *)
    repeat' (with_reducible (first | assumption | apply And.intro | intro _))
    all_goals first | omega | with_reducible assumption | exact True.intro | skip
    all_goals first
      | omega
      | exact q1 (by assumption) _ _ (by assumption) (by assumption)
      | exact q2 (by assumption) _ _ (by assumption) (by assumption)
      | exact q3 (by assumption) _ (by assumption)
      | exact hu
      | exact q4
      | exact hg
      | exact hw _ (by assumption)
      | trace_state
  · intro L st u hI
    obtain ⟨more, v5, v6, v8, rfl, rfl, ha, hz, hmo, ht, hI, hm0, hu⟩ := hI
    simp only [↓wpN_go, jmp_e, ↓wp_aload_n0, ↓wp_bipush, ↓wp_getfield, ↓wp_goto, ↓wp_i2l, ↓wp_iadd, ↓wp_iaload, ↓wp_iastore, ↓wp_icmp_ge, ↓wp_iconst, ↓wp_if_eq, ↓wp_if_ge, ↓wp_if_ne, ↓wp_iinc, ↓wp_iload, ↓wp_iload_n1, ↓wp_iload_n2, ↓wp_iload_n3, ↓wp_imul, ↓wp_invokestatic, ↓wp_invokevirtual, ↓wp_ireturn1, ↓wp_istore, ↓wp_l2i, ↓wp_ladd, ↓wp_lcmp, ↓wp_lconst0, ↓wp_lconst1, ↓wp_ldc2_w, ↓wp_lload, ↓wp_lmul, ↓wp_lshr, ↓wp_lstore, wp_nil, ↓ldI_0, ↓ldI_s, ↓ldL_0, ↓ldL_s, ↓ldR_0, ↓ldR_s, sto1_0, sto1_1, sto1_s, sto2_0, sto2_1, sto2_s, isLong_i, isLong_l, isLong_r, ↓popI_c, ↓popL_c, ↓popR_c, ↓popN_0, ↓popN_s, catS_n, catS_c, psh_s, psh_n, fldV_n, fldV_s, ↓tgt_e, sw_n, ↓sw_c, ↓lk1_h, ↓lk1_m, ↓atC_h, ↓atC_m, ↓atC_n, ltO_n, ltO_s, updR_eq, updR_ne, gI_0i, gI_0l, gI_s, ltM_iff, List.cons.injEq, Sum.inl.injEq, Sum.inr.injEq, Option.some.injEq, exists_eq_left, exists_eq_left', exists_eq_right, exists_eq_right', exists_and_left, exists_and_right, exists_eq, exists_const, and_assoc, ↓j_M_best_0, ↓j_M_best_36, ↓j_M_best_39, ↓j_M_best_49, ↓j_M_best_52, ↓j_M_best_75, ↓j_M_best_78, ↓j_M_best_97, ↓j_M_best_132, ↓j_M_best_138, ↓j_M_best_141, ↓j_M_best_152, ↓j_M_best_167, ↓j_M_best_210, ↓j_M_best_243, ↓j_M_best_249, ↓j_M_best_252, ↓c_M_100209, ↓c_M_100228, ↓f_M_160, ↓f_M_75, ↓f_M_82, ↓f_M_88, List.length_cons, List.length_nil, Nat.zero_add, Nat.reduceAdd, Int.reduceAdd, Int.reduceNeg, Int.reduceToNat, Int.reduceLE, Int.reduceLT, true_and, and_true, Nat.reduceLT, reduceIte, Nat.reduceEqDiff, ne_eq, not_false_eq_true, false_implies, true_implies, Bool.false_eq_true, reduceCtorEq, List.cons_append, List.nil_append, Nat.reduceSub, Nat.reduceLeDiff, Fin.isValue, Int.reduceNatCast', Int.zero_add, Int.add_zero, decide_true, decide_false, implies_true, forall_const, true_or, or_true, or_false, false_or, false_and, and_false, Int.toNat_natCast, ↓oF_37_0, ↓oF_37_1, ↓oF_37_2, ↓oF_37_3, ↓aF_38, ↓oF_37_4, ↓aF_39, ↓oF_37_5, ↓oF_37_6, ↓aF_40, ↓oF_37_7, ↓oF_37_8, ↓aF_41, ↓oF_37_9, ↓aF_42, ↓oF_37_10, ↓aF_43, ↓oF_37_11, ↓aF_44, ↓oF_37_12, ↓aF_45, ↓oF_37_13, ↓aF_46, ↓oF_37_14, ↓aF_47, ↓oF_37_15, ↓aF_48, ↓oF_37_16, ↓aF_49, ↓oF_37_17, ↓oF_37_18, ↓aF_50, ↓oF_37_19, ↓aF_51, ↓oF_37_20, ↓aF_52, ↓oF_37_21, ↓aF_53, ↓oF_37_22, ↓aF_54, ↓oF_37_23, ↓aF_55, ↓oF_37_24, ↓aF_56, ↓oF_37_25, ↓aF_57, ↓oF_37_26, ↓oF_37_27, ↓oF_37_28, ↓aF_58, ↓oF_37_29, ↓aF_59, ↓oF_37_30, ↓aF_60, ↓oF_37_31, ↓aF_61, ↓oF_37_32, ↓oF_37_33, ↓oF_37_34, ↓oF_37_35, ↓aF_62, ↓oF_37_36, ↓oF_37_37, ↓aF_63, ↓oF_37_38, ↓oF_37_39, ↓aF_64, ↓oF_37_40, ↓aF_65, ↓oF_37_41, ↓aF_66, oC_0, oC_1, oC_4, oC_11, oC_16, oC_18, oC_20, oC_23, oC_25, oC_26, oC_29, oC_31, oC_33, oC_35, oC_37, isT_29, isT_31, isT_33, isT_35, isL_16, isL_18, isL_26, b2i_0, b2i_1, b2i_01, b2i_r, cmpZ_r, cmpZ_lt, cmpZ_le, cmpZ_gt, cmpZ_ge, ↓e_M_in, ↓e_M_reachFrom, ↓e_M_allWeights]
    obtain ⟨e37, egM⟩ := hu.at
    have e17 : (updR u 37 (u 37)) = u := updR_self u 37
    simp only [e37]
    have q1 : more = 0 → Q (some (.inl (sumF (u 57) (σ 37 17).toNat))) u := fun h => by
      rw [if_pos ha, if_neg hz] at hQ
      exact hQ _ _ ⟨hu, fun s hs => ⟨(hI.1 s hs).1, hm0 h s hs⟩, fun s hs => (hI.1 s hs).2, hI.2, rfl⟩
    have hsb : 0 ≤ sumF (u 57) (σ 37 17).toNat := (sumF_bound (w := u 57) (B := 200) (n := (σ 37 17).toNat) (fun t h => by have := hI.1 t (by omega); omega)).1
    clear hQ
    (try simp only [rI_iff, rL_iff] at *)
    repeat' (with_reducible (first | assumption | apply And.intro | intro _))
    all_goals first | omega | with_reducible assumption | exact True.intro | skip
    all_goals first
      | omega
      | exact q1 (by assumption)
      | exact ht _ _ (by assumption) (by assumption)
      | exact hI
      | exact hu
      | trace_state
  · intro L st u hI
    obtain ⟨more, s, v6, v8, rfl, rfl, ha, hz, hmo, hs, ht, hI, hm0, hu⟩ := hI
    simp only [↓wpN_go, jmp_e, ↓wp_aload_n0, ↓wp_bipush, ↓wp_getfield, ↓wp_goto, ↓wp_i2l, ↓wp_iadd, ↓wp_iaload, ↓wp_iastore, ↓wp_icmp_ge, ↓wp_iconst, ↓wp_if_eq, ↓wp_if_ge, ↓wp_if_ne, ↓wp_iinc, ↓wp_iload, ↓wp_iload_n1, ↓wp_iload_n2, ↓wp_iload_n3, ↓wp_imul, ↓wp_invokestatic, ↓wp_invokevirtual, ↓wp_ireturn1, ↓wp_istore, ↓wp_l2i, ↓wp_ladd, ↓wp_lcmp, ↓wp_lconst0, ↓wp_lconst1, ↓wp_ldc2_w, ↓wp_lload, ↓wp_lmul, ↓wp_lshr, ↓wp_lstore, wp_nil, ↓ldI_0, ↓ldI_s, ↓ldL_0, ↓ldL_s, ↓ldR_0, ↓ldR_s, sto1_0, sto1_1, sto1_s, sto2_0, sto2_1, sto2_s, isLong_i, isLong_l, isLong_r, ↓popI_c, ↓popL_c, ↓popR_c, ↓popN_0, ↓popN_s, catS_n, catS_c, psh_s, psh_n, fldV_n, fldV_s, ↓tgt_e, sw_n, ↓sw_c, ↓lk1_h, ↓lk1_m, ↓atC_h, ↓atC_m, ↓atC_n, ltO_n, ltO_s, updR_eq, updR_ne, gI_0i, gI_0l, gI_s, ltM_iff, List.cons.injEq, Sum.inl.injEq, Sum.inr.injEq, Option.some.injEq, exists_eq_left, exists_eq_left', exists_eq_right, exists_eq_right', exists_and_left, exists_and_right, exists_eq, exists_const, and_assoc, ↓j_M_best_0, ↓j_M_best_36, ↓j_M_best_39, ↓j_M_best_49, ↓j_M_best_52, ↓j_M_best_75, ↓j_M_best_78, ↓j_M_best_97, ↓j_M_best_132, ↓j_M_best_138, ↓j_M_best_141, ↓j_M_best_152, ↓j_M_best_167, ↓j_M_best_210, ↓j_M_best_243, ↓j_M_best_249, ↓j_M_best_252, ↓c_M_100209, ↓c_M_100228, ↓f_M_160, ↓f_M_75, ↓f_M_82, ↓f_M_88, List.length_cons, List.length_nil, Nat.zero_add, Nat.reduceAdd, Int.reduceAdd, Int.reduceNeg, Int.reduceToNat, Int.reduceLE, Int.reduceLT, true_and, and_true, Nat.reduceLT, reduceIte, Nat.reduceEqDiff, ne_eq, not_false_eq_true, false_implies, true_implies, Bool.false_eq_true, reduceCtorEq, List.cons_append, List.nil_append, Nat.reduceSub, Nat.reduceLeDiff, Fin.isValue, Int.reduceNatCast', Int.zero_add, Int.add_zero, decide_true, decide_false, implies_true, forall_const, true_or, or_true, or_false, false_or, false_and, and_false, Int.toNat_natCast, ↓oF_37_0, ↓oF_37_1, ↓oF_37_2, ↓oF_37_3, ↓aF_38, ↓oF_37_4, ↓aF_39, ↓oF_37_5, ↓oF_37_6, ↓aF_40, ↓oF_37_7, ↓oF_37_8, ↓aF_41, ↓oF_37_9, ↓aF_42, ↓oF_37_10, ↓aF_43, ↓oF_37_11, ↓aF_44, ↓oF_37_12, ↓aF_45, ↓oF_37_13, ↓aF_46, ↓oF_37_14, ↓aF_47, ↓oF_37_15, ↓aF_48, ↓oF_37_16, ↓aF_49, ↓oF_37_17, ↓oF_37_18, ↓aF_50, ↓oF_37_19, ↓aF_51, ↓oF_37_20, ↓aF_52, ↓oF_37_21, ↓aF_53, ↓oF_37_22, ↓aF_54, ↓oF_37_23, ↓aF_55, ↓oF_37_24, ↓aF_56, ↓oF_37_25, ↓aF_57, ↓oF_37_26, ↓oF_37_27, ↓oF_37_28, ↓aF_58, ↓oF_37_29, ↓aF_59, ↓oF_37_30, ↓aF_60, ↓oF_37_31, ↓aF_61, ↓oF_37_32, ↓oF_37_33, ↓oF_37_34, ↓oF_37_35, ↓aF_62, ↓oF_37_36, ↓oF_37_37, ↓aF_63, ↓oF_37_38, ↓oF_37_39, ↓aF_64, ↓oF_37_40, ↓aF_65, ↓oF_37_41, ↓aF_66, oC_0, oC_1, oC_4, oC_11, oC_16, oC_18, oC_20, oC_23, oC_25, oC_26, oC_29, oC_31, oC_33, oC_35, oC_37, isT_29, isT_31, isT_33, isT_35, isL_16, isL_18, isL_26, b2i_0, b2i_1, b2i_01, b2i_r, cmpZ_r, cmpZ_lt, cmpZ_le, cmpZ_gt, cmpZ_ge, ↓e_M_in, ↓e_M_reachFrom, ↓e_M_allWeights]
    obtain ⟨e37, egM⟩ := hu.at
    simp only [e37]
    clear hQ
    (try simp only [rI_iff, rL_iff] at *)
    repeat' (with_reducible (first | assumption | apply And.intro | intro _))
    all_goals first | omega | with_reducible assumption | exact True.intro | skip
    all_goals first
      | omega
      | exact ht _ _ (by assumption) (by assumption)
      | exact hm0 (by assumption) _ (by omega)
      | exact hI
      | exact hu
      | exact ⟨0, rfl, rfl, ha.1.1, ha.1.2.1, ha.1.2.2.1, ha.1.2.2.2, ha.2.1, ha.2.2, hz, hmo, hs.1, by omega, by omega, by omega, ht, hI, hm0, hu⟩
      | trace_state
  · intro L st u hI
    obtain ⟨more, s, k, rfl, rfl, ha, hz, hmo, hs, hk, ht, hI, hm0, hu⟩ := hI
    simp only [↓wpN_go, jmp_e, ↓wp_aload_n0, ↓wp_bipush, ↓wp_getfield, ↓wp_goto, ↓wp_i2l, ↓wp_iadd, ↓wp_iaload, ↓wp_iastore, ↓wp_icmp_ge, ↓wp_iconst, ↓wp_if_eq, ↓wp_if_ge, ↓wp_if_ne, ↓wp_iinc, ↓wp_iload, ↓wp_iload_n1, ↓wp_iload_n2, ↓wp_iload_n3, ↓wp_imul, ↓wp_invokestatic, ↓wp_invokevirtual, ↓wp_ireturn1, ↓wp_istore, ↓wp_l2i, ↓wp_ladd, ↓wp_lcmp, ↓wp_lconst0, ↓wp_lconst1, ↓wp_ldc2_w, ↓wp_lload, ↓wp_lmul, ↓wp_lshr, ↓wp_lstore, wp_nil, ↓ldI_0, ↓ldI_s, ↓ldL_0, ↓ldL_s, ↓ldR_0, ↓ldR_s, sto1_0, sto1_1, sto1_s, sto2_0, sto2_1, sto2_s, isLong_i, isLong_l, isLong_r, ↓popI_c, ↓popL_c, ↓popR_c, ↓popN_0, ↓popN_s, catS_n, catS_c, psh_s, psh_n, fldV_n, fldV_s, ↓tgt_e, sw_n, ↓sw_c, ↓lk1_h, ↓lk1_m, ↓atC_h, ↓atC_m, ↓atC_n, ltO_n, ltO_s, updR_eq, updR_ne, gI_0i, gI_0l, gI_s, ltM_iff, List.cons.injEq, Sum.inl.injEq, Sum.inr.injEq, Option.some.injEq, exists_eq_left, exists_eq_left', exists_eq_right, exists_eq_right', exists_and_left, exists_and_right, exists_eq, exists_const, and_assoc, ↓j_M_best_0, ↓j_M_best_36, ↓j_M_best_39, ↓j_M_best_49, ↓j_M_best_52, ↓j_M_best_75, ↓j_M_best_78, ↓j_M_best_97, ↓j_M_best_132, ↓j_M_best_138, ↓j_M_best_141, ↓j_M_best_152, ↓j_M_best_167, ↓j_M_best_210, ↓j_M_best_243, ↓j_M_best_249, ↓j_M_best_252, ↓c_M_100209, ↓c_M_100228, ↓f_M_160, ↓f_M_75, ↓f_M_82, ↓f_M_88, List.length_cons, List.length_nil, Nat.zero_add, Nat.reduceAdd, Int.reduceAdd, Int.reduceNeg, Int.reduceToNat, Int.reduceLE, Int.reduceLT, true_and, and_true, Nat.reduceLT, reduceIte, Nat.reduceEqDiff, ne_eq, not_false_eq_true, false_implies, true_implies, Bool.false_eq_true, reduceCtorEq, List.cons_append, List.nil_append, Nat.reduceSub, Nat.reduceLeDiff, Fin.isValue, Int.reduceNatCast', Int.zero_add, Int.add_zero, decide_true, decide_false, implies_true, forall_const, true_or, or_true, or_false, false_or, false_and, and_false, Int.toNat_natCast, ↓oF_37_0, ↓oF_37_1, ↓oF_37_2, ↓oF_37_3, ↓aF_38, ↓oF_37_4, ↓aF_39, ↓oF_37_5, ↓oF_37_6, ↓aF_40, ↓oF_37_7, ↓oF_37_8, ↓aF_41, ↓oF_37_9, ↓aF_42, ↓oF_37_10, ↓aF_43, ↓oF_37_11, ↓aF_44, ↓oF_37_12, ↓aF_45, ↓oF_37_13, ↓aF_46, ↓oF_37_14, ↓aF_47, ↓oF_37_15, ↓aF_48, ↓oF_37_16, ↓aF_49, ↓oF_37_17, ↓oF_37_18, ↓aF_50, ↓oF_37_19, ↓aF_51, ↓oF_37_20, ↓aF_52, ↓oF_37_21, ↓aF_53, ↓oF_37_22, ↓aF_54, ↓oF_37_23, ↓aF_55, ↓oF_37_24, ↓aF_56, ↓oF_37_25, ↓aF_57, ↓oF_37_26, ↓oF_37_27, ↓oF_37_28, ↓aF_58, ↓oF_37_29, ↓aF_59, ↓oF_37_30, ↓aF_60, ↓oF_37_31, ↓aF_61, ↓oF_37_32, ↓oF_37_33, ↓oF_37_34, ↓oF_37_35, ↓aF_62, ↓oF_37_36, ↓oF_37_37, ↓aF_63, ↓oF_37_38, ↓oF_37_39, ↓aF_64, ↓oF_37_40, ↓aF_65, ↓oF_37_41, ↓aF_66, oC_0, oC_1, oC_4, oC_11, oC_16, oC_18, oC_20, oC_23, oC_25, oC_26, oC_29, oC_31, oC_33, oC_35, oC_37, isT_29, isT_31, isT_33, isT_35, isL_16, isL_18, isL_26, b2i_0, b2i_1, b2i_01, b2i_r, cmpZ_r, cmpZ_lt, cmpZ_le, cmpZ_gt, cmpZ_ge, ↓e_M_in, ↓e_M_reachFrom, ↓e_M_allWeights]
    obtain ⟨e37, egM⟩ := hu.at
    simp only [e37]
    have e1 : (k + 1).toNat = k.toNat + 1 := by omega
    have hsN : ((s.toNat : Nat) : Int) < σ 37 17 := by omega
    have hbr : bearF (σ 37 17) (gM σ) (u 57) m n s.toNat = ladI (σ 37 17) (gM σ) (u 57) n.toNat s / 2 ^ m.toNat := by
      unfold bearF
      rw [Int.toNat_of_nonneg hs.1]
    have htk : k < σ 37 17 → u 61 (100 * s + k).toNat = ladI (σ 37 17) (gM σ) (indF k) n.toNat s := fun h => by
      have := ht s.toNat k.toNat hsN (by omega)
      rw [Int.toNat_of_nonneg hs.1, Int.toNat_of_nonneg hk.1] at this
      rw [show (100 * s + k).toNat = 100 * s.toNat + k.toNat by omega]
      exact this
    have hss : sumF (fun j => ladI (σ 37 17) (gM σ) (indF j) n.toNat s * u 57 j) (k.toNat + 1) = sumF (fun j => ladI (σ 37 17) (gM σ) (indF j) n.toNat s * u 57 j) k.toNat + ladI (σ 37 17) (gM σ) (indF k) n.toNat s * u 57 k.toNat := by
      rw [sumF]
      show _ + ladI (σ 37 17) (gM σ) (indF ((k.toNat : Nat) : Int)) n.toNat s * u 57 k.toNat = _
      rw [Int.toNat_of_nonneg hk.1]
    have hse : σ 37 17 ≤ k → sumF (fun j => ladI (σ 37 17) (gM σ) (indF j) n.toNat s * u 57 j) k.toNat = ladI (σ 37 17) (gM σ) (u 57) n.toNat s := fun h => by
      rw [show k.toNat = (σ 37 17).toNat by omega, wsum]
    have hi12 := i12 (N := σ 37 17) (f := gM σ) (s := s) (j := k) (n := n) (by omega)
    have hWs := hI.1 s.toNat hsN
    have hlb := ladI_bound (f := gM σ) (by omega : (0 : Int) ≤ 200) (fun t h => by have := hI.1 t h; omega : ∀ t : Nat, (t : Int) < σ 37 17 → 0 ≤ u 57 t ∧ u 57 t ≤ 200) n.toNat s
    have hp12 := p2_le (show n.toNat ≤ 12 by omega)
    have e12 : (2 : Int) ^ 12 = 4096 := by decide
    have hmp := p2_pos m.toNat
    have hb0 : 0 ≤ ladI (σ 37 17) (gM σ) (u 57) n.toNat s / 2 ^ m.toNat := Int.ediv_nonneg hlb.1 (by omega)
    have hb1 : ladI (σ 37 17) (gM σ) (u 57) n.toNat s / 2 ^ m.toNat ≤ ladI (σ 37 17) (gM σ) (u 57) n.toNat s := Int.ediv_le_self _ hlb.1
    have hww : ∀ z : Int, 0 ≤ z → z ≤ 819200 → wrapI z = z := fun z h h1 => wrapI_id ⟨by omega, by omega⟩
    have hsb : 0 ≤ sumF (u 57) (σ 37 17).toNat := (sumF_bound (w := u 57) (B := 200) (n := (σ 37 17).toNat) (fun t h => by have := hI.1 t (by omega); omega)).1
    have hup := sumF_up (w := u 57) (z := ladI (σ 37 17) (gM σ) (u 57) n.toNat s / 2 ^ m.toNat) (n := (σ 37 17).toNat) (k := s.toNat) (by omega)
    have hsb2 : 0 ≤ sumF (u 57) (σ 37 17).toNat - u 57 s.toNat := by
      have := sumF_up (w := u 57) (z := 0) (n := (σ 37 17).toNat) (k := s.toNat) (by omega)
      have h2 := (sumF_bound (w := up1 (u 57) s.toNat 0) (B := 200) (n := (σ 37 17).toNat) (fun t h => by
        have := hI.1 t (by omega)
        rw [up1_app]
        split <;> omega)).1
      omega
    have q1 : ladI (σ 37 17) (gM σ) (u 57) n.toNat s / 2 ^ m.toNat < u 57 s.toNat → BestI (σ 37 17) (gM σ) m n most (up1 (u 57) s.toNat (ladI (σ 37 17) (gM σ) (u 57) n.toNat s / 2 ^ m.toNat)) := fun h => by
      rw [← hbr] at h ⊢
      exact best_low hsN (by omega) hI h
    have q2 : u 57 s.toNat ≤ ladI (σ 37 17) (gM σ) (u 57) n.toNat s / 2 ^ m.toNat → more = 0 → ∀ t : Nat, (t : Int) < s + 1 → u 57 t ≤ bearF (σ 37 17) (gM σ) (u 57) m n t := fun h h0 t h1 => by
      by_cases e : t = s.toNat
      · rw [e, hbr]; exact h
      · exact hm0 h0 t (by omega)
    have q3 := fun f => hu.set (k := 57) (Or.inl rfl) f
    have e61 : ∀ f, updR u 57 f 61 = u 61 := fun f => updR_ne _ 57 61 _ (by decide)
    clear hQ
    by_cases hc : k < σ 37 17
    · rw [htk hc]
      have hWk := hI.1 k.toNat (by omega)
      (try simp only [rI_iff, rL_iff] at *)
      repeat' (with_reducible (first | assumption | apply And.intro | intro _))
      all_goals first | omega | with_reducible assumption | exact True.intro | skip
      all_goals first
        | omega
        | exact ht _ _ (by assumption) (by assumption)
        | exact ⟨k + 1, by rw [e1, hss], rfl, ha.1.1, ha.1.2.1, ha.1.2.2.1, ha.1.2.2.2, ha.2.1, ha.2.2, hz, hmo, hs.1, by omega, by omega, by omega, ht, hI, hm0, hu⟩
        | exact hI
        | exact hu
        | trace_state
    · rw [hse (by omega), hww _ hb0 (by omega)]
      (try simp only [rI_iff, rL_iff] at *)
      repeat' (with_reducible (first | assumption | apply And.intro | intro _))
      all_goals first | omega | with_reducible assumption | exact True.intro | skip
      all_goals first
        | omega
        | exact ht _ _ (by assumption) (by assumption)
        | exact q1 (by assumption)
        | exact q2 (by assumption) (by assumption) _ (by assumption)
        | exact hI
        | exact hu
        | exact q3 _
        | (rw [hup]; omega)
        | trace_state
