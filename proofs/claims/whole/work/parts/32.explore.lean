/-! exploring -/
def ExpS (σ u : St) (m : Int) : Prop := (∀ k : Nat, k ≠ 4 → k ≠ 5 → k ≠ 6 → k ≠ 7 → k ≠ 8 → u k = σ k) ∧ u 4 6 = σ 4 6 ∧ u 4 8 = σ 4 8 ∧ ExpI (kS σ) 2816 1281 (u 4 7) (u 6) (u 5) (u 7) m ∧ (∀ i : Nat, (i : Int) < u 4 7 → u 8 i = 0) ∧ ∀ i : Nat, (i : Int) < u 4 7 → 0 < u 6 i % 256
theorem kS_r {σ : St} (hd : BansOK (σ 1 3) (σ 1 4) (σ 1 2) (σ 1 5) (σ 2) (σ 3)) {key bit : Int} (hk : 0 ≤ key ∧ key < 2816 ∧ 0 < key % 256) (hb : bit = 0 ∨ bit = 1) : kS σ key bit = -1 ∨ (0 ≤ kS σ key bit ∧ kS σ key bit < 2816 ∧ 0 < kS σ key bit % 256) :=
  kA_r hd.2.2 (memW_r (by have := hd.1; omega) hd.2.1 _ (by have := hd.2.1.1; omega)) hk hb
theorem exp_pre {σ u : St} {m key : Int} (h : ExpS σ u m) (hk : -1 ≤ key ∧ key < 2816) : ∀ k : Nat, k < 2816 → rI (u 5 k) ∧ (u 5 k = -1 → u 4 7 < 2816) := by
  intro k hk
  have h1 := h.2.2.2.1
  have h2 := exp_le h1
  refine ⟨?_, fun h3 => ?_⟩
  · rcases h1.2.2.2.1 k hk with e | e
    · rw [e]; unfold rI; omega
    · unfold rI; omega
  · exact exp_lt h1 hk h3
theorem exp_step {σ u v : St} {m r : Int} (hd : BansOK (σ 1 3) (σ 1 4) (σ 1 2) (σ 1 5) (σ 2) (σ 3)) (h : ExpS σ u m) (hm : m < 2 * u 4 7) (hp : PlaceSt u v (kS σ (u 6 (m.toNat / 2)) ((m.toNat % 2 : Nat) : Int)) r) : ExpS σ (updR v 7 (up1 (v 7) m.toNat r)) (m + 1) ∧ u 4 7 ≤ v 4 7 ∧ ∀ i : Nat, (i : Int) < u 4 7 → v 6 i = u 6 i := by
  obtain ⟨h1, h2, h3, h4, h5, h6⟩ := h
  have hm0 := h4.1.2.1
  have hkey := h4.2.2.1 (m.toNat / 2) (by omega)
  have hr := kS_r (key := u 6 (m.toNat / 2)) (bit := ((m.toNat % 2 : Nat) : Int)) hd ⟨hkey.1, hkey.2.1, h6 _ (by omega)⟩ (by omega)
  generalize hK : kS σ (u 6 (m.toNat / 2)) ((m.toNat % 2 : Nat) : Int) = key at *
  rcases hp with ⟨a1, rfl, rfl⟩ | ⟨a1, a2, rfl, rfl⟩ | ⟨a1, a2, rfl, rfl⟩
  · refine ⟨⟨fun k k4 k5 k6 k7 k8 => ?_, h2, h3, ?_, h5, h6⟩, Int.le_refl _, fun _ _ => rfl⟩
    · rw [updR_ne _ _ _ _ k7]; exact h1 k k4 k5 k6 k7 k8
    · rw [updR_eq]
      exact exp_any h4 (by have := h4.1; omega) (fun _ => by omega) (fun q => absurd rfl q) hm
  · have h7 := h4.2.2.2.1 key.toNat (by omega)
    refine ⟨⟨fun k k4 k5 k6 k7 k8 => ?_, h2, h3, ?_, h5, h6⟩, Int.le_refl _, fun _ _ => rfl⟩
    · rw [updR_ne _ _ _ _ k7]; exact h1 k k4 k5 k6 k7 k8
    · rw [updR_eq]
      have h8 := h7.resolve_left a2
      exact exp_any h4 (by omega) (fun q => absurd q a2) (fun _ => by
        show u 6 (u 5 key.toNat).toNat = _
        rw [h8.2.2]; omega) hm
  · have hc := exp_lt h4 (k := key.toNat) (by omega) a2
    have hc1 := h4.1.1
    have h8 := exp_new h4 hK.symm ⟨a1, by omega⟩ a2 hm
    refine ⟨⟨fun k k4 k5 k6 k7 k8 => ?_, h2, h3, h8, fun i hi => ?_, fun i hi => ?_⟩, ?_, fun i hi => ?_⟩
    · rw [updR_ne _ _ _ _ k7, updR_ne _ _ _ _ k4, updR_ne _ _ _ _ k8, updR_ne _ _ _ _ k6, updR_ne _ _ _ _ k5]; exact h1 k k4 k5 k6 k7 k8
    · have hi2 : (i : Int) < u 4 7 + 1 := hi
      show up1 (u 8) (u 4 7).toNat 0 i = 0
      by_cases e : i = (u 4 7).toNat
      · rw [e, up1_eq]
      · rw [up1_ne _ _ _ _ e]; exact h5 i (by omega)
    · have hi2 : (i : Int) < u 4 7 + 1 := hi
      show 0 < up1 (u 6) (u 4 7).toNat key i % 256
      by_cases e : i = (u 4 7).toNat
      · rw [e, up1_eq]; omega
      · rw [up1_ne _ _ _ _ e]; exact h6 i (by omega)
    · show u 4 7 ≤ u 4 7 + 1; omega
    · show up1 (u 6) (u 4 7).toNat key i = u 6 i
      rw [up1_ne _ _ _ _ (by omega)]
theorem exp_start {σ : St} {v : St} {r : Int} (hp : PlaceSt (updR (updR σ 5 (fillF (σ 5) 0 2816 (-1))) 4 (up1 (σ 4) 7 0)) v 1281 r) : ExpS σ v 0 ∧ v 4 7 = 1 := by
  have e5 : updR (updR σ 5 (fillF (σ 5) 0 2816 (-1))) 4 (up1 (σ 4) 7 0) 5 = fillF (σ 5) 0 2816 (-1) := by rw [updR_ne _ 4 5 _ (by decide), updR_eq]
  have e4 : updR (updR σ 5 (fillF (σ 5) 0 2816 (-1))) 4 (up1 (σ 4) 7 0) 4 = up1 (σ 4) 7 0 := by rw [updR_eq]
  have e6 : fillF (σ 5) 0 2816 (-1) (1281 : Int).toNat = -1 := by rw [fillF_app, if_pos (by decide)]
  rcases hp with ⟨a1, _⟩ | ⟨a1, a2, _⟩ | ⟨a1, a2, rfl, rfl⟩
  · omega
  · rw [e5, e6] at a2; exact absurd rfl a2
  · refine ⟨⟨fun k k4 k5 k6 k7 k8 => ?_, rfl, rfl, ?_, fun i hi => ?_, fun i hi => ?_⟩, rfl⟩
    · rw [updR_ne _ _ _ _ k4, updR_ne _ _ _ _ k8, updR_ne _ _ _ _ k6, updR_ne _ _ _ _ k5, updR_ne _ _ _ _ k4, updR_ne _ _ _ _ k5]
    · refine exp_0 (by omega) rfl rfl (fun k hk hne => ?_)
      show up1 (fillF (σ 5) 0 2816 (-1)) (1281 : Int).toNat 0 k = -1
      rw [up1_ne _ _ _ _ hne, fillF_app, if_pos (by omega)]
    · have hi2 : (i : Int) < 1 := hi
      have : i = 0 := by omega
      subst this
      rfl
    · have hi2 : (i : Int) < 1 := hi
      have : i = 0 := by omega
      subst this
      show (0 : Int) < 1281 % 256
      decide
def s_K_explore : Spec := fun as σ Q => popR as fun c0 r0 => popR r0 fun c1 r1 => r1 = [] ∧ c0 = 4 ∧ c1 = 1 ∧ (BansOK (σ 1 3) (σ 1 4) (σ 1 2) (σ 1 5) (σ 2) (σ 3)) ∧ ∀ σ', ExpS σ σ' (2 * σ' 4 7) → Q none σ'
theorem e_K_explore  (σ : St) (Q : Option AV → St → Prop) : s_K_explore [.inr (.inr (some 4)), .inr (.inr (some 1))] σ Q = ((BansOK (σ 1 3) (σ 1 4) (σ 1 2) (σ 1 5) (σ 2) (σ 3)) ∧ ∀ σ', ExpS σ σ' (2 * σ' 4 7) → Q none σ') := by
  show ([] = [] ∧ _) = _
  simp only [true_and]
set_option maxHeartbeats 4000000 in
set_option maxRecDepth 20000 in
theorem S_K_explore {l : Launch} : Sat l y_K_explore b_K_explore 4 none 3 s_K_explore := by
  refine sat_of (Φ := P_K) (κ := Q_K) (Γ := [(53, 1, 0, s_B_memory), (57, 0, 2, s_JA_fillI), (63, 1, 0, s_B_emptyKey), (66, 5, 1, s_K_placeFor), (70, 1, 3, s_B_keyAfter)]) (rt := 0) (by decide +kernel) P_K_ok Q_K_ok (by
    refine List.forall_mem_cons.mpr ⟨?_, List.forall_mem_cons.mpr ⟨?_, List.forall_mem_cons.mpr ⟨?_, List.forall_mem_cons.mpr ⟨?_, List.forall_mem_cons.mpr ⟨?_, fun _ h => absurd h List.not_mem_nil⟩⟩⟩⟩⟩
    · exact m_B_memory S_B_memory (by decide) l_K_53
    · exact m_JA_fillI S_JA_fillI (by decide) l_K_57
    · exact m_B_emptyKey S_B_emptyKey (by decide) l_K_63
    · exact m_K_placeFor S_K_placeFor (by decide) l_K_66
    · exact m_B_keyAfter S_B_keyAfter (by decide) l_K_70) (by simp) o_K_explore ?_
  intro as σ Q hh0
  obtain ⟨c0, rr0, rfl, hh1⟩ := popR_inv hh0
  obtain ⟨c1, rr1, rfl, hh2⟩ := popR_inv hh1
  obtain ⟨hrE, rfl, rfl, hd, hQ⟩ := hh2
  subst hrE
  clear hh0 hh1
  refine ⟨Nat.le_of_ble_eq_true rfl, [(29, mkC (fun L st u => ∃ (i : Int), L = [.inr (.inr (some 4)), .inr (.inr (some 1)), .inl ((memW (σ 3) (σ 1 4) (σ 1 2).toNat)), .inl i] ∧ st = [] ∧ (0 ≤ i ∧ i ≤ u 4 7) ∧ (ExpS σ u (2 * i))) (fun L st u => ((2817 - gI L 3).toNat, 0, 0)))], 14, ?_, cuts1 ?_ (cuts0)⟩
  · rw [show entL 4 [.inr (.inr (some 4)), .inr (.inr (some 1))] = [.inr (.inr (some 4)), .inr (.inr (some 1)), .inr (.inr none), .inr (.inr none)] from rfl]
    simp only [↓wpN_go, jmp_e, ↓wp_aload_n0, ↓wp_aload_n1, ↓wp_getfield, ↓wp_goto, ↓wp_iadd, ↓wp_iaload, ↓wp_iastore, ↓wp_icmp_ge, ↓wp_icmp_lt, ↓wp_iconst, ↓wp_iinc, ↓wp_iload_n2, ↓wp_iload_n3, ↓wp_imul, ↓wp_invokestatic, ↓wp_invokevirtual, ↓wp_istore_n2, ↓wp_istore_n3, ↓wp_pop, ↓wp_putfield, ↓wp_return0, ↓wp_sipush, wp_nil, ↓ldI_0, ↓ldI_s, ↓ldL_0, ↓ldL_s, ↓ldR_0, ↓ldR_s, sto1_0, sto1_1, sto1_s, sto2_0, sto2_1, sto2_s, isLong_i, isLong_l, isLong_r, ↓popI_c, ↓popL_c, ↓popR_c, ↓popN_0, ↓popN_s, catS_n, catS_c, psh_s, psh_n, fldV_n, fldV_s, ↓tgt_e, sw_n, ↓sw_c, ↓lk1_h, ↓lk1_m, ↓atC_h, ↓atC_m, ↓atC_n, ltO_n, ltO_s, updR_eq, updR_ne, gI_0i, gI_0l, gI_s, ltM_iff, List.cons.injEq, Sum.inl.injEq, Sum.inr.injEq, Option.some.injEq, exists_eq_left, exists_eq_left', exists_eq_right, exists_eq_right', exists_and_left, exists_and_right, exists_eq, exists_const, and_assoc, ↓j_K_explore_0, ↓j_K_explore_29, ↓j_K_explore_47, ↓j_K_explore_103, ↓f_K_11, ↓f_K_17, ↓f_K_20, ↓f_K_36, List.length_cons, List.length_nil, Nat.zero_add, Nat.reduceAdd, Int.reduceAdd, Int.reduceNeg, Int.reduceToNat, Int.reduceLE, Int.reduceLT, true_and, and_true, Nat.reduceLT, reduceIte, Nat.reduceEqDiff, ne_eq, not_false_eq_true, false_implies, true_implies, Bool.false_eq_true, reduceCtorEq, List.cons_append, List.nil_append, Nat.reduceSub, Nat.reduceLeDiff, Fin.isValue, Int.reduceNatCast', Int.zero_add, Int.add_zero, decide_true, decide_false, implies_true, forall_const, true_or, or_true, or_false, false_or, false_and, and_false, Int.toNat_natCast, ↓oF_4_0, ↓aF_5, ↓oF_4_1, ↓aF_6, ↓oF_4_2, ↓aF_7, ↓oF_4_3, ↓aF_8, ↓oF_4_4, ↓aF_9, ↓oF_4_5, ↓aF_10, ↓oF_4_6, ↓oF_4_7, ↓oF_4_8, oC_0, oC_1, oC_4, oC_11, oC_16, oC_18, oC_20, oC_23, oC_25, oC_26, oC_29, oC_31, oC_33, oC_35, oC_37, isT_29, isT_31, isT_33, isT_35, isL_16, isL_18, isL_26, ↓e_B_memory, ↓e_JA_fillI, ↓e_B_emptyKey, ↓e_K_placeFor, ↓e_B_keyAfter]
    have hk1 := hd.1
    have hw1 := hd.2.1
    (try simp only [rI_iff, rL_iff] at *)
    repeat' (with_reducible (first | assumption | apply And.intro | intro _))
    all_goals first | omega | with_reducible assumption | exact True.intro | skip
    all_goals done
  · intro L st u hI
    obtain ⟨i, rfl, rfl, hi, hu⟩ := hI
    simp only [↓wpN_go, jmp_e, ↓wp_aload_n0, ↓wp_aload_n1, ↓wp_getfield, ↓wp_goto, ↓wp_iadd, ↓wp_iaload, ↓wp_iastore, ↓wp_icmp_ge, ↓wp_icmp_lt, ↓wp_iconst, ↓wp_iinc, ↓wp_iload_n2, ↓wp_iload_n3, ↓wp_imul, ↓wp_invokestatic, ↓wp_invokevirtual, ↓wp_istore_n2, ↓wp_istore_n3, ↓wp_pop, ↓wp_putfield, ↓wp_return0, ↓wp_sipush, wp_nil, ↓ldI_0, ↓ldI_s, ↓ldL_0, ↓ldL_s, ↓ldR_0, ↓ldR_s, sto1_0, sto1_1, sto1_s, sto2_0, sto2_1, sto2_s, isLong_i, isLong_l, isLong_r, ↓popI_c, ↓popL_c, ↓popR_c, ↓popN_0, ↓popN_s, catS_n, catS_c, psh_s, psh_n, fldV_n, fldV_s, ↓tgt_e, sw_n, ↓sw_c, ↓lk1_h, ↓lk1_m, ↓atC_h, ↓atC_m, ↓atC_n, ltO_n, ltO_s, updR_eq, updR_ne, gI_0i, gI_0l, gI_s, ltM_iff, List.cons.injEq, Sum.inl.injEq, Sum.inr.injEq, Option.some.injEq, exists_eq_left, exists_eq_left', exists_eq_right, exists_eq_right', exists_and_left, exists_and_right, exists_eq, exists_const, and_assoc, ↓j_K_explore_0, ↓j_K_explore_29, ↓j_K_explore_47, ↓j_K_explore_103, ↓f_K_11, ↓f_K_17, ↓f_K_20, ↓f_K_36, List.length_cons, List.length_nil, Nat.zero_add, Nat.reduceAdd, Int.reduceAdd, Int.reduceNeg, Int.reduceToNat, Int.reduceLE, Int.reduceLT, true_and, and_true, Nat.reduceLT, reduceIte, Nat.reduceEqDiff, ne_eq, not_false_eq_true, false_implies, true_implies, Bool.false_eq_true, reduceCtorEq, List.cons_append, List.nil_append, Nat.reduceSub, Nat.reduceLeDiff, Fin.isValue, Int.reduceNatCast', Int.zero_add, Int.add_zero, decide_true, decide_false, implies_true, forall_const, true_or, or_true, or_false, false_or, false_and, and_false, Int.toNat_natCast, ↓oF_4_0, ↓aF_5, ↓oF_4_1, ↓aF_6, ↓oF_4_2, ↓aF_7, ↓oF_4_3, ↓aF_8, ↓oF_4_4, ↓aF_9, ↓oF_4_5, ↓aF_10, ↓oF_4_6, ↓oF_4_7, ↓oF_4_8, oC_0, oC_1, oC_4, oC_11, oC_16, oC_18, oC_20, oC_23, oC_25, oC_26, oC_29, oC_31, oC_33, oC_35, oC_37, isT_29, isT_31, isT_33, isT_35, isL_16, isL_18, isL_26, ↓e_B_memory, ↓e_JA_fillI, ↓e_B_emptyKey, ↓e_K_placeFor, ↓e_B_keyAfter]
    have hle := exp_le hu.2.2.2.1
    have hu1 := hu.1 1 (by decide) (by decide) (by decide) (by decide) (by decide)
    have hu2 := hu.1 2 (by decide) (by decide) (by decide) (by decide) (by decide)
    have hu3 := hu.1 3 (by decide) (by decide) (by decide) (by decide) (by decide)
    simp only [hu1, hu2, hu3]
    trace_state
    all_goals done
