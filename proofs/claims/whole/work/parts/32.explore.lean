/-! exploring -/
def ExpS (σ u : St) (m : Int) : Prop := (∀ k : Nat, k ≠ 4 → k ≠ 5 → k ≠ 6 → k ≠ 7 → k ≠ 8 → u k = σ k) ∧ u 4 6 = σ 4 6 ∧ u 4 8 = σ 4 8 ∧ ExpI (kS σ) 2816 1281 (u 4 7) (u 6) (u 5) (u 7) m ∧ (∀ i : Nat, (i : Int) < u 4 7 → u 8 i = 0) ∧ ∀ i : Nat, (i : Int) < u 4 7 → 0 < u 6 i % 256
theorem kS_r {σ : St} (hd : BansOK (σ 1 3) (σ 1 4) (σ 1 2) (σ 1 5) (σ 2) (σ 3)) {key bit : Int} (hk : 0 ≤ key ∧ key < 2816 ∧ 0 < key % 256) (hb : bit = 0 ∨ bit = 1) : kS σ key bit = -1 ∨ (0 ≤ kS σ key bit ∧ kS σ key bit < 2816 ∧ 0 < kS σ key bit % 256) :=
  kA_r hd.2.2 (memW_r (by have := hd.1; omega) hd.2.1 _ (by have := hd.2.1.1; omega)) hk hb
theorem exp_pre {σ u : St} {m key : Int} (h : ExpS σ u m) (hk : -1 ≤ key ∧ key < 2816) : ∀ k : Nat, k < 2816 → rI (u 5 k) ∧ (u 5 k = -1 → u 4 7 < 2816) := by
  intro k hk
  have h1 := h.2.2.2.1
  have h2 := exp_le h1
  refine ⟨?_, fun h3 => ?_⟩
  · rcases h1.2.2.2.1 k hk with e | e
    · rw [e]; unfold rI; omega
    · unfold rI; omega
  · exact exp_lt h1 hk h3
theorem place3 {σ v : St} {key : Int} (h : v = updR (updR (updR (updR σ 5 (up1 (σ 5) key.toNat (σ 4 7))) 6 (up1 (σ 6) (σ 4 7).toNat key)) 8 (up1 (σ 8) (σ 4 7).toNat 0)) 4 (up1 (σ 4) 7 (σ 4 7 + 1))) : v 4 = up1 (σ 4) 7 (σ 4 7 + 1) ∧ v 5 = up1 (σ 5) key.toNat (σ 4 7) ∧ v 6 = up1 (σ 6) (σ 4 7).toNat key ∧ v 8 = up1 (σ 8) (σ 4 7).toNat 0 ∧ ∀ k, k ≠ 4 → k ≠ 5 → k ≠ 6 → k ≠ 8 → v k = σ k := by
  rw [h]
  refine ⟨?_, ?_, ?_, ?_, fun k k4 k5 k6 k8 => ?_⟩
  · rw [updR_eq]
  · rw [updR_ne _ 4 5 _ (by decide), updR_ne _ 8 5 _ (by decide), updR_ne _ 6 5 _ (by decide), updR_eq]
  · rw [updR_ne _ 4 6 _ (by decide), updR_ne _ 8 6 _ (by decide), updR_eq]
  · rw [updR_ne _ 4 8 _ (by decide), updR_eq]
  · rw [updR_ne _ _ _ _ k4, updR_ne _ _ _ _ k8, updR_ne _ _ _ _ k6, updR_ne _ _ _ _ k5]
theorem exp_frame {σ v : St} {f : Nat → Int} {m : Int} (h : (∀ k : Nat, k ≠ 4 → k ≠ 5 → k ≠ 6 → k ≠ 7 → k ≠ 8 → v k = σ k) ∧ v 4 6 = σ 4 6 ∧ v 4 8 = σ 4 8 ∧ ExpI (kS σ) 2816 1281 (v 4 7) (v 6) (v 5) f m ∧ (∀ i : Nat, (i : Int) < v 4 7 → v 8 i = 0) ∧ ∀ i : Nat, (i : Int) < v 4 7 → 0 < v 6 i % 256) : ExpS σ (updR v 7 f) m := by
  obtain ⟨h1, h2, h3, h4, h5, h6⟩ := h
  have e4 : updR v 7 f 4 = v 4 := updR_ne _ _ _ _ (by decide)
  have e5 : updR v 7 f 5 = v 5 := updR_ne _ _ _ _ (by decide)
  have e6 : updR v 7 f 6 = v 6 := updR_ne _ _ _ _ (by decide)
  have e7 : updR v 7 f 7 = f := updR_eq _ _ _
  have e8 : updR v 7 f 8 = v 8 := updR_ne _ _ _ _ (by decide)
  unfold ExpS
  rw [e4, e5, e6, e7, e8]
  exact ⟨fun k k4 k5 k6 k7 k8 => by rw [updR_ne _ _ _ _ k7]; exact h1 k k4 k5 k6 k7 k8, h2, h3, h4, h5, h6⟩
theorem exp_step {σ u v : St} {m r : Int} (hd : BansOK (σ 1 3) (σ 1 4) (σ 1 2) (σ 1 5) (σ 2) (σ 3)) (h : ExpS σ u m) (hm : m < 2 * u 4 7) (hp : PlaceSt u v (kS σ (u 6 (m.toNat / 2)) ((m.toNat % 2 : Nat) : Int)) r) : ExpS σ (updR v 7 (up1 (v 7) m.toNat r)) (m + 1) ∧ u 4 7 ≤ v 4 7 ∧ ∀ i : Nat, (i : Int) < u 4 7 → v 6 i = u 6 i := by
  obtain ⟨h1, h2, h3, h4, h5, h6⟩ := h
  have hm0 := h4.1.2.1
  have hkey := h4.2.2.1 (m.toNat / 2) (by omega)
  have hr := kS_r (key := u 6 (m.toNat / 2)) (bit := ((m.toNat % 2 : Nat) : Int)) hd ⟨hkey.1, hkey.2.1, h6 _ (by omega)⟩ (by omega)
  generalize hK : kS σ (u 6 (m.toNat / 2)) ((m.toNat % 2 : Nat) : Int) = key at *
  rcases hp with ⟨a1, a3, hv⟩ | ⟨a1, a2, a3, hv⟩ | ⟨a1, a2, a3, hv⟩
  · rw [hv, a3]
    refine ⟨exp_frame ⟨h1, h2, h3, ?_, h5, h6⟩, Int.le_refl _, fun _ _ => rfl⟩
    exact exp_any h4 (by have := h4.1.1; omega) (fun _ => by omega) (fun q => absurd rfl q) hm
  · have h7 := h4.2.2.2.1 key.toNat (by omega)
    rw [hv, a3]
    refine ⟨exp_frame ⟨h1, h2, h3, ?_, h5, h6⟩, Int.le_refl _, fun _ _ => rfl⟩
    have h8 := h7.resolve_left a2
    refine exp_any h4 ⟨by omega, h8.2.1⟩ (fun q => absurd q a2) (fun _ => ?_) hm
    rw [h8.2.2, hK]
    omega
  · have hc := exp_lt h4 (k := key.toNat) (by omega) a2
    have hc1 := h4.1.1
    have h8 := exp_new h4 hK.symm ⟨a1, by omega⟩ a2 hm
    obtain ⟨f4, f5, f6, f8, fr⟩ := place3 hv
    have f7 := fr 7 (by decide) (by decide) (by decide) (by decide)
    have f47 : v 4 7 = u 4 7 + 1 := by rw [f4, up1_eq]
    have f46 : v 4 6 = u 4 6 := by rw [f4, up1_ne _ _ _ _ (by decide)]
    have f48 : v 4 8 = u 4 8 := by rw [f4, up1_ne _ _ _ _ (by decide)]
    refine ⟨exp_frame ⟨fun k k4 k5 k6 k7 k8 => ?_, by rw [f46]; exact h2, by rw [f48]; exact h3, ?_, fun i hi => ?_, fun i hi => ?_⟩, by omega, fun i hi => ?_⟩
    · rw [fr k k4 k5 k6 k8]; exact h1 k k4 k5 k6 k7 k8
    · rw [f47, f6, f5, f7, a3]
      exact h8
    · rw [f8]
      by_cases e : i = (u 4 7).toNat
      · rw [e, up1_eq]
      · rw [up1_ne _ _ _ _ e]; exact h5 i (by omega)
    · rw [f6]
      by_cases e : i = (u 4 7).toNat
      · rw [e, up1_eq]; omega
      · rw [up1_ne _ _ _ _ e]; exact h6 i (by omega)
    · rw [f6, up1_ne _ _ _ _ (by omega)]
theorem exp_start {σ v : St} {r : Int} (hp : PlaceSt (updR (updR σ 5 (fillF (σ 5) 0 2816 (-1))) 4 (up1 (σ 4) 7 0)) v 1281 r) : ExpS σ v 0 ∧ v 4 7 = 1 := by
  have e5 : updR (updR σ 5 (fillF (σ 5) 0 2816 (-1))) 4 (up1 (σ 4) 7 0) 5 = fillF (σ 5) 0 2816 (-1) := by rw [updR_ne _ 4 5 _ (by decide), updR_eq]
  have e4 : updR (updR σ 5 (fillF (σ 5) 0 2816 (-1))) 4 (up1 (σ 4) 7 0) 4 = up1 (σ 4) 7 0 := by rw [updR_eq]
  have hfl : ∀ k : Nat, k < 2816 → fillF (σ 5) 0 2816 (-1) k = -1 := fun k hk => by rw [fillF_app, if_pos (by omega)]
  have e6 := hfl (1281 : Int).toNat (by omega)
  have hfr : ∀ k, k ≠ 4 → k ≠ 5 → updR (updR σ 5 (fillF (σ 5) 0 2816 (-1))) 4 (up1 (σ 4) 7 0) k = σ k := fun k k4 k5 => by rw [updR_ne _ _ _ _ k4, updR_ne _ _ _ _ k5]
  generalize updR (updR σ 5 (fillF (σ 5) 0 2816 (-1))) 4 (up1 (σ 4) 7 0) = w at *
  rcases hp with ⟨a1, _⟩ | ⟨a1, a2, _⟩ | ⟨a1, a2, a3, hv⟩
  · omega
  · rw [e5, e6] at a2; exact absurd rfl a2
  · obtain ⟨f4, f5, f6, f8, fr⟩ := place3 hv
    rw [e4, up1_eq] at f4 f5 f6 f8
    rw [e5] at f5
    have f47 : v 4 7 = 1 := by rw [f4, up1_eq]; rfl
    have f46 : v 4 6 = σ 4 6 := by rw [f4, up1_ne _ 7 6 _ (by decide), up1_ne _ 7 6 _ (by decide)]
    have f48 : v 4 8 = σ 4 8 := by rw [f4, up1_ne _ 7 8 _ (by decide), up1_ne _ 7 8 _ (by decide)]
    refine ⟨⟨fun k k4 k5 k6 k7 k8 => ?_, f46, f48, ?_, fun i hi => ?_, fun i hi => ?_⟩, f47⟩
    · rw [fr k k4 k5 k6 k8]; exact hfr k k4 k5
    · rw [f47]
      refine exp_0 (by omega) (by rw [f6]; exact up1_eq _ _ _) (by rw [f5]; exact up1_eq _ _ _) (fun k hk hne => ?_)
      rw [f5, up1_ne _ _ _ _ hne]
      exact hfl k hk
    · rw [f47] at hi
      have : i = (0 : Int).toNat := by omega
      rw [this, f8, up1_eq]
    · rw [f47] at hi
      have : i = (0 : Int).toNat := by omega
      rw [this, f6, up1_eq]
      decide
def s_K_explore : Spec := fun as σ Q => popR as fun c0 r0 => popR r0 fun c1 r1 => r1 = [] ∧ c0 = 4 ∧ c1 = 1 ∧ (BansOK (σ 1 3) (σ 1 4) (σ 1 2) (σ 1 5) (σ 2) (σ 3)) ∧ ∀ σ', ExpS σ σ' (2 * σ' 4 7) → Q none σ'
theorem e_K_explore  (σ : St) (Q : Option AV → St → Prop) : s_K_explore [.inr (.inr (some 4)), .inr (.inr (some 1))] σ Q = ((BansOK (σ 1 3) (σ 1 4) (σ 1 2) (σ 1 5) (σ 2) (σ 3)) ∧ ∀ σ', ExpS σ σ' (2 * σ' 4 7) → Q none σ') := by
  show ([] = [] ∧ _) = _
  simp only [true_and]
set_option maxHeartbeats 4000000 in
set_option maxRecDepth 20000 in
theorem S_K_explore {l : Launch} : Sat l y_K_explore b_K_explore 4 none 3 s_K_explore := by
  refine sat_of (Φ := P_K) (κ := Q_K) (Γ := [(53, 1, 0, s_B_memory), (57, 0, 2, s_JA_fillI), (63, 1, 0, s_B_emptyKey), (66, 5, 1, s_K_placeFor), (70, 1, 3, s_B_keyAfter)]) (rt := 0) (by decide +kernel) P_K_ok Q_K_ok (by
    refine List.forall_mem_cons.mpr ⟨?_, List.forall_mem_cons.mpr ⟨?_, List.forall_mem_cons.mpr ⟨?_, List.forall_mem_cons.mpr ⟨?_, List.forall_mem_cons.mpr ⟨?_, fun _ h => absurd h List.not_mem_nil⟩⟩⟩⟩⟩
    · exact m_B_memory S_B_memory (by decide) l_K_53
    · exact m_JA_fillI S_JA_fillI (by decide) l_K_57
    · exact m_B_emptyKey S_B_emptyKey (by decide) l_K_63
    · exact m_K_placeFor S_K_placeFor (by decide) l_K_66
    · exact m_B_keyAfter S_B_keyAfter (by decide) l_K_70) (by simp) o_K_explore ?_
  intro as σ Q hh0
  obtain ⟨c0, rr0, rfl, hh1⟩ := popR_inv hh0
  obtain ⟨c1, rr1, rfl, hh2⟩ := popR_inv hh1
  obtain ⟨hrE, rfl, rfl, hd, hQ⟩ := hh2
  subst hrE
  clear hh0 hh1
  refine ⟨Nat.le_of_ble_eq_true rfl, [(29, mkC (fun L st u => ∃ (i : Int), L = [.inr (.inr (some 4)), .inr (.inr (some 1)), .inl ((memW (σ 3) (σ 1 4) (σ 1 2).toNat)), .inl i] ∧ st = [] ∧ (0 ≤ i ∧ i ≤ u 4 7) ∧ (ExpS σ u (2 * i))) (fun L st u => ((2817 - gI L 3).toNat, 0, 0)))], 14, ?_, cuts1 ?_ (cuts0)⟩
  · rw [show entL 4 [.inr (.inr (some 4)), .inr (.inr (some 1))] = [.inr (.inr (some 4)), .inr (.inr (some 1)), .inr (.inr none), .inr (.inr none)] from rfl]
    simp only [↓wpN_go, jmp_e, ↓wp_aload_n0, ↓wp_aload_n1, ↓wp_getfield, ↓wp_goto, ↓wp_iadd, ↓wp_iaload, ↓wp_iastore, ↓wp_icmp_ge, ↓wp_icmp_lt, ↓wp_iconst, ↓wp_iinc, ↓wp_iload_n2, ↓wp_iload_n3, ↓wp_imul, ↓wp_invokestatic, ↓wp_invokevirtual, ↓wp_istore_n2, ↓wp_istore_n3, ↓wp_pop, ↓wp_putfield, ↓wp_return0, ↓wp_sipush, wp_nil, ↓ldI_0, ↓ldI_s, ↓ldL_0, ↓ldL_s, ↓ldR_0, ↓ldR_s, sto1_0, sto1_1, sto1_s, sto2_0, sto2_1, sto2_s, isLong_i, isLong_l, isLong_r, ↓popI_c, ↓popL_c, ↓popR_c, ↓popN_0, ↓popN_s, catS_n, catS_c, psh_s, psh_n, fldV_n, fldV_s, ↓tgt_e, sw_n, ↓sw_c, ↓lk1_h, ↓lk1_m, ↓atC_h, ↓atC_m, ↓atC_n, ltO_n, ltO_s, updR_eq, updR_ne, gI_0i, gI_0l, gI_s, ltM_iff, List.cons.injEq, Sum.inl.injEq, Sum.inr.injEq, Option.some.injEq, exists_eq_left, exists_eq_left', exists_eq_right, exists_eq_right', exists_and_left, exists_and_right, exists_eq, exists_const, and_assoc, ↓j_K_explore_0, ↓j_K_explore_29, ↓j_K_explore_47, ↓j_K_explore_103, ↓f_K_11, ↓f_K_17, ↓f_K_20, ↓f_K_36, List.length_cons, List.length_nil, Nat.zero_add, Nat.reduceAdd, Int.reduceAdd, Int.reduceNeg, Int.reduceToNat, Int.reduceLE, Int.reduceLT, true_and, and_true, Nat.reduceLT, reduceIte, Nat.reduceEqDiff, ne_eq, not_false_eq_true, false_implies, true_implies, Bool.false_eq_true, reduceCtorEq, List.cons_append, List.nil_append, Nat.reduceSub, Nat.reduceLeDiff, Fin.isValue, Int.reduceNatCast', Int.zero_add, Int.add_zero, decide_true, decide_false, implies_true, forall_const, true_or, or_true, or_false, false_or, false_and, and_false, Int.toNat_natCast, ↓oF_4_0, ↓aF_5, ↓oF_4_1, ↓aF_6, ↓oF_4_2, ↓aF_7, ↓oF_4_3, ↓aF_8, ↓oF_4_4, ↓aF_9, ↓oF_4_5, ↓aF_10, ↓oF_4_6, ↓oF_4_7, ↓oF_4_8, oC_0, oC_1, oC_4, oC_11, oC_16, oC_18, oC_20, oC_23, oC_25, oC_26, oC_29, oC_31, oC_33, oC_35, oC_37, isT_29, isT_31, isT_33, isT_35, isL_16, isL_18, isL_26, ↓e_B_memory, ↓e_JA_fillI, ↓e_B_emptyKey, ↓e_K_placeFor, ↓e_B_keyAfter]
    have hk1 := hd.1
    have hw1 := hd.2.1
    have hst : ∀ σ' r, PlaceSt (updR (updR σ 5 (fillF (σ 5) 0 2816 (-1))) 4 (up1 (σ 4) 7 0)) σ' 1281 r → ExpS σ σ' 0 ∧ σ' 4 7 = 1 := fun _ _ h => exp_start h
    have hfl : ∀ k : Nat, k < 2816 → fillF (σ 5) 0 2816 (-1) k = -1 := fun k hk => by rw [fillF_app, if_pos (by omega)]
    simp only [up1_eq, Int.mul_zero]
    (try simp only [rI_iff, rL_iff] at *)
    repeat' (with_reducible (first | assumption | apply And.intro | intro _))
    all_goals first | omega | with_reducible assumption | exact True.intro | skip
    all_goals first
      | omega
      | (have hs1 := hfl _ (by assumption); omega)
      | (have hs1 := (hst _ _ (by assumption)).2; omega)
      | exact (hst _ _ (by assumption)).1
  · intro L st u hI
    obtain ⟨i, rfl, rfl, hi, hu⟩ := hI
    simp only [↓wpN_go, jmp_e, ↓wp_aload_n0, ↓wp_aload_n1, ↓wp_getfield, ↓wp_goto, ↓wp_iadd, ↓wp_iaload, ↓wp_iastore, ↓wp_icmp_ge, ↓wp_icmp_lt, ↓wp_iconst, ↓wp_iinc, ↓wp_iload_n2, ↓wp_iload_n3, ↓wp_imul, ↓wp_invokestatic, ↓wp_invokevirtual, ↓wp_istore_n2, ↓wp_istore_n3, ↓wp_pop, ↓wp_putfield, ↓wp_return0, ↓wp_sipush, wp_nil, ↓ldI_0, ↓ldI_s, ↓ldL_0, ↓ldL_s, ↓ldR_0, ↓ldR_s, sto1_0, sto1_1, sto1_s, sto2_0, sto2_1, sto2_s, isLong_i, isLong_l, isLong_r, ↓popI_c, ↓popL_c, ↓popR_c, ↓popN_0, ↓popN_s, catS_n, catS_c, psh_s, psh_n, fldV_n, fldV_s, ↓tgt_e, sw_n, ↓sw_c, ↓lk1_h, ↓lk1_m, ↓atC_h, ↓atC_m, ↓atC_n, ltO_n, ltO_s, updR_eq, updR_ne, gI_0i, gI_0l, gI_s, ltM_iff, List.cons.injEq, Sum.inl.injEq, Sum.inr.injEq, Option.some.injEq, exists_eq_left, exists_eq_left', exists_eq_right, exists_eq_right', exists_and_left, exists_and_right, exists_eq, exists_const, and_assoc, ↓j_K_explore_0, ↓j_K_explore_29, ↓j_K_explore_47, ↓j_K_explore_103, ↓f_K_11, ↓f_K_17, ↓f_K_20, ↓f_K_36, List.length_cons, List.length_nil, Nat.zero_add, Nat.reduceAdd, Int.reduceAdd, Int.reduceNeg, Int.reduceToNat, Int.reduceLE, Int.reduceLT, true_and, and_true, Nat.reduceLT, reduceIte, Nat.reduceEqDiff, ne_eq, not_false_eq_true, false_implies, true_implies, Bool.false_eq_true, reduceCtorEq, List.cons_append, List.nil_append, Nat.reduceSub, Nat.reduceLeDiff, Fin.isValue, Int.reduceNatCast', Int.zero_add, Int.add_zero, decide_true, decide_false, implies_true, forall_const, true_or, or_true, or_false, false_or, false_and, and_false, Int.toNat_natCast, ↓oF_4_0, ↓aF_5, ↓oF_4_1, ↓aF_6, ↓oF_4_2, ↓aF_7, ↓oF_4_3, ↓aF_8, ↓oF_4_4, ↓aF_9, ↓oF_4_5, ↓aF_10, ↓oF_4_6, ↓oF_4_7, ↓oF_4_8, oC_0, oC_1, oC_4, oC_11, oC_16, oC_18, oC_20, oC_23, oC_25, oC_26, oC_29, oC_31, oC_33, oC_35, oC_37, isT_29, isT_31, isT_33, isT_35, isL_16, isL_18, isL_26, ↓e_B_memory, ↓e_JA_fillI, ↓e_B_emptyKey, ↓e_K_placeFor, ↓e_B_keyAfter]
    have hle := exp_le hu.2.2.2.1
    have hu1 := hu.1 1 (by decide) (by decide) (by decide) (by decide) (by decide)
    have hu2 := hu.1 2 (by decide) (by decide) (by decide) (by decide) (by decide)
    have hu3 := hu.1 3 (by decide) (by decide) (by decide) (by decide) (by decide)
    have hmem := memW_r (k := σ 1 4) (by have := hd.1; omega) hd.2.1 (σ 1 2).toNat (by have := hd.2.1.1; omega)
    have hpre : ∀ (w : St) (m : Int), ExpS σ w m → ∀ k : Nat, k < 2816 → -2147483648 ≤ w 5 k ∧ w 5 k < 2147483648 ∧ (w 5 k = -1 → w 4 7 < 2816) := fun w m h k hk => by
      have := exp_pre (key := 0) h (by omega) k hk
      exact ⟨this.1.1, this.1.2, this.2⟩
    have hp0 := hpre u (2 * i) hu
    have hky : i < u 4 7 → 0 ≤ u 6 i.toNat ∧ u 6 i.toNat < 2816 ∧ 0 < u 6 i.toNat % 256 := fun h => by
      have h1 := hu.2.2.2.1.2.2.1 i.toNat (by omega)
      exact ⟨h1.1, by omega, hu.2.2.2.2.2 i.toNat (by omega)⟩
    have hkr : ∀ b : Int, b = 0 ∨ b = 1 → i < u 4 7 → -1 ≤ kA (σ 1 3) (σ 1 4) (σ 1 2) (σ 1 5) (σ 2) (σ 3) (memW (σ 3) (σ 1 4) (σ 1 2).toNat) (u 6 i.toNat) b ∧ kA (σ 1 3) (σ 1 4) (σ 1 2) (σ 1 5) (σ 2) (σ 3) (memW (σ 3) (σ 1 4) (σ 1 2).toNat) (u 6 i.toNat) b < 2816 := fun b hb h => by
      have h1 := kS_r (σ := σ) (bit := b) hd (hky h) hb
      unfold kS at h1
      omega
    have st0 : ∀ σ' r, PlaceSt u σ' (kA (σ 1 3) (σ 1 4) (σ 1 2) (σ 1 5) (σ 2) (σ 3) (memW (σ 3) (σ 1 4) (σ 1 2).toNat) (u 6 i.toNat) 0) r → i < u 4 7 → ExpS σ (updR σ' 7 (up1 (σ' 7) (2 * i).toNat r)) (2 * i + 1) ∧ u 4 7 ≤ σ' 4 7 ∧ σ' 6 i.toNat = u 6 i.toNat ∧ σ' 1 = σ 1 ∧ σ' 2 = σ 2 ∧ σ' 3 = σ 3 := fun σ' r hp h => by
      have h1 := exp_step (m := 2 * i) (v := σ') (r := r) hd hu (by omega) (by
        rw [show (2 * i).toNat / 2 = i.toNat by omega, show (((2 * i).toNat % 2 : Nat) : Int) = 0 by omega]
        exact hp)
      have h2 : ∀ k : Nat, k ≠ 4 → k ≠ 5 → k ≠ 6 → k ≠ 7 → k ≠ 8 → σ' k = σ k := fun k k4 k5 k6 k7 k8 => by
        have := h1.1.1 k k4 k5 k6 k7 k8
        rw [updR_ne _ _ _ _ k7] at this
        exact this
      exact ⟨h1.1, h1.2.1, h1.2.2 _ (by omega), h2 1 (by decide) (by decide) (by decide) (by decide) (by decide), h2 2 (by decide) (by decide) (by decide) (by decide) (by decide), h2 3 (by decide) (by decide) (by decide) (by decide) (by decide)⟩
    have st1 : ∀ σ' r v r1, PlaceSt u σ' (kA (σ 1 3) (σ 1 4) (σ 1 2) (σ 1 5) (σ 2) (σ 3) (memW (σ 3) (σ 1 4) (σ 1 2).toNat) (u 6 i.toNat) 0) r → i < u 4 7 → PlaceSt (updR σ' 7 (up1 (σ' 7) (2 * i).toNat r)) v (kA (σ' 1 3) (σ' 1 4) (σ' 1 2) (σ' 1 5) (σ' 2) (σ' 3) (memW (σ 3) (σ 1 4) (σ 1 2).toNat) (σ' 6 i.toNat) 1) r1 → ExpS σ (updR v 7 (up1 (v 7) (2 * i + 1).toNat r1)) (2 * (i + 1)) ∧ i + 1 ≤ v 4 7 := fun σ' r v r1 hp h hp1 => by
      obtain ⟨h1, h2, h3, h4, h5, h6⟩ := st0 σ' r hp h
      rw [h3, h4, h5, h6] at hp1
      have e4 : updR σ' 7 (up1 (σ' 7) (2 * i).toNat r) 4 = σ' 4 := updR_ne _ _ _ _ (by decide)
      have e6 : updR σ' 7 (up1 (σ' 7) (2 * i).toNat r) 6 = σ' 6 := updR_ne _ _ _ _ (by decide)
      have h7 := exp_step (m := 2 * i + 1) (v := v) (r := r1) hd h1 (by rw [e4]; omega) (by
        rw [e6, show (2 * i + 1).toNat / 2 = i.toNat by omega, show (((2 * i + 1).toNat % 2 : Nat) : Int) = 1 by omega, h3]
        exact hp1)
      rw [e4] at h7
      rw [show 2 * (i + 1) = 2 * i + 1 + 1 by omega]
      exact ⟨h7.1, by omega⟩
    have hp1 : ∀ σ' r, PlaceSt u σ' (kA (σ 1 3) (σ 1 4) (σ 1 2) (σ 1 5) (σ 2) (σ 3) (memW (σ 3) (σ 1 4) (σ 1 2).toNat) (u 6 i.toNat) 0) r → i < u 4 7 → 0 ≤ σ' 4 7 ∧ σ' 4 7 ≤ 2816 ∧ ∀ k : Nat, k < 2816 → -2147483648 ≤ σ' 5 k ∧ σ' 5 k < 2147483648 ∧ (σ' 5 k = -1 → σ' 4 7 < 2816) := fun σ' r hp h => by
      have h1 := (st0 σ' r hp h).1
      have h2 := hpre _ _ h1
      have h3 := exp_le h1.2.2.2.1
      have h4 := h1.2.2.2.1.1.1
      have e4 : updR σ' 7 (up1 (σ' 7) (2 * i).toNat r) 4 = σ' 4 := updR_ne _ _ _ _ (by decide)
      have e5 : updR σ' 7 (up1 (σ' 7) (2 * i).toNat r) 5 = σ' 5 := updR_ne _ _ _ _ (by decide)
      rw [e4, e5] at h2
      rw [e4] at h3 h4
      exact ⟨by omega, by omega, h2⟩
    have hend : u 4 7 ≤ i → Q none u := fun h => hQ u (by rw [show u 4 7 = i by omega]; exact hu)
    have hend2 : 2816 ≤ i → Q none u := fun h => hend (by omega)
    have hbd : ∀ σ' : St, σ' 1 = σ 1 → σ' 2 = σ 2 → σ' 3 = σ 3 → BansOK (σ' 1 3) (σ' 1 4) (σ' 1 2) (σ' 1 5) (σ' 2) (σ' 3) := fun σ' h1 h2 h3 => by rw [h1, h2, h3]; exact hd
    simp only [hu1, hu2, hu3]
    clear hQ hpre hu
    (try simp only [rI_iff, rL_iff] at *)
    repeat' (with_reducible (first | assumption | apply And.intro | intro _))
    all_goals first | omega | with_reducible assumption | exact True.intro | skip
    all_goals first
      | exact hky (by assumption)
      | exact (hky (by assumption)).1
      | exact (hky (by assumption)).2.1
      | exact (hky (by assumption)).2.2
      | exact (hkr 0 (Or.inl rfl) (by assumption)).1
      | exact (hkr 0 (Or.inl rfl) (by assumption)).2
      | exact (hp0 _ (by assumption)).1
      | exact (hp0 _ (by assumption)).2.1
      | exact (hp0 _ (by assumption)).2.2 (by assumption)
      | exact (st1 _ _ _ _ (by assumption) (by assumption) (by assumption)).1
      | exact (st1 _ _ _ _ (by assumption) (by assumption) (by assumption)).2
      | exact (hp1 _ _ (by assumption) (by assumption)).1
      | exact (hp1 _ _ (by assumption) (by assumption)).2.1
      | exact ((hp1 _ _ (by assumption) (by assumption)).2.2 _ (by assumption)).1
      | exact ((hp1 _ _ (by assumption) (by assumption)).2.2 _ (by assumption)).2.1
      | exact ((hp1 _ _ (by assumption) (by assumption)).2.2 _ (by assumption)).2.2 (by assumption)
      | (obtain ⟨g1, g2, g3, g4, g5, g6⟩ := st0 _ _ (by assumption) (by assumption)
         rw [g3, g4, g5, g6]
         first
           | exact (hkr 1 (Or.inr rfl) (by assumption)).1
           | exact (hkr 1 (Or.inr rfl) (by assumption)).2)
      | (obtain ⟨g1, g2, g3, g4, g5, g6⟩ := st0 _ _ (by assumption) (by assumption)
         rw [g3]
         first
           | exact (hky (by assumption)).1
           | exact (hky (by assumption)).2.1
           | exact (hky (by assumption)).2.2)
      | (obtain ⟨g1, g2, g3, g4, g5, g6⟩ := st0 _ _ (by assumption) (by assumption)
         rw [g4, g5, g6]
         first
           | exact hd
           | exact hd.1
           | exact hd.2.1
           | exact hd.2.2.1
           | exact hd.2.2.2)
      | (obtain ⟨g1, g2, g3, g4, g5, g6⟩ := st0 _ _ (by assumption) (by assumption)
         rw [g4]
         first
           | exact hd.2.2.1
           | exact hd.2.2.2
           | exact hd.1)
