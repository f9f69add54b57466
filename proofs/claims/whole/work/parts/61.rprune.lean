/-! the reference: taking away what cannot go on; classes -/
def B01 (cnt : Int) (g : Nat → Int) : Prop := ∀ i : Nat, (i : Int) < cnt → g i = 0 ∨ g i = 1
def avZ (g : Nat → Int) (i : Int) : Int := if i = -1 then 0 else g i.toNat
theorem nx42 (σ : St) (i : Nat) : nxM σ (2 * i) = σ 42 i := by
  unfold nxM
  rw [if_pos (by omega)]
  congr 1
  omega
theorem nx43 (σ : St) (i : Nat) : nxM σ (2 * i + 1) = σ 43 i := by
  unfold nxM
  rw [if_neg (by omega)]
  congr 1
  omega
theorem nx_r {σ : St} {cnt : Int} (h : Wire cnt (nxM σ)) {i : Nat} (hi : (i : Int) < cnt) : (-1 ≤ σ 42 i ∧ σ 42 i < cnt) ∧ (-1 ≤ σ 43 i ∧ σ 43 i < cnt) := by
  have h0 := h (2 * i) (by omega)
  have h1 := h (2 * i + 1) (by omega)
  rw [nx42] at h0
  rw [nx43] at h1
  exact ⟨h0, h1⟩
def PrI (σ : St) (g : Nat → Int) (more x : Int) : Prop := B01 (σ 37 7) g ∧ DeadZ 0 (σ 37 7) (nxM σ) g ∧ (more = 0 → ∀ i : Nat, (i : Int) < σ 37 7 → x < i → g i ≠ 0 → avZ g (σ 42 i) ≠ 0 ∨ avZ g (σ 43 i) ≠ 0)
theorem prI_set {σ : St} {g : Nat → Int} {more x : Int} (hw : Wire (σ 37 7) (nxM σ)) (hx : 0 ≤ x ∧ x < σ 37 7) (h : PrI σ g more x) (h0 : avZ g (σ 42 x.toNat) = 0) (h1 : avZ g (σ 43 x.toNat) = 0) : PrI σ (up1 g x.toNat 0) 1 (x - 1) := by
  refine ⟨fun i hi => ?_, dead_set hw (by omega) h.2.1 (fun b => ?_), fun q => by omega⟩
  · rw [up1_app]
    split
    · exact Or.inl rfl
    · exact h.1 i hi
  · cases b with
    | false =>
      show nxM σ (2 * x.toNat + 0) = -1 ∨ g (nxM σ (2 * x.toNat + 0)).toNat = 0
      rw [Nat.add_zero, nx42]
      unfold avZ at h0
      by_cases e : σ 42 x.toNat = -1
      · exact Or.inl e
      · rw [if_neg e] at h0; exact Or.inr h0
    | true =>
      show nxM σ (2 * x.toNat + 1) = -1 ∨ g (nxM σ (2 * x.toNat + 1)).toNat = 0
      rw [nx43]
      unfold avZ at h1
      by_cases e : σ 43 x.toNat = -1
      · exact Or.inl e
      · rw [if_neg e] at h1; exact Or.inr h1
theorem prI_skip {σ : St} {g : Nat → Int} {more x : Int} (hx : 0 ≤ x) (h : PrI σ g more x) (h2 : g x.toNat ≠ 0 → avZ g (σ 42 x.toNat) ≠ 0 ∨ avZ g (σ 43 x.toNat) ≠ 0) : PrI σ g more (x - 1) := by
  refine ⟨h.1, h.2.1, fun q i hi hxi hg => ?_⟩
  by_cases e : i = x.toNat
  · rw [e] at hg ⊢; exact h2 hg
  · exact h.2.2 q i hi (by omega) hg
def PruneOK (σ : St) (g : Nat → Int) : Prop := B01 (σ 37 7) g ∧ AliveOK (σ 37 7) (nxM σ) (alZ 0 g)
theorem prI_end {σ : St} {g : Nat → Int} {x : Int} (hx : x < 0) (h : PrI σ g 0 x) : PruneOK σ g := by
  refine ⟨h.1, alive_of h.2.1 (fun i hi hg => ?_)⟩
  rcases h.2.2 rfl i hi (by omega) hg with h1 | h1
  · refine ⟨false, ?_⟩
    show nxM σ (2 * i + 0) ≠ -1 ∧ g (nxM σ (2 * i + 0)).toNat ≠ 0
    rw [Nat.add_zero, nx42]
    unfold avZ at h1
    by_cases e : σ 42 i = -1
    · rw [if_pos e] at h1; exact absurd rfl h1
    · rw [if_neg e] at h1; exact ⟨e, h1⟩
  · refine ⟨true, ?_⟩
    show nxM σ (2 * i + 1) ≠ -1 ∧ g (nxM σ (2 * i + 1)).toNat ≠ 0
    rw [nx43]
    unfold avZ at h1
    by_cases e : σ 43 i = -1
    · rw [if_pos e] at h1; exact absurd rfl h1
    · rw [if_neg e] at h1; exact ⟨e, h1⟩
def s_M_isAliveAt : Spec := fun as σ Q => popR as fun c0 r0 => popI r0 fun i r1 => r1 = [] ∧ c0 = 37 ∧ (i = -1 ∨ (0 ≤ i ∧ i < 11264 ∧ (σ 44 i.toNat = 0 ∨ σ 44 i.toNat = 1))) ∧ Q (some (.inl (avZ (σ 44) i))) σ
theorem e_M_isAliveAt (i : Int) (σ : St) (Q : Option AV → St → Prop) : s_M_isAliveAt [.inr (.inr (some 37)), .inl i] σ Q = ((i = -1 ∨ (0 ≤ i ∧ i < 11264 ∧ (σ 44 i.toNat = 0 ∨ σ 44 i.toNat = 1))) ∧ Q (some (.inl (avZ (σ 44) i))) σ) := by
  show ([] = [] ∧ _) = _
  simp only [true_and]
set_option maxHeartbeats 4000000 in
set_option maxRecDepth 20000 in
theorem S_M_isAliveAt {l : Launch} : Sat l y_M_isAliveAt b_M_isAliveAt 2 (some .boolean) 0 s_M_isAliveAt := by
  refine sat_of (Φ := P_M) (κ := Q_M) (Γ := []) (rt := 3) (by decide +kernel) P_M_ok Q_M_ok (fun g hg => absurd hg List.not_mem_nil) (by simp) o_M_isAliveAt ?_
  intro as σ Q hh0
  obtain ⟨c0, rr0, rfl, hh1⟩ := popR_inv hh0
  obtain ⟨i, rr1, rfl, hh2⟩ := popI_inv hh1
  obtain ⟨hrE, rfl, hi, hQ⟩ := hh2
  subst hrE
  clear hh0 hh1
  refine ⟨Nat.le_of_ble_eq_true rfl, [], 14, ?_, cuts0⟩
  · rw [show entL 2 [.inr (.inr (some 37)), .inl i] = [.inr (.inr (some 37)), .inl i] from rfl]
    simp only [↓wpN_go, jmp_e, ↓wp_aload_n0, ↓wp_baload, ↓wp_getfield, ↓wp_goto, ↓wp_icmp_eq, ↓wp_iconst, ↓wp_if_eq, ↓wp_iload_n1, ↓wp_ireturn3, wp_nil, ↓ldI_0, ↓ldI_s, ↓ldL_0, ↓ldL_s, ↓ldR_0, ↓ldR_s, sto1_0, sto1_1, sto1_s, sto2_0, sto2_1, sto2_s, isLong_i, isLong_l, isLong_r, ↓popI_c, ↓popL_c, ↓popR_c, ↓popN_0, ↓popN_s, catS_n, catS_c, psh_s, psh_n, fldV_n, fldV_s, ↓tgt_e, sw_n, ↓sw_c, ↓lk1_h, ↓lk1_m, ↓atC_h, ↓atC_m, ↓atC_n, ltO_n, ltO_s, updR_eq, updR_ne, gI_0i, gI_0l, gI_s, ltM_iff, List.cons.injEq, Sum.inl.injEq, Sum.inr.injEq, Option.some.injEq, exists_eq_left, exists_eq_left', exists_eq_right, exists_eq_right', exists_and_left, exists_and_right, exists_eq, exists_const, and_assoc, ↓j_M_isAliveAt_0, ↓j_M_isAliveAt_18, ↓j_M_isAliveAt_19, ↓f_M_35, List.length_cons, List.length_nil, Nat.zero_add, Nat.reduceAdd, Int.reduceAdd, Int.reduceNeg, Int.reduceToNat, Int.reduceLE, Int.reduceLT, true_and, and_true, Nat.reduceLT, reduceIte, Nat.reduceEqDiff, ne_eq, not_false_eq_true, false_implies, true_implies, Bool.false_eq_true, reduceCtorEq, List.cons_append, List.nil_append, Nat.reduceSub, Nat.reduceLeDiff, Fin.isValue, Int.reduceNatCast', Int.zero_add, Int.add_zero, decide_true, decide_false, implies_true, forall_const, true_or, or_true, or_false, false_or, false_and, and_false, Int.toNat_natCast, ↓oF_37_0, ↓oF_37_1, ↓oF_37_2, ↓oF_37_3, ↓aF_38, ↓oF_37_4, ↓aF_39, ↓oF_37_5, ↓oF_37_6, ↓aF_40, ↓oF_37_7, ↓oF_37_8, ↓aF_41, ↓oF_37_9, ↓aF_42, ↓oF_37_10, ↓aF_43, ↓oF_37_11, ↓aF_44, ↓oF_37_12, ↓aF_45, ↓oF_37_13, ↓aF_46, ↓oF_37_14, ↓aF_47, ↓oF_37_15, ↓aF_48, ↓oF_37_16, ↓aF_49, ↓oF_37_17, ↓oF_37_18, ↓aF_50, ↓oF_37_19, ↓aF_51, ↓oF_37_20, ↓aF_52, ↓oF_37_21, ↓aF_53, ↓oF_37_22, ↓aF_54, ↓oF_37_23, ↓aF_55, ↓oF_37_24, ↓aF_56, ↓oF_37_25, ↓aF_57, ↓oF_37_26, ↓oF_37_27, ↓oF_37_28, ↓aF_58, ↓oF_37_29, ↓aF_59, ↓oF_37_30, ↓aF_60, ↓oF_37_31, ↓aF_61, ↓oF_37_32, ↓oF_37_33, ↓oF_37_34, ↓oF_37_35, ↓aF_62, ↓oF_37_36, ↓oF_37_37, ↓aF_63, ↓oF_37_38, ↓oF_37_39, ↓aF_64, ↓oF_37_40, ↓aF_65, ↓oF_37_41, ↓aF_66, oC_0, oC_1, oC_4, oC_11, oC_16, oC_18, oC_20, oC_23, oC_25, oC_26, oC_29, oC_31, oC_33, oC_35, oC_37, isT_29, isT_31, isT_33, isT_35, isL_16, isL_18, isL_26]
    unfold avZ at hQ
    have q1 : i = -1 → Q (some (.inl 0)) σ := fun h => by rw [if_pos h] at hQ; exact hQ
    have q2 : ¬ i = -1 → Q (some (.inl (σ 44 i.toNat))) σ := fun h => by rw [if_neg h] at hQ; exact hQ
    clear hQ
    (try simp only [rI_iff, rL_iff] at *)
    repeat' (with_reducible (first | assumption | apply And.intro | intro _))
    all_goals first | omega | with_reducible assumption | exact True.intro | skip
    all_goals first
      | omega
      | exact q1 (by assumption)
      | (have hs1 := q2 (by assumption); rw [show σ 44 i.toNat = 0 by omega] at hs1; exact hs1)
      | (have hs1 := q2 (by assumption); rw [show σ 44 i.toNat = 1 by omega] at hs1; exact hs1)
      | trace_state
def s_M_prune : Spec := fun as σ Q => popR as fun c0 r0 => r0 = [] ∧ c0 = 37 ∧ (0 < σ 37 7 ∧ σ 37 7 ≤ 11264) ∧ (Wire (σ 37 7) (nxM σ)) ∧ (∀ i : Nat, (i : Int) < σ 37 7 → σ 44 i = 1) ∧ ∀ g, PruneOK σ g → Q none (updR σ 44 g)
theorem e_M_prune  (σ : St) (Q : Option AV → St → Prop) : s_M_prune [.inr (.inr (some 37))] σ Q = ((0 < σ 37 7 ∧ σ 37 7 ≤ 11264) ∧ (Wire (σ 37 7) (nxM σ)) ∧ (∀ i : Nat, (i : Int) < σ 37 7 → σ 44 i = 1) ∧ ∀ g, PruneOK σ g → Q none (updR σ 44 g)) := by
  show ([] = [] ∧ _) = _
  simp only [true_and]
set_option maxHeartbeats 4000000 in
set_option maxRecDepth 20000 in
theorem S_M_prune {l : Launch} : Sat l y_M_prune b_M_prune 3 none 1 s_M_prune := by
  refine sat_of (Φ := P_M) (κ := Q_M) (Γ := [(151, 10, 1, s_M_isAliveAt)]) (rt := 0) (by decide +kernel) P_M_ok Q_M_ok (by
    refine List.forall_mem_cons.mpr ⟨?_, fun _ h => absurd h List.not_mem_nil⟩
    · exact m_M_isAliveAt S_M_isAliveAt (by decide) l_M_151) (by simp) o_M_prune ?_
  intro as σ Q hh0
  obtain ⟨c0, rr0, rfl, hh1⟩ := popR_inv hh0
  obtain ⟨hrE, rfl, hcnt, hwr, hal, hQ⟩ := hh1
  subst hrE
  clear hh0
  refine ⟨Nat.le_of_ble_eq_true rfl, [(2, mkC (fun L st u => ∃ (more : Int) (v2 : AV) (g : Nat → Int), L = [.inr (.inr (some 37)), .inl more, v2] ∧ st = [] ∧ (more = 0 ∨ more = 1) ∧ (PrI σ g more (-1)) ∧ (u = updR σ 44 g)) (fun L st u => ((2 * acZ 0 (u 44) (u 37 7).toNat + gI L 1).toNat, 50, 0))),
    (15, mkC (fun L st u => ∃ (more x : Int) (g : Nat → Int), L = [.inr (.inr (some 37)), .inl more, .inl x] ∧ st = [] ∧ (more = 0 ∨ more = 1) ∧ (-1 ≤ x ∧ x < σ 37 7) ∧ (PrI σ g more x) ∧ (u = updR σ 44 g)) (fun L st u => ((2 * acZ 0 (u 44) (u 37 7).toNat + gI L 1).toNat, (100 + gI L 2).toNat, 0)))], 14, ?_, cuts1 ?_ (cuts1 ?_ (cuts0))⟩
  · rw [show entL 3 [.inr (.inr (some 37))] = [.inr (.inr (some 37)), .inr (.inr none), .inr (.inr none)] from rfl]
    simp only [↓wpN_go, jmp_e, ↓wp_aload_n0, ↓wp_baload, ↓wp_bastore, ↓wp_getfield, ↓wp_goto, ↓wp_iaload, ↓wp_iconst, ↓wp_if_eq, ↓wp_if_lt, ↓wp_if_ne, ↓wp_iinc, ↓wp_iload_n1, ↓wp_iload_n2, ↓wp_invokevirtual, ↓wp_istore_n1, ↓wp_istore_n2, ↓wp_isub, ↓wp_return0, wp_nil, ↓ldI_0, ↓ldI_s, ↓ldL_0, ↓ldL_s, ↓ldR_0, ↓ldR_s, sto1_0, sto1_1, sto1_s, sto2_0, sto2_1, sto2_s, isLong_i, isLong_l, isLong_r, ↓popI_c, ↓popL_c, ↓popR_c, ↓popN_0, ↓popN_s, catS_n, catS_c, psh_s, psh_n, fldV_n, fldV_s, ↓tgt_e, sw_n, ↓sw_c, ↓lk1_h, ↓lk1_m, ↓atC_h, ↓atC_m, ↓atC_n, ltO_n, ltO_s, updR_eq, updR_ne, gI_0i, gI_0l, gI_s, ltM_iff, List.cons.injEq, Sum.inl.injEq, Sum.inr.injEq, Option.some.injEq, exists_eq_left, exists_eq_left', exists_eq_right, exists_eq_right', exists_and_left, exists_and_right, exists_eq, exists_const, and_assoc, ↓j_M_prune_0, ↓j_M_prune_2, ↓j_M_prune_15, ↓j_M_prune_63, ↓j_M_prune_69, ↓j_M_prune_72, ↓f_M_140, ↓f_M_29, ↓f_M_32, ↓f_M_35, List.length_cons, List.length_nil, Nat.zero_add, Nat.reduceAdd, Int.reduceAdd, Int.reduceNeg, Int.reduceToNat, Int.reduceLE, Int.reduceLT, true_and, and_true, Nat.reduceLT, reduceIte, Nat.reduceEqDiff, ne_eq, not_false_eq_true, false_implies, true_implies, Bool.false_eq_true, reduceCtorEq, List.cons_append, List.nil_append, Nat.reduceSub, Nat.reduceLeDiff, Fin.isValue, Int.reduceNatCast', Int.zero_add, Int.add_zero, decide_true, decide_false, implies_true, forall_const, true_or, or_true, or_false, false_or, false_and, and_false, Int.toNat_natCast, ↓oF_37_0, ↓oF_37_1, ↓oF_37_2, ↓oF_37_3, ↓aF_38, ↓oF_37_4, ↓aF_39, ↓oF_37_5, ↓oF_37_6, ↓aF_40, ↓oF_37_7, ↓oF_37_8, ↓aF_41, ↓oF_37_9, ↓aF_42, ↓oF_37_10, ↓aF_43, ↓oF_37_11, ↓aF_44, ↓oF_37_12, ↓aF_45, ↓oF_37_13, ↓aF_46, ↓oF_37_14, ↓aF_47, ↓oF_37_15, ↓aF_48, ↓oF_37_16, ↓aF_49, ↓oF_37_17, ↓oF_37_18, ↓aF_50, ↓oF_37_19, ↓aF_51, ↓oF_37_20, ↓aF_52, ↓oF_37_21, ↓aF_53, ↓oF_37_22, ↓aF_54, ↓oF_37_23, ↓aF_55, ↓oF_37_24, ↓aF_56, ↓oF_37_25, ↓aF_57, ↓oF_37_26, ↓oF_37_27, ↓oF_37_28, ↓aF_58, ↓oF_37_29, ↓aF_59, ↓oF_37_30, ↓aF_60, ↓oF_37_31, ↓aF_61, ↓oF_37_32, ↓oF_37_33, ↓oF_37_34, ↓oF_37_35, ↓aF_62, ↓oF_37_36, ↓oF_37_37, ↓aF_63, ↓oF_37_38, ↓oF_37_39, ↓aF_64, ↓oF_37_40, ↓aF_65, ↓oF_37_41, ↓aF_66, oC_0, oC_1, oC_4, oC_11, oC_16, oC_18, oC_20, oC_23, oC_25, oC_26, oC_29, oC_31, oC_33, oC_35, oC_37, isT_29, isT_31, isT_33, isT_35, isL_16, isL_18, isL_26, ↓e_M_isAliveAt]
    have h0 : PrI σ (σ 44) 1 (-1) := ⟨fun i hi => Or.inr (hal i hi), fun i hi h => by have := hal i hi; omega, fun q => by omega⟩
    clear hQ
    (try simp only [rI_iff, rL_iff] at *)
    repeat' (with_reducible (first | assumption | apply And.intro | intro _))
    all_goals first | omega | with_reducible assumption | exact True.intro | skip
    all_goals first
      | omega
      | exact ⟨_, h0, (updR_self σ 44).symm⟩
      | trace_state
  · intro L st u hI
    obtain ⟨more, v2, g, rfl, rfl, hmo, hI, hu⟩ := hI
    simp only [↓wpN_go, jmp_e, ↓wp_aload_n0, ↓wp_baload, ↓wp_bastore, ↓wp_getfield, ↓wp_goto, ↓wp_iaload, ↓wp_iconst, ↓wp_if_eq, ↓wp_if_lt, ↓wp_if_ne, ↓wp_iinc, ↓wp_iload_n1, ↓wp_iload_n2, ↓wp_invokevirtual, ↓wp_istore_n1, ↓wp_istore_n2, ↓wp_isub, ↓wp_return0, wp_nil, ↓ldI_0, ↓ldI_s, ↓ldL_0, ↓ldL_s, ↓ldR_0, ↓ldR_s, sto1_0, sto1_1, sto1_s, sto2_0, sto2_1, sto2_s, isLong_i, isLong_l, isLong_r, ↓popI_c, ↓popL_c, ↓popR_c, ↓popN_0, ↓popN_s, catS_n, catS_c, psh_s, psh_n, fldV_n, fldV_s, ↓tgt_e, sw_n, ↓sw_c, ↓lk1_h, ↓lk1_m, ↓atC_h, ↓atC_m, ↓atC_n, ltO_n, ltO_s, updR_eq, updR_ne, gI_0i, gI_0l, gI_s, ltM_iff, List.cons.injEq, Sum.inl.injEq, Sum.inr.injEq, Option.some.injEq, exists_eq_left, exists_eq_left', exists_eq_right, exists_eq_right', exists_and_left, exists_and_right, exists_eq, exists_const, and_assoc, ↓j_M_prune_0, ↓j_M_prune_2, ↓j_M_prune_15, ↓j_M_prune_63, ↓j_M_prune_69, ↓j_M_prune_72, ↓f_M_140, ↓f_M_29, ↓f_M_32, ↓f_M_35, List.length_cons, List.length_nil, Nat.zero_add, Nat.reduceAdd, Int.reduceAdd, Int.reduceNeg, Int.reduceToNat, Int.reduceLE, Int.reduceLT, true_and, and_true, Nat.reduceLT, reduceIte, Nat.reduceEqDiff, ne_eq, not_false_eq_true, false_implies, true_implies, Bool.false_eq_true, reduceCtorEq, List.cons_append, List.nil_append, Nat.reduceSub, Nat.reduceLeDiff, Fin.isValue, Int.reduceNatCast', Int.zero_add, Int.add_zero, decide_true, decide_false, implies_true, forall_const, true_or, or_true, or_false, false_or, false_and, and_false, Int.toNat_natCast, ↓oF_37_0, ↓oF_37_1, ↓oF_37_2, ↓oF_37_3, ↓aF_38, ↓oF_37_4, ↓aF_39, ↓oF_37_5, ↓oF_37_6, ↓aF_40, ↓oF_37_7, ↓oF_37_8, ↓aF_41, ↓oF_37_9, ↓aF_42, ↓oF_37_10, ↓aF_43, ↓oF_37_11, ↓aF_44, ↓oF_37_12, ↓aF_45, ↓oF_37_13, ↓aF_46, ↓oF_37_14, ↓aF_47, ↓oF_37_15, ↓aF_48, ↓oF_37_16, ↓aF_49, ↓oF_37_17, ↓oF_37_18, ↓aF_50, ↓oF_37_19, ↓aF_51, ↓oF_37_20, ↓aF_52, ↓oF_37_21, ↓aF_53, ↓oF_37_22, ↓aF_54, ↓oF_37_23, ↓aF_55, ↓oF_37_24, ↓aF_56, ↓oF_37_25, ↓aF_57, ↓oF_37_26, ↓oF_37_27, ↓oF_37_28, ↓aF_58, ↓oF_37_29, ↓aF_59, ↓oF_37_30, ↓aF_60, ↓oF_37_31, ↓aF_61, ↓oF_37_32, ↓oF_37_33, ↓oF_37_34, ↓oF_37_35, ↓aF_62, ↓oF_37_36, ↓oF_37_37, ↓aF_63, ↓oF_37_38, ↓oF_37_39, ↓aF_64, ↓oF_37_40, ↓aF_65, ↓oF_37_41, ↓aF_66, oC_0, oC_1, oC_4, oC_11, oC_16, oC_18, oC_20, oC_23, oC_25, oC_26, oC_29, oC_31, oC_33, oC_35, oC_37, isT_29, isT_31, isT_33, isT_35, isL_16, isL_18, isL_26, ↓e_M_isAliveAt]
    subst hu
    have e37 : updR σ 44 g 37 = σ 37 := updR_ne _ _ _ _ (by decide)
    have e44 : updR σ 44 g 44 = g := updR_eq _ _ _
    simp only [e37, e44]
    have q1 : more = 0 → Q none (updR σ 44 g) := fun h => hQ g (prI_end (x := -1) (by omega) (by rw [h] at hI; exact hI))
    have q2 : PrI σ g 0 (σ 37 7 - 1) := ⟨hI.1, hI.2.1, fun _ i hi hx => by omega⟩
    have hac := (acZ_r 0 g (σ 37 7).toNat).1
    clear hQ
    (try simp only [rI_iff, rL_iff] at *)
    repeat' (with_reducible (first | assumption | apply And.intro | intro _))
    all_goals first | omega | with_reducible assumption | exact True.intro | skip
    all_goals first
      | omega
      | exact q1 (by assumption)
      | exact ⟨_, q2, rfl⟩
      | trace_state
  · intro L st u hI
    obtain ⟨more, x, g, rfl, rfl, hmo, hx, hI, hu⟩ := hI
    simp only [↓wpN_go, jmp_e, ↓wp_aload_n0, ↓wp_baload, ↓wp_bastore, ↓wp_getfield, ↓wp_goto, ↓wp_iaload, ↓wp_iconst, ↓wp_if_eq, ↓wp_if_lt, ↓wp_if_ne, ↓wp_iinc, ↓wp_iload_n1, ↓wp_iload_n2, ↓wp_invokevirtual, ↓wp_istore_n1, ↓wp_istore_n2, ↓wp_isub, ↓wp_return0, wp_nil, ↓ldI_0, ↓ldI_s, ↓ldL_0, ↓ldL_s, ↓ldR_0, ↓ldR_s, sto1_0, sto1_1, sto1_s, sto2_0, sto2_1, sto2_s, isLong_i, isLong_l, isLong_r, ↓popI_c, ↓popL_c, ↓popR_c, ↓popN_0, ↓popN_s, catS_n, catS_c, psh_s, psh_n, fldV_n, fldV_s, ↓tgt_e, sw_n, ↓sw_c, ↓lk1_h, ↓lk1_m, ↓atC_h, ↓atC_m, ↓atC_n, ltO_n, ltO_s, updR_eq, updR_ne, gI_0i, gI_0l, gI_s, ltM_iff, List.cons.injEq, Sum.inl.injEq, Sum.inr.injEq, Option.some.injEq, exists_eq_left, exists_eq_left', exists_eq_right, exists_eq_right', exists_and_left, exists_and_right, exists_eq, exists_const, and_assoc, ↓j_M_prune_0, ↓j_M_prune_2, ↓j_M_prune_15, ↓j_M_prune_63, ↓j_M_prune_69, ↓j_M_prune_72, ↓f_M_140, ↓f_M_29, ↓f_M_32, ↓f_M_35, List.length_cons, List.length_nil, Nat.zero_add, Nat.reduceAdd, Int.reduceAdd, Int.reduceNeg, Int.reduceToNat, Int.reduceLE, Int.reduceLT, true_and, and_true, Nat.reduceLT, reduceIte, Nat.reduceEqDiff, ne_eq, not_false_eq_true, false_implies, true_implies, Bool.false_eq_true, reduceCtorEq, List.cons_append, List.nil_append, Nat.reduceSub, Nat.reduceLeDiff, Fin.isValue, Int.reduceNatCast', Int.zero_add, Int.add_zero, decide_true, decide_false, implies_true, forall_const, true_or, or_true, or_false, false_or, false_and, and_false, Int.toNat_natCast, ↓oF_37_0, ↓oF_37_1, ↓oF_37_2, ↓oF_37_3, ↓aF_38, ↓oF_37_4, ↓aF_39, ↓oF_37_5, ↓oF_37_6, ↓aF_40, ↓oF_37_7, ↓oF_37_8, ↓aF_41, ↓oF_37_9, ↓aF_42, ↓oF_37_10, ↓aF_43, ↓oF_37_11, ↓aF_44, ↓oF_37_12, ↓aF_45, ↓oF_37_13, ↓aF_46, ↓oF_37_14, ↓aF_47, ↓oF_37_15, ↓aF_48, ↓oF_37_16, ↓aF_49, ↓oF_37_17, ↓oF_37_18, ↓aF_50, ↓oF_37_19, ↓aF_51, ↓oF_37_20, ↓aF_52, ↓oF_37_21, ↓aF_53, ↓oF_37_22, ↓aF_54, ↓oF_37_23, ↓aF_55, ↓oF_37_24, ↓aF_56, ↓oF_37_25, ↓aF_57, ↓oF_37_26, ↓oF_37_27, ↓oF_37_28, ↓aF_58, ↓oF_37_29, ↓aF_59, ↓oF_37_30, ↓aF_60, ↓oF_37_31, ↓aF_61, ↓oF_37_32, ↓oF_37_33, ↓oF_37_34, ↓oF_37_35, ↓aF_62, ↓oF_37_36, ↓oF_37_37, ↓aF_63, ↓oF_37_38, ↓oF_37_39, ↓aF_64, ↓oF_37_40, ↓aF_65, ↓oF_37_41, ↓aF_66, oC_0, oC_1, oC_4, oC_11, oC_16, oC_18, oC_20, oC_23, oC_25, oC_26, oC_29, oC_31, oC_33, oC_35, oC_37, isT_29, isT_31, isT_33, isT_35, isL_16, isL_18, isL_26, ↓e_M_isAliveAt]
    subst hu
    have e37 : updR σ 44 g 37 = σ 37 := updR_ne _ _ _ _ (by decide)
    have e42 : updR σ 44 g 42 = σ 42 := updR_ne _ _ _ _ (by decide)
    have e43 : updR σ 44 g 43 = σ 43 := updR_ne _ _ _ _ (by decide)
    have e44 : updR σ 44 g 44 = g := updR_eq _ _ _
    simp only [e37, e42, e43, e44, updR_twice]
    have hac := (acZ_r 0 g (σ 37 7).toNat).1
    have hnr := fun h : 0 ≤ x => nx_r hwr (show ((x.toNat : Nat) : Int) < σ 37 7 by omega)
    have hbx := fun h : 0 ≤ x => hI.1 x.toNat (by omega)
    have hb0 := fun h : 0 ≤ x => fun h1 : ¬ σ 42 x.toNat = -1 => hI.1 (σ 42 x.toNat).toNat (by have := (hnr h).1; omega)
    have hb1 := fun h : 0 ≤ x => fun h1 : ¬ σ 43 x.toNat = -1 => hI.1 (σ 43 x.toNat).toNat (by have := (hnr h).2; omega)
    have ha0 : 0 ≤ x → avZ g (σ 42 x.toNat) = 0 ∨ avZ g (σ 42 x.toNat) = 1 := fun h => by
      unfold avZ
      by_cases e : σ 42 x.toNat = -1
      · rw [if_pos e]; exact Or.inl rfl
      · rw [if_neg e]; exact hb0 h e
    have ha1 : 0 ≤ x → avZ g (σ 43 x.toNat) = 0 ∨ avZ g (σ 43 x.toNat) = 1 := fun h => by
      unfold avZ
      by_cases e : σ 43 x.toNat = -1
      · rw [if_pos e]; exact Or.inl rfl
      · rw [if_neg e]; exact hb1 h e
    have q1 : x < 0 → PrI σ g more (-1) := fun h => by rw [show (-1 : Int) = x by omega]; exact hI
    have q2 : 0 ≤ x → (g x.toNat ≠ 0 → avZ g (σ 42 x.toNat) ≠ 0 ∨ avZ g (σ 43 x.toNat) ≠ 0) → PrI σ g more (x + -1) := fun h h2 => prI_skip h hI h2
    have q3 : 0 ≤ x → avZ g (σ 42 x.toNat) = 0 → avZ g (σ 43 x.toNat) = 0 → PrI σ (up1 g x.toNat 0) 1 (x + -1) := fun h h0 h1 => prI_set hwr ⟨h, hx.2⟩ hI h0 h1
    have q4 : 0 ≤ x → g x.toNat ≠ 0 → acZ 0 (up1 g x.toNat 0) (σ 37 7).toNat = acZ 0 g (σ 37 7).toNat - 1 := fun h h1 => acZ_set (by omega) h1
    clear hQ
    by_cases hc : 0 ≤ x
    · have hnr := hnr hc
      have hbx := hbx hc
      have hb0 := hb0 hc
      have hb1 := hb1 hc
      have ha0 := ha0 hc
      have ha1 := ha1 hc
      have q2 := q2 hc
      have q3 := q3 hc
      have q4 := q4 hc
      generalize avZ g (σ 42 x.toNat) = a0 at *
      generalize avZ g (σ 43 x.toNat) = a1 at *
      (try simp only [rI_iff, rL_iff] at *)
      repeat' (with_reducible (first | assumption | apply And.intro | intro _))
      all_goals first | omega | with_reducible assumption | exact True.intro | skip
      all_goals first
        | omega
        | exact ⟨_, q2 (fun _ => by omega), rfl⟩
        | exact ⟨_, q3 (by assumption) (by assumption), rfl⟩
        | (have hs1 := q4 (by assumption); omega)
        | trace_state
    · (try simp only [rI_iff, rL_iff] at *)
      repeat' (with_reducible (first | assumption | apply And.intro | intro _))
      all_goals first | omega | with_reducible assumption | exact True.intro | skip
      all_goals first
        | omega
        | exact ⟨_, q1 (by omega), rfl⟩
        | trace_state
def gR (σ : St) : Nat → Int := fun i => if σ 44 i = 0 then -1 else σ 45 i
def caZ (σ : St) (i : Int) : Int := if i = -1 then -1 else gR σ i.toNat
theorem ca_ga0 (σ : St) (i : Nat) : caZ σ (σ 42 i) = gaF (nxM σ) (gR σ) i 0 := by
  unfold caZ gaF
  rw [Nat.add_zero, nx42]
theorem ca_ga1 (σ : St) (i : Nat) : caZ σ (σ 43 i) = gaF (nxM σ) (gR σ) i 1 := by
  unfold caZ gaF
  rw [nx43]
def s_M_classAt : Spec := fun as σ Q => popR as fun c0 r0 => popI r0 fun i r1 => r1 = [] ∧ c0 = 37 ∧ (i = -1 ∨ (0 ≤ i ∧ i < 11264 ∧ (σ 44 i.toNat = 0 ∨ σ 44 i.toNat = 1))) ∧ Q (some (.inl (caZ σ i))) σ
theorem e_M_classAt (i : Int) (σ : St) (Q : Option AV → St → Prop) : s_M_classAt [.inr (.inr (some 37)), .inl i] σ Q = ((i = -1 ∨ (0 ≤ i ∧ i < 11264 ∧ (σ 44 i.toNat = 0 ∨ σ 44 i.toNat = 1))) ∧ Q (some (.inl (caZ σ i))) σ) := by
  show ([] = [] ∧ _) = _
  simp only [true_and]
set_option maxHeartbeats 4000000 in
set_option maxRecDepth 20000 in
theorem S_M_classAt {l : Launch} : Sat l y_M_classAt b_M_classAt 2 (some .int) 1 s_M_classAt := by
  refine sat_of (Φ := P_M) (κ := Q_M) (Γ := [(151, 10, 1, s_M_isAliveAt)]) (rt := 1) (by decide +kernel) P_M_ok Q_M_ok (by
    refine List.forall_mem_cons.mpr ⟨?_, fun _ h => absurd h List.not_mem_nil⟩
    · exact m_M_isAliveAt S_M_isAliveAt (by decide) l_M_151) (by simp) o_M_classAt ?_
  intro as σ Q hh0
  obtain ⟨c0, rr0, rfl, hh1⟩ := popR_inv hh0
  obtain ⟨i, rr1, rfl, hh2⟩ := popI_inv hh1
  obtain ⟨hrE, rfl, hi, hQ⟩ := hh2
  subst hrE
  clear hh0 hh1
  refine ⟨Nat.le_of_ble_eq_true rfl, [], 14, ?_, cuts0⟩
  · rw [show entL 2 [.inr (.inr (some 37)), .inl i] = [.inr (.inr (some 37)), .inl i] from rfl]
    simp only [↓wpN_go, jmp_e, ↓wp_aload_n0, ↓wp_getfield, ↓wp_goto, ↓wp_iaload, ↓wp_iconst, ↓wp_if_eq, ↓wp_iload_n1, ↓wp_invokevirtual, ↓wp_ireturn1, wp_nil, ↓ldI_0, ↓ldI_s, ↓ldL_0, ↓ldL_s, ↓ldR_0, ↓ldR_s, sto1_0, sto1_1, sto1_s, sto2_0, sto2_1, sto2_s, isLong_i, isLong_l, isLong_r, ↓popI_c, ↓popL_c, ↓popR_c, ↓popN_0, ↓popN_s, catS_n, catS_c, psh_s, psh_n, fldV_n, fldV_s, ↓tgt_e, sw_n, ↓sw_c, ↓lk1_h, ↓lk1_m, ↓atC_h, ↓atC_m, ↓atC_n, ltO_n, ltO_s, updR_eq, updR_ne, gI_0i, gI_0l, gI_s, ltM_iff, List.cons.injEq, Sum.inl.injEq, Sum.inr.injEq, Option.some.injEq, exists_eq_left, exists_eq_left', exists_eq_right, exists_eq_right', exists_and_left, exists_and_right, exists_eq, exists_const, and_assoc, ↓j_M_classAt_0, ↓j_M_classAt_17, ↓j_M_classAt_18, ↓f_M_39, List.length_cons, List.length_nil, Nat.zero_add, Nat.reduceAdd, Int.reduceAdd, Int.reduceNeg, Int.reduceToNat, Int.reduceLE, Int.reduceLT, true_and, and_true, Nat.reduceLT, reduceIte, Nat.reduceEqDiff, ne_eq, not_false_eq_true, false_implies, true_implies, Bool.false_eq_true, reduceCtorEq, List.cons_append, List.nil_append, Nat.reduceSub, Nat.reduceLeDiff, Fin.isValue, Int.reduceNatCast', Int.zero_add, Int.add_zero, decide_true, decide_false, implies_true, forall_const, true_or, or_true, or_false, false_or, false_and, and_false, Int.toNat_natCast, ↓oF_37_0, ↓oF_37_1, ↓oF_37_2, ↓oF_37_3, ↓aF_38, ↓oF_37_4, ↓aF_39, ↓oF_37_5, ↓oF_37_6, ↓aF_40, ↓oF_37_7, ↓oF_37_8, ↓aF_41, ↓oF_37_9, ↓aF_42, ↓oF_37_10, ↓aF_43, ↓oF_37_11, ↓aF_44, ↓oF_37_12, ↓aF_45, ↓oF_37_13, ↓aF_46, ↓oF_37_14, ↓aF_47, ↓oF_37_15, ↓aF_48, ↓oF_37_16, ↓aF_49, ↓oF_37_17, ↓oF_37_18, ↓aF_50, ↓oF_37_19, ↓aF_51, ↓oF_37_20, ↓aF_52, ↓oF_37_21, ↓aF_53, ↓oF_37_22, ↓aF_54, ↓oF_37_23, ↓aF_55, ↓oF_37_24, ↓aF_56, ↓oF_37_25, ↓aF_57, ↓oF_37_26, ↓oF_37_27, ↓oF_37_28, ↓aF_58, ↓oF_37_29, ↓aF_59, ↓oF_37_30, ↓aF_60, ↓oF_37_31, ↓aF_61, ↓oF_37_32, ↓oF_37_33, ↓oF_37_34, ↓oF_37_35, ↓aF_62, ↓oF_37_36, ↓oF_37_37, ↓aF_63, ↓oF_37_38, ↓oF_37_39, ↓aF_64, ↓oF_37_40, ↓aF_65, ↓oF_37_41, ↓aF_66, oC_0, oC_1, oC_4, oC_11, oC_16, oC_18, oC_20, oC_23, oC_25, oC_26, oC_29, oC_31, oC_33, oC_35, oC_37, isT_29, isT_31, isT_33, isT_35, isL_16, isL_18, isL_26, ↓e_M_isAliveAt]
    unfold caZ gR at hQ
    have e1 : i = -1 → avZ (σ 44) i = 0 := fun h => by unfold avZ; rw [if_pos h]
    have e2 : ¬ i = -1 → avZ (σ 44) i = σ 44 i.toNat := fun h => by unfold avZ; rw [if_neg h]
    have q1 : i = -1 → Q (some (.inl (-1))) σ := fun h => by rw [if_pos h] at hQ; exact hQ
    have q2 : ¬ i = -1 → σ 44 i.toNat = 0 → Q (some (.inl (-1))) σ := fun h h1 => by rw [if_neg h, if_pos h1] at hQ; exact hQ
    have q3 : ¬ i = -1 → ¬ σ 44 i.toNat = 0 → Q (some (.inl (σ 45 i.toNat))) σ := fun h h1 => by rw [if_neg h, if_neg h1] at hQ; exact hQ
    clear hQ
    generalize avZ (σ 44) i = z at *
    by_cases hc : i = -1
    · have e1 := e1 hc
      (try simp only [rI_iff, rL_iff] at *)
      repeat' (with_reducible (first | assumption | apply And.intro | intro _))
      all_goals first | omega | with_reducible assumption | exact True.intro | skip
      all_goals first
        | omega
        | exact q1 hc
        | trace_state
    · have e2 := e2 hc
      (try simp only [rI_iff, rL_iff] at *)
      repeat' (with_reducible (first | assumption | apply And.intro | intro _))
      all_goals first | omega | with_reducible assumption | exact True.intro | skip
      all_goals first
        | omega
        | exact q2 hc (by omega)
        | exact q3 hc (by omega)
        | trace_state
def Sgn (σ : St) (c : Nat) (a b d : Int) : Prop := σ 47 c = a ∧ σ 48 c = b ∧ σ 49 c = d
def SgnSt (σ τ : St) (i : Nat) (many c : Int) : Prop := (0 ≤ c ∧ c ≤ many) ∧ (∀ e : Nat, (e : Int) < c → ¬ Sgn σ e (σ 45 i) (gaF (nxM σ) (gR σ) i 0) (gaF (nxM σ) (gR σ) i 1)) ∧ (c < many → Sgn σ c.toNat (σ 45 i) (gaF (nxM σ) (gR σ) i 0) (gaF (nxM σ) (gR σ) i 1)) ∧ τ = updR (updR (updR σ 47 (up1 (σ 47) c.toNat (σ 45 i))) 48 (up1 (σ 48) c.toNat (gaF (nxM σ) (gR σ) i 0))) 49 (up1 (σ 49) c.toNat (gaF (nxM σ) (gR σ) i 1))
def s_M_signOf : Spec := fun as σ Q => popR as fun c0 r0 => popI r0 fun i r1 => popI r1 fun many r2 => r2 = [] ∧ c0 = 37 ∧ (0 < σ 37 7 ∧ σ 37 7 ≤ 11264) ∧ (Wire (σ 37 7) (nxM σ)) ∧ (B01 (σ 37 7) (σ 44)) ∧ (0 ≤ i ∧ i < σ 37 7) ∧ (0 ≤ many ∧ many ≤ 100) ∧ (∀ j : Nat, (j : Int) < σ 37 7 → rI (σ 45 j)) ∧ (∀ c : Nat, c < 101 → rI (σ 47 c) ∧ rI (σ 48 c) ∧ rI (σ 49 c)) ∧ ∀ τ c, SgnSt σ τ i.toNat many c → Q (some (.inl c)) τ
theorem e_M_signOf (i : Int) (many : Int) (σ : St) (Q : Option AV → St → Prop) : s_M_signOf [.inr (.inr (some 37)), .inl i, .inl many] σ Q = ((0 < σ 37 7 ∧ σ 37 7 ≤ 11264) ∧ (Wire (σ 37 7) (nxM σ)) ∧ (B01 (σ 37 7) (σ 44)) ∧ (0 ≤ i ∧ i < σ 37 7) ∧ (0 ≤ many ∧ many ≤ 100) ∧ (∀ j : Nat, (j : Int) < σ 37 7 → rI (σ 45 j)) ∧ (∀ c : Nat, c < 101 → rI (σ 47 c) ∧ rI (σ 48 c) ∧ rI (σ 49 c)) ∧ ∀ τ c, SgnSt σ τ i.toNat many c → Q (some (.inl c)) τ) := by
  show ([] = [] ∧ _) = _
  simp only [true_and]
set_option maxHeartbeats 4000000 in
set_option maxRecDepth 20000 in
theorem S_M_signOf {l : Launch} : Sat l y_M_signOf b_M_signOf 7 (some .int) 2 s_M_signOf := by
  refine sat_of (Φ := P_M) (κ := Q_M) (Γ := [(154, 10, 1, s_M_classAt)]) (rt := 1) (by decide +kernel) P_M_ok Q_M_ok (by
    refine List.forall_mem_cons.mpr ⟨?_, fun _ h => absurd h List.not_mem_nil⟩
    · exact m_M_classAt S_M_classAt (by decide) l_M_154) (by simp) o_M_signOf ?_
  intro as σ Q hh0
  obtain ⟨c0, rr0, rfl, hh1⟩ := popR_inv hh0
  obtain ⟨i, rr1, rfl, hh2⟩ := popI_inv hh1
  obtain ⟨many, rr2, rfl, hh3⟩ := popI_inv hh2
  obtain ⟨hrE, rfl, hcnt, hwr, hal, hi, hmy, hcl, hsg, hQ⟩ := hh3
  subst hrE
  clear hh0 hh1 hh2
  refine ⟨Nat.le_of_ble_eq_true rfl, [(34, mkC (fun L st u => ∃ (c : Int), L = [.inr (.inr (some 37)), .inl i, .inl many, .inl ((σ 45 i.toNat)), .inl ((gaF (nxM σ) (gR σ) i.toNat 0)), .inl ((gaF (nxM σ) (gR σ) i.toNat 1)), .inl c] ∧ st = [] ∧ (0 ≤ c ∧ c ≤ many) ∧ (∀ e : Nat, (e : Int) < c → ¬ Sgn σ e (σ 45 i.toNat) (gaF (nxM σ) (gR σ) i.toNat 0) (gaF (nxM σ) (gR σ) i.toNat 1)) ∧ (u = σ)) (fun L st u => ((101 - gI L 6).toNat, 0, 0)))], 14, ?_, cuts1 ?_ (cuts0)⟩
  · rw [show entL 7 [.inr (.inr (some 37)), .inl i, .inl many] = [.inr (.inr (some 37)), .inl i, .inl many, .inr (.inr none), .inr (.inr none), .inr (.inr none), .inr (.inr none)] from rfl]
    simp only [↓wpN_go, jmp_e, ↓wp_aload_n0, ↓wp_bipush, ↓wp_getfield, ↓wp_goto, ↓wp_iaload, ↓wp_iastore, ↓wp_icmp_eq, ↓wp_icmp_ge, ↓wp_icmp_ne, ↓wp_iconst, ↓wp_iinc, ↓wp_iload, ↓wp_iload_n1, ↓wp_iload_n2, ↓wp_iload_n3, ↓wp_invokevirtual, ↓wp_ireturn1, ↓wp_istore, ↓wp_istore_n3, wp_nil, ↓ldI_0, ↓ldI_s, ↓ldL_0, ↓ldL_s, ↓ldR_0, ↓ldR_s, sto1_0, sto1_1, sto1_s, sto2_0, sto2_1, sto2_s, isLong_i, isLong_l, isLong_r, ↓popI_c, ↓popL_c, ↓popR_c, ↓popN_0, ↓popN_s, catS_n, catS_c, psh_s, psh_n, fldV_n, fldV_s, ↓tgt_e, sw_n, ↓sw_c, ↓lk1_h, ↓lk1_m, ↓atC_h, ↓atC_m, ↓atC_n, ltO_n, ltO_s, updR_eq, updR_ne, gI_0i, gI_0l, gI_s, ltM_iff, List.cons.injEq, Sum.inl.injEq, Sum.inr.injEq, Option.some.injEq, exists_eq_left, exists_eq_left', exists_eq_right, exists_eq_right', exists_and_left, exists_and_right, exists_eq, exists_const, and_assoc, ↓j_M_signOf_0, ↓j_M_signOf_34, ↓j_M_signOf_75, ↓j_M_signOf_81, ↓j_M_signOf_114, ↓f_M_29, ↓f_M_32, ↓f_M_39, ↓f_M_45, ↓f_M_48, ↓f_M_51, List.length_cons, List.length_nil, Nat.zero_add, Nat.reduceAdd, Int.reduceAdd, Int.reduceNeg, Int.reduceToNat, Int.reduceLE, Int.reduceLT, true_and, and_true, Nat.reduceLT, reduceIte, Nat.reduceEqDiff, ne_eq, not_false_eq_true, false_implies, true_implies, Bool.false_eq_true, reduceCtorEq, List.cons_append, List.nil_append, Nat.reduceSub, Nat.reduceLeDiff, Fin.isValue, Int.reduceNatCast', Int.zero_add, Int.add_zero, decide_true, decide_false, implies_true, forall_const, true_or, or_true, or_false, false_or, false_and, and_false, Int.toNat_natCast, ↓oF_37_0, ↓oF_37_1, ↓oF_37_2, ↓oF_37_3, ↓aF_38, ↓oF_37_4, ↓aF_39, ↓oF_37_5, ↓oF_37_6, ↓aF_40, ↓oF_37_7, ↓oF_37_8, ↓aF_41, ↓oF_37_9, ↓aF_42, ↓oF_37_10, ↓aF_43, ↓oF_37_11, ↓aF_44, ↓oF_37_12, ↓aF_45, ↓oF_37_13, ↓aF_46, ↓oF_37_14, ↓aF_47, ↓oF_37_15, ↓aF_48, ↓oF_37_16, ↓aF_49, ↓oF_37_17, ↓oF_37_18, ↓aF_50, ↓oF_37_19, ↓aF_51, ↓oF_37_20, ↓aF_52, ↓oF_37_21, ↓aF_53, ↓oF_37_22, ↓aF_54, ↓oF_37_23, ↓aF_55, ↓oF_37_24, ↓aF_56, ↓oF_37_25, ↓aF_57, ↓oF_37_26, ↓oF_37_27, ↓oF_37_28, ↓aF_58, ↓oF_37_29, ↓aF_59, ↓oF_37_30, ↓aF_60, ↓oF_37_31, ↓aF_61, ↓oF_37_32, ↓oF_37_33, ↓oF_37_34, ↓oF_37_35, ↓aF_62, ↓oF_37_36, ↓oF_37_37, ↓aF_63, ↓oF_37_38, ↓oF_37_39, ↓aF_64, ↓oF_37_40, ↓aF_65, ↓oF_37_41, ↓aF_66, oC_0, oC_1, oC_4, oC_11, oC_16, oC_18, oC_20, oC_23, oC_25, oC_26, oC_29, oC_31, oC_33, oC_35, oC_37, isT_29, isT_31, isT_33, isT_35, isL_16, isL_18, isL_26, ↓e_M_classAt]
    have hnr := nx_r hwr (show ((i.toNat : Nat) : Int) < σ 37 7 by omega)
    have h0 := fun h : ¬ σ 42 i.toNat = -1 => hal (σ 42 i.toNat).toNat (by omega)
    have h1 := fun h : ¬ σ 43 i.toNat = -1 => hal (σ 43 i.toNat).toNat (by omega)
    have hx0 : ∀ e : Nat, (e : Int) < 0 → ¬ Sgn σ e (σ 45 i.toNat) (gaF (nxM σ) (gR σ) i.toNat 0) (gaF (nxM σ) (gR σ) i.toNat 1) := fun e he => by omega
    rw [ca_ga0, ca_ga1]
    clear hQ hal
    (try simp only [rI_iff, rL_iff] at *)
    repeat' (with_reducible (first | assumption | apply And.intro | intro _))
    all_goals first | omega | with_reducible assumption | exact True.intro | skip
    all_goals first
      | omega
      | (by_cases hcc : σ 42 i.toNat = -1
         · exact Or.inl hcc
         · have hs1 := h0 hcc; exact Or.inr (by omega))
      | (by_cases hcc : σ 43 i.toNat = -1
         · exact Or.inl hcc
         · have hs1 := h1 hcc; exact Or.inr (by omega))
      | exact hx0
      | exact hx0 _ (by assumption)
      | trace_state
  · intro L st u hI
    obtain ⟨c, rfl, rfl, hc, hx, hu⟩ := hI
    simp only [↓wpN_go, jmp_e, ↓wp_aload_n0, ↓wp_bipush, ↓wp_getfield, ↓wp_goto, ↓wp_iaload, ↓wp_iastore, ↓wp_icmp_eq, ↓wp_icmp_ge, ↓wp_icmp_ne, ↓wp_iconst, ↓wp_iinc, ↓wp_iload, ↓wp_iload_n1, ↓wp_iload_n2, ↓wp_iload_n3, ↓wp_invokevirtual, ↓wp_ireturn1, ↓wp_istore, ↓wp_istore_n3, wp_nil, ↓ldI_0, ↓ldI_s, ↓ldL_0, ↓ldL_s, ↓ldR_0, ↓ldR_s, sto1_0, sto1_1, sto1_s, sto2_0, sto2_1, sto2_s, isLong_i, isLong_l, isLong_r, ↓popI_c, ↓popL_c, ↓popR_c, ↓popN_0, ↓popN_s, catS_n, catS_c, psh_s, psh_n, fldV_n, fldV_s, ↓tgt_e, sw_n, ↓sw_c, ↓lk1_h, ↓lk1_m, ↓atC_h, ↓atC_m, ↓atC_n, ltO_n, ltO_s, updR_eq, updR_ne, gI_0i, gI_0l, gI_s, ltM_iff, List.cons.injEq, Sum.inl.injEq, Sum.inr.injEq, Option.some.injEq, exists_eq_left, exists_eq_left', exists_eq_right, exists_eq_right', exists_and_left, exists_and_right, exists_eq, exists_const, and_assoc, ↓j_M_signOf_0, ↓j_M_signOf_34, ↓j_M_signOf_75, ↓j_M_signOf_81, ↓j_M_signOf_114, ↓f_M_29, ↓f_M_32, ↓f_M_39, ↓f_M_45, ↓f_M_48, ↓f_M_51, List.length_cons, List.length_nil, Nat.zero_add, Nat.reduceAdd, Int.reduceAdd, Int.reduceNeg, Int.reduceToNat, Int.reduceLE, Int.reduceLT, true_and, and_true, Nat.reduceLT, reduceIte, Nat.reduceEqDiff, ne_eq, not_false_eq_true, false_implies, true_implies, Bool.false_eq_true, reduceCtorEq, List.cons_append, List.nil_append, Nat.reduceSub, Nat.reduceLeDiff, Fin.isValue, Int.reduceNatCast', Int.zero_add, Int.add_zero, decide_true, decide_false, implies_true, forall_const, true_or, or_true, or_false, false_or, false_and, and_false, Int.toNat_natCast, ↓oF_37_0, ↓oF_37_1, ↓oF_37_2, ↓oF_37_3, ↓aF_38, ↓oF_37_4, ↓aF_39, ↓oF_37_5, ↓oF_37_6, ↓aF_40, ↓oF_37_7, ↓oF_37_8, ↓aF_41, ↓oF_37_9, ↓aF_42, ↓oF_37_10, ↓aF_43, ↓oF_37_11, ↓aF_44, ↓oF_37_12, ↓aF_45, ↓oF_37_13, ↓aF_46, ↓oF_37_14, ↓aF_47, ↓oF_37_15, ↓aF_48, ↓oF_37_16, ↓aF_49, ↓oF_37_17, ↓oF_37_18, ↓aF_50, ↓oF_37_19, ↓aF_51, ↓oF_37_20, ↓aF_52, ↓oF_37_21, ↓aF_53, ↓oF_37_22, ↓aF_54, ↓oF_37_23, ↓aF_55, ↓oF_37_24, ↓aF_56, ↓oF_37_25, ↓aF_57, ↓oF_37_26, ↓oF_37_27, ↓oF_37_28, ↓aF_58, ↓oF_37_29, ↓aF_59, ↓oF_37_30, ↓aF_60, ↓oF_37_31, ↓aF_61, ↓oF_37_32, ↓oF_37_33, ↓oF_37_34, ↓oF_37_35, ↓aF_62, ↓oF_37_36, ↓oF_37_37, ↓aF_63, ↓oF_37_38, ↓oF_37_39, ↓aF_64, ↓oF_37_40, ↓aF_65, ↓oF_37_41, ↓aF_66, oC_0, oC_1, oC_4, oC_11, oC_16, oC_18, oC_20, oC_23, oC_25, oC_26, oC_29, oC_31, oC_33, oC_35, oC_37, isT_29, isT_31, isT_33, isT_35, isL_16, isL_18, isL_26, ↓e_M_classAt]
    subst hu
    have hci := hcl i.toNat (by omega)
    have hnr := nx_r hwr (show ((i.toNat : Nat) : Int) < u 37 7 by omega)
    have hgr : ∀ b : Nat, b ≤ 1 → rI (gaF (nxM u) (gR u) i.toNat b) := fun b hb => by
      have h1 := hwr (2 * i.toNat + b) (by omega)
      unfold gaF
      split
      · unfold rI; omega
      · unfold gR
        split
        · unfold rI; omega
        · exact hcl _ (by omega)
    have hg0 := hgr 0 (by omega)
    have hg1 := hgr 1 (by omega)
    have hsc := hsg c.toNat (by omega)
    have q1 : many ≤ c → Q (some (.inl c)) (updR (updR (updR u 47 (up1 (u 47) c.toNat (u 45 i.toNat))) 48 (up1 (u 48) c.toNat (gaF (nxM u) (gR u) i.toNat 0))) 49 (up1 (u 49) c.toNat (gaF (nxM u) (gR u) i.toNat 1))) := fun h => hQ _ _ ⟨hc, hx, fun h1 => by omega, rfl⟩
    have q2 : u 47 c.toNat = u 45 i.toNat → u 48 c.toNat = gaF (nxM u) (gR u) i.toNat 0 → u 49 c.toNat = gaF (nxM u) (gR u) i.toNat 1 → Q (some (.inl c)) (updR (updR (updR u 47 (up1 (u 47) c.toNat (u 45 i.toNat))) 48 (up1 (u 48) c.toNat (gaF (nxM u) (gR u) i.toNat 0))) 49 (up1 (u 49) c.toNat (gaF (nxM u) (gR u) i.toNat 1))) := fun h1 h2 h3 => hQ _ _ ⟨hc, hx, fun _ => ⟨h1, h2, h3⟩, rfl⟩
    have q3 : ¬ (u 47 c.toNat = u 45 i.toNat ∧ u 48 c.toNat = gaF (nxM u) (gR u) i.toNat 0 ∧ u 49 c.toNat = gaF (nxM u) (gR u) i.toNat 1) → ∀ e : Nat, (e : Int) < c + 1 → ¬ Sgn u e (u 45 i.toNat) (gaF (nxM u) (gR u) i.toNat 0) (gaF (nxM u) (gR u) i.toNat 1) := fun h e he => by
      by_cases e2 : e = c.toNat
      · rw [e2]; exact h
      · exact hx e (by omega)
    clear hQ hsg hcl hgr
    generalize gaF (nxM u) (gR u) i.toNat 0 = z0 at *
    generalize gaF (nxM u) (gR u) i.toNat 1 = z1 at *
    (try simp only [rI_iff, rL_iff] at *)
    repeat' (with_reducible (first | assumption | apply And.intro | intro _))
    all_goals first | omega | with_reducible assumption | exact True.intro | skip
    all_goals first
      | omega
      | exact q1 (by omega)
      | exact q2 (by assumption) (by assumption) (by assumption)
      | exact q3 (fun hq1 => absurd hq1.1 (by assumption))
      | exact q3 (fun hq1 => absurd hq1.2.1 (by assumption))
      | exact q3 (fun hq1 => absurd hq1.2.2 (by assumption))
      | exact q3 (fun hq1 => absurd hq1.1 (by assumption)) _ (by assumption)
      | exact q3 (fun hq1 => absurd hq1.2.1 (by assumption)) _ (by assumption)
      | exact q3 (fun hq1 => absurd hq1.2.2 (by assumption)) _ (by assumption)
      | trace_state
