/-! the library's methods; rows of bits -/
theorem up1_fill {f : Nat → Int} {lo i v : Int} (h : lo ≤ i) (h0 : 0 ≤ i) : up1 (fillF f lo i v) i.toNat v = fillF f lo (i + 1) v := by
  funext k
  unfold up1 fillF
  grind
theorem fill_0 {f : Nat → Int} {lo v : Int} : fillF f lo lo v = f := by
  funext k
  unfold fillF
  grind
theorem toNat_s {i : Int} (h : 0 ≤ i) : (i + 1).toNat = i.toNat + 1 := by omega
def s_JM_max : Spec := fun as σ Q => popI as fun x r0 => popI r0 fun y r1 => r1 = [] ∧ (rI x) ∧ (rI y) ∧ Q (some (.inl (max x y))) σ
theorem e_JM_max (x : Int) (y : Int) (σ : St) (Q : Option AV → St → Prop) : s_JM_max [.inl x, .inl y] σ Q = ((rI x) ∧ (rI y) ∧ Q (some (.inl (max x y))) σ) := by
  show ([] = [] ∧ _) = _
  simp only [true_and]
set_option maxHeartbeats 4000000 in
set_option maxRecDepth 20000 in
theorem S_JM_max {l : Launch} : Sat l y_JM_max b_JM_max 2 (some .int) 0 s_JM_max := by
  refine sat_of (Φ := P_JM) (κ := Q_JM) (Γ := []) (rt := 1) (by decide +kernel) (fun _ h => absurd h List.not_mem_nil) Q_JM_ok (fun g hg => absurd hg List.not_mem_nil) (by simp) o_JM_max ?_
  intro as σ Q hh0
  obtain ⟨x, rr0, rfl, hh1⟩ := popI_inv hh0
  obtain ⟨y, rr1, rfl, hh2⟩ := popI_inv hh1
  obtain ⟨hrE, hx, hy, hQ⟩ := hh2
  subst hrE
  clear hh0 hh1
  refine ⟨Nat.le_of_ble_eq_true rfl, [], 14, ?_, cuts0⟩
  · rw [show entL 2 [.inl x, .inl y] = [.inl x, .inl y] from rfl]
    simp only [↓wpN_go, jmp_e, ↓wp_goto, ↓wp_icmp_lt, ↓wp_iload_n0, ↓wp_iload_n1, ↓wp_ireturn1, wp_nil, ↓ldI_0, ↓ldI_s, ↓ldL_0, ↓ldL_s, ↓ldR_0, ↓ldR_s, sto1_0, sto1_1, sto1_s, sto2_0, sto2_1, sto2_s, isLong_i, isLong_l, isLong_r, ↓popI_c, ↓popL_c, ↓popR_c, ↓popN_0, ↓popN_s, catS_n, catS_c, psh_s, psh_n, fldV_n, fldV_s, ↓tgt_e, sw_n, ↓sw_c, ↓lk1_h, ↓lk1_m, ↓atC_h, ↓atC_m, ↓atC_n, ltO_n, ltO_s, updR_eq, updR_ne, gI_0i, gI_0l, gI_s, ltM_iff, List.cons.injEq, Sum.inl.injEq, Sum.inr.injEq, Option.some.injEq, exists_eq_left, exists_eq_left', exists_eq_right, exists_eq_right', exists_and_left, exists_and_right, exists_eq, exists_const, and_assoc, ↓j_JM_max_0, ↓j_JM_max_9, ↓j_JM_max_10, List.length_cons, List.length_nil, Nat.zero_add, Nat.reduceAdd, Int.reduceAdd, Int.reduceNeg, Int.reduceToNat, Int.reduceLE, Int.reduceLT, true_and, and_true, Nat.reduceLT, reduceIte, Nat.reduceEqDiff, ne_eq, not_false_eq_true, false_implies, true_implies, Bool.false_eq_true, reduceCtorEq, List.cons_append, List.nil_append, Nat.reduceSub, Nat.reduceLeDiff, Fin.isValue, Int.reduceNatCast', Int.zero_add, Int.add_zero, decide_true, decide_false, implies_true, forall_const, true_or, or_true, or_false, false_or, false_and, and_false, Int.toNat_natCast, oC_0, oC_1, oC_4, oC_11, oC_16, oC_18, oC_20, oC_23, oC_25, oC_26, oC_29, oC_31, oC_33, oC_35, oC_37, isT_29, isT_31, isT_33, isT_35, isL_16, isL_18, isL_26]
    grind
def s_JM_min : Spec := fun as σ Q => popI as fun x r0 => popI r0 fun y r1 => r1 = [] ∧ (rI x) ∧ (rI y) ∧ Q (some (.inl (min x y))) σ
theorem e_JM_min (x : Int) (y : Int) (σ : St) (Q : Option AV → St → Prop) : s_JM_min [.inl x, .inl y] σ Q = ((rI x) ∧ (rI y) ∧ Q (some (.inl (min x y))) σ) := by
  show ([] = [] ∧ _) = _
  simp only [true_and]
set_option maxHeartbeats 4000000 in
set_option maxRecDepth 20000 in
theorem S_JM_min {l : Launch} : Sat l y_JM_min b_JM_min 2 (some .int) 0 s_JM_min := by
  refine sat_of (Φ := P_JM) (κ := Q_JM) (Γ := []) (rt := 1) (by decide +kernel) (fun _ h => absurd h List.not_mem_nil) Q_JM_ok (fun g hg => absurd hg List.not_mem_nil) (by simp) o_JM_min ?_
  intro as σ Q hh0
  obtain ⟨x, rr0, rfl, hh1⟩ := popI_inv hh0
  obtain ⟨y, rr1, rfl, hh2⟩ := popI_inv hh1
  obtain ⟨hrE, hx, hy, hQ⟩ := hh2
  subst hrE
  clear hh0 hh1
  refine ⟨Nat.le_of_ble_eq_true rfl, [], 14, ?_, cuts0⟩
  · rw [show entL 2 [.inl x, .inl y] = [.inl x, .inl y] from rfl]
    simp only [↓wpN_go, jmp_e, ↓wp_goto, ↓wp_icmp_gt, ↓wp_iload_n0, ↓wp_iload_n1, ↓wp_ireturn1, wp_nil, ↓ldI_0, ↓ldI_s, ↓ldL_0, ↓ldL_s, ↓ldR_0, ↓ldR_s, sto1_0, sto1_1, sto1_s, sto2_0, sto2_1, sto2_s, isLong_i, isLong_l, isLong_r, ↓popI_c, ↓popL_c, ↓popR_c, ↓popN_0, ↓popN_s, catS_n, catS_c, psh_s, psh_n, fldV_n, fldV_s, ↓tgt_e, sw_n, ↓sw_c, ↓lk1_h, ↓lk1_m, ↓atC_h, ↓atC_m, ↓atC_n, ltO_n, ltO_s, updR_eq, updR_ne, gI_0i, gI_0l, gI_s, ltM_iff, List.cons.injEq, Sum.inl.injEq, Sum.inr.injEq, Option.some.injEq, exists_eq_left, exists_eq_left', exists_eq_right, exists_eq_right', exists_and_left, exists_and_right, exists_eq, exists_const, and_assoc, ↓j_JM_min_0, ↓j_JM_min_9, ↓j_JM_min_10, List.length_cons, List.length_nil, Nat.zero_add, Nat.reduceAdd, Int.reduceAdd, Int.reduceNeg, Int.reduceToNat, Int.reduceLE, Int.reduceLT, true_and, and_true, Nat.reduceLT, reduceIte, Nat.reduceEqDiff, ne_eq, not_false_eq_true, false_implies, true_implies, Bool.false_eq_true, reduceCtorEq, List.cons_append, List.nil_append, Nat.reduceSub, Nat.reduceLeDiff, Fin.isValue, Int.reduceNatCast', Int.zero_add, Int.add_zero, decide_true, decide_false, implies_true, forall_const, true_or, or_true, or_false, false_or, false_and, and_false, Int.toNat_natCast, oC_0, oC_1, oC_4, oC_11, oC_16, oC_18, oC_20, oC_23, oC_25, oC_26, oC_29, oC_31, oC_33, oC_35, oC_37, isT_29, isT_31, isT_33, isT_35, isL_16, isL_18, isL_26]
    grind
def s_JA_fillI : Spec := fun as σ Q => popR as fun a r0 => popI r0 fun v r1 => r1 = [] ∧ aF a 0 fun n => Q none (updR σ a (fillF (σ a) 0 n v))
theorem e_JA_fillI (a : Nat) (v : Int) (σ : St) (Q : Option AV → St → Prop) : s_JA_fillI [.inr (.inr (some a)), .inl v] σ Q = (aF a 0 fun n => Q none (updR σ a (fillF (σ a) 0 n v))) := by
  show ([] = [] ∧ _) = _
  simp only [true_and]
set_option maxHeartbeats 4000000 in
set_option maxRecDepth 20000 in
theorem S_JA_fillI {l : Launch} : Sat l y_JA_fillI b_JA_fillI 4 none 0 s_JA_fillI := by
  refine sat_of (Φ := P_JA) (κ := Q_JA) (Γ := []) (rt := 0) (by decide +kernel) (fun _ h => absurd h List.not_mem_nil) Q_JA_ok (fun g hg => absurd hg List.not_mem_nil) (by simp) o_JA_fillI ?_
  intro as σ Q hh0
  obtain ⟨a, rr0, rfl, hh1⟩ := popR_inv hh0
  obtain ⟨v, rr1, rfl, hh2⟩ := popI_inv hh1
  obtain ⟨hrE, hQ⟩ := hh2
  subst hrE
  clear hh0 hh1
  obtain ⟨n, hn, hQ⟩ := aF_inv hQ
  have hle := SH_le hn
  refine ⟨Nat.le_of_ble_eq_true rfl, [(5, mkC (fun L st u => ∃ (i n2 : Int), L = [.inr (.inr (some a)), .inl v, .inl i, .inl n2] ∧ st = [] ∧ (0 ≤ i ∧ i ≤ n) ∧ (n2 = n) ∧ (u = updR σ a (fillF (σ a) 0 i v))) (fun L st u => ((n - gI L 2).toNat, 0, 0)))], 14, ?_, cuts1 ?_ (cuts0)⟩
  · rw [show entL 4 [.inr (.inr (some a)), .inl v] = [.inr (.inr (some a)), .inl v, .inr (.inr none), .inr (.inr none)] from rfl]
    simp only [↓wpN_go, jmp_e, ↓wp_aload_n0, ↓wp_arraylength, ↓wp_goto, ↓wp_iastore, ↓wp_icmp_ge, ↓wp_iconst, ↓wp_iinc, ↓wp_iload_n1, ↓wp_iload_n2, ↓wp_iload_n3, ↓wp_istore_n2, ↓wp_istore_n3, ↓wp_return0, wp_nil, ↓ldI_0, ↓ldI_s, ↓ldL_0, ↓ldL_s, ↓ldR_0, ↓ldR_s, sto1_0, sto1_1, sto1_s, sto2_0, sto2_1, sto2_s, isLong_i, isLong_l, isLong_r, ↓popI_c, ↓popL_c, ↓popR_c, ↓popN_0, ↓popN_s, catS_n, catS_c, psh_s, psh_n, fldV_n, fldV_s, ↓tgt_e, sw_n, ↓sw_c, ↓lk1_h, ↓lk1_m, ↓atC_h, ↓atC_m, ↓atC_n, ltO_n, ltO_s, updR_eq, updR_ne, gI_0i, gI_0l, gI_s, ltM_iff, List.cons.injEq, Sum.inl.injEq, Sum.inr.injEq, Option.some.injEq, exists_eq_left, exists_eq_left', exists_eq_right, exists_eq_right', exists_and_left, exists_and_right, exists_eq, exists_const, and_assoc, ↓j_JA_fillI_0, ↓j_JA_fillI_5, ↓j_JA_fillI_20, List.length_cons, List.length_nil, Nat.zero_add, Nat.reduceAdd, Int.reduceAdd, Int.reduceNeg, Int.reduceToNat, Int.reduceLE, Int.reduceLT, true_and, and_true, Nat.reduceLT, reduceIte, Nat.reduceEqDiff, ne_eq, not_false_eq_true, false_implies, true_implies, Bool.false_eq_true, reduceCtorEq, List.cons_append, List.nil_append, Nat.reduceSub, Nat.reduceLeDiff, Fin.isValue, Int.reduceNatCast', Int.zero_add, Int.add_zero, decide_true, decide_false, implies_true, forall_const, true_or, or_true, or_false, false_or, false_and, and_false, Int.toNat_natCast, oC_0, oC_1, oC_4, oC_11, oC_16, oC_18, oC_20, oC_23, oC_25, oC_26, oC_29, oC_31, oC_33, oC_35, oC_37, isT_29, isT_31, isT_33, isT_35, isL_16, isL_18, isL_26, ↓aF_of hn, ↓aN_of hn (Or.inl rfl)]
    rw [fill_0, updR_self]
    grind
  · intro L st u hI
    obtain ⟨i, n2, rfl, rfl, hi, h2, hu⟩ := hI
    simp only [↓wpN_go, jmp_e, ↓wp_aload_n0, ↓wp_arraylength, ↓wp_goto, ↓wp_iastore, ↓wp_icmp_ge, ↓wp_iconst, ↓wp_iinc, ↓wp_iload_n1, ↓wp_iload_n2, ↓wp_iload_n3, ↓wp_istore_n2, ↓wp_istore_n3, ↓wp_return0, wp_nil, ↓ldI_0, ↓ldI_s, ↓ldL_0, ↓ldL_s, ↓ldR_0, ↓ldR_s, sto1_0, sto1_1, sto1_s, sto2_0, sto2_1, sto2_s, isLong_i, isLong_l, isLong_r, ↓popI_c, ↓popL_c, ↓popR_c, ↓popN_0, ↓popN_s, catS_n, catS_c, psh_s, psh_n, fldV_n, fldV_s, ↓tgt_e, sw_n, ↓sw_c, ↓lk1_h, ↓lk1_m, ↓atC_h, ↓atC_m, ↓atC_n, ltO_n, ltO_s, updR_eq, updR_ne, gI_0i, gI_0l, gI_s, ltM_iff, List.cons.injEq, Sum.inl.injEq, Sum.inr.injEq, Option.some.injEq, exists_eq_left, exists_eq_left', exists_eq_right, exists_eq_right', exists_and_left, exists_and_right, exists_eq, exists_const, and_assoc, ↓j_JA_fillI_0, ↓j_JA_fillI_5, ↓j_JA_fillI_20, List.length_cons, List.length_nil, Nat.zero_add, Nat.reduceAdd, Int.reduceAdd, Int.reduceNeg, Int.reduceToNat, Int.reduceLE, Int.reduceLT, true_and, and_true, Nat.reduceLT, reduceIte, Nat.reduceEqDiff, ne_eq, not_false_eq_true, false_implies, true_implies, Bool.false_eq_true, reduceCtorEq, List.cons_append, List.nil_append, Nat.reduceSub, Nat.reduceLeDiff, Fin.isValue, Int.reduceNatCast', Int.zero_add, Int.add_zero, decide_true, decide_false, implies_true, forall_const, true_or, or_true, or_false, false_or, false_and, and_false, Int.toNat_natCast, oC_0, oC_1, oC_4, oC_11, oC_16, oC_18, oC_20, oC_23, oC_25, oC_26, oC_29, oC_31, oC_33, oC_35, oC_37, isT_29, isT_31, isT_33, isT_35, isL_16, isL_18, isL_26, ↓aF_of hn, ↓aN_of hn (Or.inl rfl)]
    subst hu h2
    simp only [updR_eq, updR_twice, up1_fill hi.1 hi.1]
    grind [rI_iff]
def s_JA_rangeCheck : Spec := fun as σ Q => popI as fun n r0 => popI r0 fun x r1 => popI r1 fun y r2 => r2 = [] ∧ (0 ≤ x) ∧ (x ≤ y) ∧ (y ≤ n) ∧ (n ≤ 2147483647) ∧ Q none σ
theorem e_JA_rangeCheck (n : Int) (x : Int) (y : Int) (σ : St) (Q : Option AV → St → Prop) : s_JA_rangeCheck [.inl n, .inl x, .inl y] σ Q = ((0 ≤ x) ∧ (x ≤ y) ∧ (y ≤ n) ∧ (n ≤ 2147483647) ∧ Q none σ) := by
  show ([] = [] ∧ _) = _
  simp only [true_and]
set_option maxHeartbeats 4000000 in
set_option maxRecDepth 20000 in
theorem S_JA_rangeCheck {l : Launch} : Sat l y_JA_rangeCheck b_JA_rangeCheck 3 none 0 s_JA_rangeCheck := by
  refine sat_of (Φ := P_JA) (κ := Q_JA) (Γ := []) (rt := 0) (by decide +kernel) (fun _ h => absurd h List.not_mem_nil) Q_JA_ok (fun g hg => absurd hg List.not_mem_nil) (by simp) o_JA_rangeCheck ?_
  intro as σ Q hh0
  obtain ⟨n, rr0, rfl, hh1⟩ := popI_inv hh0
  obtain ⟨x, rr1, rfl, hh2⟩ := popI_inv hh1
  obtain ⟨y, rr2, rfl, hh3⟩ := popI_inv hh2
  obtain ⟨hrE, h1, h2, h3, h4, hQ⟩ := hh3
  subst hrE
  clear hh0 hh1 hh2
  refine ⟨Nat.le_of_ble_eq_true rfl, [], 14, ?_, cuts0⟩
  · rw [show entL 3 [.inl n, .inl x, .inl y] = [.inl n, .inl x, .inl y] from rfl]
    simp only [↓wpN_go, jmp_e, ↓wp_dup, ↓wp_icmp_le, ↓wp_if_ge, ↓wp_iload_n0, ↓wp_iload_n1, ↓wp_iload_n2, ↓wp_invokevirtual, ↓wp_ldc, ↓wp_return0, wp_nil, ↓ldI_0, ↓ldI_s, ↓ldL_0, ↓ldL_s, ↓ldR_0, ↓ldR_s, sto1_0, sto1_1, sto1_s, sto2_0, sto2_1, sto2_s, isLong_i, isLong_l, isLong_r, ↓popI_c, ↓popL_c, ↓popR_c, ↓popN_0, ↓popN_s, catS_n, catS_c, psh_s, psh_n, fldV_n, fldV_s, ↓tgt_e, sw_n, ↓sw_c, ↓lk1_h, ↓lk1_m, ↓atC_h, ↓atC_m, ↓atC_n, ltO_n, ltO_s, updR_eq, updR_ne, gI_0i, gI_0l, gI_s, ltM_iff, List.cons.injEq, Sum.inl.injEq, Sum.inr.injEq, Option.some.injEq, exists_eq_left, exists_eq_left', exists_eq_right, exists_eq_right', exists_and_left, exists_and_right, exists_eq, exists_const, and_assoc, ↓j_JA_rangeCheck_0, ↓j_JA_rangeCheck_46, ↓j_JA_rangeCheck_59, ↓j_JA_rangeCheck_73, List.length_cons, List.length_nil, Nat.zero_add, Nat.reduceAdd, Int.reduceAdd, Int.reduceNeg, Int.reduceToNat, Int.reduceLE, Int.reduceLT, true_and, and_true, Nat.reduceLT, reduceIte, Nat.reduceEqDiff, ne_eq, not_false_eq_true, false_implies, true_implies, Bool.false_eq_true, reduceCtorEq, List.cons_append, List.nil_append, Nat.reduceSub, Nat.reduceLeDiff, Fin.isValue, Int.reduceNatCast', Int.zero_add, Int.add_zero, decide_true, decide_false, implies_true, forall_const, true_or, or_true, or_false, false_or, false_and, and_false, Int.toNat_natCast, oC_0, oC_1, oC_4, oC_11, oC_16, oC_18, oC_20, oC_23, oC_25, oC_26, oC_29, oC_31, oC_33, oC_35, oC_37, isT_29, isT_31, isT_33, isT_35, isL_16, isL_18, isL_26]
    grind [rI_iff]
def s_JA_fillL : Spec := fun as σ Q => popR as fun a r0 => popI r0 fun lo r1 => popI r1 fun hi r2 => popL r2 fun v r3 => r3 = [] ∧ (0 ≤ lo) ∧ (lo ≤ hi) ∧ aF a 1 fun n => hi ≤ (n : Int) ∧ Q none (updR σ a (fillF (σ a) lo hi v))
theorem e_JA_fillL (a : Nat) (lo : Int) (hi : Int) (v : Int) (σ : St) (Q : Option AV → St → Prop) : s_JA_fillL [.inr (.inr (some a)), .inl lo, .inl hi, .inr (.inl v)] σ Q = ((0 ≤ lo) ∧ (lo ≤ hi) ∧ aF a 1 fun n => hi ≤ (n : Int) ∧ Q none (updR σ a (fillF (σ a) lo hi v))) := by
  show ([] = [] ∧ _) = _
  simp only [true_and]
set_option maxHeartbeats 4000000 in
set_option maxRecDepth 20000 in
theorem S_JA_fillL {l : Launch} : Sat l y_JA_fillL b_JA_fillL 6 none 1 s_JA_fillL := by
  refine sat_of (Φ := P_JA) (κ := Q_JA) (Γ := [(13, 0, 3, s_JA_rangeCheck)]) (rt := 0) (by decide +kernel) (fun _ h => absurd h List.not_mem_nil) Q_JA_ok (by
    refine List.forall_mem_cons.mpr ⟨?_, fun _ h => absurd h List.not_mem_nil⟩
    · exact m_JA_rangeCheck S_JA_rangeCheck (by decide) l_JA_13) (by simp) o_JA_fillL ?_
  intro as σ Q hh0
  obtain ⟨a, rr0, rfl, hh1⟩ := popR_inv hh0
  obtain ⟨lo, rr1, rfl, hh2⟩ := popI_inv hh1
  obtain ⟨hi, rr2, rfl, hh3⟩ := popI_inv hh2
  obtain ⟨v, rr3, rfl, hh4⟩ := popL_inv hh3
  obtain ⟨hrE, h1, h2, hQ⟩ := hh4
  subst hrE
  clear hh0 hh1 hh2 hh3
  obtain ⟨n, hn, h3, hQ⟩ := aF_inv hQ
  have hle := SH_le hn
  refine ⟨Nat.le_of_ble_eq_true rfl, [(10, mkC (fun L st u => ∃ (i : Int), L = [.inr (.inr (some a)), .inl lo, .inl hi, .inr (.inl v), .inr (.inr none), .inl i] ∧ st = [] ∧ (lo ≤ i ∧ i ≤ hi) ∧ (u = updR σ a (fillF (σ a) lo i v))) (fun L st u => ((hi - gI L 5).toNat, 0, 0)))], 14, ?_, cuts1 ?_ (cuts0)⟩
  · rw [show entL 6 [.inr (.inr (some a)), .inl lo, .inl hi, .inr (.inl v)] = [.inr (.inr (some a)), .inl lo, .inl hi, .inr (.inl v), .inr (.inr none), .inr (.inr none)] from rfl]
    simp only [↓wpN_go, jmp_e, ↓wp_aload_n0, ↓wp_arraylength, ↓wp_goto, ↓wp_icmp_ge, ↓wp_iinc, ↓wp_iload, ↓wp_iload_n1, ↓wp_iload_n2, ↓wp_invokestatic, ↓wp_istore, ↓wp_lastore, ↓wp_lload_n3, ↓wp_return0, wp_nil, ↓ldI_0, ↓ldI_s, ↓ldL_0, ↓ldL_s, ↓ldR_0, ↓ldR_s, sto1_0, sto1_1, sto1_s, sto2_0, sto2_1, sto2_s, isLong_i, isLong_l, isLong_r, ↓popI_c, ↓popL_c, ↓popR_c, ↓popN_0, ↓popN_s, catS_n, catS_c, psh_s, psh_n, fldV_n, fldV_s, ↓tgt_e, sw_n, ↓sw_c, ↓lk1_h, ↓lk1_m, ↓atC_h, ↓atC_m, ↓atC_n, ltO_n, ltO_s, updR_eq, updR_ne, gI_0i, gI_0l, gI_s, ltM_iff, List.cons.injEq, Sum.inl.injEq, Sum.inr.injEq, Option.some.injEq, exists_eq_left, exists_eq_left', exists_eq_right, exists_eq_right', exists_and_left, exists_and_right, exists_eq, exists_const, and_assoc, ↓j_JA_fillL_0, ↓j_JA_fillL_10, ↓j_JA_fillL_27, List.length_cons, List.length_nil, Nat.zero_add, Nat.reduceAdd, Int.reduceAdd, Int.reduceNeg, Int.reduceToNat, Int.reduceLE, Int.reduceLT, true_and, and_true, Nat.reduceLT, reduceIte, Nat.reduceEqDiff, ne_eq, not_false_eq_true, false_implies, true_implies, Bool.false_eq_true, reduceCtorEq, List.cons_append, List.nil_append, Nat.reduceSub, Nat.reduceLeDiff, Fin.isValue, Int.reduceNatCast', Int.zero_add, Int.add_zero, decide_true, decide_false, implies_true, forall_const, true_or, or_true, or_false, false_or, false_and, and_false, Int.toNat_natCast, oC_0, oC_1, oC_4, oC_11, oC_16, oC_18, oC_20, oC_23, oC_25, oC_26, oC_29, oC_31, oC_33, oC_35, oC_37, isT_29, isT_31, isT_33, isT_35, isL_16, isL_18, isL_26, ↓aF_of hn, ↓aN_of hn (Or.inr (Or.inl rfl)), ↓e_JA_rangeCheck]
    rw [fill_0, updR_self]
    grind
  · intro L st u hI
    obtain ⟨i, rfl, rfl, hi, hu⟩ := hI
    simp only [↓wpN_go, jmp_e, ↓wp_aload_n0, ↓wp_arraylength, ↓wp_goto, ↓wp_icmp_ge, ↓wp_iinc, ↓wp_iload, ↓wp_iload_n1, ↓wp_iload_n2, ↓wp_invokestatic, ↓wp_istore, ↓wp_lastore, ↓wp_lload_n3, ↓wp_return0, wp_nil, ↓ldI_0, ↓ldI_s, ↓ldL_0, ↓ldL_s, ↓ldR_0, ↓ldR_s, sto1_0, sto1_1, sto1_s, sto2_0, sto2_1, sto2_s, isLong_i, isLong_l, isLong_r, ↓popI_c, ↓popL_c, ↓popR_c, ↓popN_0, ↓popN_s, catS_n, catS_c, psh_s, psh_n, fldV_n, fldV_s, ↓tgt_e, sw_n, ↓sw_c, ↓lk1_h, ↓lk1_m, ↓atC_h, ↓atC_m, ↓atC_n, ltO_n, ltO_s, updR_eq, updR_ne, gI_0i, gI_0l, gI_s, ltM_iff, List.cons.injEq, Sum.inl.injEq, Sum.inr.injEq, Option.some.injEq, exists_eq_left, exists_eq_left', exists_eq_right, exists_eq_right', exists_and_left, exists_and_right, exists_eq, exists_const, and_assoc, ↓j_JA_fillL_0, ↓j_JA_fillL_10, ↓j_JA_fillL_27, List.length_cons, List.length_nil, Nat.zero_add, Nat.reduceAdd, Int.reduceAdd, Int.reduceNeg, Int.reduceToNat, Int.reduceLE, Int.reduceLT, true_and, and_true, Nat.reduceLT, reduceIte, Nat.reduceEqDiff, ne_eq, not_false_eq_true, false_implies, true_implies, Bool.false_eq_true, reduceCtorEq, List.cons_append, List.nil_append, Nat.reduceSub, Nat.reduceLeDiff, Fin.isValue, Int.reduceNatCast', Int.zero_add, Int.add_zero, decide_true, decide_false, implies_true, forall_const, true_or, or_true, or_false, false_or, false_and, and_false, Int.toNat_natCast, oC_0, oC_1, oC_4, oC_11, oC_16, oC_18, oC_20, oC_23, oC_25, oC_26, oC_29, oC_31, oC_33, oC_35, oC_37, isT_29, isT_31, isT_33, isT_35, isL_16, isL_18, isL_26, ↓aF_of hn, ↓aN_of hn (Or.inr (Or.inl rfl)), ↓e_JA_rangeCheck]
    subst hu
    have h0 : 0 ≤ i := by omega
    simp only [updR_eq, updR_twice, up1_fill hi.1 h0]
    grind [rI_iff]
