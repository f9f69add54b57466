def isT (j : Nat) : Prop := SH[j]? = some (.inl (1, [some (j + 1), none])) ∧ SH[j + 1]? = some (.inr (0, 600))
theorem isT.f0 {j : Nat} (h : isT j) (f : Option Nat → Prop) : oF j 1 0 f = f (some (j + 1)) := oF_of h.1 rfl
theorem isT.f1 {j : Nat} (h : isT j) (f : Option Nat → Prop) : oF j 1 1 f = f none := oF_of h.1 rfl
theorem isT.c {j : Nat} (h : isT j) : oC j 1 = True := oC_of h.1
theorem isT.a {j : Nat} (h : isT j) (f : Nat → Prop) : aF (j + 1) 0 f = f 600 := aF_of h.2
theorem updR_o1 (σ : St) (j : Nat) (f : Nat → Int) : updR σ j f (j + 1) = σ (j + 1) := updR_ne _ _ _ _ (by omega)
theorem updR_o2 (σ : St) (j : Nat) (f : Nat → Int) : updR σ (j + 1) f j = σ j := updR_ne _ _ _ _ (by omega)
def leanF (f : Nat → Int) : Nat → Int
  | 0 => 0
  | n + 1 => leanF f n + (2 * f n - 1)
def sqF (f : Nat → Int) : Nat → Int
  | 0 => 0
  | n + 1 => sqF f n + leanF f (n + 1) * leanF f (n + 1)
def s_T_at : Spec := fun as σ Q => popR as fun o r0 => popI r0 fun i r1 => r1 = [] ∧ (isT o) ∧ (rI i) ∧ (0 ≤ σ o 1 ∧ σ o 1 ≤ 600) ∧ Q (some (.inl (if 0 ≤ i ∧ i < σ o 1 then σ (o + 1) i.toNat else -2))) σ
theorem e_T_at (o : Nat) (i : Int) (σ : St) (Q : Option AV → St → Prop) : s_T_at [.inr (.inr (some o)), .inl i] σ Q = ((isT o) ∧ (rI i) ∧ (0 ≤ σ o 1 ∧ σ o 1 ≤ 600) ∧ Q (some (.inl (if 0 ≤ i ∧ i < σ o 1 then σ (o + 1) i.toNat else -2))) σ) := by
  show ([] = [] ∧ _) = _
  simp only [true_and]
set_option maxHeartbeats 4000000 in
set_option maxRecDepth 20000 in
theorem S_T_at {l : Launch} : Sat l y_T_at b_T_at 2 (some .int) 0 s_T_at := by
  refine sat_of (Φ := P_T) (κ := Q_T) (Γ := []) (rt := 1) (by decide +kernel) P_T_ok Q_T_ok (fun g hg => absurd hg List.not_mem_nil) (by simp) o_T_at ?_
  intro as σ Q hh0
  obtain ⟨o, rr0, rfl, hh1⟩ := popR_inv hh0
  obtain ⟨i, rr1, rfl, hh2⟩ := popI_inv hh1
  obtain ⟨hr, hT, hi, hs, hQ⟩ := hh2
  subst hr
  clear hh0 hh1
  refine ⟨Nat.le_of_ble_eq_true rfl, [], 14, ?_, cuts0⟩
  · rw [show entL 2 [.inr (.inr (some o)), .inl i] = [.inr (.inr (some o)), .inl i] from rfl]
    simp only [↓wpN_go, jmp_e, ↓wp_aload_n0, ↓wp_bipush, ↓wp_getfield, ↓wp_goto, ↓wp_iaload, ↓wp_icmp_ge, ↓wp_if_lt, ↓wp_iload_n1, ↓wp_ireturn1, wp_nil, ↓ldI_0, ↓ldI_s, ↓ldL_0, ↓ldL_s, ↓ldR_0, ↓ldR_s, sto1_0, sto1_1, sto1_s, sto2_0, sto2_1, sto2_s, isLong_i, isLong_l, isLong_r, ↓popI_c, ↓popL_c, ↓popR_c, ↓popN_0, ↓popN_s, catS_n, catS_c, psh_s, psh_n, fldV_n, fldV_s, ↓tgt_e, sw_n, ↓sw_c, ↓lk1_h, ↓lk1_m, ↓atC_h, ↓atC_m, ↓atC_n, ltO_n, ltO_s, updR_eq, updR_ne, gI_0i, gI_0l, gI_s, ltM_iff, List.cons.injEq, Sum.inl.injEq, Sum.inr.injEq, Option.some.injEq, exists_eq_left, exists_eq_left', exists_eq_right, exists_eq_right', exists_and_left, exists_and_right, exists_eq, exists_const, and_assoc, ↓j_T_at_0, ↓j_T_at_21, ↓j_T_at_23, ↓f_T_15, ↓f_T_9, List.length_cons, List.length_nil, Nat.zero_add, Nat.reduceAdd, Int.reduceAdd, Int.reduceNeg, Int.reduceToNat, Int.reduceLE, Int.reduceLT, true_and, and_true, Nat.reduceLT, reduceIte, Nat.reduceEqDiff, ne_eq, not_false_eq_true, false_implies, true_implies, Bool.false_eq_true, reduceCtorEq, List.cons_append, List.nil_append, Nat.reduceSub, Nat.reduceLeDiff, Fin.isValue, Int.reduceNatCast', Int.zero_add, Int.add_zero, decide_true, decide_false, implies_true, forall_const, Int.toNat_natCast, ↓hT.f0, ↓hT.f1, ↓hT.a, hT.c, updR_o1, updR_o2]
    grind [rI_iff]
def s_T_leanSquares : Spec := fun as σ Q => popR as fun o r0 => r0 = [] ∧ (isT o) ∧ (0 ≤ σ o 1 ∧ σ o 1 ≤ 600) ∧ Q (some (.inl (sqF (σ (o + 1)) (σ o 1).toNat))) σ
theorem e_T_leanSquares (o : Nat) (σ : St) (Q : Option AV → St → Prop) : s_T_leanSquares [.inr (.inr (some o))] σ Q = ((isT o) ∧ (0 ≤ σ o 1 ∧ σ o 1 ≤ 600) ∧ Q (some (.inl (sqF (σ (o + 1)) (σ o 1).toNat))) σ) := by
  show ([] = [] ∧ _) = _
  simp only [true_and]
set_option maxHeartbeats 4000000 in
set_option maxRecDepth 20000 in
theorem S_T_leanSquares {l : Launch} : Sat l y_T_leanSquares b_T_leanSquares 4 (some .int) 0 s_T_leanSquares := by
  refine sat_of (Φ := P_T) (κ := Q_T) (Γ := []) (rt := 1) (by decide +kernel) P_T_ok Q_T_ok (fun g hg => absurd hg List.not_mem_nil) (by simp) o_T_leanSquares ?_
  intro as σ Q hh0
  obtain ⟨o, rr0, rfl, hh1⟩ := popR_inv hh0
  obtain ⟨hr, hT, hs, hQ⟩ := hh1
  subst hr
  clear hh0
  refine ⟨Nat.le_of_ble_eq_true rfl, [(6, mkC (fun L st u => ∃ (x y i : Int), L = [.inr (.inr (some o)), .inl x, .inl y, .inl i] ∧ st = [] ∧ (0 ≤ i ∧ i ≤ σ o 1) ∧ (x = leanF (σ (o + 1)) i.toNat) ∧ (y = sqF (σ (o + 1)) i.toNat) ∧ (u = σ)) (fun L st u => ((σ o 1 - gI L 3).toNat, 0, 0)))], 14, ?_, cuts1 ?_ (cuts0)⟩
  · rw [show entL 4 [.inr (.inr (some o))] = [.inr (.inr (some o)), .inr (.inr none), .inr (.inr none), .inr (.inr none)] from rfl]
    simp only [↓wpN_go, jmp_e, ↓wp_aload_n0, ↓wp_getfield, ↓wp_goto, ↓wp_iadd, ↓wp_iaload, ↓wp_icmp_ge, ↓wp_iconst, ↓wp_iinc, ↓wp_iload_n1, ↓wp_iload_n2, ↓wp_iload_n3, ↓wp_imul, ↓wp_ireturn1, ↓wp_istore_n1, ↓wp_istore_n2, ↓wp_istore_n3, ↓wp_isub, wp_nil, ↓ldI_0, ↓ldI_s, ↓ldL_0, ↓ldL_s, ↓ldR_0, ↓ldR_s, sto1_0, sto1_1, sto1_s, sto2_0, sto2_1, sto2_s, isLong_i, isLong_l, isLong_r, ↓popI_c, ↓popL_c, ↓popR_c, ↓popN_0, ↓popN_s, catS_n, catS_c, psh_s, psh_n, fldV_n, fldV_s, ↓tgt_e, sw_n, ↓sw_c, ↓lk1_h, ↓lk1_m, ↓atC_h, ↓atC_m, ↓atC_n, ltO_n, ltO_s, updR_eq, updR_ne, gI_0i, gI_0l, gI_s, ltM_iff, List.cons.injEq, Sum.inl.injEq, Sum.inr.injEq, Option.some.injEq, exists_eq_left, exists_eq_left', exists_eq_right, exists_eq_right', exists_and_left, exists_and_right, exists_eq, exists_const, and_assoc, ↓j_T_leanSquares_0, ↓j_T_leanSquares_6, ↓j_T_leanSquares_39, ↓f_T_15, ↓f_T_9, List.length_cons, List.length_nil, Nat.zero_add, Nat.reduceAdd, Int.reduceAdd, Int.reduceNeg, Int.reduceToNat, Int.reduceLE, Int.reduceLT, true_and, and_true, Nat.reduceLT, reduceIte, Nat.reduceEqDiff, ne_eq, not_false_eq_true, false_implies, true_implies, Bool.false_eq_true, reduceCtorEq, List.cons_append, List.nil_append, Nat.reduceSub, Nat.reduceLeDiff, Fin.isValue, Int.reduceNatCast', Int.zero_add, Int.add_zero, decide_true, decide_false, implies_true, forall_const, Int.toNat_natCast, ↓hT.f0, ↓hT.f1, ↓hT.a, hT.c, updR_o1, updR_o2]
    grind [leanF, sqF]
  · intro L st u hI
    obtain ⟨x, y, i, rfl, rfl, hi, hx, hy, hu⟩ := hI
    simp only [↓wpN_go, jmp_e, ↓wp_aload_n0, ↓wp_getfield, ↓wp_goto, ↓wp_iadd, ↓wp_iaload, ↓wp_icmp_ge, ↓wp_iconst, ↓wp_iinc, ↓wp_iload_n1, ↓wp_iload_n2, ↓wp_iload_n3, ↓wp_imul, ↓wp_ireturn1, ↓wp_istore_n1, ↓wp_istore_n2, ↓wp_istore_n3, ↓wp_isub, wp_nil, ↓ldI_0, ↓ldI_s, ↓ldL_0, ↓ldL_s, ↓ldR_0, ↓ldR_s, sto1_0, sto1_1, sto1_s, sto2_0, sto2_1, sto2_s, isLong_i, isLong_l, isLong_r, ↓popI_c, ↓popL_c, ↓popR_c, ↓popN_0, ↓popN_s, catS_n, catS_c, psh_s, psh_n, fldV_n, fldV_s, ↓tgt_e, sw_n, ↓sw_c, ↓lk1_h, ↓lk1_m, ↓atC_h, ↓atC_m, ↓atC_n, ltO_n, ltO_s, updR_eq, updR_ne, gI_0i, gI_0l, gI_s, ltM_iff, List.cons.injEq, Sum.inl.injEq, Sum.inr.injEq, Option.some.injEq, exists_eq_left, exists_eq_left', exists_eq_right, exists_eq_right', exists_and_left, exists_and_right, exists_eq, exists_const, and_assoc, ↓j_T_leanSquares_0, ↓j_T_leanSquares_6, ↓j_T_leanSquares_39, ↓f_T_15, ↓f_T_9, List.length_cons, List.length_nil, Nat.zero_add, Nat.reduceAdd, Int.reduceAdd, Int.reduceNeg, Int.reduceToNat, Int.reduceLE, Int.reduceLT, true_and, and_true, Nat.reduceLT, reduceIte, Nat.reduceEqDiff, ne_eq, not_false_eq_true, false_implies, true_implies, Bool.false_eq_true, reduceCtorEq, List.cons_append, List.nil_append, Nat.reduceSub, Nat.reduceLeDiff, Fin.isValue, Int.reduceNatCast', Int.zero_add, Int.add_zero, decide_true, decide_false, implies_true, forall_const, Int.toNat_natCast, ↓hT.f0, ↓hT.f1, ↓hT.a, hT.c, updR_o1, updR_o2]
    subst hu
    have e : (i + 1).toNat = i.toNat + 1 := by omega
    rw [e]
    grind [rI_iff, leanF, sqF]
