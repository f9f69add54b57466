/-! the reference: how many rows; ways -/
def oneF : Nat → Int := fun _ => 1
theorem gM_upd (σ : St) (k : Nat) (f : Nat → Int) (h0 : 50 ≠ k) (h1 : 51 ≠ k) : gM (updR σ k f) = gM σ := by
  unfold gM
  rw [updR_ne _ _ _ _ h0, updR_ne _ _ _ _ h1]
theorem ladI_0 {N : Int} {f w : Nat → Int} {s : Int} (hs : 0 ≤ s ∧ s < N) : ladI N f w 0 s = w s.toNat := if_pos hs
theorem ladI_s {N : Int} {f w : Nat → Int} {r : Nat} {s : Int} (hs : 0 ≤ s ∧ s < N) : ladI N f w (r + 1) s = ladI N f w r (stepZ N f s 0) + ladI N f w r (stepZ N f s 1) := if_pos hs
theorem ladI_last {N : Int} {f w : Nat → Int} : ∀ (r : Nat) (s : Int), ladI N f w (r + 1) s = ladI N f (fun t => ladI N f w 1 (t : Int)) r s
  | 0, s => by
    by_cases hs : 0 ≤ s ∧ s < N
    · rw [ladI_0 hs, Int.toNat_of_nonneg hs.1]
    · rw [ladI_out hs, ladI_out hs]
  | r + 1, s => by
    by_cases hs : 0 ≤ s ∧ s < N
    · rw [ladI_s hs, ladI_s (w := fun t => ladI N f w 1 (t : Int)) hs, ladI_last r, ladI_last r]
    · rw [ladI_out hs, ladI_out hs]
theorem sumF_add {u v : Nat → Int} : ∀ n : Nat, sumF (fun j => u j + v j) n = sumF u n + sumF v n
  | 0 => rfl
  | n + 1 => by
    rw [sumF, sumF, sumF, sumF_add n]
    omega
theorem sumF_zero {u : Nat → Int} : ∀ n : Nat, (∀ j, j < n → u j = 0) → sumF u n = 0
  | 0, _ => rfl
  | n + 1, h => by
    rw [sumF, sumF_zero n (fun j hj => h j (by omega)), h n (by omega)]
    rfl
theorem sumF_ind {w : Nat → Int} {s : Nat} : ∀ n : Nat, sumF (fun j => w j * (if s = j then 1 else 0)) n = if s < n then w s else 0
  | 0 => rfl
  | n + 1 => by
    rw [sumF, sumF_ind n]
    show (if s < n then w s else 0) + w n * (if s = n then 1 else 0) = _
    by_cases e : s = n
    · subst e
      rw [if_neg (by omega), if_pos rfl, if_pos (by omega), Int.mul_one]
      omega
    · rw [if_neg e, Int.mul_zero]
      by_cases e2 : s < n
      · rw [if_pos e2, if_pos (by omega)]; omega
      · rw [if_neg e2, if_neg (by omega)]; rfl
theorem ladI_sum {N : Int} {f w : Nat → Int} : ∀ (r : Nat) (s : Int), ladI N f w r s = sumF (fun j => w j * ladI N f (indF j) r s) N.toNat
  | 0, s => by
    by_cases hs : 0 ≤ s ∧ s < N
    · rw [ladI_0 hs, sumF_congr (v := fun j => w j * (if s.toNat = j then 1 else 0)) (fun j hj => by
        show w j * ladI N f (indF j) 0 s = _
        rw [ladI_0 hs]
        show w j * (if ((s.toNat : Nat) : Int) = (j : Int) then 1 else 0) = _
        by_cases e : s.toNat = j
        · rw [if_pos e, if_pos (by omega)]
        · rw [if_neg e, if_neg (by omega)]), sumF_ind, if_pos (by omega)]
    · rw [ladI_out hs, sumF_zero _ (fun j hj => by rw [ladI_out hs, Int.mul_zero])]
  | r + 1, s => by
    by_cases hs : 0 ≤ s ∧ s < N
    · rw [ladI_s hs, ladI_sum r, ladI_sum r, ← sumF_add]
      refine sumF_congr (fun j hj => ?_)
      show w j * _ + w j * _ = w j * ladI N f (indF j) (r + 1) s
      rw [ladI_s hs, Int.mul_add]
    · rw [ladI_out hs, sumF_zero _ (fun j hj => by rw [ladI_out hs, Int.mul_zero])]
theorem ladI_ind {N B : Int} {f : Nat → Int} {j : Int} (r : Nat) (s : Int) : 0 ≤ ladI N f (indF j) r s ∧ ladI N f (indF j) r s ≤ 2 ^ r := by
  have := ladI_bound (N := N) (f := f) (w := indF j) (B := 1) (by omega) (fun t _ => by unfold indF; split <;> omega) r s
  omega
def ManyG (N : Int) (f g : Nat → Int) (k : Int) : Prop := ∀ r : Nat, (r : Int) < k → ∀ s : Nat, (s : Int) < N → g (61 * s + r) = ladI N f oneF r s
theorem many_at {N k : Int} {f g : Nat → Int} (h : ManyG N f g k) {r s : Int} (hr : 0 ≤ r ∧ r < k) (hs : 0 ≤ s ∧ s < N) : g (61 * s + r).toNat = ladI N f oneF r.toNat s := by
  have := h r.toNat (by omega) s.toNat (by omega)
  rw [show (61 * s + r).toNat = 61 * s.toNat + r.toNat by omega, this, Int.toNat_of_nonneg hs.1]
theorem many_up {N k z : Int} {f g : Nat → Int} {i s : Int} (h : ManyG N f g k) (hi : k ≤ i) (hi2 : i ≤ 60) (hs : 0 ≤ s) : ManyG N f (up1 g (61 * s + i).toNat z) k := fun r hr t ht => by
  rw [up1_ne _ _ _ _ (by omega)]
  exact h r hr t ht
def s_M_tellMany : Spec := fun as σ Q => popR as fun c0 r0 => popI r0 fun n r1 => r1 = [] ∧ c0 = 37 ∧ (0 ≤ σ 37 17 ∧ σ 37 17 ≤ 100) ∧ (Wire (σ 37 17) (gM σ)) ∧ (0 ≤ n ∧ n ≤ 60) ∧ ∀ g, ManyG (σ 37 17) (gM σ) g (n + 1) → Q none (updR σ 58 g)
theorem e_M_tellMany (n : Int) (σ : St) (Q : Option AV → St → Prop) : s_M_tellMany [.inr (.inr (some 37)), .inl n] σ Q = ((0 ≤ σ 37 17 ∧ σ 37 17 ≤ 100) ∧ (Wire (σ 37 17) (gM σ)) ∧ (0 ≤ n ∧ n ≤ 60) ∧ ∀ g, ManyG (σ 37 17) (gM σ) g (n + 1) → Q none (updR σ 58 g)) := by
  show ([] = [] ∧ _) = _
  simp only [true_and]
set_option maxHeartbeats 4000000 in
set_option maxRecDepth 20000 in
theorem S_M_tellMany {l : Launch} : Sat l y_M_tellMany b_M_tellMany 4 none 0 s_M_tellMany := by
  refine sat_of (Φ := P_M) (κ := Q_M) (Γ := []) (rt := 0) (by decide +kernel) P_M_ok Q_M_ok (fun g hg => absurd hg List.not_mem_nil) (by simp) o_M_tellMany ?_
  intro as σ Q hh0
  obtain ⟨c0, rr0, rfl, hh1⟩ := popR_inv hh0
  obtain ⟨n, rr1, rfl, hh2⟩ := popI_inv hh1
  obtain ⟨hrE, rfl, hN, hf, hn, hQ⟩ := hh2
  subst hrE
  clear hh0 hh1
  refine ⟨Nat.le_of_ble_eq_true rfl, [(2, mkC (fun L st u => ∃ (s : Int) (v3 : AV) (g : Nat → Int), L = [.inr (.inr (some 37)), .inl n, .inl s, v3] ∧ st = [] ∧ (0 ≤ s ∧ s ≤ σ 37 17) ∧ (∀ t : Nat, (t : Int) < s → g (61 * t) = 1) ∧ (u = updR σ 58 g)) (fun L st u => (100, (101 - gI L 2).toNat, 0))),
    (28, mkC (fun L st u => ∃ (i : Int) (v3 : AV) (g : Nat → Int), L = [.inr (.inr (some 37)), .inl n, .inl i, v3] ∧ st = [] ∧ (1 ≤ i ∧ i ≤ n + 1) ∧ (ManyG (σ 37 17) (gM σ) g i) ∧ (u = updR σ 58 g)) (fun L st u => ((62 - gI L 2).toNat, 200, 0))),
    (35, mkC (fun L st u => ∃ (i s : Int) (g : Nat → Int), L = [.inr (.inr (some 37)), .inl n, .inl i, .inl s] ∧ st = [] ∧ (1 ≤ i ∧ i ≤ n) ∧ (0 ≤ s ∧ s ≤ σ 37 17) ∧ (ManyG (σ 37 17) (gM σ) g i) ∧ (∀ t : Nat, (t : Int) < s → g (61 * t + i.toNat) = ladI (σ 37 17) (gM σ) oneF i.toNat t) ∧ (u = updR σ 58 g)) (fun L st u => ((62 - gI L 2).toNat, (101 - gI L 3).toNat, 0)))], 14, ?_, cuts1 ?_ (cuts1 ?_ (cuts1 ?_ (cuts0)))⟩
  · rw [show entL 4 [.inr (.inr (some 37)), .inl n] = [.inr (.inr (some 37)), .inl n, .inr (.inr none), .inr (.inr none)] from rfl]
    simp only [↓wpN_go, jmp_e, ↓wp_aload_n0, ↓wp_bipush, ↓wp_getfield, ↓wp_goto, ↓wp_iadd, ↓wp_iaload, ↓wp_icmp_ge, ↓wp_icmp_gt, ↓wp_icmp_ne, ↓wp_iconst, ↓wp_iinc, ↓wp_iload_n1, ↓wp_iload_n2, ↓wp_iload_n3, ↓wp_imul, ↓wp_istore_n2, ↓wp_istore_n3, ↓wp_isub, ↓wp_ladd, ↓wp_laload, ↓wp_lastore, ↓wp_lconst0, ↓wp_lconst1, ↓wp_return0, wp_nil, ↓ldI_0, ↓ldI_s, ↓ldL_0, ↓ldL_s, ↓ldR_0, ↓ldR_s, sto1_0, sto1_1, sto1_s, sto2_0, sto2_1, sto2_s, isLong_i, isLong_l, isLong_r, ↓popI_c, ↓popL_c, ↓popR_c, ↓popN_0, ↓popN_s, catS_n, catS_c, psh_s, psh_n, fldV_n, fldV_s, ↓tgt_e, sw_n, ↓sw_c, ↓lk1_h, ↓lk1_m, ↓atC_h, ↓atC_m, ↓atC_n, ltO_n, ltO_s, updR_eq, updR_ne, gI_0i, gI_0l, gI_s, ltM_iff, List.cons.injEq, Sum.inl.injEq, Sum.inr.injEq, Option.some.injEq, exists_eq_left, exists_eq_left', exists_eq_right, exists_eq_right', exists_and_left, exists_and_right, exists_eq, exists_const, and_assoc, ↓j_M_tellMany_0, ↓j_M_tellMany_2, ↓j_M_tellMany_26, ↓j_M_tellMany_28, ↓j_M_tellMany_35, ↓j_M_tellMany_67, ↓j_M_tellMany_85, ↓j_M_tellMany_99, ↓j_M_tellMany_117, ↓j_M_tellMany_125, ↓j_M_tellMany_131, ↓f_M_160, ↓f_M_54, ↓f_M_57, ↓f_M_78, List.length_cons, List.length_nil, Nat.zero_add, Nat.reduceAdd, Int.reduceAdd, Int.reduceNeg, Int.reduceToNat, Int.reduceLE, Int.reduceLT, true_and, and_true, Nat.reduceLT, reduceIte, Nat.reduceEqDiff, ne_eq, not_false_eq_true, false_implies, true_implies, Bool.false_eq_true, reduceCtorEq, List.cons_append, List.nil_append, Nat.reduceSub, Nat.reduceLeDiff, Fin.isValue, Int.reduceNatCast', Int.zero_add, Int.add_zero, decide_true, decide_false, implies_true, forall_const, true_or, or_true, or_false, false_or, false_and, and_false, Int.toNat_natCast, ↓oF_37_0, ↓oF_37_1, ↓oF_37_2, ↓oF_37_3, ↓aF_38, ↓oF_37_4, ↓aF_39, ↓oF_37_5, ↓oF_37_6, ↓aF_40, ↓oF_37_7, ↓oF_37_8, ↓aF_41, ↓oF_37_9, ↓aF_42, ↓oF_37_10, ↓aF_43, ↓oF_37_11, ↓aF_44, ↓oF_37_12, ↓aF_45, ↓oF_37_13, ↓aF_46, ↓oF_37_14, ↓aF_47, ↓oF_37_15, ↓aF_48, ↓oF_37_16, ↓aF_49, ↓oF_37_17, ↓oF_37_18, ↓aF_50, ↓oF_37_19, ↓aF_51, ↓oF_37_20, ↓aF_52, ↓oF_37_21, ↓aF_53, ↓oF_37_22, ↓aF_54, ↓oF_37_23, ↓aF_55, ↓oF_37_24, ↓aF_56, ↓oF_37_25, ↓aF_57, ↓oF_37_26, ↓oF_37_27, ↓oF_37_28, ↓aF_58, ↓oF_37_29, ↓aF_59, ↓oF_37_30, ↓aF_60, ↓oF_37_31, ↓aF_61, ↓oF_37_32, ↓oF_37_33, ↓oF_37_34, ↓oF_37_35, ↓aF_62, ↓oF_37_36, ↓oF_37_37, ↓aF_63, ↓oF_37_38, ↓oF_37_39, ↓aF_64, ↓oF_37_40, ↓aF_65, ↓oF_37_41, ↓aF_66, oC_0, oC_1, oC_4, oC_11, oC_16, oC_18, oC_20, oC_23, oC_25, oC_26, oC_29, oC_31, oC_33, oC_35, oC_37, isT_29, isT_31, isT_33, isT_35, isL_16, isL_18, isL_26, gM_upd]
    (try simp only [rI_iff, rL_iff] at *)
    repeat' (with_reducible (first | assumption | apply And.intro | intro _))
    all_goals first | omega | with_reducible assumption | exact True.intro | skip
    all_goals exact ⟨σ 58, fun t ht => by omega, (updR_self σ 58).symm⟩
  · intro L st u hI
    obtain ⟨s, v3, g, rfl, rfl, hs, hg, hu⟩ := hI
    simp only [↓wpN_go, jmp_e, ↓wp_aload_n0, ↓wp_bipush, ↓wp_getfield, ↓wp_goto, ↓wp_iadd, ↓wp_iaload, ↓wp_icmp_ge, ↓wp_icmp_gt, ↓wp_icmp_ne, ↓wp_iconst, ↓wp_iinc, ↓wp_iload_n1, ↓wp_iload_n2, ↓wp_iload_n3, ↓wp_imul, ↓wp_istore_n2, ↓wp_istore_n3, ↓wp_isub, ↓wp_ladd, ↓wp_laload, ↓wp_lastore, ↓wp_lconst0, ↓wp_lconst1, ↓wp_return0, wp_nil, ↓ldI_0, ↓ldI_s, ↓ldL_0, ↓ldL_s, ↓ldR_0, ↓ldR_s, sto1_0, sto1_1, sto1_s, sto2_0, sto2_1, sto2_s, isLong_i, isLong_l, isLong_r, ↓popI_c, ↓popL_c, ↓popR_c, ↓popN_0, ↓popN_s, catS_n, catS_c, psh_s, psh_n, fldV_n, fldV_s, ↓tgt_e, sw_n, ↓sw_c, ↓lk1_h, ↓lk1_m, ↓atC_h, ↓atC_m, ↓atC_n, ltO_n, ltO_s, updR_eq, updR_ne, gI_0i, gI_0l, gI_s, ltM_iff, List.cons.injEq, Sum.inl.injEq, Sum.inr.injEq, Option.some.injEq, exists_eq_left, exists_eq_left', exists_eq_right, exists_eq_right', exists_and_left, exists_and_right, exists_eq, exists_const, and_assoc, ↓j_M_tellMany_0, ↓j_M_tellMany_2, ↓j_M_tellMany_26, ↓j_M_tellMany_28, ↓j_M_tellMany_35, ↓j_M_tellMany_67, ↓j_M_tellMany_85, ↓j_M_tellMany_99, ↓j_M_tellMany_117, ↓j_M_tellMany_125, ↓j_M_tellMany_131, ↓f_M_160, ↓f_M_54, ↓f_M_57, ↓f_M_78, List.length_cons, List.length_nil, Nat.zero_add, Nat.reduceAdd, Int.reduceAdd, Int.reduceNeg, Int.reduceToNat, Int.reduceLE, Int.reduceLT, true_and, and_true, Nat.reduceLT, reduceIte, Nat.reduceEqDiff, ne_eq, not_false_eq_true, false_implies, true_implies, Bool.false_eq_true, reduceCtorEq, List.cons_append, List.nil_append, Nat.reduceSub, Nat.reduceLeDiff, Fin.isValue, Int.reduceNatCast', Int.zero_add, Int.add_zero, decide_true, decide_false, implies_true, forall_const, true_or, or_true, or_false, false_or, false_and, and_false, Int.toNat_natCast, ↓oF_37_0, ↓oF_37_1, ↓oF_37_2, ↓oF_37_3, ↓aF_38, ↓oF_37_4, ↓aF_39, ↓oF_37_5, ↓oF_37_6, ↓aF_40, ↓oF_37_7, ↓oF_37_8, ↓aF_41, ↓oF_37_9, ↓aF_42, ↓oF_37_10, ↓aF_43, ↓oF_37_11, ↓aF_44, ↓oF_37_12, ↓aF_45, ↓oF_37_13, ↓aF_46, ↓oF_37_14, ↓aF_47, ↓oF_37_15, ↓aF_48, ↓oF_37_16, ↓aF_49, ↓oF_37_17, ↓oF_37_18, ↓aF_50, ↓oF_37_19, ↓aF_51, ↓oF_37_20, ↓aF_52, ↓oF_37_21, ↓aF_53, ↓oF_37_22, ↓aF_54, ↓oF_37_23, ↓aF_55, ↓oF_37_24, ↓aF_56, ↓oF_37_25, ↓aF_57, ↓oF_37_26, ↓oF_37_27, ↓oF_37_28, ↓aF_58, ↓oF_37_29, ↓aF_59, ↓oF_37_30, ↓aF_60, ↓oF_37_31, ↓aF_61, ↓oF_37_32, ↓oF_37_33, ↓oF_37_34, ↓oF_37_35, ↓aF_62, ↓oF_37_36, ↓oF_37_37, ↓aF_63, ↓oF_37_38, ↓oF_37_39, ↓aF_64, ↓oF_37_40, ↓aF_65, ↓oF_37_41, ↓aF_66, oC_0, oC_1, oC_4, oC_11, oC_16, oC_18, oC_20, oC_23, oC_25, oC_26, oC_29, oC_31, oC_33, oC_35, oC_37, isT_29, isT_31, isT_33, isT_35, isL_16, isL_18, isL_26, gM_upd]
    subst hu
    have e58 : updR σ 58 g 58 = g := updR_eq _ _ _
    have e37 : updR σ 58 g 37 = σ 37 := updR_ne _ _ _ _ (by decide)
    simp only [e37, e58, updR_twice]
    have q1 : σ 37 17 ≤ s → ManyG (σ 37 17) (gM σ) g 1 := fun h r hr t ht => by
      have : r = 0 := by omega
      subst this
      rw [Nat.add_zero, hg t (by omega), ladI_0 ⟨by omega, ht⟩]
      rfl
    have q2 : ∀ t : Nat, (t : Int) < s + 1 → up1 g (61 * s).toNat 1 (61 * t) = 1 := fun t ht => by
      rw [up1_app]
      split
      · rfl
      · exact hg t (by omega)
    (try simp only [rI_iff, rL_iff] at *)
    repeat' (with_reducible (first | assumption | apply And.intro | intro _))
    all_goals first | omega | with_reducible assumption | exact True.intro | skip
    all_goals first
      | exact ⟨g, q1 (by omega), rfl⟩
      | exact ⟨_, q2, rfl⟩
  · intro L st u hI
    obtain ⟨i, v3, g, rfl, rfl, hi, hg, hu⟩ := hI
    simp only [↓wpN_go, jmp_e, ↓wp_aload_n0, ↓wp_bipush, ↓wp_getfield, ↓wp_goto, ↓wp_iadd, ↓wp_iaload, ↓wp_icmp_ge, ↓wp_icmp_gt, ↓wp_icmp_ne, ↓wp_iconst, ↓wp_iinc, ↓wp_iload_n1, ↓wp_iload_n2, ↓wp_iload_n3, ↓wp_imul, ↓wp_istore_n2, ↓wp_istore_n3, ↓wp_isub, ↓wp_ladd, ↓wp_laload, ↓wp_lastore, ↓wp_lconst0, ↓wp_lconst1, ↓wp_return0, wp_nil, ↓ldI_0, ↓ldI_s, ↓ldL_0, ↓ldL_s, ↓ldR_0, ↓ldR_s, sto1_0, sto1_1, sto1_s, sto2_0, sto2_1, sto2_s, isLong_i, isLong_l, isLong_r, ↓popI_c, ↓popL_c, ↓popR_c, ↓popN_0, ↓popN_s, catS_n, catS_c, psh_s, psh_n, fldV_n, fldV_s, ↓tgt_e, sw_n, ↓sw_c, ↓lk1_h, ↓lk1_m, ↓atC_h, ↓atC_m, ↓atC_n, ltO_n, ltO_s, updR_eq, updR_ne, gI_0i, gI_0l, gI_s, ltM_iff, List.cons.injEq, Sum.inl.injEq, Sum.inr.injEq, Option.some.injEq, exists_eq_left, exists_eq_left', exists_eq_right, exists_eq_right', exists_and_left, exists_and_right, exists_eq, exists_const, and_assoc, ↓j_M_tellMany_0, ↓j_M_tellMany_2, ↓j_M_tellMany_26, ↓j_M_tellMany_28, ↓j_M_tellMany_35, ↓j_M_tellMany_67, ↓j_M_tellMany_85, ↓j_M_tellMany_99, ↓j_M_tellMany_117, ↓j_M_tellMany_125, ↓j_M_tellMany_131, ↓f_M_160, ↓f_M_54, ↓f_M_57, ↓f_M_78, List.length_cons, List.length_nil, Nat.zero_add, Nat.reduceAdd, Int.reduceAdd, Int.reduceNeg, Int.reduceToNat, Int.reduceLE, Int.reduceLT, true_and, and_true, Nat.reduceLT, reduceIte, Nat.reduceEqDiff, ne_eq, not_false_eq_true, false_implies, true_implies, Bool.false_eq_true, reduceCtorEq, List.cons_append, List.nil_append, Nat.reduceSub, Nat.reduceLeDiff, Fin.isValue, Int.reduceNatCast', Int.zero_add, Int.add_zero, decide_true, decide_false, implies_true, forall_const, true_or, or_true, or_false, false_or, false_and, and_false, Int.toNat_natCast, ↓oF_37_0, ↓oF_37_1, ↓oF_37_2, ↓oF_37_3, ↓aF_38, ↓oF_37_4, ↓aF_39, ↓oF_37_5, ↓oF_37_6, ↓aF_40, ↓oF_37_7, ↓oF_37_8, ↓aF_41, ↓oF_37_9, ↓aF_42, ↓oF_37_10, ↓aF_43, ↓oF_37_11, ↓aF_44, ↓oF_37_12, ↓aF_45, ↓oF_37_13, ↓aF_46, ↓oF_37_14, ↓aF_47, ↓oF_37_15, ↓aF_48, ↓oF_37_16, ↓aF_49, ↓oF_37_17, ↓oF_37_18, ↓aF_50, ↓oF_37_19, ↓aF_51, ↓oF_37_20, ↓aF_52, ↓oF_37_21, ↓aF_53, ↓oF_37_22, ↓aF_54, ↓oF_37_23, ↓aF_55, ↓oF_37_24, ↓aF_56, ↓oF_37_25, ↓aF_57, ↓oF_37_26, ↓oF_37_27, ↓oF_37_28, ↓aF_58, ↓oF_37_29, ↓aF_59, ↓oF_37_30, ↓aF_60, ↓oF_37_31, ↓aF_61, ↓oF_37_32, ↓oF_37_33, ↓oF_37_34, ↓oF_37_35, ↓aF_62, ↓oF_37_36, ↓oF_37_37, ↓aF_63, ↓oF_37_38, ↓oF_37_39, ↓aF_64, ↓oF_37_40, ↓aF_65, ↓oF_37_41, ↓aF_66, oC_0, oC_1, oC_4, oC_11, oC_16, oC_18, oC_20, oC_23, oC_25, oC_26, oC_29, oC_31, oC_33, oC_35, oC_37, isT_29, isT_31, isT_33, isT_35, isL_16, isL_18, isL_26, gM_upd]
    subst hu
    have e58 : updR σ 58 g 58 = g := updR_eq _ _ _
    have e37 : updR σ 58 g 37 = σ 37 := updR_ne _ _ _ _ (by decide)
    try simp only [e37, e58, updR_twice]
    have q1 : n < i → Q none (updR σ 58 g) := fun h => hQ g (by rw [show n + 1 = i by omega]; exact hg)
    (try simp only [rI_iff, rL_iff] at *)
    repeat' (with_reducible (first | assumption | apply And.intro | intro _))
    all_goals first | omega | with_reducible assumption | exact True.intro | skip
    all_goals first
      | exact q1 (by omega)
      | exact ⟨g, hg, fun t ht => by omega, rfl⟩
  · intro L st u hI
    obtain ⟨i, s, g, rfl, rfl, hi, hs, hg, hh, hu⟩ := hI
    simp only [↓wpN_go, jmp_e, ↓wp_aload_n0, ↓wp_bipush, ↓wp_getfield, ↓wp_goto, ↓wp_iadd, ↓wp_iaload, ↓wp_icmp_ge, ↓wp_icmp_gt, ↓wp_icmp_ne, ↓wp_iconst, ↓wp_iinc, ↓wp_iload_n1, ↓wp_iload_n2, ↓wp_iload_n3, ↓wp_imul, ↓wp_istore_n2, ↓wp_istore_n3, ↓wp_isub, ↓wp_ladd, ↓wp_laload, ↓wp_lastore, ↓wp_lconst0, ↓wp_lconst1, ↓wp_return0, wp_nil, ↓ldI_0, ↓ldI_s, ↓ldL_0, ↓ldL_s, ↓ldR_0, ↓ldR_s, sto1_0, sto1_1, sto1_s, sto2_0, sto2_1, sto2_s, isLong_i, isLong_l, isLong_r, ↓popI_c, ↓popL_c, ↓popR_c, ↓popN_0, ↓popN_s, catS_n, catS_c, psh_s, psh_n, fldV_n, fldV_s, ↓tgt_e, sw_n, ↓sw_c, ↓lk1_h, ↓lk1_m, ↓atC_h, ↓atC_m, ↓atC_n, ltO_n, ltO_s, updR_eq, updR_ne, gI_0i, gI_0l, gI_s, ltM_iff, List.cons.injEq, Sum.inl.injEq, Sum.inr.injEq, Option.some.injEq, exists_eq_left, exists_eq_left', exists_eq_right, exists_eq_right', exists_and_left, exists_and_right, exists_eq, exists_const, and_assoc, ↓j_M_tellMany_0, ↓j_M_tellMany_2, ↓j_M_tellMany_26, ↓j_M_tellMany_28, ↓j_M_tellMany_35, ↓j_M_tellMany_67, ↓j_M_tellMany_85, ↓j_M_tellMany_99, ↓j_M_tellMany_117, ↓j_M_tellMany_125, ↓j_M_tellMany_131, ↓f_M_160, ↓f_M_54, ↓f_M_57, ↓f_M_78, List.length_cons, List.length_nil, Nat.zero_add, Nat.reduceAdd, Int.reduceAdd, Int.reduceNeg, Int.reduceToNat, Int.reduceLE, Int.reduceLT, true_and, and_true, Nat.reduceLT, reduceIte, Nat.reduceEqDiff, ne_eq, not_false_eq_true, false_implies, true_implies, Bool.false_eq_true, reduceCtorEq, List.cons_append, List.nil_append, Nat.reduceSub, Nat.reduceLeDiff, Fin.isValue, Int.reduceNatCast', Int.zero_add, Int.add_zero, decide_true, decide_false, implies_true, forall_const, true_or, or_true, or_false, false_or, false_and, and_false, Int.toNat_natCast, ↓oF_37_0, ↓oF_37_1, ↓oF_37_2, ↓oF_37_3, ↓aF_38, ↓oF_37_4, ↓aF_39, ↓oF_37_5, ↓oF_37_6, ↓aF_40, ↓oF_37_7, ↓oF_37_8, ↓aF_41, ↓oF_37_9, ↓aF_42, ↓oF_37_10, ↓aF_43, ↓oF_37_11, ↓aF_44, ↓oF_37_12, ↓aF_45, ↓oF_37_13, ↓aF_46, ↓oF_37_14, ↓aF_47, ↓oF_37_15, ↓aF_48, ↓oF_37_16, ↓aF_49, ↓oF_37_17, ↓oF_37_18, ↓aF_50, ↓oF_37_19, ↓aF_51, ↓oF_37_20, ↓aF_52, ↓oF_37_21, ↓aF_53, ↓oF_37_22, ↓aF_54, ↓oF_37_23, ↓aF_55, ↓oF_37_24, ↓aF_56, ↓oF_37_25, ↓aF_57, ↓oF_37_26, ↓oF_37_27, ↓oF_37_28, ↓aF_58, ↓oF_37_29, ↓aF_59, ↓oF_37_30, ↓aF_60, ↓oF_37_31, ↓aF_61, ↓oF_37_32, ↓oF_37_33, ↓oF_37_34, ↓oF_37_35, ↓aF_62, ↓oF_37_36, ↓oF_37_37, ↓aF_63, ↓oF_37_38, ↓oF_37_39, ↓aF_64, ↓oF_37_40, ↓aF_65, ↓oF_37_41, ↓aF_66, oC_0, oC_1, oC_4, oC_11, oC_16, oC_18, oC_20, oC_23, oC_25, oC_26, oC_29, oC_31, oC_33, oC_35, oC_37, isT_29, isT_31, isT_33, isT_35, isL_16, isL_18, isL_26, gM_upd]
    subst hu
    have e58 : updR σ 58 g 58 = g := updR_eq _ _ _
    have e37 : updR σ 58 g 37 = σ 37 := updR_ne _ _ _ _ (by decide)
    have e50 : updR σ 58 g 50 = σ 50 := updR_ne _ _ _ _ (by decide)
    have e51 : updR σ 58 g 51 = σ 51 := updR_ne _ _ _ _ (by decide)
    simp only [e37, e50, e51, e58, updR_twice]
    have f0 : s < σ 37 17 → -1 ≤ σ 50 s.toNat ∧ σ 50 s.toNat < σ 37 17 := fun h => gM_r0 hf (by omega)
    have f1 : s < σ 37 17 → -1 ≤ σ 51 s.toNat ∧ σ 51 s.toNat < σ 37 17 := fun h => gM_r1 hf (by omega)
    have z0 : s < σ 37 17 → stepZ (σ 37 17) (gM σ) s 0 = σ 50 s.toNat := fun h => by rw [step_in ⟨hs.1, h⟩ (by omega), gM_0 σ hs.1]
    have z1 : s < σ 37 17 → stepZ (σ 37 17) (gM σ) s 1 = σ 51 s.toNat := fun h => by rw [step_in ⟨hs.1, h⟩ (by omega), gM_1 σ hs.1]
    have ha : ∀ x : Int, 0 ≤ x → x < σ 37 17 → g (61 * x + i - 1).toNat = ladI (σ 37 17) (gM σ) oneF (i - 1).toNat x := fun x h1 h2 => by
      have := many_at hg (r := i - 1) (s := x) (by omega) ⟨h1, h2⟩
      rw [show 61 * x + (i - 1) = 61 * x + i - 1 by omega] at this
      exact this
    have hb : ∀ x : Int, x = -1 → ladI (σ 37 17) (gM σ) oneF (i - 1).toNat x = 0 := fun x h => ladI_out (by omega)
    have hA : ∀ x : Int, -1 ≤ x → x < σ 37 17 → ladI (σ 37 17) (gM σ) oneF (i - 1).toNat x = if x = -1 then 0 else g (61 * x + i - 1).toNat := fun x h1 h2 => by
      by_cases e : x = -1
      · rw [if_pos e, hb x e]
      · rw [if_neg e, ha x (by omega) h2]
    have hc : s < σ 37 17 → ladI (σ 37 17) (gM σ) oneF i.toNat s = (if σ 50 s.toNat = -1 then 0 else g (61 * σ 50 s.toNat + i - 1).toNat) + (if σ 51 s.toNat = -1 then 0 else g (61 * σ 51 s.toNat + i - 1).toNat) := fun h => by
      rw [show i.toNat = (i - 1).toNat + 1 by omega, ladI_s ⟨hs.1, h⟩, z0 h, z1 h, hA _ (f0 h).1 (f0 h).2, hA _ (f1 h).1 (f1 h).2]
    have q1 : ∀ z : Int, s < σ 37 17 → z = ladI (σ 37 17) (gM σ) oneF i.toNat s → ManyG (σ 37 17) (gM σ) (up1 g (61 * s + i).toNat z) i ∧ ∀ t : Nat, (t : Int) < s + 1 → up1 g (61 * s + i).toNat z (61 * t + i.toNat) = ladI (σ 37 17) (gM σ) oneF i.toNat t := fun z h hz => by
      refine ⟨many_up hg (Int.le_refl _) (by omega) hs.1, fun t ht => ?_⟩
      rw [up1_app]
      split
      · rw [hz, show (t : Int) = s by omega]
      · exact hh t (by omega)
    have q2 : σ 37 17 ≤ s → ManyG (σ 37 17) (gM σ) g (i + 1) := fun h r hr t ht => by
      by_cases e : (r : Int) < i
      · exact hg r e t ht
      · rw [show r = i.toNat by omega]
        exact hh t (by omega)
    by_cases hcs : s < σ 37 17
    · have hc := hc hcs
      have f0 := f0 hcs
      have f1 := f1 hcs
      clear hQ
      (try simp only [rI_iff, rL_iff] at *)
      repeat' (with_reducible (first | assumption | apply And.intro | intro _))
      all_goals first | omega | with_reducible assumption | exact True.intro | skip
      all_goals first
        | omega
        | exact ⟨_, (q1 _ hcs (by rw [hc]; (repeat' split) <;> omega)).1, (q1 _ hcs (by rw [hc]; (repeat' split) <;> omega)).2, rfl⟩
        | trace_state
    · have q2 := q2 (by omega)
      clear hQ
      (try simp only [rI_iff, rL_iff] at *)
      repeat' (with_reducible (first | assumption | apply And.intro | intro _))
      all_goals first | omega | with_reducible assumption | exact True.intro | skip
      all_goals first
        | omega
        | exact ⟨g, q2, rfl⟩
        | trace_state
