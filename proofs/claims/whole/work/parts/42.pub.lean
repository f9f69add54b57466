/-! the public methods: check, digest -/
theorem sat_repr {l : Launch} {y : MethodName} {b : ByteArray} {maxL lv : Nat} {ret : Option FieldType} {S S' : Spec} (h : Sat l y b maxL ret lv S) (hS : ∀ as σ Q, S' as σ Q → S as σ (fun v u => ∃ v', (∀ a : Nat → Nat, v.map (conc a) = v'.map (conc a)) ∧ Q v' u)) : Sat l y b maxL ret lv S' := by
  intro D cA a sz σ as Q hs1
  refine MetFree.mono (h D cA a sz σ as _ (hS as σ Q hs1)) (fun _ _ q => q) (fun _ _ _ _ _ q => q) (fun _ _ _ _ _ q => ⟨⟨?_, q.1.2⟩, q.2⟩)
  obtain ⟨r, u, h1, ⟨v', h2, h3⟩, h4⟩ := q.1.1
  exact ⟨v', u, by rw [h1, h2 a], h3, h4⟩
def wrapL (x : Int) : Int := (x + 9223372036854775808) % 18446744073709551616 - 9223372036854775808
theorem wrapL_r (x : Int) : rL (wrapL x) := by unfold wrapL rL; omega
theorem wrapL_id {x : Int} (h : rL x) : wrapL x = x := by unfold rL at h; unfold wrapL; omega
theorem wrapL_c (x : Int) : Int64.ofInt x = Int64.ofInt (wrapL x) := by
  apply zL_ext
  rw [zL_nat, zL_nat]
  unfold wrapL
  omega
def stF (N : Int) (f p : Nat → Int) : Nat → Int
  | 0 => 0
  | n + 1 => stepZ N f (stF N f p n) (p n)
def chkZ (N : Int) (f p : Nat → Int) (n : Nat) : Int := findF (fun i => decide (stF N f p (i + 1) = -1)) n
theorem findF_s {p : Nat → Bool} {n : Nat} (h : findF p n = -1) : findF p (n + 1) = if p n then (n : Int) else -1 := by
  rw [findF, if_pos h]
def s_X_check : Spec := fun as σ Q => popR as fun c0 r0 => r0 = [] ∧ c0 = 0 ∧ (0 ≤ σ 11 4 ∧ σ 11 4 ≤ 100) ∧ (Wire (σ 11 4) (σ 12)) ∧ (0 ≤ σ 33 1 ∧ σ 33 1 ≤ 600) ∧ (isBits (σ 34)) ∧ Q (some (.inl (if σ 11 4 = 0 then -3 else chkZ (σ 11 4) (σ 12) (σ 34) (σ 33 1).toNat))) σ
theorem e_X_check  (σ : St) (Q : Option AV → St → Prop) : s_X_check [.inr (.inr (some 0))] σ Q = ((0 ≤ σ 11 4 ∧ σ 11 4 ≤ 100) ∧ (Wire (σ 11 4) (σ 12)) ∧ (0 ≤ σ 33 1 ∧ σ 33 1 ≤ 600) ∧ (isBits (σ 34)) ∧ Q (some (.inl (if σ 11 4 = 0 then -3 else chkZ (σ 11 4) (σ 12) (σ 34) (σ 33 1).toNat))) σ) := by
  show ([] = [] ∧ _) = _
  simp only [true_and]
set_option maxHeartbeats 4000000 in
set_option maxRecDepth 20000 in
theorem S_X_check {l : Launch} : Sat l y_X_check b_X_check 3 (some .int) 2 s_X_check := by
  refine sat_of (Φ := P_X) (κ := Q_X) (Γ := [(130, 8, 0, s_W_size), (240, 2, 0, s_T_size), (230, 2, 1, s_T_at), (137, 8, 2, s_W_step)]) (rt := 1) (by decide +kernel) P_X_ok Q_X_ok (by
    refine List.forall_mem_cons.mpr ⟨?_, List.forall_mem_cons.mpr ⟨?_, List.forall_mem_cons.mpr ⟨?_, List.forall_mem_cons.mpr ⟨?_, fun _ h => absurd h List.not_mem_nil⟩⟩⟩⟩
    · exact m_W_size S_W_size (by decide) l_X_130
    · exact m_T_size S_T_size (by decide) l_X_240
    · exact m_T_at S_T_at (by decide) l_X_230
    · exact m_W_step S_W_step (by decide) l_X_137) (by simp) o_X_check ?_
  intro as σ Q hh0
  obtain ⟨c0, rr0, rfl, hh1⟩ := popR_inv hh0
  obtain ⟨hrE, rfl, hN, hf, h33, hb, hQ⟩ := hh1
  subst hrE
  clear hh0
  refine ⟨Nat.le_of_ble_eq_true rfl, [(17, mkC (fun L st u => ∃ (i : Int), L = [.inr (.inr (some 0)), .inl ((stF (σ 11 4) (σ 12) (σ 34) i.toNat)), .inl i] ∧ st = [] ∧ (0 ≤ i ∧ i ≤ σ 33 1) ∧ (¬ σ 11 4 = 0) ∧ (chkZ (σ 11 4) (σ 12) (σ 34) i.toNat = -1) ∧ (-1 ≤ stF (σ 11 4) (σ 12) (σ 34) i.toNat ∧ stF (σ 11 4) (σ 12) (σ 34) i.toNat ≤ 100) ∧ (u = σ)) (fun L st u => ((601 - gI L 2).toNat, 0, 0)))], 14, ?_, cuts1 ?_ (cuts0)⟩
  · rw [show entL 3 [.inr (.inr (some 0))] = [.inr (.inr (some 0)), .inr (.inr none), .inr (.inr none)] from rfl]
    simp only [↓wpN_go, jmp_e, ↓wp_aload_n0, ↓wp_bipush, ↓wp_getfield, ↓wp_goto, ↓wp_icmp_ge, ↓wp_icmp_ne, ↓wp_iconst, ↓wp_if_ne, ↓wp_iinc, ↓wp_iload_n1, ↓wp_iload_n2, ↓wp_invokevirtual, ↓wp_ireturn1, ↓wp_istore_n1, ↓wp_istore_n2, wp_nil, ↓ldI_0, ↓ldI_s, ↓ldL_0, ↓ldL_s, ↓ldR_0, ↓ldR_s, sto1_0, sto1_1, sto1_s, sto2_0, sto2_1, sto2_s, isLong_i, isLong_l, isLong_r, ↓popI_c, ↓popL_c, ↓popR_c, ↓popN_0, ↓popN_s, catS_n, catS_c, psh_s, psh_n, fldV_n, fldV_s, ↓tgt_e, sw_n, ↓sw_c, ↓lk1_h, ↓lk1_m, ↓atC_h, ↓atC_m, ↓atC_n, ltO_n, ltO_s, updR_eq, updR_ne, gI_0i, gI_0l, gI_s, ltM_iff, List.cons.injEq, Sum.inl.injEq, Sum.inr.injEq, Option.some.injEq, exists_eq_left, exists_eq_left', exists_eq_right, exists_eq_right', exists_and_left, exists_and_right, exists_eq, exists_const, and_assoc, ↓j_X_check_0, ↓j_X_check_13, ↓j_X_check_17, ↓j_X_check_52, ↓j_X_check_58, ↓f_X_26, ↓f_X_68, List.length_cons, List.length_nil, Nat.zero_add, Nat.reduceAdd, Int.reduceAdd, Int.reduceNeg, Int.reduceToNat, Int.reduceLE, Int.reduceLT, true_and, and_true, Nat.reduceLT, reduceIte, Nat.reduceEqDiff, ne_eq, not_false_eq_true, false_implies, true_implies, Bool.false_eq_true, reduceCtorEq, List.cons_append, List.nil_append, Nat.reduceSub, Nat.reduceLeDiff, Fin.isValue, Int.reduceNatCast', Int.zero_add, Int.add_zero, decide_true, decide_false, implies_true, forall_const, true_or, or_true, or_false, false_or, false_and, and_false, Int.toNat_natCast, ↓oF_0_0, ↓oF_0_1, ↓oF_0_2, ↓oF_0_3, ↓oF_0_4, ↓oF_0_5, ↓oF_0_6, ↓oF_0_7, ↓oF_0_8, ↓oF_0_9, ↓oF_0_10, ↓oF_0_11, oC_0, oC_1, oC_4, oC_11, oC_16, oC_18, oC_20, oC_23, oC_25, oC_26, oC_29, oC_31, oC_33, oC_35, oC_37, isT_29, isT_31, isT_33, isT_35, isL_16, isL_18, isL_26, b2i_0, b2i_1, b2i_01, b2i_r, ↓e_W_size, ↓e_T_size, ↓e_T_at, ↓e_W_step]
    have h0 : (0 : Int) = stF (σ 11 4) (σ 12) (σ 34) (0 : Int).toNat := rfl
    have h1 : chkZ (σ 11 4) (σ 12) (σ 34) (0 : Int).toNat = -1 := rfl
    (try simp only [rI_iff, rL_iff] at *)
    repeat' (with_reducible (first | assumption | apply And.intro | intro _))
    all_goals first | omega | with_reducible assumption | exact True.intro | skip
    all_goals first
      | (rw [if_pos (by assumption)] at hQ; exact hQ)
      | exact ⟨0, h0, rfl, by omega, by omega, by assumption, h1, by rw [← h0]; omega, by rw [← h0]; omega⟩
      | omega
  · intro L st u hI
    obtain ⟨i, rfl, rfl, hi, hz, hx, hst, hu⟩ := hI
    simp only [↓wpN_go, jmp_e, ↓wp_aload_n0, ↓wp_bipush, ↓wp_getfield, ↓wp_goto, ↓wp_icmp_ge, ↓wp_icmp_ne, ↓wp_iconst, ↓wp_if_ne, ↓wp_iinc, ↓wp_iload_n1, ↓wp_iload_n2, ↓wp_invokevirtual, ↓wp_ireturn1, ↓wp_istore_n1, ↓wp_istore_n2, wp_nil, ↓ldI_0, ↓ldI_s, ↓ldL_0, ↓ldL_s, ↓ldR_0, ↓ldR_s, sto1_0, sto1_1, sto1_s, sto2_0, sto2_1, sto2_s, isLong_i, isLong_l, isLong_r, ↓popI_c, ↓popL_c, ↓popR_c, ↓popN_0, ↓popN_s, catS_n, catS_c, psh_s, psh_n, fldV_n, fldV_s, ↓tgt_e, sw_n, ↓sw_c, ↓lk1_h, ↓lk1_m, ↓atC_h, ↓atC_m, ↓atC_n, ltO_n, ltO_s, updR_eq, updR_ne, gI_0i, gI_0l, gI_s, ltM_iff, List.cons.injEq, Sum.inl.injEq, Sum.inr.injEq, Option.some.injEq, exists_eq_left, exists_eq_left', exists_eq_right, exists_eq_right', exists_and_left, exists_and_right, exists_eq, exists_const, and_assoc, ↓j_X_check_0, ↓j_X_check_13, ↓j_X_check_17, ↓j_X_check_52, ↓j_X_check_58, ↓f_X_26, ↓f_X_68, List.length_cons, List.length_nil, Nat.zero_add, Nat.reduceAdd, Int.reduceAdd, Int.reduceNeg, Int.reduceToNat, Int.reduceLE, Int.reduceLT, true_and, and_true, Nat.reduceLT, reduceIte, Nat.reduceEqDiff, ne_eq, not_false_eq_true, false_implies, true_implies, Bool.false_eq_true, reduceCtorEq, List.cons_append, List.nil_append, Nat.reduceSub, Nat.reduceLeDiff, Fin.isValue, Int.reduceNatCast', Int.zero_add, Int.add_zero, decide_true, decide_false, implies_true, forall_const, true_or, or_true, or_false, false_or, false_and, and_false, Int.toNat_natCast, ↓oF_0_0, ↓oF_0_1, ↓oF_0_2, ↓oF_0_3, ↓oF_0_4, ↓oF_0_5, ↓oF_0_6, ↓oF_0_7, ↓oF_0_8, ↓oF_0_9, ↓oF_0_10, ↓oF_0_11, oC_0, oC_1, oC_4, oC_11, oC_16, oC_18, oC_20, oC_23, oC_25, oC_26, oC_29, oC_31, oC_33, oC_35, oC_37, isT_29, isT_31, isT_33, isT_35, isL_16, isL_18, isL_26, b2i_0, b2i_1, b2i_01, b2i_r, ↓e_W_size, ↓e_T_size, ↓e_T_at, ↓e_W_step]
    subst hu
    have e1 : (i + 1).toNat = i.toNat + 1 := by omega
    have e2 : stF (u 11 4) (u 12) (u 34) (i.toNat + 1) = stepZ (u 11 4) (u 12) (stF (u 11 4) (u 12) (u 34) i.toNat) (u 34 i.toNat) := rfl
    have hb1 := hb i.toNat
    have hr := stepZ_r hN.2 hf (stF (u 11 4) (u 12) (u 34) i.toNat) (u 34 i.toNat)
    have e3 : chkZ (u 11 4) (u 12) (u 34) (i.toNat + 1) = if decide (stF (u 11 4) (u 12) (u 34) (i.toNat + 1) = -1) = true then (i.toNat : Int) else -1 := findF_s hx
    rw [if_neg hz] at hQ
    have q0 : ∀ z : Int, z = chkZ (u 11 4) (u 12) (u 34) (u 33 1).toNat → Q (some (.inl z)) u := fun z h => by rw [h]; exact hQ
    have q1 : u 33 1 ≤ i → Q (some (.inl (-1))) u := fun h => q0 _ (by rw [show (u 33 1).toNat = i.toNat by omega, hx])
    have q2 : i < u 33 1 → stepZ (u 11 4) (u 12) (stF (u 11 4) (u 12) (u 34) i.toNat) (u 34 i.toNat) = -1 → Q (some (.inl i)) u := fun h h1 => q0 _ (by
      rw [e2, h1, if_pos (by simp)] at e3
      have := findF_on (fun i => decide (stF (u 11 4) (u 12) (u 34) (i + 1) = -1)) (i.toNat + 1) (by
        show chkZ (u 11 4) (u 12) (u 34) (i.toNat + 1) ≠ -1
        rw [e3]; omega) (u 33 1).toNat (by omega)
      show i = findF _ _
      rw [this]
      show i = chkZ (u 11 4) (u 12) (u 34) (i.toNat + 1)
      rw [e3]
      omega)
    have q3 : ¬ stepZ (u 11 4) (u 12) (stF (u 11 4) (u 12) (u 34) i.toNat) (u 34 i.toNat) = -1 → chkZ (u 11 4) (u 12) (u 34) (i.toNat + 1) = -1 := fun h => by
      rw [e3, e2, if_neg (by simpa using h)]
    have q4 : 0 ≤ i → i < u 33 1 → (if 0 ≤ i ∧ i < u 33 1 then u 34 i.toNat else -2) = u 34 i.toNat := fun h h1 => if_pos ⟨h, h1⟩
    by_cases hc : i < u 33 1
    · rw [q4 hi.1 hc]
      (try simp only [rI_iff, rL_iff] at *)
      repeat' (with_reducible (first | assumption | apply And.intro | intro _))
      all_goals first | omega | with_reducible assumption | exact True.intro | skip
      all_goals first
        | exact q1 (by omega)
        | exact q2 (by assumption) (by assumption)
        | exact ⟨i + 1, by rw [e1, e2], rfl, by omega, by omega, hz, by rw [e1]; exact q3 (by assumption), by rw [e1, e2]; omega, by rw [e1, e2]; omega, trivial⟩
        | skip
    · (try simp only [rI_iff, rL_iff] at *)
      repeat' (with_reducible (first | assumption | apply And.intro | intro _))
      all_goals first | omega | with_reducible assumption | exact True.intro | skip
      all_goals first
        | exact q1 (by omega)
        | (exfalso; omega)
def cntZ (σ : St) (w : Int) : Int := if w = 0 then σ 31 1 else if w = 1 then σ 33 1 else if w = 2 then σ 11 4 else if w = 3 then σ 25 3 else if w = 4 then σ 25 4 else if w = 5 then σ 25 5 else if w = 6 then σ 25 6 else if w = 7 then σ 0 11 else -2
def dgS (f w : Nat → Int) (h : Int) : Nat → Int
  | 0 => h
  | n + 1 => 31 * (31 * (31 * dgS f w h n + f (2 * n)) + f (2 * n + 1)) + w n
def s_X_digest : Spec := fun as σ Q => popR as fun c0 r0 => r0 = [] ∧ c0 = 0 ∧ (0 ≤ σ 11 4 ∧ σ 11 4 ≤ 100) ∧ (Wire (σ 11 4) (σ 12)) ∧ (0 ≤ σ 33 1 ∧ σ 33 1 ≤ 600) ∧ (0 ≤ σ 31 1 ∧ σ 31 1 ≤ 600) ∧ (isBits (σ 34)) ∧ (isBits (σ 32)) ∧ (AllB (σ 24) 100 1000000) ∧ (∀ w : Nat, w < 8 → rI (cntZ σ w)) ∧ Q (some (.inr (.inl (digF (σ 34) (digF (σ 32) (dgS (σ 12) (σ 24) (digF (fun i => cntZ σ i) 17 8) (σ 11 4).toNat) (σ 31 1).toNat) (σ 33 1).toNat)))) σ
theorem e_X_digest  (σ : St) (Q : Option AV → St → Prop) : s_X_digest [.inr (.inr (some 0))] σ Q = ((0 ≤ σ 11 4 ∧ σ 11 4 ≤ 100) ∧ (Wire (σ 11 4) (σ 12)) ∧ (0 ≤ σ 33 1 ∧ σ 33 1 ≤ 600) ∧ (0 ≤ σ 31 1 ∧ σ 31 1 ≤ 600) ∧ (isBits (σ 34)) ∧ (isBits (σ 32)) ∧ (AllB (σ 24) 100 1000000) ∧ (∀ w : Nat, w < 8 → rI (cntZ σ w)) ∧ Q (some (.inr (.inl (digF (σ 34) (digF (σ 32) (dgS (σ 12) (σ 24) (digF (fun i => cntZ σ i) 17 8) (σ 11 4).toNat) (σ 31 1).toNat) (σ 33 1).toNat)))) σ) := by
  show ([] = [] ∧ _) = _
  simp only [true_and]
set_option maxHeartbeats 4000000 in
set_option maxRecDepth 20000 in
theorem S_X_digest {l : Launch} : Sat l y_X_digest b_X_digest 4 (some .long) 2 s_X_digest := by
  refine sat_of (Φ := P_X) (κ := Q_X) (Γ := [(274, 9, 1, s_X_count1), (130, 8, 0, s_W_size), (137, 8, 2, s_W_step), (176, 7, 1, s_G_of), (277, 2, 1, s_T_digestBehind)]) (rt := 2) (by decide +kernel) P_X_ok Q_X_ok (by
    refine List.forall_mem_cons.mpr ⟨?_, List.forall_mem_cons.mpr ⟨?_, List.forall_mem_cons.mpr ⟨?_, List.forall_mem_cons.mpr ⟨?_, List.forall_mem_cons.mpr ⟨?_, fun _ h => absurd h List.not_mem_nil⟩⟩⟩⟩⟩
    · exact m_X_count1 S_X_count1 (by decide) l_X_274
    · exact m_W_size S_W_size (by decide) l_X_130
    · exact m_W_step S_W_step (by decide) l_X_137
    · exact m_G_of S_G_of (by decide) l_X_176
    · exact m_T_digestBehind S_T_digestBehind (by decide) l_X_277) (by simp) o_X_digest ?_
  intro as σ Q hh0
  obtain ⟨c0, rr0, rfl, hh1⟩ := popR_inv hh0
  obtain ⟨hrE, rfl, hN, hf, h33, h31, hb, hb2, hw, hc, hQ⟩ := hh1
  subst hrE
  clear hh0
  refine ⟨Nat.le_of_ble_eq_true rfl, [(6, mkC (fun L st u => ∃ (i : Int), L = [.inr (.inr (some 0)), .inr (.inl ((digF (fun i => cntZ σ i) 17 i.toNat))), .inr (.inr none), .inl i] ∧ st = [] ∧ (0 ≤ i ∧ i ≤ 8) ∧ (u = σ)) (fun L st u => (1, (8 - gI L 3).toNat, 0))),
    (33, mkC (fun L st u => ∃ (i : Int), L = [.inr (.inr (some 0)), .inr (.inl ((dgS (σ 12) (σ 24) (digF (fun i => cntZ σ i) 17 8) i.toNat))), .inr (.inr none), .inl i] ∧ st = [] ∧ (0 ≤ i ∧ i ≤ σ 11 4) ∧ (u = σ)) (fun L st u => (0, (100 - gI L 3).toNat, 0)))], 14, ?_, cuts1 ?_ (cuts1 ?_ (cuts0))⟩
  · rw [show entL 4 [.inr (.inr (some 0))] = [.inr (.inr (some 0)), .inr (.inr none), .inr (.inr none), .inr (.inr none)] from rfl]
    simp only [↓wpN_go, jmp_e, ↓wp_aload_n0, ↓wp_bipush, ↓wp_getfield, ↓wp_goto, ↓wp_i2l, ↓wp_icmp_ge, ↓wp_icmp_gt, ↓wp_iconst, ↓wp_iinc, ↓wp_iload_n3, ↓wp_invokevirtual, ↓wp_istore_n3, ↓wp_ladd, ↓wp_ldc2_w, ↓wp_lload_n1, ↓wp_lmul, ↓wp_lreturn2, ↓wp_lstore_n1, wp_nil, ↓ldI_0, ↓ldI_s, ↓ldL_0, ↓ldL_s, ↓ldR_0, ↓ldR_s, sto1_0, sto1_1, sto1_s, sto2_0, sto2_1, sto2_s, isLong_i, isLong_l, isLong_r, ↓popI_c, ↓popL_c, ↓popR_c, ↓popN_0, ↓popN_s, catS_n, catS_c, psh_s, psh_n, fldV_n, fldV_s, ↓tgt_e, sw_n, ↓sw_c, ↓lk1_h, ↓lk1_m, ↓atC_h, ↓atC_m, ↓atC_n, ltO_n, ltO_s, updR_eq, updR_ne, gI_0i, gI_0l, gI_s, ltM_iff, List.cons.injEq, Sum.inl.injEq, Sum.inr.injEq, Option.some.injEq, exists_eq_left, exists_eq_left', exists_eq_right, exists_eq_right', exists_and_left, exists_and_right, exists_eq, exists_const, and_assoc, ↓j_X_digest_0, ↓j_X_digest_6, ↓j_X_digest_31, ↓j_X_digest_33, ↓j_X_digest_100, ↓c_X_100270, ↓c_X_100272, ↓f_X_26, ↓f_X_50, ↓f_X_64, ↓f_X_68, List.length_cons, List.length_nil, Nat.zero_add, Nat.reduceAdd, Int.reduceAdd, Int.reduceNeg, Int.reduceToNat, Int.reduceLE, Int.reduceLT, true_and, and_true, Nat.reduceLT, reduceIte, Nat.reduceEqDiff, ne_eq, not_false_eq_true, false_implies, true_implies, Bool.false_eq_true, reduceCtorEq, List.cons_append, List.nil_append, Nat.reduceSub, Nat.reduceLeDiff, Fin.isValue, Int.reduceNatCast', Int.zero_add, Int.add_zero, decide_true, decide_false, implies_true, forall_const, true_or, or_true, or_false, false_or, false_and, and_false, Int.toNat_natCast, ↓oF_0_0, ↓oF_0_1, ↓oF_0_2, ↓oF_0_3, ↓oF_0_4, ↓oF_0_5, ↓oF_0_6, ↓oF_0_7, ↓oF_0_8, ↓oF_0_9, ↓oF_0_10, ↓oF_0_11, oC_0, oC_1, oC_4, oC_11, oC_16, oC_18, oC_20, oC_23, oC_25, oC_26, oC_29, oC_31, oC_33, oC_35, oC_37, isT_29, isT_31, isT_33, isT_35, isL_16, isL_18, isL_26, b2i_0, b2i_1, b2i_01, b2i_r, ↓e_X_count1, ↓e_W_size, ↓e_W_step, ↓e_G_of, ↓e_T_digestBehind]
    (try simp only [rI_iff, rL_iff] at *)
    repeat' (with_reducible (first | assumption | apply And.intro | intro _))
    all_goals first | omega | with_reducible assumption | exact True.intro | skip
    all_goals exact ⟨0, rfl, rfl, by omega, by omega⟩
  · intro L st u hI
    obtain ⟨i, rfl, rfl, hi, hu⟩ := hI
    simp only [↓wpN_go, jmp_e, ↓wp_aload_n0, ↓wp_bipush, ↓wp_getfield, ↓wp_goto, ↓wp_i2l, ↓wp_icmp_ge, ↓wp_icmp_gt, ↓wp_iconst, ↓wp_iinc, ↓wp_iload_n3, ↓wp_invokevirtual, ↓wp_istore_n3, ↓wp_ladd, ↓wp_ldc2_w, ↓wp_lload_n1, ↓wp_lmul, ↓wp_lreturn2, ↓wp_lstore_n1, wp_nil, ↓ldI_0, ↓ldI_s, ↓ldL_0, ↓ldL_s, ↓ldR_0, ↓ldR_s, sto1_0, sto1_1, sto1_s, sto2_0, sto2_1, sto2_s, isLong_i, isLong_l, isLong_r, ↓popI_c, ↓popL_c, ↓popR_c, ↓popN_0, ↓popN_s, catS_n, catS_c, psh_s, psh_n, fldV_n, fldV_s, ↓tgt_e, sw_n, ↓sw_c, ↓lk1_h, ↓lk1_m, ↓atC_h, ↓atC_m, ↓atC_n, ltO_n, ltO_s, updR_eq, updR_ne, gI_0i, gI_0l, gI_s, ltM_iff, List.cons.injEq, Sum.inl.injEq, Sum.inr.injEq, Option.some.injEq, exists_eq_left, exists_eq_left', exists_eq_right, exists_eq_right', exists_and_left, exists_and_right, exists_eq, exists_const, and_assoc, ↓j_X_digest_0, ↓j_X_digest_6, ↓j_X_digest_31, ↓j_X_digest_33, ↓j_X_digest_100, ↓c_X_100270, ↓c_X_100272, ↓f_X_26, ↓f_X_50, ↓f_X_64, ↓f_X_68, List.length_cons, List.length_nil, Nat.zero_add, Nat.reduceAdd, Int.reduceAdd, Int.reduceNeg, Int.reduceToNat, Int.reduceLE, Int.reduceLT, true_and, and_true, Nat.reduceLT, reduceIte, Nat.reduceEqDiff, ne_eq, not_false_eq_true, false_implies, true_implies, Bool.false_eq_true, reduceCtorEq, List.cons_append, List.nil_append, Nat.reduceSub, Nat.reduceLeDiff, Fin.isValue, Int.reduceNatCast', Int.zero_add, Int.add_zero, decide_true, decide_false, implies_true, forall_const, true_or, or_true, or_false, false_or, false_and, and_false, Int.toNat_natCast, ↓oF_0_0, ↓oF_0_1, ↓oF_0_2, ↓oF_0_3, ↓oF_0_4, ↓oF_0_5, ↓oF_0_6, ↓oF_0_7, ↓oF_0_8, ↓oF_0_9, ↓oF_0_10, ↓oF_0_11, oC_0, oC_1, oC_4, oC_11, oC_16, oC_18, oC_20, oC_23, oC_25, oC_26, oC_29, oC_31, oC_33, oC_35, oC_37, isT_29, isT_31, isT_33, isT_35, isL_16, isL_18, isL_26, b2i_0, b2i_1, b2i_01, b2i_r, ↓e_X_count1, ↓e_W_size, ↓e_W_step, ↓e_G_of, ↓e_T_digestBehind]
    subst hu
    have e1 : (i + 1).toNat = i.toNat + 1 := by omega
    have e2 : digF (fun i => cntZ u i) 17 (i.toNat + 1) = 31 * digF (fun i => cntZ u i) 17 i.toNat + cntZ u i := by
      rw [digF]
      show 31 * digF (fun i => cntZ u i) 17 i.toNat + cntZ u (i.toNat : Int) = _
      rw [Int.toNat_of_nonneg hi.1]
    have hci : i < 8 → -2147483648 ≤ cntZ u i ∧ cntZ u i < 2147483648 := fun h => by
      have := hc i.toNat (by omega)
      rw [Int.toNat_of_nonneg hi.1] at this
      exact this
    have e3 : 7 < i → digF (fun i => cntZ u i) 17 i.toNat = digF (fun i => cntZ u i) 17 8 := fun h => by rw [show i.toNat = 8 by omega]
    have e4 : ∀ z : Int, (if i = 0 then u 31 1 else if i = 1 then u 33 1 else if i = 2 then u 11 4 else if i = 3 then u 25 3 else if i = 4 then u 25 4 else if i = 5 then u 25 5 else if i = 6 then u 25 6 else if i = 7 then u 0 11 else -2) = cntZ u i := fun _ => rfl
    rw [e4 0]
    (try simp only [rI_iff, rL_iff] at *)
    repeat' (with_reducible (first | assumption | apply And.intro | intro _))
    all_goals first | omega | with_reducible assumption | exact True.intro | skip
    all_goals first
      | (have hs1 := hci (by omega); omega)
      | exact ⟨0, by rw [e3 (by omega)]; rfl, rfl, by omega, by omega, by first | rfl | trivial⟩
      | exact ⟨i + 1, by rw [e1, e2], rfl, by omega, by omega, by first | rfl | trivial⟩
  · intro L st u hI
    obtain ⟨i, rfl, rfl, hi, hu⟩ := hI
    simp only [↓wpN_go, jmp_e, ↓wp_aload_n0, ↓wp_bipush, ↓wp_getfield, ↓wp_goto, ↓wp_i2l, ↓wp_icmp_ge, ↓wp_icmp_gt, ↓wp_iconst, ↓wp_iinc, ↓wp_iload_n3, ↓wp_invokevirtual, ↓wp_istore_n3, ↓wp_ladd, ↓wp_ldc2_w, ↓wp_lload_n1, ↓wp_lmul, ↓wp_lreturn2, ↓wp_lstore_n1, wp_nil, ↓ldI_0, ↓ldI_s, ↓ldL_0, ↓ldL_s, ↓ldR_0, ↓ldR_s, sto1_0, sto1_1, sto1_s, sto2_0, sto2_1, sto2_s, isLong_i, isLong_l, isLong_r, ↓popI_c, ↓popL_c, ↓popR_c, ↓popN_0, ↓popN_s, catS_n, catS_c, psh_s, psh_n, fldV_n, fldV_s, ↓tgt_e, sw_n, ↓sw_c, ↓lk1_h, ↓lk1_m, ↓atC_h, ↓atC_m, ↓atC_n, ltO_n, ltO_s, updR_eq, updR_ne, gI_0i, gI_0l, gI_s, ltM_iff, List.cons.injEq, Sum.inl.injEq, Sum.inr.injEq, Option.some.injEq, exists_eq_left, exists_eq_left', exists_eq_right, exists_eq_right', exists_and_left, exists_and_right, exists_eq, exists_const, and_assoc, ↓j_X_digest_0, ↓j_X_digest_6, ↓j_X_digest_31, ↓j_X_digest_33, ↓j_X_digest_100, ↓c_X_100270, ↓c_X_100272, ↓f_X_26, ↓f_X_50, ↓f_X_64, ↓f_X_68, List.length_cons, List.length_nil, Nat.zero_add, Nat.reduceAdd, Int.reduceAdd, Int.reduceNeg, Int.reduceToNat, Int.reduceLE, Int.reduceLT, true_and, and_true, Nat.reduceLT, reduceIte, Nat.reduceEqDiff, ne_eq, not_false_eq_true, false_implies, true_implies, Bool.false_eq_true, reduceCtorEq, List.cons_append, List.nil_append, Nat.reduceSub, Nat.reduceLeDiff, Fin.isValue, Int.reduceNatCast', Int.zero_add, Int.add_zero, decide_true, decide_false, implies_true, forall_const, true_or, or_true, or_false, false_or, false_and, and_false, Int.toNat_natCast, ↓oF_0_0, ↓oF_0_1, ↓oF_0_2, ↓oF_0_3, ↓oF_0_4, ↓oF_0_5, ↓oF_0_6, ↓oF_0_7, ↓oF_0_8, ↓oF_0_9, ↓oF_0_10, ↓oF_0_11, oC_0, oC_1, oC_4, oC_11, oC_16, oC_18, oC_20, oC_23, oC_25, oC_26, oC_29, oC_31, oC_33, oC_35, oC_37, isT_29, isT_31, isT_33, isT_35, isL_16, isL_18, isL_26, b2i_0, b2i_1, b2i_01, b2i_r, ↓e_X_count1, ↓e_W_size, ↓e_W_step, ↓e_G_of, ↓e_T_digestBehind]
    subst hu
    have e1 : (i + 1).toNat = i.toNat + 1 := by omega
    have hz0 := stepZ_r hN.2 hf i 0
    have hz1 := stepZ_r hN.2 hf i 1
    have hw1 := hw i.toNat
    have g0 : i < u 11 4 → stepZ (u 11 4) (u 12) i 0 = u 12 (2 * i.toNat) := fun h => by
      rw [step_in ⟨hi.1, h⟩ (by omega)]
      congr 1
      omega
    have g1 : i < u 11 4 → stepZ (u 11 4) (u 12) i 1 = u 12 (2 * i.toNat + 1) := fun h => by
      rw [step_in ⟨hi.1, h⟩ (by omega)]
      congr 1
      omega
    have e2 : ∀ h : Int, dgS (u 12) (u 24) h (i.toNat + 1) = 31 * (31 * (31 * dgS (u 12) (u 24) h i.toNat + u 12 (2 * i.toNat)) + u 12 (2 * i.toNat + 1)) + u 24 i.toNat := fun _ => rfl
    have g2 : i < u 11 4 → (if 0 ≤ i ∧ i < 100 then u 24 i.toNat else 0) = u 24 i.toNat := fun h => if_pos (by omega)
    by_cases hcc : i < u 11 4
    · rw [g2 hcc]
      (try simp only [rI_iff, rL_iff] at *)
      repeat' (with_reducible (first | assumption | apply And.intro | intro _))
      all_goals first | omega | with_reducible assumption | exact True.intro | skip
      all_goals first
        | exact ⟨i + 1, by rw [e1, e2, g0 hcc, g1 hcc], rfl, by omega, by omega, by first | rfl | trivial⟩
        | skip
    · have e5 : (u 11 4).toNat = i.toNat := by omega
      rw [e5] at hQ
      (try simp only [rI_iff, rL_iff] at *)
      repeat' (with_reducible (first | assumption | apply And.intro | intro _))
      all_goals first | omega | with_reducible assumption | exact True.intro | skip
      all_goals first
        | (exfalso; omega)
        | skip
def s_X_digestW : Spec := fun as σ Q => s_X_digest as σ (fun v u => ∀ z, v = some (.inr (.inl z)) → Q (some (.inr (.inl (wrapL z)))) u)
theorem S_X_digestW {l : Launch} : Sat l y_X_digest b_X_digest 4 (some .long) 2 s_X_digestW := by
  refine sat_repr S_X_digest (fun as σ Q hq1 => ?_)
  obtain ⟨o, rr0, rfl, hh1⟩ := popR_inv hq1
  obtain ⟨hrE, rfl, h1, h2, h3, h4, h5, h6, h7, h8, hq2⟩ := hh1
  subst hrE
  rw [e_X_digest]
  exact ⟨h1, h2, h3, h4, h5, h6, h7, h8, _, fun a => (by
    show some (Value.long (Int64.ofInt _)) = some (Value.long (Int64.ofInt (wrapL _)))
    rw [← wrapL_c]), hq2 _ rfl⟩
