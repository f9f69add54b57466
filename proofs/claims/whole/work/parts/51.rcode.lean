/-! the reference: finding a code -/
def FrC (σ u : St) : Prop := (∀ k, k ≠ 37 → k ≠ 59 → k ≠ 60 → k ≠ 62 → u k = σ k) ∧ ∀ j, j ≠ 32 → j ≠ 33 → j ≠ 34 → u 37 j = σ 37 j
def CodeM (σ τ : St) (m n r : Int) : Prop := FrC σ τ ∧ τ 37 33 = m ∧ τ 37 34 = n ∧ τ 37 32 = r ∧ r = sumF (τ 62) (σ 37 17).toNat ∧ isBits (τ 62) ∧ ClosedC (σ 37 17) (gM σ) (2 ^ m.toNat) n (τ 62) ∧ ∀ V, isBits V → ClosedC (σ 37 17) (gM σ) (2 ^ m.toNat) n V → ∀ s : Nat, (s : Int) < σ 37 17 → V s ≤ τ 62 s
def CodeI (σ u : St) (m n : Int) : Prop := FrC σ u ∧ u 37 33 = m ∧ u 37 34 = n ∧ u 37 32 = sumF (u 62) (σ 37 17).toNat ∧ isBits (u 62) ∧ ∀ V, isBits V → ClosedC (σ 37 17) (gM σ) (2 ^ m.toNat) n V → ∀ s : Nat, (s : Int) < σ 37 17 → V s ≤ u 62 s
theorem FrC.at {σ u : St} (h : FrC σ u) : u 37 17 = σ 37 17 ∧ gM u = gM σ := ⟨h.2 17 (by decide) (by decide) (by decide), gM_row (h.1 50 (by decide) (by decide) (by decide) (by decide)) (h.1 51 (by decide) (by decide) (by decide) (by decide))⟩
theorem FrC.r {σ u : St} (h : FrC σ u) (g k : Nat → Int) : FrC σ (updR (updR u 59 g) 60 k) := by
  refine ⟨fun j j1 j2 j3 j4 => ?_, fun j j1 j2 j3 => ?_⟩
  · rw [updR_ne _ _ _ _ j3, updR_ne _ _ _ _ j2]
    exact h.1 j j1 j2 j3 j4
  · rw [updR_ne _ 60 37 _ (by decide), updR_ne _ 59 37 _ (by decide)]
    exact h.2 j j1 j2 j3
theorem CodeI.r {σ u : St} {m n : Int} (h : CodeI σ u m n) (g k : Nat → Int) : CodeI σ (updR (updR u 59 g) 60 k) m n := by
  obtain ⟨h1, h2, h3, h4, h5, h6⟩ := h
  have e37 : updR (updR u 59 g) 60 k 37 = u 37 := by rw [updR_ne _ 60 37 _ (by decide), updR_ne _ 59 37 _ (by decide)]
  have e62 : updR (updR u 59 g) 60 k 62 = u 62 := by rw [updR_ne _ 60 62 _ (by decide), updR_ne _ 59 62 _ (by decide)]
  unfold CodeI
  rw [e37, e62]
  exact ⟨h1.r g k, h2, h3, h4, h5, h6⟩
theorem bits_up0 {f : Nat → Int} (h : isBits f) (k : Nat) : isBits (up1 f k 0) := fun j => by
  rw [up1_app]
  split
  · exact Or.inl rfl
  · exact h j
theorem bits_up1 {f : Nat → Int} (h : isBits f) (k : Nat) : isBits (up1 f k 1) := fun j => by
  rw [up1_app]
  split
  · exact Or.inr rfl
  · exact h j
theorem CodeI.drop {σ u v : St} {m n : Int} {s : Nat} (h : CodeI σ u m n) (hs : (s : Int) < σ 37 17) (h1 : u 62 s = 1) (hl : ladI (σ 37 17) (gM σ) (u 62) n.toNat s < 2 ^ m.toNat) (hv : v = updR (updR u 62 (up1 (u 62) s 0)) 37 (up1 (u 37) 32 (u 37 32 - 1))) : CodeI σ v m n ∧ sumF (v 62) (σ 37 17).toNat = sumF (u 62) (σ 37 17).toNat - 1 := by
  obtain ⟨a1, a2, a3, a4, a5, a6⟩ := h
  have e37 : v 37 = up1 (u 37) 32 (u 37 32 - 1) := by rw [hv, updR_eq]
  have e62 : v 62 = up1 (u 62) s 0 := by rw [hv, updR_ne _ 37 62 _ (by decide), updR_eq]
  have es : sumF (v 62) (σ 37 17).toNat = sumF (u 62) (σ 37 17).toNat - 1 := by rw [e62, sumF_up (by omega), h1]; omega
  refine ⟨⟨⟨fun j j1 j2 j3 j4 => ?_, fun j j1 j2 j3 => ?_⟩, ?_, ?_, ?_, ?_, fun V hV hc t ht => ?_⟩, es⟩
  · rw [hv, updR_ne _ _ _ _ j1, updR_ne _ _ _ _ j4]
    exact a1.1 j j1 j2 j3 j4
  · rw [e37, up1_ne _ _ _ _ j1]
    exact a1.2 j j1 j2 j3
  · rw [e37, up1_ne _ _ _ _ (by decide)]; exact a2
  · rw [e37, up1_ne _ _ _ _ (by decide)]; exact a3
  · rw [es, e37, up1_eq, a4]
  · rw [e62]; exact bits_up0 a5 s
  · rw [e62, up1_app]
    have h2 := a6 V hV hc t ht
    split
    · next e =>
      subst e
      have h3 := ladI_mono (f := gM σ) (a6 V hV hc) n.toNat t
      rcases hV t with h4 | h4
      · omega
      · have := hc t ht h4
        omega
    · exact h2
def s_M_code : Spec := fun as σ Q => popR as fun c0 r0 => popI r0 fun m r1 => popI r1 fun n r2 => r2 = [] ∧ c0 = 37 ∧ (0 ≤ σ 37 17 ∧ σ 37 17 ≤ 100) ∧ (Wire (σ 37 17) (gM σ)) ∧ (isBits (σ 62)) ∧ (rI m) ∧ (rI n) ∧ if (1 ≤ m ∧ m ≤ 8 ∧ 1 ≤ n ∧ n ≤ 12) then (if σ 37 17 = 0 then Q (some (.inl (-3))) σ else ∀ τ r, CodeM σ τ m n r → Q (some (.inl r)) τ) else Q (some (.inl (-2))) σ
theorem e_M_code (m : Int) (n : Int) (σ : St) (Q : Option AV → St → Prop) : s_M_code [.inr (.inr (some 37)), .inl m, .inl n] σ Q = ((0 ≤ σ 37 17 ∧ σ 37 17 ≤ 100) ∧ (Wire (σ 37 17) (gM σ)) ∧ (isBits (σ 62)) ∧ (rI m) ∧ (rI n) ∧ if (1 ≤ m ∧ m ≤ 8 ∧ 1 ≤ n ∧ n ≤ 12) then (if σ 37 17 = 0 then Q (some (.inl (-3))) σ else ∀ τ r, CodeM σ τ m n r → Q (some (.inl r)) τ) else Q (some (.inl (-2))) σ) := by
  show ([] = [] ∧ _) = _
  simp only [true_and]
set_option maxHeartbeats 4000000 in
set_option maxRecDepth 20000 in
theorem S_M_code {l : Launch} : Sat l y_M_code b_M_code 5 (some .int) 2 s_M_code := by
  refine sat_of (Φ := P_M) (κ := Q_M) (Γ := [(108, 0, 3, s_M_in), (238, 10, 1, s_M_leading)]) (rt := 1) (by decide +kernel) P_M_ok Q_M_ok (by
    refine List.forall_mem_cons.mpr ⟨?_, List.forall_mem_cons.mpr ⟨?_, fun _ h => absurd h List.not_mem_nil⟩⟩
    · exact m_M_in S_M_in (by decide) l_M_108
    · exact m_M_leading S_M_leading (by decide) l_M_238) (by simp) o_M_code ?_
  intro as σ Q hh0
  obtain ⟨c0, rr0, rfl, hh1⟩ := popR_inv hh0
  obtain ⟨m, rr1, rfl, hh2⟩ := popI_inv hh1
  obtain ⟨n, rr2, rfl, hh3⟩ := popI_inv hh2
  obtain ⟨hrE, rfl, hN, hf, hb, hrm, hrn, hQ⟩ := hh3
  subst hrE
  clear hh0 hh1 hh2
  refine ⟨Nat.le_of_ble_eq_true rfl, [(57, mkC (fun L st u => ∃ (s : Int) (v4 : AV), L = [.inr (.inr (some 37)), .inl m, .inl n, .inl s, v4] ∧ st = [] ∧ ((1 ≤ m ∧ m ≤ 8 ∧ 1 ≤ n ∧ n ≤ 12)) ∧ (¬ σ 37 17 = 0) ∧ (0 ≤ s ∧ s ≤ σ 37 17) ∧ (∀ t : Nat, (t : Int) < s → u 62 t = 1) ∧ (isBits (u 62)) ∧ (u 37 33 = m ∧ u 37 34 = n ∧ u 37 32 = σ 37 17) ∧ (FrC σ u)) (fun L st u => (1000, (101 - gI L 3).toNat, 0))),
    (80, mkC (fun L st u => ∃ (more : Int) (v4 : AV), L = [.inr (.inr (some 37)), .inl m, .inl n, .inl more, v4] ∧ st = [] ∧ ((1 ≤ m ∧ m ≤ 8 ∧ 1 ≤ n ∧ n ≤ 12)) ∧ (¬ σ 37 17 = 0) ∧ (more = 0 ∨ more = 1) ∧ (CodeI σ u m n) ∧ (more = 0 → ∀ t : Nat, (t : Int) < σ 37 17 → u 62 t = 1 → 2 ^ m.toNat ≤ ladI (σ 37 17) (gM σ) (u 62) n.toNat t)) (fun L st u => ((2 * sumF (u 62) (u 37 17).toNat + gI L 3).toNat, 50, 0))),
    (89, mkC (fun L st u => ∃ (more s : Int), L = [.inr (.inr (some 37)), .inl m, .inl n, .inl more, .inl s] ∧ st = [] ∧ ((1 ≤ m ∧ m ≤ 8 ∧ 1 ≤ n ∧ n ≤ 12)) ∧ (¬ σ 37 17 = 0) ∧ (more = 0 ∨ more = 1) ∧ (0 ≤ s ∧ s ≤ σ 37 17) ∧ (CodeI σ u m n) ∧ (more = 0 → ∀ t : Nat, (t : Int) < s → u 62 t = 1 → 2 ^ m.toNat ≤ ladI (σ 37 17) (gM σ) (u 62) n.toNat t)) (fun L st u => ((2 * sumF (u 62) (u 37 17).toNat + gI L 3).toNat, (400 - 2 * gI L 4).toNat, 0)))], 14, ?_, cuts1 ?_ (cuts1 ?_ (cuts1 ?_ (cuts0)))⟩
  · rw [show entL 5 [.inr (.inr (some 37)), .inl m, .inl n] = [.inr (.inr (some 37)), .inl m, .inl n, .inr (.inr none), .inr (.inr none)] from rfl]
    simp only [↓wpN_go, jmp_e, ↓wp_aload_n0, ↓wp_baload, ↓wp_bastore, ↓wp_bipush, ↓wp_dup, ↓wp_getfield, ↓wp_goto, ↓wp_i2l, ↓wp_icmp_ge, ↓wp_iconst, ↓wp_if_eq, ↓wp_if_ne, ↓wp_iinc, ↓wp_iload, ↓wp_iload_n1, ↓wp_iload_n2, ↓wp_iload_n3, ↓wp_invokestatic, ↓wp_invokevirtual, ↓wp_ireturn1, ↓wp_ishl, ↓wp_istore, ↓wp_istore_n3, ↓wp_isub, ↓wp_lconst1, ↓wp_ldc2_w, ↓wp_putfield, wp_nil, ↓ldI_0, ↓ldI_s, ↓ldL_0, ↓ldL_s, ↓ldR_0, ↓ldR_s, sto1_0, sto1_1, sto1_s, sto2_0, sto2_1, sto2_s, isLong_i, isLong_l, isLong_r, ↓popI_c, ↓popL_c, ↓popR_c, ↓popN_0, ↓popN_s, catS_n, catS_c, psh_s, psh_n, fldV_n, fldV_s, ↓tgt_e, sw_n, ↓sw_c, ↓lk1_h, ↓lk1_m, ↓atC_h, ↓atC_m, ↓atC_n, ltO_n, ltO_s, updR_eq, updR_ne, gI_0i, gI_0l, gI_s, ltM_iff, List.cons.injEq, Sum.inl.injEq, Sum.inr.injEq, Option.some.injEq, exists_eq_left, exists_eq_left', exists_eq_right, exists_eq_right', exists_and_left, exists_and_right, exists_eq, exists_const, and_assoc, ↓j_M_code_0, ↓j_M_code_24, ↓j_M_code_27, ↓j_M_code_37, ↓j_M_code_57, ↓j_M_code_78, ↓j_M_code_80, ↓j_M_code_89, ↓j_M_code_140, ↓j_M_code_146, ↓j_M_code_149, ↓c_M_100209, ↓c_M_100233, ↓f_M_160, ↓f_M_179, ↓f_M_230, ↓f_M_235, ↓f_M_91, List.length_cons, List.length_nil, Nat.zero_add, Nat.reduceAdd, Int.reduceAdd, Int.reduceNeg, Int.reduceToNat, Int.reduceLE, Int.reduceLT, true_and, and_true, Nat.reduceLT, reduceIte, Nat.reduceEqDiff, ne_eq, not_false_eq_true, false_implies, true_implies, Bool.false_eq_true, reduceCtorEq, List.cons_append, List.nil_append, Nat.reduceSub, Nat.reduceLeDiff, Fin.isValue, Int.reduceNatCast', Int.zero_add, Int.add_zero, decide_true, decide_false, implies_true, forall_const, true_or, or_true, or_false, false_or, false_and, and_false, Int.toNat_natCast, ↓oF_37_0, ↓oF_37_1, ↓oF_37_2, ↓oF_37_3, ↓aF_38, ↓oF_37_4, ↓aF_39, ↓oF_37_5, ↓oF_37_6, ↓aF_40, ↓oF_37_7, ↓oF_37_8, ↓aF_41, ↓oF_37_9, ↓aF_42, ↓oF_37_10, ↓aF_43, ↓oF_37_11, ↓aF_44, ↓oF_37_12, ↓aF_45, ↓oF_37_13, ↓aF_46, ↓oF_37_14, ↓aF_47, ↓oF_37_15, ↓aF_48, ↓oF_37_16, ↓aF_49, ↓oF_37_17, ↓oF_37_18, ↓aF_50, ↓oF_37_19, ↓aF_51, ↓oF_37_20, ↓aF_52, ↓oF_37_21, ↓aF_53, ↓oF_37_22, ↓aF_54, ↓oF_37_23, ↓aF_55, ↓oF_37_24, ↓aF_56, ↓oF_37_25, ↓aF_57, ↓oF_37_26, ↓oF_37_27, ↓oF_37_28, ↓aF_58, ↓oF_37_29, ↓aF_59, ↓oF_37_30, ↓aF_60, ↓oF_37_31, ↓aF_61, ↓oF_37_32, ↓oF_37_33, ↓oF_37_34, ↓oF_37_35, ↓aF_62, ↓oF_37_36, ↓oF_37_37, ↓aF_63, ↓oF_37_38, ↓oF_37_39, ↓aF_64, ↓oF_37_40, ↓aF_65, ↓oF_37_41, ↓aF_66, oC_0, oC_1, oC_4, oC_11, oC_16, oC_18, oC_20, oC_23, oC_25, oC_26, oC_29, oC_31, oC_33, oC_35, oC_37, isT_29, isT_31, isT_33, isT_35, isL_16, isL_18, isL_26, b2i_0, b2i_1, b2i_01, b2i_r, ↓e_M_in, ↓e_M_leading]
    have q1 : ¬ (1 ≤ m ∧ m ≤ 8 ∧ 1 ≤ n ∧ n ≤ 12) → Q (some (.inl (-2))) σ := fun h => by rw [if_neg h] at hQ; exact hQ
    have q2 : (1 ≤ m ∧ m ≤ 8 ∧ 1 ≤ n ∧ n ≤ 12) → σ 37 17 = 0 → Q (some (.inl (-3))) σ := fun h h1 => by rw [if_pos h, if_pos h1] at hQ; exact hQ
    simp only [updR_twice, up1_eq, up1_ne _ 32 17 _ (by decide), up1_ne _ 33 17 _ (by decide), up1_ne _ 34 17 _ (by decide), up1_ne _ 32 33 _ (by decide), up1_ne _ 34 33 _ (by decide), up1_ne _ 32 34 _ (by decide)]
    have hfr : FrC σ (updR σ 37 (up1 (up1 (up1 (σ 37) 33 m) 34 n) 32 (σ 37 17))) := ⟨fun k k1 _ _ _ => updR_ne _ _ _ _ k1, fun j j1 j2 j3 => by rw [updR_eq, up1_ne _ _ _ _ j1, up1_ne _ _ _ _ j3, up1_ne _ _ _ _ j2]⟩
    clear hQ
    (try simp only [rI_iff, rL_iff] at *)
    repeat' (with_reducible (first | assumption | apply And.intro | intro _))
    all_goals first | omega | with_reducible assumption | exact True.intro | skip
    all_goals first
      | exact q1 (by omega)
      | exact q2 (by omega) (by omega)
      | omega
      | exact hfr
      | exact hb
      | trace_state
  · intro L st u hI
    obtain ⟨s, v4, rfl, rfl, ha, hz, hs, hw, hb2, hm, hu⟩ := hI
    simp only [↓wpN_go, jmp_e, ↓wp_aload_n0, ↓wp_baload, ↓wp_bastore, ↓wp_bipush, ↓wp_dup, ↓wp_getfield, ↓wp_goto, ↓wp_i2l, ↓wp_icmp_ge, ↓wp_iconst, ↓wp_if_eq, ↓wp_if_ne, ↓wp_iinc, ↓wp_iload, ↓wp_iload_n1, ↓wp_iload_n2, ↓wp_iload_n3, ↓wp_invokestatic, ↓wp_invokevirtual, ↓wp_ireturn1, ↓wp_ishl, ↓wp_istore, ↓wp_istore_n3, ↓wp_isub, ↓wp_lconst1, ↓wp_ldc2_w, ↓wp_putfield, wp_nil, ↓ldI_0, ↓ldI_s, ↓ldL_0, ↓ldL_s, ↓ldR_0, ↓ldR_s, sto1_0, sto1_1, sto1_s, sto2_0, sto2_1, sto2_s, isLong_i, isLong_l, isLong_r, ↓popI_c, ↓popL_c, ↓popR_c, ↓popN_0, ↓popN_s, catS_n, catS_c, psh_s, psh_n, fldV_n, fldV_s, ↓tgt_e, sw_n, ↓sw_c, ↓lk1_h, ↓lk1_m, ↓atC_h, ↓atC_m, ↓atC_n, ltO_n, ltO_s, updR_eq, updR_ne, gI_0i, gI_0l, gI_s, ltM_iff, List.cons.injEq, Sum.inl.injEq, Sum.inr.injEq, Option.some.injEq, exists_eq_left, exists_eq_left', exists_eq_right, exists_eq_right', exists_and_left, exists_and_right, exists_eq, exists_const, and_assoc, ↓j_M_code_0, ↓j_M_code_24, ↓j_M_code_27, ↓j_M_code_37, ↓j_M_code_57, ↓j_M_code_78, ↓j_M_code_80, ↓j_M_code_89, ↓j_M_code_140, ↓j_M_code_146, ↓j_M_code_149, ↓c_M_100209, ↓c_M_100233, ↓f_M_160, ↓f_M_179, ↓f_M_230, ↓f_M_235, ↓f_M_91, List.length_cons, List.length_nil, Nat.zero_add, Nat.reduceAdd, Int.reduceAdd, Int.reduceNeg, Int.reduceToNat, Int.reduceLE, Int.reduceLT, true_and, and_true, Nat.reduceLT, reduceIte, Nat.reduceEqDiff, ne_eq, not_false_eq_true, false_implies, true_implies, Bool.false_eq_true, reduceCtorEq, List.cons_append, List.nil_append, Nat.reduceSub, Nat.reduceLeDiff, Fin.isValue, Int.reduceNatCast', Int.zero_add, Int.add_zero, decide_true, decide_false, implies_true, forall_const, true_or, or_true, or_false, false_or, false_and, and_false, Int.toNat_natCast, ↓oF_37_0, ↓oF_37_1, ↓oF_37_2, ↓oF_37_3, ↓aF_38, ↓oF_37_4, ↓aF_39, ↓oF_37_5, ↓oF_37_6, ↓aF_40, ↓oF_37_7, ↓oF_37_8, ↓aF_41, ↓oF_37_9, ↓aF_42, ↓oF_37_10, ↓aF_43, ↓oF_37_11, ↓aF_44, ↓oF_37_12, ↓aF_45, ↓oF_37_13, ↓aF_46, ↓oF_37_14, ↓aF_47, ↓oF_37_15, ↓aF_48, ↓oF_37_16, ↓aF_49, ↓oF_37_17, ↓oF_37_18, ↓aF_50, ↓oF_37_19, ↓aF_51, ↓oF_37_20, ↓aF_52, ↓oF_37_21, ↓aF_53, ↓oF_37_22, ↓aF_54, ↓oF_37_23, ↓aF_55, ↓oF_37_24, ↓aF_56, ↓oF_37_25, ↓aF_57, ↓oF_37_26, ↓oF_37_27, ↓oF_37_28, ↓aF_58, ↓oF_37_29, ↓aF_59, ↓oF_37_30, ↓aF_60, ↓oF_37_31, ↓aF_61, ↓oF_37_32, ↓oF_37_33, ↓oF_37_34, ↓oF_37_35, ↓aF_62, ↓oF_37_36, ↓oF_37_37, ↓aF_63, ↓oF_37_38, ↓oF_37_39, ↓aF_64, ↓oF_37_40, ↓aF_65, ↓oF_37_41, ↓aF_66, oC_0, oC_1, oC_4, oC_11, oC_16, oC_18, oC_20, oC_23, oC_25, oC_26, oC_29, oC_31, oC_33, oC_35, oC_37, isT_29, isT_31, isT_33, isT_35, isL_16, isL_18, isL_26, b2i_0, b2i_1, b2i_01, b2i_r, ↓e_M_in, ↓e_M_leading]
    obtain ⟨e17, egM⟩ := hu.at
    simp only [e17]
    have q1 : σ 37 17 ≤ s → CodeI σ u m n := fun h => by
      refine ⟨hu, hm.1, hm.2.1, ?_, hb2, fun V hV _ t ht => ?_⟩
      · rw [hm.2.2]
        have : ∀ k : Nat, (k : Int) ≤ s → sumF (u 62) k = k := by
          intro k
          induction k with
          | zero => intro _; rfl
          | succ k ih =>
            intro hk
            rw [sumF, ih (by omega), hw k (by omega)]
            omega
        rw [this _ (by omega)]
        omega
      · rw [hw t (by omega)]
        have := hV t
        omega
    have q2 : ∀ t : Nat, (t : Int) < s + 1 → up1 (u 62) s.toNat 1 t = 1 := fun t ht => by
      rw [up1_app]
      split
      · rfl
      · exact hw t (by omega)
    have q3 : FrC σ (updR u 62 (up1 (u 62) s.toNat 1)) := by
      refine ⟨fun k k1 k2 k3 k4 => ?_, fun j j1 j2 j3 => ?_⟩
      · rw [updR_ne _ _ _ _ k4]; exact hu.1 k k1 k2 k3 k4
      · rw [updR_ne _ 62 37 _ (by decide)]; exact hu.2 j j1 j2 j3
    have q4 := bits_up1 hb2 s.toNat
    have hsb : 0 ≤ sumF (u 62) (σ 37 17).toNat ∧ sumF (u 62) (σ 37 17).toNat ≤ ((σ 37 17).toNat : Int) * 1 := sumF_bound (w := u 62) (B := 1) (n := (σ 37 17).toNat) (fun t h => by have := hb2 t; omega)
    clear hQ
    (try simp only [rI_iff, rL_iff] at *)
    repeat' (with_reducible (first | assumption | apply And.intro | intro _))
    all_goals first | omega | with_reducible assumption | exact True.intro | skip
    all_goals first
      | omega
      | exact q1 (by assumption)
      | exact q2 _ (by assumption)
      | exact hu
      | exact q3
      | exact q4
      | trace_state
  · intro L st u hI
    obtain ⟨more, v4, rfl, rfl, ha, hz, hmo, hI, hm0⟩ := hI
    simp only [↓wpN_go, jmp_e, ↓wp_aload_n0, ↓wp_baload, ↓wp_bastore, ↓wp_bipush, ↓wp_dup, ↓wp_getfield, ↓wp_goto, ↓wp_i2l, ↓wp_icmp_ge, ↓wp_iconst, ↓wp_if_eq, ↓wp_if_ne, ↓wp_iinc, ↓wp_iload, ↓wp_iload_n1, ↓wp_iload_n2, ↓wp_iload_n3, ↓wp_invokestatic, ↓wp_invokevirtual, ↓wp_ireturn1, ↓wp_ishl, ↓wp_istore, ↓wp_istore_n3, ↓wp_isub, ↓wp_lconst1, ↓wp_ldc2_w, ↓wp_putfield, wp_nil, ↓ldI_0, ↓ldI_s, ↓ldL_0, ↓ldL_s, ↓ldR_0, ↓ldR_s, sto1_0, sto1_1, sto1_s, sto2_0, sto2_1, sto2_s, isLong_i, isLong_l, isLong_r, ↓popI_c, ↓popL_c, ↓popR_c, ↓popN_0, ↓popN_s, catS_n, catS_c, psh_s, psh_n, fldV_n, fldV_s, ↓tgt_e, sw_n, ↓sw_c, ↓lk1_h, ↓lk1_m, ↓atC_h, ↓atC_m, ↓atC_n, ltO_n, ltO_s, updR_eq, updR_ne, gI_0i, gI_0l, gI_s, ltM_iff, List.cons.injEq, Sum.inl.injEq, Sum.inr.injEq, Option.some.injEq, exists_eq_left, exists_eq_left', exists_eq_right, exists_eq_right', exists_and_left, exists_and_right, exists_eq, exists_const, and_assoc, ↓j_M_code_0, ↓j_M_code_24, ↓j_M_code_27, ↓j_M_code_37, ↓j_M_code_57, ↓j_M_code_78, ↓j_M_code_80, ↓j_M_code_89, ↓j_M_code_140, ↓j_M_code_146, ↓j_M_code_149, ↓c_M_100209, ↓c_M_100233, ↓f_M_160, ↓f_M_179, ↓f_M_230, ↓f_M_235, ↓f_M_91, List.length_cons, List.length_nil, Nat.zero_add, Nat.reduceAdd, Int.reduceAdd, Int.reduceNeg, Int.reduceToNat, Int.reduceLE, Int.reduceLT, true_and, and_true, Nat.reduceLT, reduceIte, Nat.reduceEqDiff, ne_eq, not_false_eq_true, false_implies, true_implies, Bool.false_eq_true, reduceCtorEq, List.cons_append, List.nil_append, Nat.reduceSub, Nat.reduceLeDiff, Fin.isValue, Int.reduceNatCast', Int.zero_add, Int.add_zero, decide_true, decide_false, implies_true, forall_const, true_or, or_true, or_false, false_or, false_and, and_false, Int.toNat_natCast, ↓oF_37_0, ↓oF_37_1, ↓oF_37_2, ↓oF_37_3, ↓aF_38, ↓oF_37_4, ↓aF_39, ↓oF_37_5, ↓oF_37_6, ↓aF_40, ↓oF_37_7, ↓oF_37_8, ↓aF_41, ↓oF_37_9, ↓aF_42, ↓oF_37_10, ↓aF_43, ↓oF_37_11, ↓aF_44, ↓oF_37_12, ↓aF_45, ↓oF_37_13, ↓aF_46, ↓oF_37_14, ↓aF_47, ↓oF_37_15, ↓aF_48, ↓oF_37_16, ↓aF_49, ↓oF_37_17, ↓oF_37_18, ↓aF_50, ↓oF_37_19, ↓aF_51, ↓oF_37_20, ↓aF_52, ↓oF_37_21, ↓aF_53, ↓oF_37_22, ↓aF_54, ↓oF_37_23, ↓aF_55, ↓oF_37_24, ↓aF_56, ↓oF_37_25, ↓aF_57, ↓oF_37_26, ↓oF_37_27, ↓oF_37_28, ↓aF_58, ↓oF_37_29, ↓aF_59, ↓oF_37_30, ↓aF_60, ↓oF_37_31, ↓aF_61, ↓oF_37_32, ↓oF_37_33, ↓oF_37_34, ↓oF_37_35, ↓aF_62, ↓oF_37_36, ↓oF_37_37, ↓aF_63, ↓oF_37_38, ↓oF_37_39, ↓aF_64, ↓oF_37_40, ↓aF_65, ↓oF_37_41, ↓aF_66, oC_0, oC_1, oC_4, oC_11, oC_16, oC_18, oC_20, oC_23, oC_25, oC_26, oC_29, oC_31, oC_33, oC_35, oC_37, isT_29, isT_31, isT_33, isT_35, isL_16, isL_18, isL_26, b2i_0, b2i_1, b2i_01, b2i_r, ↓e_M_in, ↓e_M_leading]
    obtain ⟨e17, egM⟩ := hI.1.at
    have e32 := hI.2.2.2.1
    simp only [e17]
    have q1 : more = 0 → Q (some (.inl (u 37 32))) u := fun h => by
      rw [if_pos ha, if_neg hz] at hQ
      exact hQ _ _ ⟨hI.1, hI.2.1, hI.2.2.1, rfl, hI.2.2.2.1, hI.2.2.2.2.1, fun t ht => hm0 h t ht, hI.2.2.2.2.2⟩
    have hsb : 0 ≤ sumF (u 62) (σ 37 17).toNat := (sumF_bound (w := u 62) (B := 1) (n := (σ 37 17).toNat) (fun t h => by have := hI.2.2.2.2.1 t; omega)).1
    clear hQ
    (try simp only [rI_iff, rL_iff] at *)
    repeat' (with_reducible (first | assumption | apply And.intro | intro _))
    all_goals first | omega | with_reducible assumption | exact True.intro | skip
    all_goals first
      | omega
      | exact q1 (by assumption)
      | exact hI
      | trace_state
  · intro L st u hI
    obtain ⟨more, s, rfl, rfl, ha, hz, hmo, hs, hI, hm0⟩ := hI
    simp only [↓wpN_go, jmp_e, ↓wp_aload_n0, ↓wp_baload, ↓wp_bastore, ↓wp_bipush, ↓wp_dup, ↓wp_getfield, ↓wp_goto, ↓wp_i2l, ↓wp_icmp_ge, ↓wp_iconst, ↓wp_if_eq, ↓wp_if_ne, ↓wp_iinc, ↓wp_iload, ↓wp_iload_n1, ↓wp_iload_n2, ↓wp_iload_n3, ↓wp_invokestatic, ↓wp_invokevirtual, ↓wp_ireturn1, ↓wp_ishl, ↓wp_istore, ↓wp_istore_n3, ↓wp_isub, ↓wp_lconst1, ↓wp_ldc2_w, ↓wp_putfield, wp_nil, ↓ldI_0, ↓ldI_s, ↓ldL_0, ↓ldL_s, ↓ldR_0, ↓ldR_s, sto1_0, sto1_1, sto1_s, sto2_0, sto2_1, sto2_s, isLong_i, isLong_l, isLong_r, ↓popI_c, ↓popL_c, ↓popR_c, ↓popN_0, ↓popN_s, catS_n, catS_c, psh_s, psh_n, fldV_n, fldV_s, ↓tgt_e, sw_n, ↓sw_c, ↓lk1_h, ↓lk1_m, ↓atC_h, ↓atC_m, ↓atC_n, ltO_n, ltO_s, updR_eq, updR_ne, gI_0i, gI_0l, gI_s, ltM_iff, List.cons.injEq, Sum.inl.injEq, Sum.inr.injEq, Option.some.injEq, exists_eq_left, exists_eq_left', exists_eq_right, exists_eq_right', exists_and_left, exists_and_right, exists_eq, exists_const, and_assoc, ↓j_M_code_0, ↓j_M_code_24, ↓j_M_code_27, ↓j_M_code_37, ↓j_M_code_57, ↓j_M_code_78, ↓j_M_code_80, ↓j_M_code_89, ↓j_M_code_140, ↓j_M_code_146, ↓j_M_code_149, ↓c_M_100209, ↓c_M_100233, ↓f_M_160, ↓f_M_179, ↓f_M_230, ↓f_M_235, ↓f_M_91, List.length_cons, List.length_nil, Nat.zero_add, Nat.reduceAdd, Int.reduceAdd, Int.reduceNeg, Int.reduceToNat, Int.reduceLE, Int.reduceLT, true_and, and_true, Nat.reduceLT, reduceIte, Nat.reduceEqDiff, ne_eq, not_false_eq_true, false_implies, true_implies, Bool.false_eq_true, reduceCtorEq, List.cons_append, List.nil_append, Nat.reduceSub, Nat.reduceLeDiff, Fin.isValue, Int.reduceNatCast', Int.zero_add, Int.add_zero, decide_true, decide_false, implies_true, forall_const, true_or, or_true, or_false, false_or, false_and, and_false, Int.toNat_natCast, ↓oF_37_0, ↓oF_37_1, ↓oF_37_2, ↓oF_37_3, ↓aF_38, ↓oF_37_4, ↓aF_39, ↓oF_37_5, ↓oF_37_6, ↓aF_40, ↓oF_37_7, ↓oF_37_8, ↓aF_41, ↓oF_37_9, ↓aF_42, ↓oF_37_10, ↓aF_43, ↓oF_37_11, ↓aF_44, ↓oF_37_12, ↓aF_45, ↓oF_37_13, ↓aF_46, ↓oF_37_14, ↓aF_47, ↓oF_37_15, ↓aF_48, ↓oF_37_16, ↓aF_49, ↓oF_37_17, ↓oF_37_18, ↓aF_50, ↓oF_37_19, ↓aF_51, ↓oF_37_20, ↓aF_52, ↓oF_37_21, ↓aF_53, ↓oF_37_22, ↓aF_54, ↓oF_37_23, ↓aF_55, ↓oF_37_24, ↓aF_56, ↓oF_37_25, ↓aF_57, ↓oF_37_26, ↓oF_37_27, ↓oF_37_28, ↓aF_58, ↓oF_37_29, ↓aF_59, ↓oF_37_30, ↓aF_60, ↓oF_37_31, ↓aF_61, ↓oF_37_32, ↓oF_37_33, ↓oF_37_34, ↓oF_37_35, ↓aF_62, ↓oF_37_36, ↓oF_37_37, ↓aF_63, ↓oF_37_38, ↓oF_37_39, ↓aF_64, ↓oF_37_40, ↓aF_65, ↓oF_37_41, ↓aF_66, oC_0, oC_1, oC_4, oC_11, oC_16, oC_18, oC_20, oC_23, oC_25, oC_26, oC_29, oC_31, oC_33, oC_35, oC_37, isT_29, isT_31, isT_33, isT_35, isL_16, isL_18, isL_26, b2i_0, b2i_1, b2i_01, b2i_r, ↓e_M_in, ↓e_M_leading]
    obtain ⟨e17, egM⟩ := hI.1.at
    have e34 := hI.2.2.1
    have hbu := hI.2.2.2.2.1
    simp only [e17, egM, e34]
    have hl12 : s < σ 37 17 → 0 ≤ ladI (σ 37 17) (gM σ) (u 62) n.toNat s ∧ ladI (σ 37 17) (gM σ) (u 62) n.toNat s ≤ 4096 := fun h => by
      have h1 := ladI_bound (f := gM σ) (by omega : (0 : Int) ≤ 1) (fun t _ => by have := hbu t; omega : ∀ t : Nat, (t : Int) < σ 37 17 → 0 ≤ u 62 t ∧ u 62 t ≤ 1) n.toNat s
      have h2 := p2_le (show n.toNat ≤ 12 by omega)
      have h3 : (2 : Int) ^ 12 = 4096 := by decide
      omega
    have hp8 := pow8 (m := m) ⟨by omega, by omega⟩
    have hsb : 0 ≤ sumF (u 62) (σ 37 17).toNat := (sumF_bound (w := u 62) (B := 1) (n := (σ 37 17).toNat) (fun t h => by have := hbu t; omega)).1
    have q0 : ∀ g h, CodeI σ (updR (updR u 59 g) 60 h) m n := fun g h => hI.r g h
    have q62 : ∀ g h, updR (updR u 59 g) 60 h 62 = u 62 := fun g h => by rw [updR_ne _ 60 62 _ (by decide), updR_ne _ 59 62 _ (by decide)]
    have q37 : ∀ g h, updR (updR u 59 g) 60 h 37 = u 37 := fun g h => by rw [updR_ne _ 60 37 _ (by decide), updR_ne _ 59 37 _ (by decide)]
    have qd : s < σ 37 17 → ¬ u 62 s.toNat = 0 → ladI (σ 37 17) (gM σ) (u 62) n.toNat s < 2 ^ m.toNat → ∀ g h, CodeI σ (updR (updR (updR (updR u 59 g) 60 h) 62 (up1 (u 62) s.toNat 0)) 37 (up1 (u 37) 32 (u 37 32 - 1))) m n ∧ sumF (up1 (u 62) s.toNat 0) (σ 37 17).toNat = sumF (u 62) (σ 37 17).toNat - 1 := fun h1 h2 h3 g h => by
      have hb1 := hbu s.toNat
      have := (hI.r g h).drop (s := s.toNat) (v := updR (updR (updR (updR u 59 g) 60 h) 62 (up1 (u 62) s.toNat 0)) 37 (up1 (u 37) 32 (u 37 32 - 1))) (by omega) (by rw [q62]; omega) (by rw [q62, Int.toNat_of_nonneg hs.1]; exact h3) (by rw [q62, q37])
      rw [updR_ne _ 37 62 _ (by decide), updR_eq, q62] at this
      exact this
    have q2 : s < σ 37 17 → (u 62 s.toNat = 1 → 2 ^ m.toNat ≤ ladI (σ 37 17) (gM σ) (u 62) n.toNat s) → more = 0 → ∀ t : Nat, (t : Int) < s + 1 → u 62 t = 1 → 2 ^ m.toNat ≤ ladI (σ 37 17) (gM σ) (u 62) n.toNat t := fun h h1 h0 t ht h2 => by
      by_cases e : t = s.toNat
      · rw [e] at h2 ⊢
        rw [Int.toNat_of_nonneg hs.1]
        exact h1 h2
      · exact hm0 h0 t (by omega) h2
    have hu1 : ∀ z, up1 (u 37) 32 z 17 = σ 37 17 := fun z => by rw [up1_ne _ _ _ _ (by decide)]; exact e17
    simp only [q37, q62, hu1]
    have hbs := hbu s.toNat
    rw [Int.one_mul]
    clear hQ
    by_cases hc : s < σ 37 17
    · have hl12 := hl12 hc
      have q2 := q2 hc
      have qd := qd hc
      generalize hlz : ladI (σ 37 17) (gM σ) (u 62) n.toNat s = lz at *
      generalize hpz : (2 : Int) ^ m.toNat = pz at *
      (try simp only [rI_iff, rL_iff] at *)
      repeat' (with_reducible (first | assumption | apply And.intro | intro _))
      all_goals first | omega | with_reducible assumption | exact True.intro | skip
      all_goals first
        | omega
        | exact ⟨_, hI.2.2.2.2.1⟩
        | exact hbu
        | exact e34 ▸ by omega
        | (have hs1 := (qd (by assumption) (by omega) (fun _ => 0) (fun _ => 0)).2; omega)
        | exact (qd (by assumption) (by omega) _ _).1
        | exact q0 _ _
        | exact hI
        | exact q2 (fun _ => by omega) (by assumption) _ (by assumption) (by assumption)
        | exact q2 (fun h => by omega) (by assumption) _ (by assumption) (by assumption)
        | exact hm0 (by assumption) _ (by omega) (by assumption)
        | trace_state
    · (try simp only [rI_iff, rL_iff] at *)
      repeat' (with_reducible (first | assumption | apply And.intro | intro _))
      all_goals first | omega | with_reducible assumption | exact True.intro | skip
      all_goals first
        | omega
        | exact hI
        | exact hm0 (by assumption) _ (by omega) (by assumption)
        | trace_state
def s_M_wordOf : Spec := fun as σ Q => popR as fun c0 r0 => popI r0 fun s r1 => popI r1 fun v r2 => r2 = [] ∧ c0 = 37 ∧ (0 ≤ σ 37 17 ∧ σ 37 17 ≤ 100) ∧ (Wire (σ 37 17) (gM σ)) ∧ (isBits (σ 62)) ∧ (0 ≤ σ 37 32 ∧ σ 37 32 ≤ 100) ∧ (0 < σ 37 32 → (1 ≤ σ 37 34 ∧ σ 37 34 ≤ 12) ∧ (1 ≤ σ 37 33 ∧ σ 37 33 ≤ 8) ∧ ClosedC (σ 37 17) (gM σ) (2 ^ (σ 37 33).toNat) (σ 37 34) (σ 62)) ∧ (rI s) ∧ (rI v) ∧ Q (some (.inl (if σ 37 32 = 0 then -3 else if ((0 ≤ s ∧ s < σ 37 17) ∧ σ 62 s.toNat = 1) ∧ 0 ≤ v ∧ v < 2 ^ (σ 37 33).toNat then wordZ (σ 37 17) (gM σ) (σ 62) (σ 37 34) s v else -2))) σ
theorem e_M_wordOf (s : Int) (v : Int) (σ : St) (Q : Option AV → St → Prop) : s_M_wordOf [.inr (.inr (some 37)), .inl s, .inl v] σ Q = ((0 ≤ σ 37 17 ∧ σ 37 17 ≤ 100) ∧ (Wire (σ 37 17) (gM σ)) ∧ (isBits (σ 62)) ∧ (0 ≤ σ 37 32 ∧ σ 37 32 ≤ 100) ∧ (0 < σ 37 32 → (1 ≤ σ 37 34 ∧ σ 37 34 ≤ 12) ∧ (1 ≤ σ 37 33 ∧ σ 37 33 ≤ 8) ∧ ClosedC (σ 37 17) (gM σ) (2 ^ (σ 37 33).toNat) (σ 37 34) (σ 62)) ∧ (rI s) ∧ (rI v) ∧ Q (some (.inl (if σ 37 32 = 0 then -3 else if ((0 ≤ s ∧ s < σ 37 17) ∧ σ 62 s.toNat = 1) ∧ 0 ≤ v ∧ v < 2 ^ (σ 37 33).toNat then wordZ (σ 37 17) (gM σ) (σ 62) (σ 37 34) s v else -2))) σ) := by
  show ([] = [] ∧ _) = _
  simp only [true_and]
set_option maxHeartbeats 4000000 in
set_option maxRecDepth 20000 in
theorem S_M_wordOf {l : Launch} : Sat l y_M_wordOf b_M_wordOf 3 (some .int) 3 s_M_wordOf := by
  refine sat_of (Φ := P_M) (κ := Q_M) (Γ := [(185, 10, 1, s_M_isState), (108, 0, 3, s_M_in), (244, 10, 2, s_M_wordAt)]) (rt := 1) (by decide +kernel) P_M_ok Q_M_ok (by
    refine List.forall_mem_cons.mpr ⟨?_, List.forall_mem_cons.mpr ⟨?_, List.forall_mem_cons.mpr ⟨?_, fun _ h => absurd h List.not_mem_nil⟩⟩⟩
    · exact m_M_isState S_M_isState (by decide) l_M_185
    · exact m_M_in S_M_in (by decide) l_M_108
    · exact m_M_wordAt S_M_wordAt (by decide) l_M_244) (by simp) o_M_wordOf ?_
  intro as σ Q hh0
  obtain ⟨c0, rr0, rfl, hh1⟩ := popR_inv hh0
  obtain ⟨s, rr1, rfl, hh2⟩ := popI_inv hh1
  obtain ⟨v, rr2, rfl, hh3⟩ := popI_inv hh2
  obtain ⟨hrE, rfl, hN, hf, hb, hz, hC, hrs, hrv, hQ⟩ := hh3
  subst hrE
  clear hh0 hh1 hh2
  refine ⟨Nat.le_of_ble_eq_true rfl, [], 14, ?_, cuts0⟩
  · rw [show entL 3 [.inr (.inr (some 37)), .inl s, .inl v] = [.inr (.inr (some 37)), .inl s, .inl v] from rfl]
    simp only [↓wpN_go, jmp_e, ↓wp_aload_n0, ↓wp_baload, ↓wp_bipush, ↓wp_getfield, ↓wp_goto, ↓wp_i2l, ↓wp_iconst, ↓wp_if_eq, ↓wp_if_ne, ↓wp_iload_n1, ↓wp_iload_n2, ↓wp_invokestatic, ↓wp_invokevirtual, ↓wp_ireturn1, ↓wp_ishl, ↓wp_isub, ↓wp_lconst0, wp_nil, ↓ldI_0, ↓ldI_s, ↓ldL_0, ↓ldL_s, ↓ldR_0, ↓ldR_s, sto1_0, sto1_1, sto1_s, sto2_0, sto2_1, sto2_s, isLong_i, isLong_l, isLong_r, ↓popI_c, ↓popL_c, ↓popR_c, ↓popN_0, ↓popN_s, catS_n, catS_c, psh_s, psh_n, fldV_n, fldV_s, ↓tgt_e, sw_n, ↓sw_c, ↓lk1_h, ↓lk1_m, ↓atC_h, ↓atC_m, ↓atC_n, ltO_n, ltO_s, updR_eq, updR_ne, gI_0i, gI_0l, gI_s, ltM_iff, List.cons.injEq, Sum.inl.injEq, Sum.inr.injEq, Option.some.injEq, exists_eq_left, exists_eq_left', exists_eq_right, exists_eq_right', exists_and_left, exists_and_right, exists_eq, exists_const, and_assoc, ↓j_M_wordOf_0, ↓j_M_wordOf_10, ↓j_M_wordOf_54, ↓j_M_wordOf_56, ↓f_M_179, ↓f_M_235, ↓f_M_91, List.length_cons, List.length_nil, Nat.zero_add, Nat.reduceAdd, Int.reduceAdd, Int.reduceNeg, Int.reduceToNat, Int.reduceLE, Int.reduceLT, true_and, and_true, Nat.reduceLT, reduceIte, Nat.reduceEqDiff, ne_eq, not_false_eq_true, false_implies, true_implies, Bool.false_eq_true, reduceCtorEq, List.cons_append, List.nil_append, Nat.reduceSub, Nat.reduceLeDiff, Fin.isValue, Int.reduceNatCast', Int.zero_add, Int.add_zero, decide_true, decide_false, implies_true, forall_const, true_or, or_true, or_false, false_or, false_and, and_false, Int.toNat_natCast, ↓oF_37_0, ↓oF_37_1, ↓oF_37_2, ↓oF_37_3, ↓aF_38, ↓oF_37_4, ↓aF_39, ↓oF_37_5, ↓oF_37_6, ↓aF_40, ↓oF_37_7, ↓oF_37_8, ↓aF_41, ↓oF_37_9, ↓aF_42, ↓oF_37_10, ↓aF_43, ↓oF_37_11, ↓aF_44, ↓oF_37_12, ↓aF_45, ↓oF_37_13, ↓aF_46, ↓oF_37_14, ↓aF_47, ↓oF_37_15, ↓aF_48, ↓oF_37_16, ↓aF_49, ↓oF_37_17, ↓oF_37_18, ↓aF_50, ↓oF_37_19, ↓aF_51, ↓oF_37_20, ↓aF_52, ↓oF_37_21, ↓aF_53, ↓oF_37_22, ↓aF_54, ↓oF_37_23, ↓aF_55, ↓oF_37_24, ↓aF_56, ↓oF_37_25, ↓aF_57, ↓oF_37_26, ↓oF_37_27, ↓oF_37_28, ↓aF_58, ↓oF_37_29, ↓aF_59, ↓oF_37_30, ↓aF_60, ↓oF_37_31, ↓aF_61, ↓oF_37_32, ↓oF_37_33, ↓oF_37_34, ↓oF_37_35, ↓aF_62, ↓oF_37_36, ↓oF_37_37, ↓aF_63, ↓oF_37_38, ↓oF_37_39, ↓aF_64, ↓oF_37_40, ↓aF_65, ↓oF_37_41, ↓aF_66, oC_0, oC_1, oC_4, oC_11, oC_16, oC_18, oC_20, oC_23, oC_25, oC_26, oC_29, oC_31, oC_33, oC_35, oC_37, isT_29, isT_31, isT_33, isT_35, isL_16, isL_18, isL_26, b2i_0, b2i_1, b2i_01, b2i_r, ↓e_M_isState, ↓e_M_in, ↓e_M_wordAt]
    by_cases hc : 0 < σ 37 32
    · obtain ⟨hc1, hc2, hc3⟩ := hC hc
      rw [if_neg (by omega)] at hQ
      have hp8 := pow8 (m := σ 37 33) ⟨by omega, by omega⟩
      have hp12 := p2_le (show (σ 37 34).toNat ≤ 12 by omega)
      have hp120 := p2_pos (σ 37 34).toNat
      have e12 : (2 : Int) ^ 12 = 4096 := by decide
      have hbs := hb s.toNat
      have hcl : 0 ≤ s → s < σ 37 17 → σ 62 s.toNat = 1 → 2 ^ (σ 37 33).toNat ≤ ladI (σ 37 17) (gM σ) (σ 62) (σ 37 34).toNat s := fun h h1 h2 => by
        have := hc3 s.toNat (by omega) h2
        rw [Int.toNat_of_nonneg h] at this
        exact this
      have hwz : v < ladI (σ 37 17) (gM σ) (σ 62) (σ 37 34).toNat s → wordZ (σ 37 17) (gM σ) (σ 62) (σ 37 34) s v = pckZ (σ 37 17) (gM σ) (σ 62) (σ 37 34).toNat s v := fun h => by
        unfold wordZ
        rw [if_neg (by omega)]
      have q1 : (0 ≤ s ∧ s < σ 37 17) → σ 62 s.toNat = 1 → 0 ≤ v → v < 2 ^ (σ 37 33).toNat → Q (some (.inl (wordZ (σ 37 17) (gM σ) (σ 62) (σ 37 34) s v))) σ := fun h0 h1 h2 h3 => by rw [if_pos ⟨⟨h0, h1⟩, h2, h3⟩] at hQ; exact hQ
      have q2 : ¬ (((0 ≤ s ∧ s < σ 37 17) ∧ σ 62 s.toNat = 1) ∧ 0 ≤ v ∧ v < 2 ^ (σ 37 33).toNat) → Q (some (.inl (-2))) σ := fun h => by rw [if_neg h] at hQ; exact hQ
      rw [Int.one_mul]
      clear hQ hC
      generalize (2 : Int) ^ (σ 37 33).toNat = p at *
      generalize (2 : Int) ^ (σ 37 34).toNat = pp at *
      (try simp only [rI_iff, rL_iff] at *)
      repeat' (with_reducible (first | assumption | apply And.intro | intro _))
      all_goals first | omega | with_reducible assumption | exact True.intro | skip
      all_goals first
        | omega
        | exact q2 (by omega)
        | (rw [← hwz (by have := hcl (by omega) (by omega) (by omega); omega)]; exact q1 (by omega) (by omega) (by omega) (by omega))
        | exact q1 (by omega) (by omega) (by omega) (by omega)
        | (have hs1 := hcl (by omega) (by omega) (by omega); omega)
        | trace_state
    · rw [if_pos (by omega)] at hQ
      (try simp only [rI_iff, rL_iff] at *)
      repeat' (with_reducible (first | assumption | apply And.intro | intro _))
      all_goals first | omega | with_reducible assumption | exact True.intro | skip
      all_goals first
        | exact hQ
        | (exfalso; omega)
def s_M_read : Spec := fun as σ Q => popR as fun c0 r0 => popI r0 fun s r1 => popI r1 fun v r2 => r2 = [] ∧ c0 = 37 ∧ (0 ≤ σ 37 17 ∧ σ 37 17 ≤ 100) ∧ (Wire (σ 37 17) (gM σ)) ∧ (isBits (σ 62)) ∧ (0 ≤ σ 37 32 ∧ σ 37 32 ≤ 100) ∧ (0 < σ 37 32 → (1 ≤ σ 37 34 ∧ σ 37 34 ≤ 12) ∧ (1 ≤ σ 37 33 ∧ σ 37 33 ≤ 8) ∧ ClosedC (σ 37 17) (gM σ) (2 ^ (σ 37 33).toNat) (σ 37 34) (σ 62)) ∧ (rI s) ∧ (rI v) ∧ Q (some (.inl (if σ 37 32 = 0 then -3 else if ((0 ≤ s ∧ s < σ 37 17) ∧ σ 62 s.toNat = 1) ∧ 0 ≤ v ∧ v < 2 ^ (σ 37 34).toNat then readZ (σ 37 17) (gM σ) (σ 62) (σ 37 33) (σ 37 34) s v else -2))) σ
theorem e_M_read (s : Int) (v : Int) (σ : St) (Q : Option AV → St → Prop) : s_M_read [.inr (.inr (some 37)), .inl s, .inl v] σ Q = ((0 ≤ σ 37 17 ∧ σ 37 17 ≤ 100) ∧ (Wire (σ 37 17) (gM σ)) ∧ (isBits (σ 62)) ∧ (0 ≤ σ 37 32 ∧ σ 37 32 ≤ 100) ∧ (0 < σ 37 32 → (1 ≤ σ 37 34 ∧ σ 37 34 ≤ 12) ∧ (1 ≤ σ 37 33 ∧ σ 37 33 ≤ 8) ∧ ClosedC (σ 37 17) (gM σ) (2 ^ (σ 37 33).toNat) (σ 37 34) (σ 62)) ∧ (rI s) ∧ (rI v) ∧ Q (some (.inl (if σ 37 32 = 0 then -3 else if ((0 ≤ s ∧ s < σ 37 17) ∧ σ 62 s.toNat = 1) ∧ 0 ≤ v ∧ v < 2 ^ (σ 37 34).toNat then readZ (σ 37 17) (gM σ) (σ 62) (σ 37 33) (σ 37 34) s v else -2))) σ) := by
  show ([] = [] ∧ _) = _
  simp only [true_and]
set_option maxHeartbeats 4000000 in
set_option maxRecDepth 20000 in
theorem S_M_read {l : Launch} : Sat l y_M_read b_M_read 3 (some .int) 3 s_M_read := by
  refine sat_of (Φ := P_M) (κ := Q_M) (Γ := [(185, 10, 1, s_M_isState), (108, 0, 3, s_M_in), (247, 10, 2, s_M_readAt)]) (rt := 1) (by decide +kernel) P_M_ok Q_M_ok (by
    refine List.forall_mem_cons.mpr ⟨?_, List.forall_mem_cons.mpr ⟨?_, List.forall_mem_cons.mpr ⟨?_, fun _ h => absurd h List.not_mem_nil⟩⟩⟩
    · exact m_M_isState S_M_isState (by decide) l_M_185
    · exact m_M_in S_M_in (by decide) l_M_108
    · exact m_M_readAt S_M_readAt (by decide) l_M_247) (by simp) o_M_read ?_
  intro as σ Q hh0
  obtain ⟨c0, rr0, rfl, hh1⟩ := popR_inv hh0
  obtain ⟨s, rr1, rfl, hh2⟩ := popI_inv hh1
  obtain ⟨v, rr2, rfl, hh3⟩ := popI_inv hh2
  obtain ⟨hrE, rfl, hN, hf, hb, hz, hC, hrs, hrv, hQ⟩ := hh3
  subst hrE
  clear hh0 hh1 hh2
  refine ⟨Nat.le_of_ble_eq_true rfl, [], 14, ?_, cuts0⟩
  · rw [show entL 3 [.inr (.inr (some 37)), .inl s, .inl v] = [.inr (.inr (some 37)), .inl s, .inl v] from rfl]
    simp only [↓wpN_go, jmp_e, ↓wp_aload_n0, ↓wp_baload, ↓wp_bipush, ↓wp_getfield, ↓wp_goto, ↓wp_i2l, ↓wp_iconst, ↓wp_if_eq, ↓wp_if_ne, ↓wp_iload_n1, ↓wp_iload_n2, ↓wp_invokestatic, ↓wp_invokevirtual, ↓wp_ireturn1, ↓wp_ishl, ↓wp_isub, ↓wp_lconst0, wp_nil, ↓ldI_0, ↓ldI_s, ↓ldL_0, ↓ldL_s, ↓ldR_0, ↓ldR_s, sto1_0, sto1_1, sto1_s, sto2_0, sto2_1, sto2_s, isLong_i, isLong_l, isLong_r, ↓popI_c, ↓popL_c, ↓popR_c, ↓popN_0, ↓popN_s, catS_n, catS_c, psh_s, psh_n, fldV_n, fldV_s, ↓tgt_e, sw_n, ↓sw_c, ↓lk1_h, ↓lk1_m, ↓atC_h, ↓atC_m, ↓atC_n, ltO_n, ltO_s, updR_eq, updR_ne, gI_0i, gI_0l, gI_s, ltM_iff, List.cons.injEq, Sum.inl.injEq, Sum.inr.injEq, Option.some.injEq, exists_eq_left, exists_eq_left', exists_eq_right, exists_eq_right', exists_and_left, exists_and_right, exists_eq, exists_const, and_assoc, ↓j_M_read_0, ↓j_M_read_10, ↓j_M_read_54, ↓j_M_read_56, ↓f_M_179, ↓f_M_230, ↓f_M_91, List.length_cons, List.length_nil, Nat.zero_add, Nat.reduceAdd, Int.reduceAdd, Int.reduceNeg, Int.reduceToNat, Int.reduceLE, Int.reduceLT, true_and, and_true, Nat.reduceLT, reduceIte, Nat.reduceEqDiff, ne_eq, not_false_eq_true, false_implies, true_implies, Bool.false_eq_true, reduceCtorEq, List.cons_append, List.nil_append, Nat.reduceSub, Nat.reduceLeDiff, Fin.isValue, Int.reduceNatCast', Int.zero_add, Int.add_zero, decide_true, decide_false, implies_true, forall_const, true_or, or_true, or_false, false_or, false_and, and_false, Int.toNat_natCast, ↓oF_37_0, ↓oF_37_1, ↓oF_37_2, ↓oF_37_3, ↓aF_38, ↓oF_37_4, ↓aF_39, ↓oF_37_5, ↓oF_37_6, ↓aF_40, ↓oF_37_7, ↓oF_37_8, ↓aF_41, ↓oF_37_9, ↓aF_42, ↓oF_37_10, ↓aF_43, ↓oF_37_11, ↓aF_44, ↓oF_37_12, ↓aF_45, ↓oF_37_13, ↓aF_46, ↓oF_37_14, ↓aF_47, ↓oF_37_15, ↓aF_48, ↓oF_37_16, ↓aF_49, ↓oF_37_17, ↓oF_37_18, ↓aF_50, ↓oF_37_19, ↓aF_51, ↓oF_37_20, ↓aF_52, ↓oF_37_21, ↓aF_53, ↓oF_37_22, ↓aF_54, ↓oF_37_23, ↓aF_55, ↓oF_37_24, ↓aF_56, ↓oF_37_25, ↓aF_57, ↓oF_37_26, ↓oF_37_27, ↓oF_37_28, ↓aF_58, ↓oF_37_29, ↓aF_59, ↓oF_37_30, ↓aF_60, ↓oF_37_31, ↓aF_61, ↓oF_37_32, ↓oF_37_33, ↓oF_37_34, ↓oF_37_35, ↓aF_62, ↓oF_37_36, ↓oF_37_37, ↓aF_63, ↓oF_37_38, ↓oF_37_39, ↓aF_64, ↓oF_37_40, ↓aF_65, ↓oF_37_41, ↓aF_66, oC_0, oC_1, oC_4, oC_11, oC_16, oC_18, oC_20, oC_23, oC_25, oC_26, oC_29, oC_31, oC_33, oC_35, oC_37, isT_29, isT_31, isT_33, isT_35, isL_16, isL_18, isL_26, b2i_0, b2i_1, b2i_01, b2i_r, ↓e_M_isState, ↓e_M_in, ↓e_M_readAt]
    by_cases hc : 0 < σ 37 32
    · obtain ⟨hc1, hc2, hc3⟩ := hC hc
      rw [if_neg (by omega)] at hQ
      have hp8 := pow8 (m := σ 37 33) ⟨by omega, by omega⟩
      have hp12 := p2_le (show (σ 37 34).toNat ≤ 12 by omega)
      have hp120 := p2_pos (σ 37 34).toNat
      have e12 : (2 : Int) ^ 12 = 4096 := by decide
      have hbs := hb s.toNat
      have hcl : 0 ≤ s → s < σ 37 17 → σ 62 s.toNat = 1 → 2 ^ (σ 37 33).toNat ≤ ladI (σ 37 17) (gM σ) (σ 62) (σ 37 34).toNat s := fun h h1 h2 => by
        have := hc3 s.toNat (by omega) h2
        rw [Int.toNat_of_nonneg h] at this
        exact this
      have hwz : v < ladI (σ 37 17) (gM σ) (σ 62) (σ 37 34).toNat s → wordZ (σ 37 17) (gM σ) (σ 62) (σ 37 34) s v = pckZ (σ 37 17) (gM σ) (σ 62) (σ 37 34).toNat s v := fun h => by
        unfold wordZ
        rw [if_neg (by omega)]
      have q1 : (0 ≤ s ∧ s < σ 37 17) → σ 62 s.toNat = 1 → 0 ≤ v → v < 2 ^ (σ 37 34).toNat → Q (some (.inl (readZ (σ 37 17) (gM σ) (σ 62) (σ 37 33) (σ 37 34) s v))) σ := fun h0 h1 h2 h3 => by rw [if_pos ⟨⟨h0, h1⟩, h2, h3⟩] at hQ; exact hQ
      have q2 : ¬ (((0 ≤ s ∧ s < σ 37 17) ∧ σ 62 s.toNat = 1) ∧ 0 ≤ v ∧ v < 2 ^ (σ 37 34).toNat) → Q (some (.inl (-2))) σ := fun h => by rw [if_neg h] at hQ; exact hQ
      rw [Int.one_mul]
      clear hQ hC
      generalize (2 : Int) ^ (σ 37 33).toNat = p at *
      generalize (2 : Int) ^ (σ 37 34).toNat = pp at *
      (try simp only [rI_iff, rL_iff] at *)
      repeat' (with_reducible (first | assumption | apply And.intro | intro _))
      all_goals first | omega | with_reducible assumption | exact True.intro | skip
      all_goals first
        | omega
        | exact q2 (by omega)
        | (rw [← hwz (by have := hcl (by omega) (by omega) (by omega); omega)]; exact q1 (by omega) (by omega) (by omega) (by omega))
        | exact q1 (by omega) (by omega) (by omega) (by omega)
        | (have hs1 := hcl (by omega) (by omega) (by omega); omega)
        | trace_state
    · rw [if_pos (by omega)] at hQ
      (try simp only [rI_iff, rL_iff] at *)
      repeat' (with_reducible (first | assumption | apply And.intro | intro _))
      all_goals first | omega | with_reducible assumption | exact True.intro | skip
      all_goals first
        | exact hQ
        | (exfalso; omega)
