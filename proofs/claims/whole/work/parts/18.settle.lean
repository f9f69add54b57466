/-! weights: lowering, the greatest ones, the first too great -/
def s_G_lower : Spec := fun as σ Q => popR as fun c0 r0 => popR r0 fun c1 r1 => popR r1 fun o r2 => popI r2 fun m r3 => popI r3 fun n r4 => r4 = [] ∧ c0 = 23 ∧ c1 = 11 ∧ (isL o) ∧ (0 ≤ σ 11 4 ∧ σ 11 4 ≤ 100) ∧ (Wire (σ 11 4) (σ 12)) ∧ (0 ≤ m ∧ m ≤ 12 ∧ 0 ≤ n ∧ n ≤ 12) ∧ (AllB (σ 24) (σ 11 4) 1000000) ∧ (AllI (σ 24) 100) ∧ ∀ g lw, (lw = 0 ∧ (∀ s : Nat, (s : Int) < σ 11 4 → σ 24 s ≤ bearF (σ 11 4) (σ 12) (σ 24) m n s)) ∨ (lw = 1 ∧ ∃ s : Nat, (s : Int) < σ 11 4 ∧ bearF (σ 11 4) (σ 12) (σ 24) m n s < σ 24 s) → Q (some (.inl lw)) (updR (updR σ (o + 1) g) 24 (lowerF (σ 11 4) (σ 12) (σ 24) m n (σ 11 4)))
theorem e_G_lower (o : Nat) (m : Int) (n : Int) (σ : St) (Q : Option AV → St → Prop) : s_G_lower [.inr (.inr (some 23)), .inr (.inr (some 11)), .inr (.inr (some o)), .inl m, .inl n] σ Q = ((isL o) ∧ (0 ≤ σ 11 4 ∧ σ 11 4 ≤ 100) ∧ (Wire (σ 11 4) (σ 12)) ∧ (0 ≤ m ∧ m ≤ 12 ∧ 0 ≤ n ∧ n ≤ 12) ∧ (AllB (σ 24) (σ 11 4) 1000000) ∧ (AllI (σ 24) 100) ∧ ∀ g lw, (lw = 0 ∧ (∀ s : Nat, (s : Int) < σ 11 4 → σ 24 s ≤ bearF (σ 11 4) (σ 12) (σ 24) m n s)) ∨ (lw = 1 ∧ ∃ s : Nat, (s : Int) < σ 11 4 ∧ bearF (σ 11 4) (σ 12) (σ 24) m n s < σ 24 s) → Q (some (.inl lw)) (updR (updR σ (o + 1) g) 24 (lowerF (σ 11 4) (σ 12) (σ 24) m n (σ 11 4)))) := by
  show ([] = [] ∧ _) = _
  simp only [true_and]
set_option maxHeartbeats 4000000 in
set_option maxRecDepth 20000 in
theorem S_G_lower {l : Launch} : Sat l y_G_lower b_G_lower 9 (some .boolean) 4 s_G_lower := by
  refine sat_of (Φ := P_G) (κ := Q_G) (Γ := [(34, 7, 3, s_G_weighEnds), (21, 8, 0, s_W_size), (38, 4, 2, s_L_at), (44, 7, 1, s_G_of), (27, 7, 2, s_G_set)]) (rt := 3) (by decide +kernel) P_G_ok Q_G_ok (by
    refine List.forall_mem_cons.mpr ⟨?_, List.forall_mem_cons.mpr ⟨?_, List.forall_mem_cons.mpr ⟨?_, List.forall_mem_cons.mpr ⟨?_, List.forall_mem_cons.mpr ⟨?_, fun _ h => absurd h List.not_mem_nil⟩⟩⟩⟩⟩
    · exact m_G_weighEnds S_G_weighEnds (by decide) l_G_34
    · exact m_W_size S_W_size (by decide) l_G_21
    · exact m_L_at S_L_at (by decide) l_G_38
    · exact m_G_of S_G_of (by decide) l_G_44
    · exact m_G_set S_G_set (by decide) l_G_27) (by simp) o_G_lower ?_
  intro as σ Q hh0
  obtain ⟨c0, rr0, rfl, hh1⟩ := popR_inv hh0
  obtain ⟨c1, rr1, rfl, hh2⟩ := popR_inv hh1
  obtain ⟨o, rr2, rfl, hh3⟩ := popR_inv hh2
  obtain ⟨m, rr3, rfl, hh4⟩ := popI_inv hh3
  obtain ⟨n, rr4, rfl, hh5⟩ := popI_inv hh4
  obtain ⟨hrE, rfl, rfl, hL, hN, hf, hmn, hw, hwI, hQ⟩ := hh5
  subst hrE
  clear hh0 hh1 hh2 hh3 hh4
  refine ⟨Nat.le_of_ble_eq_true rfl, [(14, mkC (fun L st u => ∃ (lw i : Int) (v7 v8 : AV), L = [.inr (.inr (some 23)), .inr (.inr (some 11)), .inr (.inr (some o)), .inl m, .inl n, .inl lw, .inl i, v7, v8] ∧ st = [] ∧ (0 ≤ i ∧ i ≤ σ 11 4) ∧ ((lw = 0 ∧ (∀ s : Nat, (s : Int) < i → σ 24 s ≤ bearF (σ 11 4) (σ 12) (σ 24) m n s)) ∨ (lw = 1 ∧ ∃ s : Nat, (s : Int) < σ 11 4 ∧ bearF (σ 11 4) (σ 12) (σ 24) m n s < σ 24 s)) ∧ (∃ g, Climbed (σ 11 4) (σ 12) (σ 24) n g ∧ u = updR (updR σ (o + 1) g) 24 (lowerF (σ 11 4) (σ 12) (σ 24) m n i))) (fun L st u => ((101 - gI L 6).toNat, 0, 0)))], 14, ?_, cuts1 ?_ (cuts0)⟩
  · rw [show entL 9 [.inr (.inr (some 23)), .inr (.inr (some 11)), .inr (.inr (some o)), .inl m, .inl n] = [.inr (.inr (some 23)), .inr (.inr (some 11)), .inr (.inr (some o)), .inl m, .inl n, .inr (.inr none), .inr (.inr none), .inr (.inr none), .inr (.inr none)] from rfl]
    simp only [↓wpN_go, jmp_e, ↓wp_aload_n0, ↓wp_aload_n1, ↓wp_aload_n2, ↓wp_goto, ↓wp_i2l, ↓wp_icmp_ge, ↓wp_iconst, ↓wp_if_ge, ↓wp_iinc, ↓wp_iload, ↓wp_iload_n3, ↓wp_invokevirtual, ↓wp_ireturn3, ↓wp_istore, ↓wp_l2i, ↓wp_lcmp, ↓wp_lload, ↓wp_lshr, ↓wp_lstore, wp_nil, ↓ldI_0, ↓ldI_s, ↓ldL_0, ↓ldL_s, ↓ldR_0, ↓ldR_s, sto1_0, sto1_1, sto1_s, sto2_0, sto2_1, sto2_s, isLong_i, isLong_l, isLong_r, ↓popI_c, ↓popL_c, ↓popR_c, ↓popN_0, ↓popN_s, catS_n, catS_c, psh_s, psh_n, fldV_n, fldV_s, ↓tgt_e, sw_n, ↓sw_c, ↓lk1_h, ↓lk1_m, ↓atC_h, ↓atC_m, ↓atC_n, ltO_n, ltO_s, updR_eq, updR_ne, gI_0i, gI_0l, gI_s, ltM_iff, List.cons.injEq, Sum.inl.injEq, Sum.inr.injEq, Option.some.injEq, exists_eq_left, exists_eq_left', exists_eq_right, exists_eq_right', exists_and_left, exists_and_right, exists_eq, exists_const, and_assoc, ↓j_G_lower_0, ↓j_G_lower_14, ↓j_G_lower_60, ↓j_G_lower_66, List.length_cons, List.length_nil, Nat.zero_add, Nat.reduceAdd, Int.reduceAdd, Int.reduceNeg, Int.reduceToNat, Int.reduceLE, Int.reduceLT, true_and, and_true, Nat.reduceLT, reduceIte, Nat.reduceEqDiff, ne_eq, not_false_eq_true, false_implies, true_implies, Bool.false_eq_true, reduceCtorEq, List.cons_append, List.nil_append, Nat.reduceSub, Nat.reduceLeDiff, Fin.isValue, Int.reduceNatCast', Int.zero_add, Int.add_zero, decide_true, decide_false, implies_true, forall_const, true_or, or_true, or_false, false_or, false_and, and_false, Int.toNat_natCast, ↓oF_23_0, ↓aF_24, oC_0, oC_1, oC_4, oC_11, oC_16, oC_18, oC_20, oC_23, oC_25, oC_26, oC_29, oC_31, oC_33, oC_35, oC_37, isT_29, isT_31, isT_33, isT_35, isL_16, isL_18, isL_26, ↓hL.f0, ↓hL.a, hL.c, updR_o1, updR_o2, eq_true hL, updR_L11 hL, updR_L12 hL, updR_L24 hL, updR_24L hL, updR_twice, cmpZ_r, cmpZ_ge, cmpZ_lt, ↓e_G_weighEnds, ↓e_W_size, ↓e_L_at, ↓e_G_of, ↓e_G_set]
    (try simp only [rI_iff, rL_iff] at *)
    repeat' (first | assumption | apply And.intro | intro _)
    all_goals first | omega | assumption | exact True.intro | skip
    · exact Or.inl (fun s1 hs1 => by omega)
    · next g1 hg1 =>
      refine ⟨g1, hg1, ?_⟩
      have h24 := isL_cases hL
      refine st_ext fun k j => ?_
      grind [updR_app, lowerF_app]
  · intro L st u hI
    obtain ⟨lw, i, v7, v8, rfl, rfl, hi, hlw, hu⟩ := hI
    simp only [↓wpN_go, jmp_e, ↓wp_aload_n0, ↓wp_aload_n1, ↓wp_aload_n2, ↓wp_goto, ↓wp_i2l, ↓wp_icmp_ge, ↓wp_iconst, ↓wp_if_ge, ↓wp_iinc, ↓wp_iload, ↓wp_iload_n3, ↓wp_invokevirtual, ↓wp_ireturn3, ↓wp_istore, ↓wp_l2i, ↓wp_lcmp, ↓wp_lload, ↓wp_lshr, ↓wp_lstore, wp_nil, ↓ldI_0, ↓ldI_s, ↓ldL_0, ↓ldL_s, ↓ldR_0, ↓ldR_s, sto1_0, sto1_1, sto1_s, sto2_0, sto2_1, sto2_s, isLong_i, isLong_l, isLong_r, ↓popI_c, ↓popL_c, ↓popR_c, ↓popN_0, ↓popN_s, catS_n, catS_c, psh_s, psh_n, fldV_n, fldV_s, ↓tgt_e, sw_n, ↓sw_c, ↓lk1_h, ↓lk1_m, ↓atC_h, ↓atC_m, ↓atC_n, ltO_n, ltO_s, updR_eq, updR_ne, gI_0i, gI_0l, gI_s, ltM_iff, List.cons.injEq, Sum.inl.injEq, Sum.inr.injEq, Option.some.injEq, exists_eq_left, exists_eq_left', exists_eq_right, exists_eq_right', exists_and_left, exists_and_right, exists_eq, exists_const, and_assoc, ↓j_G_lower_0, ↓j_G_lower_14, ↓j_G_lower_60, ↓j_G_lower_66, List.length_cons, List.length_nil, Nat.zero_add, Nat.reduceAdd, Int.reduceAdd, Int.reduceNeg, Int.reduceToNat, Int.reduceLE, Int.reduceLT, true_and, and_true, Nat.reduceLT, reduceIte, Nat.reduceEqDiff, ne_eq, not_false_eq_true, false_implies, true_implies, Bool.false_eq_true, reduceCtorEq, List.cons_append, List.nil_append, Nat.reduceSub, Nat.reduceLeDiff, Fin.isValue, Int.reduceNatCast', Int.zero_add, Int.add_zero, decide_true, decide_false, implies_true, forall_const, true_or, or_true, or_false, false_or, false_and, and_false, Int.toNat_natCast, ↓oF_23_0, ↓aF_24, oC_0, oC_1, oC_4, oC_11, oC_16, oC_18, oC_20, oC_23, oC_25, oC_26, oC_29, oC_31, oC_33, oC_35, oC_37, isT_29, isT_31, isT_33, isT_35, isL_16, isL_18, isL_26, ↓hL.f0, ↓hL.a, hL.c, updR_o1, updR_o2, eq_true hL, updR_L11 hL, updR_L12 hL, updR_L24 hL, updR_24L hL, updR_twice, cmpZ_r, cmpZ_ge, cmpZ_lt, ↓e_G_weighEnds, ↓e_W_size, ↓e_L_at, ↓e_G_of, ↓e_G_set]
    obtain ⟨g, hg, rfl⟩ := hu
    simp only [updR_L11 hL, updR_L12 hL, updR_L24 hL, updR_24L hL, updR_ne _ 24 11 _ (by decide), updR_ne _ 24 12 _ (by decide), updR_eq, updR_twice]
    by_cases hlt : i < σ 11 4
    · have e1 : ladV g n i = ladI (σ 11 4) (σ 12) (σ 24) n.toNat i := climbed_at hN.2 hg ⟨hmn.2.2.1, by omega⟩ ⟨hi.1, hlt⟩
      have e2 : ladI (σ 11 4) (σ 12) (σ 24) n.toNat i / 2 ^ m.toNat = bearF (σ 11 4) (σ 12) (σ 24) m n i.toNat := by unfold bearF; rw [Int.toNat_of_nonneg hi.1]
      have b1 := ladI_12 (f := σ 12) hmn.2.2.2 (by omega : (0 : Int) ≤ 1000000) hw i
      have b2 := bear_0 (f := σ 12) (m := m) (n := n) (by omega : (0 : Int) ≤ 1000000) hw i.toNat
      have b3 := hwI i.toNat (by omega)
      have b4 := hw i.toNat (by omega)
      have b5 : bearF (σ 11 4) (σ 12) (σ 24) m n i.toNat ≤ 4096 * 1000000 := by
        rw [← e2]
        exact Int.le_trans (Int.ediv_le_self _ b1.1) b1.2
      have e3 := lower_up (f := σ 12) (W := σ 24) (m := m) (n := n) ⟨hi.1, hlt⟩
      have e4 : lowerF (σ 11 4) (σ 12) (σ 24) m n i i.toNat = σ 24 i.toNat := lower_i hi.1
      rw [e1, e2, if_pos (show 0 ≤ i ∧ i < 100 by omega), e4, if_pos (show 0 ≤ i ∧ i < 100 by omega)]
      by_cases hb : bearF (σ 11 4) (σ 12) (σ 24) m n i.toNat < σ 24 i.toNat
      · rw [if_pos hb] at e3
        rw [wrapI_id (show rI (bearF (σ 11 4) (σ 12) (σ 24) m n i.toNat) from ⟨by omega, by omega⟩), e3]
        (try simp only [rI_iff, rL_iff] at *)
        repeat' (first | assumption | apply And.intro | intro _)
        all_goals first | omega | assumption | exact True.intro | skip
        · exact Or.inr ⟨i.toNat, by omega, hb⟩
        · exact ⟨g, hg, rfl⟩
      · rw [if_neg hb] at e3
        rw [e3]
        (try simp only [rI_iff, rL_iff] at *)
        repeat' (first | assumption | apply And.intro | intro _)
        all_goals first | omega | assumption | exact True.intro | skip
        · refine hlw.imp (fun hq1 => ⟨hq1.1, fun s1 hs1 => ?_⟩) id
          by_cases e5 : (s1 : Int) < i
          · exact hq1.2 s1 e5
          · rw [show s1 = i.toNat by omega]; omega
        · exact ⟨g, hg, rfl⟩
    · have e6 : i = σ 11 4 := by omega
      (try simp only [rI_iff, rL_iff] at *)
      repeat' (first | assumption | apply And.intro | intro _)
      all_goals first | omega | assumption | exact True.intro | skip
      rw [e6]
      exact hQ g lw (by rw [e6] at hlw; exact hlw)
def s_G_settle : Spec := fun as σ Q => popR as fun c0 r0 => popR r0 fun c1 r1 => popR r1 fun o r2 => popI r2 fun m r3 => popI r3 fun n r4 => r4 = [] ∧ c0 = 23 ∧ c1 = 11 ∧ (isL o) ∧ (0 ≤ σ 11 4 ∧ σ 11 4 ≤ 100) ∧ (Wire (σ 11 4) (σ 12)) ∧ (0 ≤ m ∧ m ≤ 12 ∧ 0 ≤ n ∧ n ≤ 12) ∧ (AllB (σ 24) (σ 11 4) 200) ∧ (AllI (σ 24) 100) ∧ ∀ g W, (∀ s : Nat, ¬ (s : Int) < σ 11 4 → W s = σ 24 s) → Feas (σ 11 4) (σ 12) m n W → (∀ s : Nat, (s : Int) < σ 11 4 → W s ≤ σ 24 s) → (∀ V, Feas (σ 11 4) (σ 12) m n V → (∀ s : Nat, (s : Int) < σ 11 4 → V s ≤ σ 24 s) → ∀ s : Nat, (s : Int) < σ 11 4 → V s ≤ W s) → Q none (updR (updR σ (o + 1) g) 24 W)
theorem e_G_settle (o : Nat) (m : Int) (n : Int) (σ : St) (Q : Option AV → St → Prop) : s_G_settle [.inr (.inr (some 23)), .inr (.inr (some 11)), .inr (.inr (some o)), .inl m, .inl n] σ Q = ((isL o) ∧ (0 ≤ σ 11 4 ∧ σ 11 4 ≤ 100) ∧ (Wire (σ 11 4) (σ 12)) ∧ (0 ≤ m ∧ m ≤ 12 ∧ 0 ≤ n ∧ n ≤ 12) ∧ (AllB (σ 24) (σ 11 4) 200) ∧ (AllI (σ 24) 100) ∧ ∀ g W, (∀ s : Nat, ¬ (s : Int) < σ 11 4 → W s = σ 24 s) → Feas (σ 11 4) (σ 12) m n W → (∀ s : Nat, (s : Int) < σ 11 4 → W s ≤ σ 24 s) → (∀ V, Feas (σ 11 4) (σ 12) m n V → (∀ s : Nat, (s : Int) < σ 11 4 → V s ≤ σ 24 s) → ∀ s : Nat, (s : Int) < σ 11 4 → V s ≤ W s) → Q none (updR (updR σ (o + 1) g) 24 W)) := by
  show ([] = [] ∧ _) = _
  simp only [true_and]
set_option maxHeartbeats 4000000 in
set_option maxRecDepth 20000 in
theorem S_G_settle {l : Launch} : Sat l y_G_settle b_G_settle 6 none 5 s_G_settle := by
  refine sat_of (Φ := P_G) (κ := Q_G) (Γ := [(48, 7, 4, s_G_lower)]) (rt := 0) (by decide +kernel) P_G_ok Q_G_ok (by
    refine List.forall_mem_cons.mpr ⟨?_, fun _ h => absurd h List.not_mem_nil⟩
    · exact m_G_lower S_G_lower (by decide) l_G_48) (by simp) o_G_settle ?_
  intro as σ Q hh0
  obtain ⟨c0, rr0, rfl, hh1⟩ := popR_inv hh0
  obtain ⟨c1, rr1, rfl, hh2⟩ := popR_inv hh1
  obtain ⟨o, rr2, rfl, hh3⟩ := popR_inv hh2
  obtain ⟨m, rr3, rfl, hh4⟩ := popI_inv hh3
  obtain ⟨n, rr4, rfl, hh5⟩ := popI_inv hh4
  obtain ⟨hrE, rfl, rfl, hL, hN, hf, hmn, hw, hwI, hQ⟩ := hh5
  subst hrE
  clear hh0 hh1 hh2 hh3 hh4
  refine ⟨Nat.le_of_ble_eq_true rfl, [(3, mkC (fun L st u => ∃ (rd : Int), L = [.inr (.inr (some 23)), .inr (.inr (some 11)), .inr (.inr (some o)), .inl m, .inl n, .inl rd] ∧ st = [] ∧ (0 ≤ rd ∧ rd ≤ 20001) ∧ (∃ g W, u = updR (updR σ (o + 1) g) 24 W ∧ (∀ s : Nat, ¬ (s : Int) < σ 11 4 → W s = σ 24 s) ∧ (∀ s : Nat, (s : Int) < σ 11 4 → 0 ≤ W s ∧ W s ≤ σ 24 s) ∧ sumF W (σ 11 4).toNat + rd ≤ 20000 ∧ (∀ V, Feas (σ 11 4) (σ 12) m n V → (∀ s : Nat, (s : Int) < σ 11 4 → V s ≤ σ 24 s) → ∀ s : Nat, (s : Int) < σ 11 4 → V s ≤ W s))) (fun L st u => ((20002 - gI L 5).toNat, 0, 0)))], 14, ?_, cuts1 ?_ (cuts0)⟩
  · rw [show entL 6 [.inr (.inr (some 23)), .inr (.inr (some 11)), .inr (.inr (some o)), .inl m, .inl n] = [.inr (.inr (some 23)), .inr (.inr (some 11)), .inr (.inr (some o)), .inl m, .inl n, .inr (.inr none)] from rfl]
    simp only [↓wpN_go, jmp_e, ↓wp_aload_n0, ↓wp_aload_n1, ↓wp_aload_n2, ↓wp_goto, ↓wp_icmp_gt, ↓wp_iconst, ↓wp_if_ne, ↓wp_iinc, ↓wp_iload, ↓wp_iload_n3, ↓wp_invokevirtual, ↓wp_istore, ↓wp_return0, ↓wp_sipush, wp_nil, ↓ldI_0, ↓ldI_s, ↓ldL_0, ↓ldL_s, ↓ldR_0, ↓ldR_s, sto1_0, sto1_1, sto1_s, sto2_0, sto2_1, sto2_s, isLong_i, isLong_l, isLong_r, ↓popI_c, ↓popL_c, ↓popR_c, ↓popN_0, ↓popN_s, catS_n, catS_c, psh_s, psh_n, fldV_n, fldV_s, ↓tgt_e, sw_n, ↓sw_c, ↓lk1_h, ↓lk1_m, ↓atC_h, ↓atC_m, ↓atC_n, ltO_n, ltO_s, updR_eq, updR_ne, gI_0i, gI_0l, gI_s, ltM_iff, List.cons.injEq, Sum.inl.injEq, Sum.inr.injEq, Option.some.injEq, exists_eq_left, exists_eq_left', exists_eq_right, exists_eq_right', exists_and_left, exists_and_right, exists_eq, exists_const, and_assoc, ↓j_G_settle_0, ↓j_G_settle_3, ↓j_G_settle_24, ↓j_G_settle_30, List.length_cons, List.length_nil, Nat.zero_add, Nat.reduceAdd, Int.reduceAdd, Int.reduceNeg, Int.reduceToNat, Int.reduceLE, Int.reduceLT, true_and, and_true, Nat.reduceLT, reduceIte, Nat.reduceEqDiff, ne_eq, not_false_eq_true, false_implies, true_implies, Bool.false_eq_true, reduceCtorEq, List.cons_append, List.nil_append, Nat.reduceSub, Nat.reduceLeDiff, Fin.isValue, Int.reduceNatCast', Int.zero_add, Int.add_zero, decide_true, decide_false, implies_true, forall_const, true_or, or_true, or_false, false_or, false_and, and_false, Int.toNat_natCast, ↓oF_23_0, ↓aF_24, oC_0, oC_1, oC_4, oC_11, oC_16, oC_18, oC_20, oC_23, oC_25, oC_26, oC_29, oC_31, oC_33, oC_35, oC_37, isT_29, isT_31, isT_33, isT_35, isL_16, isL_18, isL_26, ↓hL.f0, ↓hL.a, hL.c, updR_o1, updR_o2, eq_true hL, updR_L11 hL, updR_L12 hL, updR_L24 hL, updR_24L hL, updR_twice, b2i_0, ↓e_G_lower]
    have hsum := sumF_bound (w := σ 24) (B := 200) (n := (σ 11 4).toNat) (fun s1 hs1 => hw s1 (by omega))
    have h24 := isL_cases hL
    refine ⟨σ (o + 1), σ 24, ?_, fun _ _ => rfl, fun s1 hs1 => ⟨(hw s1 hs1).1, by omega⟩, ?_, fun _ _ hV => hV⟩
    · refine st_ext fun k j => ?_
      grind [updR_app]
    · have := Int.mul_le_mul_of_nonneg_right (show ((σ 11 4).toNat : Int) ≤ 100 by omega) (show (0 : Int) ≤ 200 by omega)
      omega
  · intro L st u hI
    obtain ⟨rd, rfl, rfl, hi, hu⟩ := hI
    simp only [↓wpN_go, jmp_e, ↓wp_aload_n0, ↓wp_aload_n1, ↓wp_aload_n2, ↓wp_goto, ↓wp_icmp_gt, ↓wp_iconst, ↓wp_if_ne, ↓wp_iinc, ↓wp_iload, ↓wp_iload_n3, ↓wp_invokevirtual, ↓wp_istore, ↓wp_return0, ↓wp_sipush, wp_nil, ↓ldI_0, ↓ldI_s, ↓ldL_0, ↓ldL_s, ↓ldR_0, ↓ldR_s, sto1_0, sto1_1, sto1_s, sto2_0, sto2_1, sto2_s, isLong_i, isLong_l, isLong_r, ↓popI_c, ↓popL_c, ↓popR_c, ↓popN_0, ↓popN_s, catS_n, catS_c, psh_s, psh_n, fldV_n, fldV_s, ↓tgt_e, sw_n, ↓sw_c, ↓lk1_h, ↓lk1_m, ↓atC_h, ↓atC_m, ↓atC_n, ltO_n, ltO_s, updR_eq, updR_ne, gI_0i, gI_0l, gI_s, ltM_iff, List.cons.injEq, Sum.inl.injEq, Sum.inr.injEq, Option.some.injEq, exists_eq_left, exists_eq_left', exists_eq_right, exists_eq_right', exists_and_left, exists_and_right, exists_eq, exists_const, and_assoc, ↓j_G_settle_0, ↓j_G_settle_3, ↓j_G_settle_24, ↓j_G_settle_30, List.length_cons, List.length_nil, Nat.zero_add, Nat.reduceAdd, Int.reduceAdd, Int.reduceNeg, Int.reduceToNat, Int.reduceLE, Int.reduceLT, true_and, and_true, Nat.reduceLT, reduceIte, Nat.reduceEqDiff, ne_eq, not_false_eq_true, false_implies, true_implies, Bool.false_eq_true, reduceCtorEq, List.cons_append, List.nil_append, Nat.reduceSub, Nat.reduceLeDiff, Fin.isValue, Int.reduceNatCast', Int.zero_add, Int.add_zero, decide_true, decide_false, implies_true, forall_const, true_or, or_true, or_false, false_or, false_and, and_false, Int.toNat_natCast, ↓oF_23_0, ↓aF_24, oC_0, oC_1, oC_4, oC_11, oC_16, oC_18, oC_20, oC_23, oC_25, oC_26, oC_29, oC_31, oC_33, oC_35, oC_37, isT_29, isT_31, isT_33, isT_35, isL_16, isL_18, isL_26, ↓hL.f0, ↓hL.a, hL.c, updR_o1, updR_o2, eq_true hL, updR_L11 hL, updR_L12 hL, updR_L24 hL, updR_24L hL, updR_twice, b2i_0, ↓e_G_lower]
    obtain ⟨g, W, rfl, hW1, hW2, hW3, hW4⟩ := hu
    simp only [updR_L11 hL, updR_L12 hL, updR_L24 hL, updR_24L hL, updR_ne _ 24 11 _ (by decide), updR_ne _ 24 12 _ (by decide), updR_eq, updR_twice]
    have hsum := sumF_bound (w := W) (B := 200) (n := (σ 11 4).toNat) (fun s1 hs1 => ⟨(hW2 s1 (by omega)).1, Int.le_trans (hW2 s1 (by omega)).2 (hw s1 (by omega)).2⟩)
    have hB : AllB W (σ 11 4) 1000000 := fun s1 hs1 => ⟨(hW2 s1 hs1).1, by have := (hW2 s1 hs1).2; have := (hw s1 hs1).2; omega⟩
    have hI : AllI W 100 := fun s1 hs1 => by
      by_cases hs2 : (s1 : Int) < σ 11 4
      · have := hB s1 hs2
        unfold rI
        omega
      · rw [hW1 s1 hs2]
        exact hwI s1 hs1
    have hsw : ∀ (g1 g2 W1 : Nat → Int), updR (updR (updR (updR σ (o + 1) g1) 24 W) (o + 1) g2) 24 W1 = updR (updR σ (o + 1) g2) 24 W1 := fun g1 g2 W1 => by
      refine st_ext fun k j => ?_
      grind [updR_app]
    (try simp only [rI_iff, rL_iff] at *)
    repeat' (first | assumption | apply And.intro | intro _)
    any_goals first | omega | assumption | exact True.intro | skip
    · rename_i hr1 g1 lw1 hlw1 hne1
      have hlw2 := hlw1.resolve_left (fun hq1 => hne1 hq1.1)
      refine ⟨g1, _, hsw _ _ _, fun s1 hs1 => ?_, fun s1 hs1 => ?_, ?_, fun V hV1 hV2 => lower_keep hV1 (hW4 V hV1 hV2)⟩
      · rw [lowerF_app, if_neg (fun hq1 => hs1 hq1.1)]
        exact hW1 s1 hs1
      · have := bear_0 (f := σ 12) (m := m) (n := n) (by omega : (0 : Int) ≤ 1000000) hB s1
        have := hW2 s1 hs1
        rw [lowerF_app]
        split <;> omega
      · have := lower_sum (f := σ 12) hlw2.2
        omega
    · rename_i hr1 g1 lw1 hlw1 hne1
      subst hne1
      have hlw2 := hlw1.resolve_right (fun hq1 => by omega)
      rw [hsw, lower_id hlw2.2 _ (Int.le_refl _)]
      exact hQ g1 W hW1 (fun s1 hs1 => ⟨(hW2 s1 hs1).1, hlw2.2 s1 hs1⟩) (fun s1 hs1 => (hW2 s1 hs1).2) hW4
def s_G_firstTooGreat : Spec := fun as σ Q => popR as fun c0 r0 => popR r0 fun c1 r1 => popR r1 fun o r2 => popI r2 fun m r3 => popI r3 fun n r4 => r4 = [] ∧ c0 = 23 ∧ c1 = 11 ∧ (isL o) ∧ (0 ≤ σ 11 4 ∧ σ 11 4 ≤ 100) ∧ (Wire (σ 11 4) (σ 12)) ∧ (0 ≤ m ∧ m ≤ 12 ∧ 0 ≤ n ∧ n ≤ 12) ∧ (AllB (σ 24) (σ 11 4) 1000000) ∧ (AllI (σ 24) 100) ∧ (∀ s : Nat, ¬ (s : Int) < σ 11 4 → σ 24 s = 0) ∧ (sumF (σ 24) 100 = 0 → Q (some (.inl 0)) σ) ∧ (sumF (σ 24) 100 ≠ 0 → ∀ g, Q (some (.inl (findF (fun s => decide (ladI (σ 11 4) (σ 12) (σ 24) n.toNat s < σ 24 s * 2 ^ m.toNat)) (σ 11 4).toNat))) (updR σ (o + 1) g))
theorem e_G_firstTooGreat (o : Nat) (m : Int) (n : Int) (σ : St) (Q : Option AV → St → Prop) : s_G_firstTooGreat [.inr (.inr (some 23)), .inr (.inr (some 11)), .inr (.inr (some o)), .inl m, .inl n] σ Q = ((isL o) ∧ (0 ≤ σ 11 4 ∧ σ 11 4 ≤ 100) ∧ (Wire (σ 11 4) (σ 12)) ∧ (0 ≤ m ∧ m ≤ 12 ∧ 0 ≤ n ∧ n ≤ 12) ∧ (AllB (σ 24) (σ 11 4) 1000000) ∧ (AllI (σ 24) 100) ∧ (∀ s : Nat, ¬ (s : Int) < σ 11 4 → σ 24 s = 0) ∧ (sumF (σ 24) 100 = 0 → Q (some (.inl 0)) σ) ∧ (sumF (σ 24) 100 ≠ 0 → ∀ g, Q (some (.inl (findF (fun s => decide (ladI (σ 11 4) (σ 12) (σ 24) n.toNat s < σ 24 s * 2 ^ m.toNat)) (σ 11 4).toNat))) (updR σ (o + 1) g))) := by
  show ([] = [] ∧ _) = _
  simp only [true_and]
set_option maxHeartbeats 4000000 in
set_option maxRecDepth 20000 in
theorem S_G_firstTooGreat {l : Launch} : Sat l y_G_firstTooGreat b_G_firstTooGreat 6 (some .int) 4 s_G_firstTooGreat := by
  refine sat_of (Φ := P_G) (κ := Q_G) (Γ := [(31, 7, 0, s_G_sum), (34, 7, 3, s_G_weighEnds), (21, 8, 0, s_W_size), (38, 4, 2, s_L_at), (44, 7, 1, s_G_of)]) (rt := 1) (by decide +kernel) P_G_ok Q_G_ok (by
    refine List.forall_mem_cons.mpr ⟨?_, List.forall_mem_cons.mpr ⟨?_, List.forall_mem_cons.mpr ⟨?_, List.forall_mem_cons.mpr ⟨?_, List.forall_mem_cons.mpr ⟨?_, fun _ h => absurd h List.not_mem_nil⟩⟩⟩⟩⟩
    · exact m_G_sum S_G_sum (by decide) l_G_31
    · exact m_G_weighEnds S_G_weighEnds (by decide) l_G_34
    · exact m_W_size S_W_size (by decide) l_G_21
    · exact m_L_at S_L_at (by decide) l_G_38
    · exact m_G_of S_G_of (by decide) l_G_44) (by simp) o_G_firstTooGreat ?_
  intro as σ Q hh0
  obtain ⟨c0, rr0, rfl, hh1⟩ := popR_inv hh0
  obtain ⟨c1, rr1, rfl, hh2⟩ := popR_inv hh1
  obtain ⟨o, rr2, rfl, hh3⟩ := popR_inv hh2
  obtain ⟨m, rr3, rfl, hh4⟩ := popI_inv hh3
  obtain ⟨n, rr4, rfl, hh5⟩ := popI_inv hh4
  obtain ⟨hrE, rfl, rfl, hL, hN, hf, hmn, hw, hwI, hz, hQ⟩ := hh5
  subst hrE
  clear hh0 hh1 hh2 hh3 hh4
  refine ⟨Nat.le_of_ble_eq_true rfl, [(20, mkC (fun L st u => ∃ (i : Int), L = [.inr (.inr (some 23)), .inr (.inr (some 11)), .inr (.inr (some o)), .inl m, .inl n, .inl i] ∧ st = [] ∧ (0 ≤ i ∧ i ≤ σ 11 4) ∧ (sumF (σ 24) 100 ≠ 0) ∧ (findF (fun s => decide (ladI (σ 11 4) (σ 12) (σ 24) n.toNat s < σ 24 s * 2 ^ m.toNat)) i.toNat = -1) ∧ (∃ g, Climbed (σ 11 4) (σ 12) (σ 24) n g ∧ u = updR σ (o + 1) g)) (fun L st u => ((101 - gI L 5).toNat, 0, 0)))], 14, ?_, cuts1 ?_ (cuts0)⟩
  · rw [show entL 6 [.inr (.inr (some 23)), .inr (.inr (some 11)), .inr (.inr (some o)), .inl m, .inl n] = [.inr (.inr (some 23)), .inr (.inr (some 11)), .inr (.inr (some o)), .inl m, .inl n, .inr (.inr none)] from rfl]
    simp only [↓wpN_go, jmp_e, ↓wp_aload_n0, ↓wp_aload_n1, ↓wp_aload_n2, ↓wp_goto, ↓wp_i2l, ↓wp_icmp_ge, ↓wp_iconst, ↓wp_if_ge, ↓wp_if_ne, ↓wp_iinc, ↓wp_iload, ↓wp_iload_n3, ↓wp_invokevirtual, ↓wp_ireturn1, ↓wp_istore, ↓wp_lcmp, ↓wp_lshl, wp_nil, ↓ldI_0, ↓ldI_s, ↓ldL_0, ↓ldL_s, ↓ldR_0, ↓ldR_s, sto1_0, sto1_1, sto1_s, sto2_0, sto2_1, sto2_s, isLong_i, isLong_l, isLong_r, ↓popI_c, ↓popL_c, ↓popR_c, ↓popN_0, ↓popN_s, catS_n, catS_c, psh_s, psh_n, fldV_n, fldV_s, ↓tgt_e, sw_n, ↓sw_c, ↓lk1_h, ↓lk1_m, ↓atC_h, ↓atC_m, ↓atC_n, ltO_n, ltO_s, updR_eq, updR_ne, gI_0i, gI_0l, gI_s, ltM_iff, List.cons.injEq, Sum.inl.injEq, Sum.inr.injEq, Option.some.injEq, exists_eq_left, exists_eq_left', exists_eq_right, exists_eq_right', exists_and_left, exists_and_right, exists_eq, exists_const, and_assoc, ↓j_G_firstTooGreat_0, ↓j_G_firstTooGreat_9, ↓j_G_firstTooGreat_20, ↓j_G_firstTooGreat_53, ↓j_G_firstTooGreat_59, List.length_cons, List.length_nil, Nat.zero_add, Nat.reduceAdd, Int.reduceAdd, Int.reduceNeg, Int.reduceToNat, Int.reduceLE, Int.reduceLT, true_and, and_true, Nat.reduceLT, reduceIte, Nat.reduceEqDiff, ne_eq, not_false_eq_true, false_implies, true_implies, Bool.false_eq_true, reduceCtorEq, List.cons_append, List.nil_append, Nat.reduceSub, Nat.reduceLeDiff, Fin.isValue, Int.reduceNatCast', Int.zero_add, Int.add_zero, decide_true, decide_false, implies_true, forall_const, true_or, or_true, or_false, false_or, false_and, and_false, Int.toNat_natCast, ↓oF_23_0, ↓aF_24, oC_0, oC_1, oC_4, oC_11, oC_16, oC_18, oC_20, oC_23, oC_25, oC_26, oC_29, oC_31, oC_33, oC_35, oC_37, isT_29, isT_31, isT_33, isT_35, isL_16, isL_18, isL_26, ↓hL.f0, ↓hL.a, hL.c, updR_o1, updR_o2, eq_true hL, updR_L11 hL, updR_L12 hL, updR_L24 hL, updR_24L hL, updR_twice, cmpZ_r, cmpZ_ge, cmpZ_lt, ↓e_G_sum, ↓e_G_weighEnds, ↓e_W_size, ↓e_L_at, ↓e_G_of]
    have hB : ∀ s : Nat, s < 100 → 0 ≤ σ 24 s ∧ σ 24 s ≤ 1000000 := fun s1 hs1 => by
      by_cases hs2 : (s1 : Int) < σ 11 4
      · exact hw s1 hs2
      · rw [hz s1 hs2]; omega
    have hsum := sumF_bound (w := σ 24) (B := 1000000) (n := 100) hB
    (try simp only [rI_iff, rL_iff] at *)
    repeat' (first | assumption | apply And.intro | intro _)
    all_goals first | omega | assumption | exact True.intro | skip
    · rfl
    · rename_i hne1 g1 hg1
      exact ⟨g1, hg1, rfl⟩
    · rename_i hne1
      exact hQ.1 hne1
  · intro L st u hI
    obtain ⟨i, rfl, rfl, hi, hne, hp, hu⟩ := hI
    simp only [↓wpN_go, jmp_e, ↓wp_aload_n0, ↓wp_aload_n1, ↓wp_aload_n2, ↓wp_goto, ↓wp_i2l, ↓wp_icmp_ge, ↓wp_iconst, ↓wp_if_ge, ↓wp_if_ne, ↓wp_iinc, ↓wp_iload, ↓wp_iload_n3, ↓wp_invokevirtual, ↓wp_ireturn1, ↓wp_istore, ↓wp_lcmp, ↓wp_lshl, wp_nil, ↓ldI_0, ↓ldI_s, ↓ldL_0, ↓ldL_s, ↓ldR_0, ↓ldR_s, sto1_0, sto1_1, sto1_s, sto2_0, sto2_1, sto2_s, isLong_i, isLong_l, isLong_r, ↓popI_c, ↓popL_c, ↓popR_c, ↓popN_0, ↓popN_s, catS_n, catS_c, psh_s, psh_n, fldV_n, fldV_s, ↓tgt_e, sw_n, ↓sw_c, ↓lk1_h, ↓lk1_m, ↓atC_h, ↓atC_m, ↓atC_n, ltO_n, ltO_s, updR_eq, updR_ne, gI_0i, gI_0l, gI_s, ltM_iff, List.cons.injEq, Sum.inl.injEq, Sum.inr.injEq, Option.some.injEq, exists_eq_left, exists_eq_left', exists_eq_right, exists_eq_right', exists_and_left, exists_and_right, exists_eq, exists_const, and_assoc, ↓j_G_firstTooGreat_0, ↓j_G_firstTooGreat_9, ↓j_G_firstTooGreat_20, ↓j_G_firstTooGreat_53, ↓j_G_firstTooGreat_59, List.length_cons, List.length_nil, Nat.zero_add, Nat.reduceAdd, Int.reduceAdd, Int.reduceNeg, Int.reduceToNat, Int.reduceLE, Int.reduceLT, true_and, and_true, Nat.reduceLT, reduceIte, Nat.reduceEqDiff, ne_eq, not_false_eq_true, false_implies, true_implies, Bool.false_eq_true, reduceCtorEq, List.cons_append, List.nil_append, Nat.reduceSub, Nat.reduceLeDiff, Fin.isValue, Int.reduceNatCast', Int.zero_add, Int.add_zero, decide_true, decide_false, implies_true, forall_const, true_or, or_true, or_false, false_or, false_and, and_false, Int.toNat_natCast, ↓oF_23_0, ↓aF_24, oC_0, oC_1, oC_4, oC_11, oC_16, oC_18, oC_20, oC_23, oC_25, oC_26, oC_29, oC_31, oC_33, oC_35, oC_37, isT_29, isT_31, isT_33, isT_35, isL_16, isL_18, isL_26, ↓hL.f0, ↓hL.a, hL.c, updR_o1, updR_o2, eq_true hL, updR_L11 hL, updR_L12 hL, updR_L24 hL, updR_24L hL, updR_twice, cmpZ_r, cmpZ_ge, cmpZ_lt, ↓e_G_sum, ↓e_G_weighEnds, ↓e_W_size, ↓e_L_at, ↓e_G_of]
    obtain ⟨g, hg, rfl⟩ := hu
    simp only [updR_L11 hL, updR_L12 hL, updR_L24 hL, updR_eq]
    have b1 := ladI_12 (f := σ 12) hmn.2.2.2 (by omega : (0 : Int) ≤ 1000000) hw i
    have hpm := pow12 hmn.2.1
    by_cases hlt : i < σ 11 4
    · have e1 : ladV g n i = ladI (σ 11 4) (σ 12) (σ 24) n.toNat i := climbed_at hN.2 hg ⟨hmn.2.2.1, by omega⟩ ⟨hi.1, hlt⟩
      have b3 := hwI i.toNat (by omega)
      have b4 := hw i.toNat (by omega)
      have b5 : 0 ≤ σ 24 i.toNat * 2 ^ m.toNat ∧ σ 24 i.toNat * 2 ^ m.toNat ≤ 1000000 * 4096 := ⟨Int.mul_nonneg b4.1 (by omega), Int.mul_le_mul b4.2 hpm.2 (by omega) (by omega)⟩
      have e2 : (i + 1).toNat = i.toNat + 1 := by omega
      have e3 : ((i.toNat : Nat) : Int) = i := by omega
      rw [e1, if_pos (show 0 ≤ i ∧ i < 100 by omega), e2]
      simp only [findF, hp, e3, reduceIte]
      (try simp only [rI_iff, rL_iff] at *)
      repeat' (first | assumption | apply And.intro | intro _)
      all_goals first | omega | assumption | exact True.intro | skip
      · simp only [decide_eq_true_eq]; rw [if_neg (by omega)]
      · exact ⟨g, hg, rfl⟩
      · rename_i hge1
        have e5 := findF_on (fun s => decide (ladI (σ 11 4) (σ 12) (σ 24) n.toNat s < σ 24 s * 2 ^ m.toNat)) (i.toNat + 1) (by simp only [findF, hp, e3, reduceIte, decide_eq_true_eq]; rw [if_pos (by omega)]; omega) (σ 11 4).toNat (by omega)
        have e6 := hQ.2 hne g
        rw [e5] at e6
        simp only [findF, hp, e3, reduceIte, decide_eq_true_eq] at e6
        rw [if_pos (by omega)] at e6
        exact e6
    · have e6 : i = σ 11 4 := by omega
      (try simp only [rI_iff, rL_iff] at *)
      repeat' (first | assumption | apply And.intro | intro _)
      all_goals first | omega | assumption | exact True.intro | skip
      have e7 := hQ.2 hne g
      rw [show (σ 11 4).toNat = i.toNat by omega, hp] at e7
      exact e7
