/-! codes: finding the greatest -/
def dropSt (σ : St) : St := updR (updR (updR σ 28 (fillF (σ 28) 0 100 0)) 29 (up1 (σ 29) 1 0)) 25 (up1 (up1 (up1 (up1 (σ 25) 3 0) 4 0) 5 0) 6 (-1))
theorem dropSt_eq (σ : St) : updR (updR (updR σ 28 (fillF (σ 28) 0 100 0)) 29 (up1 (σ 29) 1 0)) 25 (up1 (up1 (up1 (up1 (σ 25) 3 0) 4 0) 5 0) 6 (-1)) = dropSt σ := (rfl)
theorem dropSt_o (σ : St) (k : Nat) (h : k ≠ 28) (h1 : k ≠ 29) (h2 : k ≠ 25) : dropSt σ k = σ k := by unfold dropSt; rw [updR_ne _ _ _ _ h2, updR_ne _ _ _ _ h1, updR_ne _ _ _ _ h]
theorem dropSt_28 (σ : St) : dropSt σ 28 = fillF (σ 28) 0 100 0 := by unfold dropSt; rw [updR_ne _ 25 28 _ (by decide), updR_ne _ 29 28 _ (by decide), updR_eq]
theorem dropSt_25 (σ : St) : dropSt σ 25 3 = 0 ∧ dropSt σ 25 4 = 0 ∧ dropSt σ 25 5 = 0 ∧ dropSt σ 25 6 = -1 := by unfold dropSt; rw [updR_eq]; exact ⟨rfl, rfl, rfl, rfl⟩
theorem dropSt_29 (σ : St) : dropSt σ 29 = up1 (σ 29) 1 0 := by unfold dropSt; rw [updR_ne _ 25 29 _ (by decide), updR_eq]
def FindSt (σ σ' : St) (m n : Int) : Prop := (∀ k : Nat, k ≠ 25 → k ≠ 27 → k ≠ 28 → k ≠ 29 → k ≠ 30 → σ' k = σ k) ∧ GreatC (σ 11 4) (σ 12) (2 ^ m.toNat) n (σ' 28) ∧ Climbed (σ 11 4) (σ 12) (σ' 28) n (σ' 27) ∧ EnrollSt (updR (updR (dropSt σ) 27 (σ' 27)) 28 (σ' 28)) σ' m n
theorem pow8 {m : Int} (h : 0 ≤ m ∧ m ≤ 8) : (1 : Int) ≤ 2 ^ m.toNat ∧ (2 : Int) ^ m.toNat ≤ 256 := by
  refine ⟨Int.pow_pos (by omega), ?_⟩
  have : (2 : Nat) ^ m.toNat ≤ 2 ^ 8 := Nat.pow_le_pow_right (by omega) (by omega)
  have e : ((2 ^ m.toNat : Nat) : Int) = 2 ^ m.toNat := by rw [Int.natCast_pow]; rfl
  omega
def ones (M : Nat → Int) (i : Int) : Nat → Int := fillF (fillF M 0 100 0) 0 i 1
theorem ones_bits {M : Nat → Int} (h : isBits M) (i : Int) : isBits (ones M i) := by
  intro s
  unfold ones fillF
  split
  · exact Or.inr rfl
  · split
    · exact Or.inl rfl
    · exact h s
theorem ones_in {M : Nat → Int} {i : Int} (s : Nat) (h : (s : Int) < i) : ones M i s = 1 := if_pos ⟨by omega, h⟩
theorem ones_out {M : Nat → Int} {i : Int} (s : Nat) (h : ¬ (s : Int) < i) (h2 : s < 100) : ones M i s = 0 := by
  unfold ones fillF
  rw [if_neg (by omega), if_pos (by omega)]
theorem ones_up {M : Nat → Int} {i : Int} (h : 0 ≤ i) : up1 (ones M i) i.toNat 1 = ones M (i + 1) := up1_fill h h
def s_C_find : Spec := fun as σ Q => popR as fun c0 r0 => popR r0 fun c1 r1 => popI r1 fun m r2 => popI r2 fun n r3 => r3 = [] ∧ c0 = 25 ∧ c1 = 11 ∧ (0 ≤ σ 11 4 ∧ σ 11 4 ≤ 100) ∧ (Wire (σ 11 4) (σ 12)) ∧ (isBits (σ 28)) ∧ (1 ≤ m ∧ m ≤ 8 ∧ 0 ≤ n ∧ n ≤ 12) ∧ (Tree (σ 11 4) (σ 13) (σ 15)) ∧ (0 ≤ σ 29 1 ∧ σ 29 1 ≤ 600) ∧ ∀ σ', FindSt σ σ' m n → Q none σ'
theorem e_C_find (m : Int) (n : Int) (σ : St) (Q : Option AV → St → Prop) : s_C_find [.inr (.inr (some 25)), .inr (.inr (some 11)), .inl m, .inl n] σ Q = ((0 ≤ σ 11 4 ∧ σ 11 4 ≤ 100) ∧ (Wire (σ 11 4) (σ 12)) ∧ (isBits (σ 28)) ∧ (1 ≤ m ∧ m ≤ 8 ∧ 0 ≤ n ∧ n ≤ 12) ∧ (Tree (σ 11 4) (σ 13) (σ 15)) ∧ (0 ≤ σ 29 1 ∧ σ 29 1 ≤ 600) ∧ ∀ σ', FindSt σ σ' m n → Q none σ') := by
  show ([] = [] ∧ _) = _
  simp only [true_and]
set_option maxHeartbeats 4000000 in
set_option maxRecDepth 20000 in
theorem S_C_find {l : Launch} : Sat l y_C_find b_C_find 5 none 4 s_C_find := by
  refine sat_of (Φ := P_C) (κ := Q_C) (Γ := [(52, 3, 0, s_C_drop), (55, 8, 0, s_W_size), (60, 3, 3, s_C_dropPoor), (64, 3, 3, s_C_enroll)]) (rt := 0) (by decide +kernel) P_C_ok Q_C_ok (by
    refine List.forall_mem_cons.mpr ⟨?_, List.forall_mem_cons.mpr ⟨?_, List.forall_mem_cons.mpr ⟨?_, List.forall_mem_cons.mpr ⟨?_, fun _ h => absurd h List.not_mem_nil⟩⟩⟩⟩
    · exact m_C_drop S_C_drop (by decide) l_C_52
    · exact m_W_size S_W_size (by decide) l_C_55
    · exact m_C_dropPoor S_C_dropPoor (by decide) l_C_60
    · exact m_C_enroll S_C_enroll (by decide) l_C_64) (by simp) o_C_find ?_
  intro as σ Q hh0
  obtain ⟨c0, rr0, rfl, hh1⟩ := popR_inv hh0
  obtain ⟨c1, rr1, rfl, hh2⟩ := popR_inv hh1
  obtain ⟨m, rr2, rfl, hh3⟩ := popI_inv hh2
  obtain ⟨n, rr3, rfl, hh4⟩ := popI_inv hh3
  obtain ⟨hrE, rfl, rfl, hN, hf, hb, hwn, hT, hs29, hQ⟩ := hh4
  subst hrE
  clear hh0 hh1 hh2 hh3
  refine ⟨Nat.le_of_ble_eq_true rfl, [(7, mkC (fun L st u => ∃ (i : Int), L = [.inr (.inr (some 25)), .inr (.inr (some 11)), .inl m, .inl n, .inl i] ∧ st = [] ∧ (0 ≤ i ∧ i ≤ σ 11 4) ∧ (u = updR (dropSt σ) 28 (ones (σ 28) i))) (fun L st u => (1, (101 - gI L 4).toNat, 0))),
    (40, mkC (fun L st u => ∃ (i : Int), L = [.inr (.inr (some 25)), .inr (.inr (some 11)), .inl m, .inl n, .inl i] ∧ st = [] ∧ (0 ≤ i) ∧ (∃ W g, u = updR (updR (dropSt σ) 27 g) 28 W ∧ isBits W ∧ (∀ s : Nat, s < 100 → ¬ (s : Int) < σ 11 4 → W s = 0) ∧ (∀ V, isBits V → ClosedC (σ 11 4) (σ 12) (2 ^ m.toNat) n V → ∀ s : Nat, (s : Int) < σ 11 4 → V s ≤ W s) ∧ sumF W (σ 11 4).toNat + i ≤ 100)) (fun L st u => (0, (101 - gI L 4).toNat, 0)))], 14, ?_, cuts1 ?_ (cuts1 ?_ (cuts0))⟩
  · rw [show entL 5 [.inr (.inr (some 25)), .inr (.inr (some 11)), .inl m, .inl n] = [.inr (.inr (some 25)), .inr (.inr (some 11)), .inl m, .inl n, .inr (.inr none)] from rfl]
    simp only [↓wpN_go, jmp_e, ↓wp_aload_n0, ↓wp_aload_n1, ↓wp_bipush, ↓wp_getfield, ↓wp_goto, ↓wp_iastore, ↓wp_icmp_ge, ↓wp_icmp_gt, ↓wp_iconst, ↓wp_if_ne, ↓wp_iinc, ↓wp_iload, ↓wp_iload_n2, ↓wp_iload_n3, ↓wp_invokevirtual, ↓wp_ishl, ↓wp_istore, ↓wp_return0, wp_nil, ↓ldI_0, ↓ldI_s, ↓ldL_0, ↓ldL_s, ↓ldR_0, ↓ldR_s, sto1_0, sto1_1, sto1_s, sto2_0, sto2_1, sto2_s, isLong_i, isLong_l, isLong_r, ↓popI_c, ↓popL_c, ↓popR_c, ↓popN_0, ↓popN_s, catS_n, catS_c, psh_s, psh_n, fldV_n, fldV_s, ↓tgt_e, sw_n, ↓sw_c, ↓lk1_h, ↓lk1_m, ↓atC_h, ↓atC_m, ↓atC_n, ltO_n, ltO_s, updR_eq, updR_ne, gI_0i, gI_0l, gI_s, ltM_iff, List.cons.injEq, Sum.inl.injEq, Sum.inr.injEq, Option.some.injEq, exists_eq_left, exists_eq_left', exists_eq_right, exists_eq_right', exists_and_left, exists_and_right, exists_eq, exists_const, and_assoc, ↓j_C_find_0, ↓j_C_find_7, ↓j_C_find_37, ↓j_C_find_40, ↓j_C_find_62, ↓j_C_find_68, ↓f_C_18, List.length_cons, List.length_nil, Nat.zero_add, Nat.reduceAdd, Int.reduceAdd, Int.reduceNeg, Int.reduceToNat, Int.reduceLE, Int.reduceLT, true_and, and_true, Nat.reduceLT, reduceIte, Nat.reduceEqDiff, ne_eq, not_false_eq_true, false_implies, true_implies, Bool.false_eq_true, reduceCtorEq, List.cons_append, List.nil_append, Nat.reduceSub, Nat.reduceLeDiff, Fin.isValue, Int.reduceNatCast', Int.zero_add, Int.add_zero, decide_true, decide_false, implies_true, forall_const, true_or, or_true, or_false, false_or, false_and, and_false, Int.toNat_natCast, ↓oF_25_0, ↓oF_25_1, ↓aF_28, ↓oF_25_2, ↓oF_25_3, ↓oF_25_4, ↓oF_25_5, ↓oF_25_6, oC_0, oC_1, oC_4, oC_11, oC_16, oC_18, oC_20, oC_23, oC_25, oC_26, oC_29, oC_31, oC_33, oC_35, oC_37, isT_29, isT_31, isT_33, isT_35, isL_16, isL_18, isL_26, ↓e_C_drop, ↓e_W_size, ↓e_C_dropPoor, ↓e_C_enroll]
    (try simp only [rI_iff, rL_iff] at *)
    repeat' (first | assumption | apply And.intro | intro _)
    all_goals first | omega | assumption | exact True.intro | skip
    rw [dropSt_eq]
    show dropSt σ = updR (dropSt σ) 28 (fillF (fillF (σ 28) 0 100 0) 0 0 1)
    rw [fill_0, ← dropSt_28, updR_self]
  · intro L st u hI
    obtain ⟨i, rfl, rfl, hi, hu⟩ := hI
    simp only [↓wpN_go, jmp_e, ↓wp_aload_n0, ↓wp_aload_n1, ↓wp_bipush, ↓wp_getfield, ↓wp_goto, ↓wp_iastore, ↓wp_icmp_ge, ↓wp_icmp_gt, ↓wp_iconst, ↓wp_if_ne, ↓wp_iinc, ↓wp_iload, ↓wp_iload_n2, ↓wp_iload_n3, ↓wp_invokevirtual, ↓wp_ishl, ↓wp_istore, ↓wp_return0, wp_nil, ↓ldI_0, ↓ldI_s, ↓ldL_0, ↓ldL_s, ↓ldR_0, ↓ldR_s, sto1_0, sto1_1, sto1_s, sto2_0, sto2_1, sto2_s, isLong_i, isLong_l, isLong_r, ↓popI_c, ↓popL_c, ↓popR_c, ↓popN_0, ↓popN_s, catS_n, catS_c, psh_s, psh_n, fldV_n, fldV_s, ↓tgt_e, sw_n, ↓sw_c, ↓lk1_h, ↓lk1_m, ↓atC_h, ↓atC_m, ↓atC_n, ltO_n, ltO_s, updR_eq, updR_ne, gI_0i, gI_0l, gI_s, ltM_iff, List.cons.injEq, Sum.inl.injEq, Sum.inr.injEq, Option.some.injEq, exists_eq_left, exists_eq_left', exists_eq_right, exists_eq_right', exists_and_left, exists_and_right, exists_eq, exists_const, and_assoc, ↓j_C_find_0, ↓j_C_find_7, ↓j_C_find_37, ↓j_C_find_40, ↓j_C_find_62, ↓j_C_find_68, ↓f_C_18, List.length_cons, List.length_nil, Nat.zero_add, Nat.reduceAdd, Int.reduceAdd, Int.reduceNeg, Int.reduceToNat, Int.reduceLE, Int.reduceLT, true_and, and_true, Nat.reduceLT, reduceIte, Nat.reduceEqDiff, ne_eq, not_false_eq_true, false_implies, true_implies, Bool.false_eq_true, reduceCtorEq, List.cons_append, List.nil_append, Nat.reduceSub, Nat.reduceLeDiff, Fin.isValue, Int.reduceNatCast', Int.zero_add, Int.add_zero, decide_true, decide_false, implies_true, forall_const, true_or, or_true, or_false, false_or, false_and, and_false, Int.toNat_natCast, ↓oF_25_0, ↓oF_25_1, ↓aF_28, ↓oF_25_2, ↓oF_25_3, ↓oF_25_4, ↓oF_25_5, ↓oF_25_6, oC_0, oC_1, oC_4, oC_11, oC_16, oC_18, oC_20, oC_23, oC_25, oC_26, oC_29, oC_31, oC_33, oC_35, oC_37, isT_29, isT_31, isT_33, isT_35, isL_16, isL_18, isL_26, ↓e_C_drop, ↓e_W_size, ↓e_C_dropPoor, ↓e_C_enroll]
    subst hu
    simp only [updR_ne, updR_eq, ne_eq, Nat.reduceEqDiff, not_false_eq_true, Nat.succ_ne_self, dropSt_o]
    by_cases hlt : i < σ 11 4
    · simp only [if_pos (show 0 ≤ i ∧ i < 100 by omega), ones_up hi.1, updR_twice]
      (try simp only [rI_iff, rL_iff] at *)
      repeat' (first | assumption | apply And.intro | intro _)
      all_goals first | omega | assumption | exact True.intro | skip
      all_goals done
    · have e1 : i = σ 11 4 := by omega
      subst e1
      (try simp only [rI_iff, rL_iff] at *)
      repeat' (first | assumption | apply And.intro | intro _)
      all_goals first | omega | assumption | exact True.intro | skip
      refine ⟨ones (σ 28) (σ 11 4), ⟨dropSt σ 27, ?_⟩, ones_bits hb _, fun s1 hs1 hs2 => ones_out s1 hs2 hs1, fun V hV1 hV2 s1 hs1 => ?_, ?_⟩
      · rw [updR_self]
      · rw [ones_in s1 hs1]; have := hV1 s1; omega
      · have := sumF_bound (w := ones (σ 28) (σ 11 4)) (B := 1) (n := (σ 11 4).toNat) (fun t1 _ => by have := ones_bits hb (σ 11 4) t1; omega)
        omega
  · intro L st u hI
    obtain ⟨i, rfl, rfl, hi, hu⟩ := hI
    simp only [↓wpN_go, jmp_e, ↓wp_aload_n0, ↓wp_aload_n1, ↓wp_bipush, ↓wp_getfield, ↓wp_goto, ↓wp_iastore, ↓wp_icmp_ge, ↓wp_icmp_gt, ↓wp_iconst, ↓wp_if_ne, ↓wp_iinc, ↓wp_iload, ↓wp_iload_n2, ↓wp_iload_n3, ↓wp_invokevirtual, ↓wp_ishl, ↓wp_istore, ↓wp_return0, wp_nil, ↓ldI_0, ↓ldI_s, ↓ldL_0, ↓ldL_s, ↓ldR_0, ↓ldR_s, sto1_0, sto1_1, sto1_s, sto2_0, sto2_1, sto2_s, isLong_i, isLong_l, isLong_r, ↓popI_c, ↓popL_c, ↓popR_c, ↓popN_0, ↓popN_s, catS_n, catS_c, psh_s, psh_n, fldV_n, fldV_s, ↓tgt_e, sw_n, ↓sw_c, ↓lk1_h, ↓lk1_m, ↓atC_h, ↓atC_m, ↓atC_n, ltO_n, ltO_s, updR_eq, updR_ne, gI_0i, gI_0l, gI_s, ltM_iff, List.cons.injEq, Sum.inl.injEq, Sum.inr.injEq, Option.some.injEq, exists_eq_left, exists_eq_left', exists_eq_right, exists_eq_right', exists_and_left, exists_and_right, exists_eq, exists_const, and_assoc, ↓j_C_find_0, ↓j_C_find_7, ↓j_C_find_37, ↓j_C_find_40, ↓j_C_find_62, ↓j_C_find_68, ↓f_C_18, List.length_cons, List.length_nil, Nat.zero_add, Nat.reduceAdd, Int.reduceAdd, Int.reduceNeg, Int.reduceToNat, Int.reduceLE, Int.reduceLT, true_and, and_true, Nat.reduceLT, reduceIte, Nat.reduceEqDiff, ne_eq, not_false_eq_true, false_implies, true_implies, Bool.false_eq_true, reduceCtorEq, List.cons_append, List.nil_append, Nat.reduceSub, Nat.reduceLeDiff, Fin.isValue, Int.reduceNatCast', Int.zero_add, Int.add_zero, decide_true, decide_false, implies_true, forall_const, true_or, or_true, or_false, false_or, false_and, and_false, Int.toNat_natCast, ↓oF_25_0, ↓oF_25_1, ↓aF_28, ↓oF_25_2, ↓oF_25_3, ↓oF_25_4, ↓oF_25_5, ↓oF_25_6, oC_0, oC_1, oC_4, oC_11, oC_16, oC_18, oC_20, oC_23, oC_25, oC_26, oC_29, oC_31, oC_33, oC_35, oC_37, isT_29, isT_31, isT_33, isT_35, isL_16, isL_18, isL_26, ↓e_C_drop, ↓e_W_size, ↓e_C_dropPoor, ↓e_C_enroll]
    obtain ⟨W, g, rfl, hW1, hW2, hW3, hW4⟩ := hu
    simp only [updR_ne, updR_eq, ne_eq, Nat.reduceEqDiff, not_false_eq_true, Nat.succ_ne_self, dropSt_o, Int.one_mul]
    have hW5 := (sumF_bound (w := W) (B := 1) (n := (σ 11 4).toNat) (fun t1 _ => by have := hW1 t1; omega)).1
    have hd1 := dropSt_25 σ
    have hd2 : (1 : Int) ≤ 2 ^ m.toNat ∧ (2 : Int) ^ m.toNat ≤ 256 := pow8 ⟨by omega, by omega⟩
    generalize hwd : (2 : Int) ^ m.toNat = words at *
    have hsw : ∀ g2 W2 : Nat → Int, updR (updR (updR (updR (dropSt σ) 27 g) 28 W) 27 g2) 28 W2 = updR (updR (dropSt σ) 27 g2) 28 W2 := fun g2 W2 => by
      refine st_ext fun k j => ?_
      grind [updR_app]
    simp only [hsw]
    have hdb := drop_bits (N := σ 11 4) (n := n) (words := words) (c := σ 11 4) (f := σ 12) hW1
    have hdz : ∀ s1 : Nat, s1 < 100 → ¬ (s1 : Int) < σ 11 4 → dropF (σ 11 4) (σ 12) W n words (σ 11 4) s1 = 0 := fun s1 h1 h2 => by
      rw [dropF_app, if_neg (fun h => h2 h.1)]
      exact hW2 s1 h1 h2
    (try simp only [rI_iff, rL_iff] at *)
    repeat' (first | assumption | apply And.intro | intro _)
    all_goals first | omega | assumption | exact True.intro | skip
    · rename_i hi9 g2 dr hc hdr hd0
      have hdr2 := hdr.resolve_left (fun h => hd0 h.1)
      refine ⟨_, ⟨g2, rfl⟩, hdb, hdz, fun V hV1 hV2 => drop_keep hW1 hV1 hV2 (hW3 V hV1 hV2), ?_⟩
      have := drop_sum (f := σ 12) (n := n) hW1 hdr2.2
      omega
    · rename_i hi9 g2 dr hc hdr hd0 σ2 hE
      have hdr2 := hdr.resolve_right (fun h => by omega)
      have e1 : dropF (σ 11 4) (σ 12) W n words (σ 11 4) = W := drop_id hdr2.2
      rw [e1] at hE
      have e2 : σ2 27 = g2 := by rw [hE.1 27 (by decide) (by decide) (by decide), updR_ne _ 28 27 _ (by decide), updR_eq]
      have e3 : σ2 28 = W := by rw [hE.1 28 (by decide) (by decide) (by decide), updR_eq]
      refine hQ σ2 ⟨fun k h1 h2 h3 h4 h5 => ?_, ?_, ?_, ?_⟩
      · rw [hE.1 k h1 h4 h5, updR_ne _ _ _ _ h3, updR_ne _ _ _ _ h2, dropSt_o _ _ h3 h4 h1]
      · rw [e3, hwd]
        exact ⟨hW1, hW2, hdr2.2, hW3⟩
      · rw [e2, e3]; exact hc
      · rw [e2, e3]; exact hE
