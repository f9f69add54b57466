/-! codes: finding one -/
def EnrollSt (σ σ' : St) (m n : Int) : Prop := (∀ k : Nat, k ≠ 25 → k ≠ 29 → k ≠ 30 → σ' k = σ k) ∧ σ' 25 3 = sumF (σ 28) 100 ∧ σ' 25 6 = homeF (σ 28) ∧ (sumF (σ 28) 100 = 0 → σ' 25 4 = σ 25 4 ∧ σ' 25 5 = σ 25 5 ∧ σ' 29 = σ 29 ∧ σ' 30 = σ 30) ∧
  (0 < sumF (σ 28) 100 → σ' 25 4 = m ∧ σ' 25 5 = n ∧ σ' 29 1 = σ 15 (homeF (σ 28)).toNat ∧ σ' 30 = leadG (σ 13) (σ 14) (σ 15 (homeF (σ 28)).toNat) (homeF (σ 28)) (-1) (σ 30))
theorem sumF_0 {M : Nat → Int} (hM : isBits M) : ∀ n : Nat, sumF M n = 0 → ∀ s, s < n → M s = 0
  | 0, _, s, hs => absurd hs (Nat.not_lt_zero s)
  | n + 1, h, s, hs => by
    have h1 := sumF_bound (w := M) (B := 1) (n := n) (fun t _ => by have := hM t; omega)
    have h2 := hM n
    rw [sumF] at h
    by_cases e : s = n
    · subst e; omega
    · exact sumF_0 hM n (by omega) s (by omega)
theorem sumF_mono {M : Nat → Int} (hM : ∀ t, 0 ≤ M t) : ∀ {a b : Nat}, a ≤ b → sumF M a ≤ sumF M b := by
  intro a b hab
  obtain ⟨k, rfl⟩ := Nat.le.dest hab
  induction k with
  | zero => exact Int.le_refl _
  | succ k ih =>
    have h1 := ih (by omega)
    have h2 := hM (a + k)
    have e : sumF M (a + (k + 1)) = sumF M (a + k) + M (a + k) := rfl
    omega
theorem homeF_r {M : Nat → Int} {N : Int} (hM : isBits M) (hz : ∀ s : Nat, s < 100 → ¬ (s : Int) < N → M s = 0) (h : 0 < sumF M 100) : 0 ≤ homeF M ∧ homeF M < N ∧ homeF M < 100 ∧ M (homeF M).toNat = 1 := by
  rcases findF_spec (fun s => decide (M s = 1)) 100 with ⟨h1, h2⟩ | ⟨k, h1, h2, h3, h4⟩
  · exfalso
    have : ∀ n, n ≤ 100 → sumF M n = 0 := by
      intro n
      induction n with
      | zero => exact fun _ => rfl
      | succ n ih =>
        intro hn
        have := h2 n (by omega)
        have h5 := hM n
        rw [sumF, ih (by omega)]
        simp only [decide_eq_false_iff_not] at this
        omega
    have := this 100 (by omega)
    omega
  · have h5 : M k = 1 := by simpa using h3
    have h6 : homeF M = k := h2
    rw [h6, Int.toNat_natCast]
    refine ⟨by omega, ?_, by omega, h5⟩
    apply Classical.byContradiction
    intro hc
    have := hz k h1 hc
    omega
def homeI (M : Nat → Int) (i h : Int) : Prop := (h = -1 ∧ ∀ s : Nat, i < s → s < 100 → ¬ M s = 1) ∨ (i < h ∧ h < 100 ∧ M h.toNat = 1 ∧ ∀ s : Nat, i < s → (s : Int) < h → ¬ M s = 1)
theorem homeI_end {M : Nat → Int} {h : Int} (hi : homeI M (-1) h) : h = homeF M := by
  refine findF_eq ?_
  rcases hi with ⟨h1, h2⟩ | ⟨h1, h2, h3, h4⟩
  · exact Or.inl ⟨h1, fun s hs => by simpa using h2 s (by omega) hs⟩
  · exact Or.inr ⟨h.toNat, by omega, by omega, by simpa using h3, fun s hs => by simpa using h4 s (by omega) (by omega)⟩
theorem homeI_s {M : Nat → Int} {i h : Int} (hi : homeI M i h) (h0 : 0 ≤ i ∧ i < 100) : (M i.toNat = 1 → homeI M (i - 1) i) ∧ (¬ M i.toNat = 1 → homeI M (i - 1) h) := by
  refine ⟨fun h1 => Or.inr ⟨by omega, h0.2, h1, fun s h2 h3 => by omega⟩, fun h1 => ?_⟩
  rcases hi with ⟨g1, g2⟩ | ⟨g1, g2, g3, g4⟩
  · refine Or.inl ⟨g1, fun s h2 h3 => ?_⟩
    by_cases e : s = i.toNat
    · rw [e]; exact h1
    · exact g2 s (by omega) h3
  · refine Or.inr ⟨by omega, g2, g3, fun s h2 h3 => ?_⟩
    by_cases e : s = i.toNat
    · rw [e]; exact h1
    · exact g4 s (by omega) h3
def s_C_enroll : Spec := fun as σ Q => popR as fun c0 r0 => popR r0 fun c1 r1 => popI r1 fun m r2 => popI r2 fun n r3 => r3 = [] ∧ c0 = 25 ∧ c1 = 11 ∧ (0 ≤ σ 11 4 ∧ σ 11 4 ≤ 100) ∧ (isBits (σ 28)) ∧ (σ 25 3 = 0 ∧ σ 25 6 = -1) ∧ (Tree (σ 11 4) (σ 13) (σ 15)) ∧ (∀ s : Nat, s < 100 → ¬ (s : Int) < σ 11 4 → σ 28 s = 0) ∧ ∀ σ', EnrollSt σ σ' m n → Q none σ'
theorem e_C_enroll (m : Int) (n : Int) (σ : St) (Q : Option AV → St → Prop) : s_C_enroll [.inr (.inr (some 25)), .inr (.inr (some 11)), .inl m, .inl n] σ Q = ((0 ≤ σ 11 4 ∧ σ 11 4 ≤ 100) ∧ (isBits (σ 28)) ∧ (σ 25 3 = 0 ∧ σ 25 6 = -1) ∧ (Tree (σ 11 4) (σ 13) (σ 15)) ∧ (∀ s : Nat, s < 100 → ¬ (s : Int) < σ 11 4 → σ 28 s = 0) ∧ ∀ σ', EnrollSt σ σ' m n → Q none σ') := by
  show ([] = [] ∧ _) = _
  simp only [true_and]
set_option maxHeartbeats 4000000 in
set_option maxRecDepth 20000 in
theorem S_C_enroll {l : Launch} : Sat l y_C_enroll b_C_enroll 5 none 3 s_C_enroll := by
  refine sat_of (Φ := P_C) (κ := Q_C) (Γ := [(80, 2, 2, s_T_setPath)]) (rt := 0) (by decide +kernel) P_C_ok Q_C_ok (by
    refine List.forall_mem_cons.mpr ⟨?_, fun _ h => absurd h List.not_mem_nil⟩
    · exact m_T_setPath S_T_setPath (by decide) l_C_80) (by simp) o_C_enroll ?_
  intro as σ Q hh0
  obtain ⟨c0, rr0, rfl, hh1⟩ := popR_inv hh0
  obtain ⟨c1, rr1, rfl, hh2⟩ := popR_inv hh1
  obtain ⟨m, rr2, rfl, hh3⟩ := popI_inv hh2
  obtain ⟨n, rr3, rfl, hh4⟩ := popI_inv hh3
  obtain ⟨hrE, rfl, rfl, hN, hb, h0, hT, hM, hQ⟩ := hh4
  subst hrE
  clear hh0 hh1 hh2 hh3
  refine ⟨Nat.le_of_ble_eq_true rfl, [(4, mkC (fun L st u => ∃ (i : Int), L = [.inr (.inr (some 25)), .inr (.inr (some 11)), .inl m, .inl n, .inl i] ∧ st = [] ∧ (-1 ≤ i ∧ i ≤ 99) ∧ (∃ h, homeI (σ 28) i h ∧ u = updR σ 25 (up1 (up1 (σ 25) 6 h) 3 (sumF (σ 28) 100 - sumF (σ 28) (i + 1).toNat)))) (fun L st u => ((gI L 4 + 1).toNat, 0, 0)))], 14, ?_, cuts1 ?_ (cuts0)⟩
  · rw [show entL 5 [.inr (.inr (some 25)), .inr (.inr (some 11)), .inl m, .inl n] = [.inr (.inr (some 25)), .inr (.inr (some 11)), .inl m, .inl n, .inr (.inr none)] from rfl]
    simp only [↓wpN_go, jmp_e, ↓wp_aload_n0, ↓wp_aload_n1, ↓wp_bipush, ↓wp_dup, ↓wp_getfield, ↓wp_goto, ↓wp_iadd, ↓wp_iaload, ↓wp_icmp_ne, ↓wp_iconst, ↓wp_if_le, ↓wp_if_lt, ↓wp_iinc, ↓wp_iload, ↓wp_iload_n2, ↓wp_iload_n3, ↓wp_invokevirtual, ↓wp_istore, ↓wp_putfield, ↓wp_return0, wp_nil, ↓ldI_0, ↓ldI_s, ↓ldL_0, ↓ldL_s, ↓ldR_0, ↓ldR_s, sto1_0, sto1_1, sto1_s, sto2_0, sto2_1, sto2_s, isLong_i, isLong_l, isLong_r, ↓popI_c, ↓popL_c, ↓popR_c, ↓popN_0, ↓popN_s, catS_n, catS_c, psh_s, psh_n, fldV_n, fldV_s, ↓tgt_e, sw_n, ↓sw_c, ↓lk1_h, ↓lk1_m, ↓atC_h, ↓atC_m, ↓atC_n, ltO_n, ltO_s, updR_eq, updR_ne, gI_0i, gI_0l, gI_s, ltM_iff, List.cons.injEq, Sum.inl.injEq, Sum.inr.injEq, Option.some.injEq, exists_eq_left, exists_eq_left', exists_eq_right, exists_eq_right', exists_and_left, exists_and_right, exists_eq, exists_const, and_assoc, ↓j_C_enroll_0, ↓j_C_enroll_4, ↓j_C_enroll_36, ↓j_C_enroll_42, ↓j_C_enroll_71, ↓f_C_18, ↓f_C_25, ↓f_C_29, ↓f_C_33, ↓f_C_36, ↓f_C_39, List.length_cons, List.length_nil, Nat.zero_add, Nat.reduceAdd, Int.reduceAdd, Int.reduceNeg, Int.reduceToNat, Int.reduceLE, Int.reduceLT, true_and, and_true, Nat.reduceLT, reduceIte, Nat.reduceEqDiff, ne_eq, not_false_eq_true, false_implies, true_implies, Bool.false_eq_true, reduceCtorEq, List.cons_append, List.nil_append, Nat.reduceSub, Nat.reduceLeDiff, Fin.isValue, Int.reduceNatCast', Int.zero_add, Int.add_zero, decide_true, decide_false, implies_true, forall_const, true_or, or_true, or_false, false_or, false_and, and_false, Int.toNat_natCast, ↓oF_25_0, ↓oF_25_1, ↓aF_28, ↓oF_25_2, ↓oF_25_3, ↓oF_25_4, ↓oF_25_5, ↓oF_25_6, oC_0, oC_1, oC_4, oC_11, oC_16, oC_18, oC_20, oC_23, oC_25, oC_26, oC_29, oC_31, oC_33, oC_35, oC_37, isT_29, isT_31, isT_33, isT_35, isL_16, isL_18, isL_26, updR_twice, ↓e_T_setPath]
    have e0 : sumF (σ 28) 100 - sumF (σ 28) 100 = 0 := Int.sub_self _
    rw [e0]
    refine ⟨-1, Or.inl ⟨rfl, fun s1 hs1 hs2 => by omega⟩, st_ext fun k j => ?_⟩
    grind [updR_app, up1_app]
  · intro L st u hI
    obtain ⟨i, rfl, rfl, hi, hu⟩ := hI
    simp only [↓wpN_go, jmp_e, ↓wp_aload_n0, ↓wp_aload_n1, ↓wp_bipush, ↓wp_dup, ↓wp_getfield, ↓wp_goto, ↓wp_iadd, ↓wp_iaload, ↓wp_icmp_ne, ↓wp_iconst, ↓wp_if_le, ↓wp_if_lt, ↓wp_iinc, ↓wp_iload, ↓wp_iload_n2, ↓wp_iload_n3, ↓wp_invokevirtual, ↓wp_istore, ↓wp_putfield, ↓wp_return0, wp_nil, ↓ldI_0, ↓ldI_s, ↓ldL_0, ↓ldL_s, ↓ldR_0, ↓ldR_s, sto1_0, sto1_1, sto1_s, sto2_0, sto2_1, sto2_s, isLong_i, isLong_l, isLong_r, ↓popI_c, ↓popL_c, ↓popR_c, ↓popN_0, ↓popN_s, catS_n, catS_c, psh_s, psh_n, fldV_n, fldV_s, ↓tgt_e, sw_n, ↓sw_c, ↓lk1_h, ↓lk1_m, ↓atC_h, ↓atC_m, ↓atC_n, ltO_n, ltO_s, updR_eq, updR_ne, gI_0i, gI_0l, gI_s, ltM_iff, List.cons.injEq, Sum.inl.injEq, Sum.inr.injEq, Option.some.injEq, exists_eq_left, exists_eq_left', exists_eq_right, exists_eq_right', exists_and_left, exists_and_right, exists_eq, exists_const, and_assoc, ↓j_C_enroll_0, ↓j_C_enroll_4, ↓j_C_enroll_36, ↓j_C_enroll_42, ↓j_C_enroll_71, ↓f_C_18, ↓f_C_25, ↓f_C_29, ↓f_C_33, ↓f_C_36, ↓f_C_39, List.length_cons, List.length_nil, Nat.zero_add, Nat.reduceAdd, Int.reduceAdd, Int.reduceNeg, Int.reduceToNat, Int.reduceLE, Int.reduceLT, true_and, and_true, Nat.reduceLT, reduceIte, Nat.reduceEqDiff, ne_eq, not_false_eq_true, false_implies, true_implies, Bool.false_eq_true, reduceCtorEq, List.cons_append, List.nil_append, Nat.reduceSub, Nat.reduceLeDiff, Fin.isValue, Int.reduceNatCast', Int.zero_add, Int.add_zero, decide_true, decide_false, implies_true, forall_const, true_or, or_true, or_false, false_or, false_and, and_false, Int.toNat_natCast, ↓oF_25_0, ↓oF_25_1, ↓aF_28, ↓oF_25_2, ↓oF_25_3, ↓oF_25_4, ↓oF_25_5, ↓oF_25_6, oC_0, oC_1, oC_4, oC_11, oC_16, oC_18, oC_20, oC_23, oC_25, oC_26, oC_29, oC_31, oC_33, oC_35, oC_37, isT_29, isT_31, isT_33, isT_35, isL_16, isL_18, isL_26, updR_twice, ↓e_T_setPath]
    obtain ⟨hm1, hm2, rfl⟩ := hu
    simp only [updR_ne _ 25 28 _ (by decide), updR_ne _ 25 11 _ (by decide), updR_ne _ 25 13 _ (by decide), updR_ne _ 25 15 _ (by decide), updR_eq, up1_eq, up1_ne _ 3 6 _ (by decide), updR_twice]
    have hs100 := sumF_bound (w := σ 28) (B := 1) (n := 100) (fun t1 _ => by have := hb t1; omega)
    have hsi := sumF_bound (w := σ 28) (B := 1) (n := (i + 1).toNat) (fun t1 _ => by have := hb t1; omega)
    have hsle : sumF (σ 28) (i + 1).toNat ≤ sumF (σ 28) 100 := sumF_mono (fun t1 => by have := hb t1; omega) (by omega)
    have hr100 : 0 < sumF (σ 28) 100 → 0 ≤ homeF (σ 28) ∧ homeF (σ 28) < σ 11 4 ∧ homeF (σ 28) < 100 ∧ σ 28 (homeF (σ 28)).toNat = 1 := homeF_r hb hM
    unfold EnrollSt at hQ
    generalize hS : sumF (σ 28) 100 = S at *
    by_cases h8 : 0 ≤ i
    · have h9 := hb i.toNat
      have e1 : (i + 1).toNat = i.toNat + 1 := by omega
      have e2 : i + -1 + 1 = i := by omega
      have e3 := homeI_s hm2 ⟨h8, by omega⟩
      have e5 : sumF (σ 28) (i.toNat + 1) = sumF (σ 28) i.toNat + σ 28 i.toNat := rfl
      rw [show i - 1 = i + -1 by omega] at e3
      rw [e1, e5] at hsi hsle
      rw [e1, e2, e5]
      (try simp only [rI_iff, rL_iff] at *)
      repeat' (first | assumption | apply And.intro | intro _)
      all_goals first | omega | assumption | exact True.intro | skip
      · rename_i hx1
        have e6 : σ 28 i.toNat = 0 := h9.resolve_right hx1
        rw [e6, Int.add_zero]
        exact ⟨hm1, e3.2 hx1, rfl⟩
      · rename_i hx1
        rw [hx1]
        refine ⟨i, e3.1 hx1, st_ext fun k j => ?_⟩
        grind [updR_app, up1_app]
    · have e1 : i = -1 := by omega
      subst e1
      have e4 := homeI_end hm2
      subst e4
      have e5 : sumF (σ 28) (-1 + 1 : Int).toNat = 0 := rfl
      simp only [e5, Int.sub_zero]
      (try simp only [rI_iff, rL_iff] at *)
      repeat' (first | assumption | apply And.intro | intro _)
      all_goals first | omega | assumption | exact True.intro | skip
      all_goals try simp only [up1_eq, up1_ne _ 5 6 _ (by decide), up1_ne _ 4 6 _ (by decide), up1_ne _ 3 6 _ (by decide), updR_ne _ 25 14 _ (by decide), updR_ne _ 25 29 _ (by decide), updR_ne _ 25 30 _ (by decide)]
      · refine hQ _ ⟨fun k h1 h2 h3 => ?_, ?_, ?_, fun hz => ⟨?_, ?_, ?_, ?_⟩, fun hz => ?_⟩
        · exact updR_ne _ _ _ _ h1
        · simp only [updR_eq, up1_eq]
        · simp only [updR_eq, up1_eq, up1_ne _ 3 6 _ (by decide)]
        · rfl
        · rfl
        · rfl
        · rfl
        · omega
      · exact (hr100 (by omega)).1
      · exact (hr100 (by omega)).2.1
      · refine hQ _ ⟨fun k h1 h2 h3 => ?_, ?_, ?_, fun hz => ?_, fun hz => ⟨?_, ?_, ?_, ?_⟩⟩
        · rw [updR_ne _ _ _ _ h3, updR_ne _ _ _ _ h2, updR_ne _ _ _ _ h1]
        · rw [updR_ne _ 30 25 _ (by decide), updR_ne _ 29 25 _ (by decide), updR_eq]; rfl
        · rw [updR_ne _ 30 25 _ (by decide), updR_ne _ 29 25 _ (by decide), updR_eq]; rfl
        · omega
        · rw [updR_ne _ 30 25 _ (by decide), updR_ne _ 29 25 _ (by decide), updR_eq]; rfl
        · rw [updR_ne _ 30 25 _ (by decide), updR_ne _ 29 25 _ (by decide), updR_eq]; rfl
        · rw [updR_ne _ 30 29 _ (by decide), updR_eq]; rfl
        · rw [updR_eq]
