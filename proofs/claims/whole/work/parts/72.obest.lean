/-! best once more, with what lies behind the states; marks, weights -/
def BestSA (σ τ : St) (m n most r : Int) : Prop := ∃ g W, τ = updR (updR σ 19 g) 24 W ∧ (∀ s : Nat, ¬ (s : Int) < σ 11 4 → W s = σ 24 s) ∧ Feas (σ 11 4) (σ 12) m n W ∧ (∀ s : Nat, (s : Int) < σ 11 4 → W s ≤ most) ∧ (∀ V, Feas (σ 11 4) (σ 12) m n V → (∀ s : Nat, (s : Int) < σ 11 4 → V s ≤ most) → ∀ s : Nat, (s : Int) < σ 11 4 → V s ≤ W s) ∧ r = sumF W 100
def s_X_bestA : Spec := fun as σ Q => popR as fun c0 r0 => popI r0 fun m r1 => popI r1 fun n r2 => popI r2 fun most r3 => r3 = [] ∧ c0 = 0 ∧ (0 ≤ σ 11 4 ∧ σ 11 4 ≤ 100) ∧ (Wire (σ 11 4) (σ 12)) ∧ (AllB (σ 24) 100 1000000) ∧ (rI m) ∧ (rI n) ∧ (rI most) ∧ if (0 ≤ m ∧ m ≤ 12 ∧ 1 ≤ n ∧ n ≤ 12) ∧ 1 ≤ most ∧ most ≤ 200 then (if σ 11 4 = 0 then Q (some (.inl (-3))) σ else ∀ τ r, BestSA σ τ m n most r → Q (some (.inl r)) τ) else Q (some (.inl (-2))) σ
theorem e_X_bestA (m : Int) (n : Int) (most : Int) (σ : St) (Q : Option AV → St → Prop) : s_X_bestA [.inr (.inr (some 0)), .inl m, .inl n, .inl most] σ Q = ((0 ≤ σ 11 4 ∧ σ 11 4 ≤ 100) ∧ (Wire (σ 11 4) (σ 12)) ∧ (AllB (σ 24) 100 1000000) ∧ (rI m) ∧ (rI n) ∧ (rI most) ∧ if (0 ≤ m ∧ m ≤ 12 ∧ 1 ≤ n ∧ n ≤ 12) ∧ 1 ≤ most ∧ most ≤ 200 then (if σ 11 4 = 0 then Q (some (.inl (-3))) σ else ∀ τ r, BestSA σ τ m n most r → Q (some (.inl r)) τ) else Q (some (.inl (-2))) σ) := by
  show ([] = [] ∧ _) = _
  simp only [true_and]
set_option maxHeartbeats 4000000 in
set_option maxRecDepth 20000 in
theorem S_X_bestA {l : Launch} : Sat l y_X_best b_X_best 4 (some .int) 6 s_X_bestA := by
  refine sat_of (Φ := P_X) (κ := Q_X) (Γ := [(181, 0, 2, s_X_isShowable), (74, 0, 3, s_X_isWithin), (130, 8, 0, s_W_size), (189, 7, 2, s_G_raise), (192, 7, 4, s_G_settle), (196, 7, 0, s_G_sum)]) (rt := 1) (by decide +kernel) P_X_ok Q_X_ok (by
    refine List.forall_mem_cons.mpr ⟨?_, List.forall_mem_cons.mpr ⟨?_, List.forall_mem_cons.mpr ⟨?_, List.forall_mem_cons.mpr ⟨?_, List.forall_mem_cons.mpr ⟨?_, List.forall_mem_cons.mpr ⟨?_, fun _ h => absurd h List.not_mem_nil⟩⟩⟩⟩⟩⟩
    · exact m_X_isShowable S_X_isShowable (by decide) l_X_181
    · exact m_X_isWithin S_X_isWithin (by decide) l_X_74
    · exact m_W_size S_W_size (by decide) l_X_130
    · exact m_G_raise S_G_raise (by decide) l_X_189
    · exact m_G_settle S_G_settle (by decide) l_X_192
    · exact m_G_sum S_G_sum (by decide) l_X_196) (by simp) o_X_best ?_
  intro as σ Q hh0
  obtain ⟨c0, rr0, rfl, hh1⟩ := popR_inv hh0
  obtain ⟨m, rr1, rfl, hh2⟩ := popI_inv hh1
  obtain ⟨n, rr2, rfl, hh3⟩ := popI_inv hh2
  obtain ⟨most, rr3, rfl, hh4⟩ := popI_inv hh3
  obtain ⟨hrE, rfl, hN, hf, hB, hrm, hrn, hro, hQ⟩ := hh4
  subst hrE
  clear hh0 hh1 hh2 hh3
  refine ⟨Nat.le_of_ble_eq_true rfl, [], 14, ?_, cuts0⟩
  · rw [show entL 4 [.inr (.inr (some 0)), .inl m, .inl n, .inl most] = [.inr (.inr (some 0)), .inl m, .inl n, .inl most] from rfl]
    simp only [↓wpN_go, jmp_e, ↓wp_aload_n0, ↓wp_bipush, ↓wp_getfield, ↓wp_iconst, ↓wp_if_eq, ↓wp_if_ne, ↓wp_iload_n1, ↓wp_iload_n2, ↓wp_iload_n3, ↓wp_invokestatic, ↓wp_invokevirtual, ↓wp_ireturn1, ↓wp_sipush, wp_nil, ↓ldI_0, ↓ldI_s, ↓ldL_0, ↓ldL_s, ↓ldR_0, ↓ldR_s, sto1_0, sto1_1, sto1_s, sto2_0, sto2_1, sto2_s, isLong_i, isLong_l, isLong_r, ↓popI_c, ↓popL_c, ↓popR_c, ↓popN_0, ↓popN_s, catS_n, catS_c, psh_s, psh_n, fldV_n, fldV_s, ↓tgt_e, sw_n, ↓sw_c, ↓lk1_h, ↓lk1_m, ↓atC_h, ↓atC_m, ↓atC_n, ltO_n, ltO_s, updR_eq, updR_ne, gI_0i, gI_0l, gI_s, ltM_iff, List.cons.injEq, Sum.inl.injEq, Sum.inr.injEq, Option.some.injEq, exists_eq_left, exists_eq_left', exists_eq_right, exists_eq_right', exists_and_left, exists_and_right, exists_eq, exists_const, and_assoc, ↓j_X_best_0, ↓j_X_best_19, ↓j_X_best_22, ↓j_X_best_35, ↓f_X_26, ↓f_X_37, ↓f_X_50, List.length_cons, List.length_nil, Nat.zero_add, Nat.reduceAdd, Int.reduceAdd, Int.reduceNeg, Int.reduceToNat, Int.reduceLE, Int.reduceLT, true_and, and_true, Nat.reduceLT, reduceIte, Nat.reduceEqDiff, ne_eq, not_false_eq_true, false_implies, true_implies, Bool.false_eq_true, reduceCtorEq, List.cons_append, List.nil_append, Nat.reduceSub, Nat.reduceLeDiff, Fin.isValue, Int.reduceNatCast', Int.zero_add, Int.add_zero, decide_true, decide_false, implies_true, forall_const, true_or, or_true, or_false, false_or, false_and, and_false, Int.toNat_natCast, ↓oF_0_0, ↓oF_0_1, ↓oF_0_2, ↓oF_0_3, ↓oF_0_4, ↓oF_0_5, ↓oF_0_6, ↓oF_0_7, ↓oF_0_8, ↓oF_0_9, ↓oF_0_10, ↓oF_0_11, oC_0, oC_1, oC_4, oC_11, oC_16, oC_18, oC_20, oC_23, oC_25, oC_26, oC_29, oC_31, oC_33, oC_35, oC_37, isT_29, isT_31, isT_33, isT_35, isL_16, isL_18, isL_26, b2i_0, b2i_1, b2i_01, b2i_r, ↓e_X_isShowable, ↓e_X_isWithin, ↓e_W_size, ↓e_G_raise, ↓e_G_settle, ↓e_G_sum]
    have hq1 : ∀ s : Nat, (s : Int) < σ 11 4 → fillF (σ 24) 0 (σ 11 4) most s = most := fun s h => by rw [fillF_app, if_pos (by omega)]
    have hq2 : ∀ s : Nat, ¬ (s : Int) < σ 11 4 → fillF (σ 24) 0 (σ 11 4) most s = σ 24 s := fun s h => by rw [fillF_app, if_neg (by omega)]
    have hB2 : 1 ≤ most → most ≤ 200 → AllB (fillF (σ 24) 0 (σ 11 4) most) (σ 11 4) 200 := fun h1 h2 s hs => by rw [hq1 s hs]; omega
    have hI2 : AllI (fillF (σ 24) 0 (σ 11 4) most) 100 := fun s hs => by
      by_cases e : (s : Int) < σ 11 4
      · rw [hq1 s e]; exact hro
      · rw [hq2 s e]
        have := hB s (by omega)
        unfold rI
        omega
    have q1 : (0 ≤ m ∧ m ≤ 12 ∧ 1 ≤ n ∧ n ≤ 12) → (1 ≤ most ∧ most ≤ 200) → ¬ σ 11 4 = 0 → ∀ g W, (∀ s : Nat, ¬ (s : Int) < σ 11 4 → W s = fillF (σ 24) 0 (σ 11 4) most s) → Feas (σ 11 4) (σ 12) m n W → (∀ s : Nat, (s : Int) < σ 11 4 → W s ≤ fillF (σ 24) 0 (σ 11 4) most s) → (∀ V, Feas (σ 11 4) (σ 12) m n V → (∀ s : Nat, (s : Int) < σ 11 4 → V s ≤ fillF (σ 24) 0 (σ 11 4) most s) → ∀ s : Nat, (s : Int) < σ 11 4 → V s ≤ W s) → Q (some (.inl (sumF W 100))) (updR (updR (updR σ 24 (fillF (σ 24) 0 (σ 11 4) most)) 19 g) 24 W) := fun h1 h2 h3 g W a1 a2 a3 a4 => by
      rw [if_pos ⟨h1, h2⟩, if_neg h3] at hQ
      refine hQ _ _ ⟨g, W, ?_, fun s hs => by rw [a1 s hs, hq2 s hs], a2, fun s hs => by rw [← hq1 s hs]; exact a3 s hs, fun V v1 v2 s hs => a4 V v1 (fun t ht => by rw [hq1 t ht]; exact v2 t ht) s hs, rfl⟩
      rw [updR_swap _ 24 19 _ _ (by decide), updR_twice]
    have q2 : ¬ ((0 ≤ m ∧ m ≤ 12 ∧ 1 ≤ n ∧ n ≤ 12) ∧ 1 ≤ most ∧ most ≤ 200) → Q (some (.inl (-2))) σ := fun h => by rw [if_neg h] at hQ; exact hQ
    have q3 : (0 ≤ m ∧ m ≤ 12 ∧ 1 ≤ n ∧ n ≤ 12) → (1 ≤ most ∧ most ≤ 200) → σ 11 4 = 0 → Q (some (.inl (-3))) σ := fun h1 h2 h3 => by rw [if_pos ⟨h1, h2⟩, if_pos h3] at hQ; exact hQ
    clear hQ
    (try simp only [rI_iff, rL_iff] at *)
    repeat' (with_reducible (first | assumption | apply And.intro | intro _))
    all_goals first | omega | with_reducible assumption | exact True.intro | skip
    all_goals first
      | exact q2 (by omega)
      | exact q3 (by omega) (by omega) (by omega)
      | exact hB2 (by omega) (by omega)
      | exact hI2
      | exact (hB2 (by omega) (by omega) _ (by assumption)).1
      | exact (hB2 (by omega) (by omega) _ (by assumption)).2
      | exact (hI2 _ (by assumption)).1
      | exact (hI2 _ (by assumption)).2
      | exact q1 (by omega) (by omega) (by omega) _ _ (by assumption) (by assumption) (by assumption) (by assumption)
      | skip
theorem ne_of {k j : Nat} {L : List Nat} (hk : k ∈ L) (h : j ∉ L) : k ≠ j := fun q => h (q ▸ hk)
theorem IvB.fr {σ τ : St} (h : IvB σ) (e : ∀ k ∈ [1, 2, 3, 38, 39], τ k = σ k) (e7 : ∀ j ∈ [0, 1, 2, 5], τ 37 j = σ 37 j) : IvB τ := by
  unfold IvB
  rw [e 1 (by decide), e 2 (by decide), e 3 (by decide), e 38 (by decide), e 39 (by decide), e7 0 (by decide), e7 1 (by decide), e7 2 (by decide), e7 5 (by decide)]
  exact h
theorem IvN.fr {σ τ : St} (h : IvN σ) (e : ∀ k ∈ [0, 4, 10], τ k = σ k) (e7 : ∀ j ∈ [26], τ 37 j = σ 37 j) : IvN τ := by
  unfold IvN TabOK
  rw [e 0 (by decide), e 4 (by decide), e 10 (by decide), e7 26 (by decide)]
  exact h
theorem IvM.fr {σ τ : St} (h : IvM σ) (e : ∀ k ∈ [45, 46, 47, 48, 49], τ k = σ k) : IvM τ := by
  unfold IvM
  rw [e 45 (by decide), e 46 (by decide), e 47 (by decide), e 48 (by decide), e 49 (by decide)]
  exact h
theorem IvW.fr {σ τ : St} (h : IvW σ) (e : ∀ k ∈ [11, 12, 13, 14, 15, 50, 51, 52, 53, 54], τ k = σ k) (e7 : ∀ j ∈ [17], τ 37 j = σ 37 j) : IvW τ := by
  unfold IvW gM
  rw [e 11 (by decide), e 12 (by decide), e 13 (by decide), e 14 (by decide), e 15 (by decide), e 50 (by decide), e 51 (by decide), e 52 (by decide), e 53 (by decide), e 54 (by decide), e7 17 (by decide)]
  exact h
theorem IvA.fr {σ τ : St} (h : IvA σ) (e : ∀ k ∈ [12, 17], τ k = σ k) (e7 : ∀ j ∈ [17], τ 37 j = σ 37 j) : IvA τ := by
  unfold IvA
  rw [e 12 (by decide), e 17 (by decide), e7 17 (by decide)]
  exact h
theorem IvS.fr {σ τ : St} (h : IvS σ) (e : ∀ k ∈ [12, 20, 21, 22], τ k = σ k) (e7 : ∀ j ∈ [17, 27], τ 37 j = σ 37 j) : IvS τ := by
  unfold IvS MissOK
  rw [e 12 (by decide), e 20 (by decide), e 21 (by decide), e 22 (by decide), e7 17 (by decide), e7 27 (by decide)]
  exact h
theorem IvG.fr {σ τ : St} (h : IvG σ) (e : ∀ k ∈ [24, 57], τ k = σ k) (e7 : ∀ j ∈ [17], τ 37 j = σ 37 j) : IvG τ := by
  unfold IvG
  rw [e 24 (by decide), e 57 (by decide), e7 17 (by decide)]
  exact h
theorem IvC.fr {σ τ : St} (h : IvC σ) (e : ∀ k ∈ [12, 25, 27, 28, 29, 30, 52, 53, 54, 62], τ k = σ k) (e7 : ∀ j ∈ [17, 32, 33, 34], τ 37 j = σ 37 j) : IvC τ := by
  unfold IvC CodeT
  rw [e 12 (by decide), e 25 (by decide), e 27 (by decide), e 28 (by decide), e 29 (by decide), e 30 (by decide), e 52 (by decide), e 53 (by decide), e 54 (by decide), e 62 (by decide), e7 17 (by decide), e7 32 (by decide), e7 33 (by decide), e7 34 (by decide)]
  exact h
theorem IvT.fr {σ τ : St} (h : IvT σ) (e : ∀ k ∈ [31, 32, 33, 34, 35, 36, 63, 64], τ k = σ k) (e7 : ∀ j ∈ [36, 38], τ 37 j = σ 37 j) : IvT τ := by
  unfold IvT
  rw [e 31 (by decide), e 32 (by decide), e 33 (by decide), e 34 (by decide), e 35 (by decide), e 36 (by decide), e 63 (by decide), e 64 (by decide), e7 36 (by decide), e7 38 (by decide)]
  exact h
theorem sum_tail {w : Nat → Int} {a b : Nat} (hab : a ≤ b) (h : ∀ j, a ≤ j → j < b → w j = 0) : sumF w b = sumF w a := by
  obtain ⟨k, rfl⟩ := Nat.le.dest hab
  induction k with
  | zero => rfl
  | succ k ih =>
    show sumF w (a + k) + w (a + k) = _
    rw [ih (by omega) (fun j h1 h2 => h j h1 (by omega)), h (a + k) (by omega) (by omega)]
    omega
theorem o_mark {σ : St} (hI : Inv σ) {a : Int} (ha : rI a) : OpI σ (s_X_mark [.inr (.inr (some 0)), .inl a] σ) (fun u => s_M_mark [.inr (.inr (some 37)), .inl a] u) := by
  intro K hK
  have hI0 := hI
  obtain ⟨hB, hN, hM, hW, hA, hS, hG, hC, hT⟩ := hI
  obtain ⟨w1, w2, w3, w4, w5, w6, w7, w8, w9⟩ := id hW
  rw [e_X_mark, w1]
  refine ⟨w2, w4, hS.1, ha, ?_⟩
  by_cases c : 1 ≤ a ∧ a ≤ 12
  · rw [if_pos c]
    by_cases d : σ 37 17 = 0
    · rw [if_pos d]
      refine hK _ _ (rIc (by omega)) (smR σ) (fun K2 hK2 => ?_)
      show s_M_mark _ _ _
      rw [e_M_mark]
      exact ⟨w2, wire_eq w3 w4, ha, ifp c (ifp d (hK2 _ (smR σ) hI0))⟩
    · rw [if_neg d]
      intro u r hp
      obtain ⟨f1, f2, f3⟩ := hp
      have fr : ∀ {L : List Nat}, 20 ∉ L → 21 ∉ L → 22 ∉ L → ∀ k ∈ L, u k = σ k := fun {L} a1 a2 a3 k hk => f1 k (ne_of hk a1) (ne_of hk a2) (ne_of hk a3)
      have e37 := f1 37 (by decide) (by decide) (by decide)
      have e7 : ∀ {L : List Nat}, ∀ j ∈ L, u 37 j = σ 37 j := fun j _ => by rw [e37]
      have hWu := hW.fr (τ := u) (fr (by decide) (by decide) (by decide)) e7
      have e12 := f1 12 (by decide) (by decide) (by decide)
      have hm : ∀ K2 : Option AV → St → Prop, ((∀ n w, FirstMiss (σ 37 17) (σ 12) n w → n ≤ a → K2 (some (.inl n)) (updR u 37 (up1 (u 37) 27 w))) ∧ ((∀ n w, FirstMiss (σ 37 17) (σ 12) n w → a < n) → K2 (some (.inl (-1))) u)) → s_M_mark [.inr (.inr (some 37)), .inl a] u K2 := fun K2 h => by
        rw [e_M_mark]
        refine ⟨hWu.2.1, wire_eq hWu.2.2.1 hWu.2.2.2.1, ha, ifp c (ifn (by rw [e37]; exact d) ?_)⟩
        rw [← fm_eq hWu.2.2.1, e37, e12]
        rw [e37] at h
        exact h
      have inv : ∀ w, (MissOK (σ 37 17) (σ 12) u) → u 20 5 = w → rI w → Inv (updR u 37 (up1 (u 37) 27 w)) := fun w h1 h2 h3 => by
        have q7 : ∀ {L : List Nat}, 27 ∉ L → ∀ j ∈ L, updR u 37 (up1 (u 37) 27 w) 37 j = σ 37 j := fun {L} a1 j hj => by rw [updR_eq, up1_ne _ _ _ _ (ne_of hj a1), e37]
        have qr : ∀ {L : List Nat}, 20 ∉ L → 21 ∉ L → 22 ∉ L → 37 ∉ L → ∀ k ∈ L, updR u 37 (up1 (u 37) 27 w) k = σ k := fun {L} a1 a2 a3 a4 k hk => by rw [updR_ne _ _ _ _ (ne_of hk a4)]; exact fr a1 a2 a3 k hk
        refine ⟨hB.fr (qr (by decide) (by decide) (by decide) (by decide)) (q7 (by decide)), hN.fr (qr (by decide) (by decide) (by decide) (by decide)) (q7 (by decide)), hM.fr (qr (by decide) (by decide) (by decide) (by decide)), hW.fr (qr (by decide) (by decide) (by decide) (by decide)) (q7 (by decide)), hA.fr (qr (by decide) (by decide) (by decide) (by decide)) (q7 (by decide)), ⟨?_, ?_, ?_⟩, hG.fr (qr (by decide) (by decide) (by decide) (by decide)) (q7 (by decide)), hC.fr (qr (by decide) (by decide) (by decide) (by decide)) (q7 (by decide)), hT.fr (qr (by decide) (by decide) (by decide) (by decide)) (q7 (by decide))⟩
        · rw [q7 (L := [17]) (by decide) 17 (by decide), qr (L := [12]) (by decide) (by decide) (by decide) (by decide) 12 (by decide)]
          exact h1
        · rw [updR_eq, up1_eq]; exact h2
        · rw [updR_eq, up1_eq]; exact h3
      have hSm : Sm σ u := ⟨f1 1000 (by decide) (by decide) (by decide), f1 1001 (by decide) (by decide) (by decide)⟩
      rcases f3 with ⟨w, g1, g2, g3⟩ | ⟨g1, g2, g3⟩
      · have g0 := g1
        obtain ⟨b1, b2, b3, -⟩ := g0
        have b4 := p2_le (show r.toNat ≤ 12 by omega)
        have b5 : (2 : Int) ^ 12 = 4096 := by decide
        refine hK _ _ (rIc (by omega)) hSm (fun K2 hK2 => hm K2 ⟨fun n w' h1 h2 => ?_, fun h => ?_⟩)
        · obtain ⟨rfl, rfl⟩ := fm_det h1 g1
          exact hK2 _ hSm (inv _ f2 g3 (rIc (by omega)))
        · have := h r w g1
          omega
      · subst g1
        refine hK _ _ (rIc (by omega)) hSm (fun K2 hK2 => hm K2 ⟨fun n w' h1 h2 => ?_, fun _ => ?_⟩)
        · have := g3 n w' h1
          omega
        · have h1 : updR u 37 (up1 (u 37) 27 (σ 20 5)) = u := by
            rw [hS.2.1]
            funext k j
            rw [updR_app]
            split
            · next q =>
              rw [up1_app, q]
              split
              · next q2 => rw [q2, e37]
              · rfl
            · rfl
          have h2 := inv (σ 20 5) f2 g2 (by rw [hS.2.1]; exact hS.2.2)
          rw [h1] at h2
          exact hK2 _ hSm h2
  · rw [if_neg c]
    refine hK _ _ (rIc (by omega)) (smR σ) (fun K2 hK2 => ?_)
    show s_M_mark _ _ _
    rw [e_M_mark]
    exact ⟨w2, wire_eq w3 w4, ha, ifn c (hK2 _ (smR σ) hI0)⟩
theorem o_judge {σ : St} (hI : Inv σ) {m : Int} (hm : rI m) {n : Int} (hn : rI n) : OpI σ (s_X_judge [.inr (.inr (some 0)), .inl m, .inl n] σ) (fun u => s_M_judge [.inr (.inr (some 37)), .inl m, .inl n] u) := by
  intro K hK
  have hI0 := hI
  obtain ⟨hB, hN, hM, hW, hA, hS, hG, hC, hT⟩ := hI
  obtain ⟨w1, w2, w3, w4, w5, w6, w7, w8, w9⟩ := id hW
  obtain ⟨g1, g2, g3⟩ := id hG
  have h57 : AllB (σ 57) (σ 37 17) 1000000 := fun s hs => by rw [← g1 s hs]; exact g2 s (by omega)
  have hsum : sumF (σ 24) 100 = sumF (σ 57) (σ 37 17).toNat := by
    rw [sum_tail (a := (σ 37 17).toNat) (by omega) (fun j h1 _ => g3 j (by omega))]
    exact sumF_congr (fun s hs => g1 s (by omega))
  rw [e_X_judge, w1]
  refine ⟨w2, w4, g2, g3, hm, hn, ?_⟩
  rw [hsum]
  have hfn : findF (fun s : Nat => decide (ladI (σ 37 17) (σ 12) (σ 24) n.toNat s < σ 24 s * 2 ^ m.toNat)) (σ 37 17).toNat = findF (fun s : Nat => decide (ladI (σ 37 17) (gM σ) (σ 57) n.toNat s < σ 57 s * 2 ^ m.toNat)) (σ 37 17).toNat := by
    refine fnd_eq _ (fun j hj => ?_)
    rw [lad_eq w3 g1, g1 j (by omega)]
  rw [hfn]
  have hm2 : ∀ u K2, (0 ≤ u 37 17 ∧ u 37 17 ≤ 100) → Wire (u 37 17) (gM u) → AllB (u 57) (u 37 17) 1000000 → (if 0 ≤ m ∧ m ≤ 12 ∧ 1 ≤ n ∧ n ≤ 12 then (if u 37 17 = 0 then K2 (some (.inl (-3))) u else (sumF (u 57) (u 37 17).toNat = 0 → K2 (some (.inl 0)) u) ∧ (sumF (u 57) (u 37 17).toNat ≠ 0 → ∀ g h, K2 (some (.inl (findF (fun s : Nat => decide (ladI (u 37 17) (gM u) (u 57) n.toNat s < u 57 s * 2 ^ m.toNat)) (u 37 17).toNat))) (updR (updR u 59 g) 60 h))) else K2 (some (.inl (-2))) u) → s_M_judge [.inr (.inr (some 37)), .inl m, .inl n] u K2 := fun u K2 a1 a2 a3 h => by
    rw [e_M_judge]
    exact ⟨a1, a2, a3, hm, hn, h⟩
  by_cases c : 0 ≤ m ∧ m ≤ 12 ∧ 1 ≤ n ∧ n ≤ 12
  · rw [if_pos c]
    by_cases d : σ 37 17 = 0
    · rw [if_pos d]
      exact hK _ _ (rIc (by omega)) (smR σ) (fun K2 hK2 => hm2 _ _ w2 (wire_eq w3 w4) h57 (ifp c (ifp d (hK2 _ (smR σ) hI0))))
    · rw [if_neg d]
      refine ⟨fun h0 => ?_, fun h0 g => ?_⟩
      · exact hK _ _ (rIc (by omega)) (smR σ) (fun K2 hK2 => hm2 _ _ w2 (wire_eq w3 w4) h57 (ifp c (ifn d ⟨fun _ => hK2 _ (smR σ) hI0, fun q => absurd h0 q⟩)))
      · refine hK _ _ ?_ (smR σ) (fun K2 hK2 => hm2 _ _ w2 (wire_eq w3 w4) h57 (ifp c (ifn d ⟨fun q => absurd q h0, fun _ g2 h2 => hK2 _ (smR σ) ⟨hB, hN, hM, hW, hA, hS, hG, hC, hT⟩⟩)))
        have h := findF_spec (fun s : Nat => decide (ladI (σ 37 17) (gM σ) (σ 57) n.toNat s < σ 57 s * 2 ^ m.toNat)) (σ 37 17).toNat
        rcases h with ⟨h1, -⟩ | ⟨k, h1, h2, -⟩
        · rw [h1]; exact rIc (by omega)
        · rw [h2]; exact rIc (by omega)
  · rw [if_neg c]
    exact hK _ _ (rIc (by omega)) (smR σ) (fun K2 hK2 => hm2 _ _ w2 (wire_eq w3 w4) h57 (ifn c (hK2 _ (smR σ) hI0)))
theorem o_best {σ : St} (hI : Inv σ) {m : Int} (hm : rI m) {n : Int} (hn : rI n) {a : Int} (ha : rI a) : OpI σ (s_X_bestA [.inr (.inr (some 0)), .inl m, .inl n, .inl a] σ) (fun u => s_M_best [.inr (.inr (some 37)), .inl m, .inl n, .inl a] u) := by
  intro K hK
  have hI0 := hI
  obtain ⟨hB, hN, hM, hW, hA, hS, hG, hC, hT⟩ := hI
  obtain ⟨w1, w2, w3, w4, w5, w6, w7, w8, w9⟩ := id hW
  obtain ⟨g1, g2, g3⟩ := id hG
  rw [e_X_bestA, w1]
  refine ⟨w2, w4, g2, hm, hn, ha, ?_⟩
  have hm2 : ∀ u K2, (0 ≤ u 37 17 ∧ u 37 17 ≤ 100) → Wire (u 37 17) (gM u) → (if (0 ≤ m ∧ m ≤ 12 ∧ 1 ≤ n ∧ n ≤ 12) ∧ 1 ≤ a ∧ a ≤ 200 then (if u 37 17 = 0 then K2 (some (.inl (-3))) u else ∀ τ r, BestM u τ m n a r → K2 (some (.inl r)) τ) else K2 (some (.inl (-2))) u) → s_M_best [.inr (.inr (some 37)), .inl m, .inl n, .inl a] u K2 := fun u K2 a1 a2 h => by
    rw [e_M_best]
    exact ⟨a1, a2, hm, hn, ha, h⟩
  by_cases c : (0 ≤ m ∧ m ≤ 12 ∧ 1 ≤ n ∧ n ≤ 12) ∧ 1 ≤ a ∧ a ≤ 200
  · rw [if_pos c]
    by_cases d : σ 37 17 = 0
    · rw [if_pos d]
      exact hK _ _ (rIc (by omega)) (smR σ) (fun K2 hK2 => hm2 _ _ w2 (wire_eq w3 w4) (ifp c (ifp d (hK2 _ (smR σ) hI0))))
    · rw [if_neg d]
      rintro u r ⟨g, V, hu, v1, v2, v3, v4, hr0⟩
      subst hu
      rw [w1] at v1 v2 v3 v4
      have hV : ∀ s : Nat, 0 ≤ V s ∧ V s ≤ 200 := fun s => by
        by_cases e : (s : Int) < σ 37 17
        · have h1 := v2 s e
          have h2 := v3 s e
          omega
        · rw [v1 s e, g3 s e]; omega
      have hsum : sumF V 100 = sumF V (σ 37 17).toNat := sum_tail (by omega) (fun j h1 _ => by rw [v1 j (by omega), g3 j (by omega)])
      have hr := sumF_bound (w := V) (B := 200) (n := 100) (fun s _ => hV s)
      rw [← hr0] at hr hsum
      refine hK _ _ (rIc (by omega)) (smR σ) (fun K2 hK2 => hm2 _ _ w2 (wire_eq w3 w4) (ifp c (ifn d ?_)))
      rintro τ r2 ⟨f1, f2, f3, f4, f5⟩
      have f2 : Feas (σ 37 17) (gM σ) m n (τ 57) := f2
      have f3 : ∀ s : Nat, (s : Int) < σ 37 17 → τ 57 s ≤ a := f3
      have f4 : ∀ V, Feas (σ 37 17) (gM σ) m n V → (∀ s : Nat, (s : Int) < σ 37 17 → V s ≤ a) → ∀ s : Nat, (s : Int) < σ 37 17 → V s ≤ τ 57 s := f4
      have f5 : r2 = sumF (τ 57) (σ 37 17).toNat := f5
      have heq : EqN (σ 37 17) V (τ 57) := fun s hs => by
        have h1 := f4 V ((feas_eq w3 (EqN.refl V)).mp v2) v3 s hs
        have h2 := v4 (τ 57) ((feas_eq w3 (EqN.refl (τ 57))).mpr f2) f3 s hs
        omega
      have e2 : r = r2 := by
        rw [hsum, f5]
        exact sumF_congr (fun s hs => heq s (by omega))
      rw [e2] at hK2
      have fr : ∀ {L : List Nat}, 57 ∉ L → 59 ∉ L → 60 ∉ L → 61 ∉ L → 19 ∉ L → 24 ∉ L → ∀ k ∈ L, τ k = σ k := fun {L} a1 a2 a3 a4 a5 a6 k hk => by
        rw [f1 k (ne_of hk a1) (ne_of hk a2) (ne_of hk a3) (ne_of hk a4), updR_ne _ _ _ _ (ne_of hk a6), updR_ne _ _ _ _ (ne_of hk a5)]
      have e37 := fr (L := [37]) (by decide) (by decide) (by decide) (by decide) (by decide) (by decide) 37 (by decide)
      have e7 : ∀ {L : List Nat}, ∀ j ∈ L, τ 37 j = σ 37 j := fun j _ => by rw [e37]
      refine hK2 _ ⟨fr (L := [1000]) (by decide) (by decide) (by decide) (by decide) (by decide) (by decide) 1000 (by decide), fr (L := [1001]) (by decide) (by decide) (by decide) (by decide) (by decide) (by decide) 1001 (by decide)⟩ ⟨hB.fr (fr (by decide) (by decide) (by decide) (by decide) (by decide) (by decide)) e7, hN.fr (fr (by decide) (by decide) (by decide) (by decide) (by decide) (by decide)) e7, hM.fr (fr (by decide) (by decide) (by decide) (by decide) (by decide) (by decide)), hW.fr (fr (by decide) (by decide) (by decide) (by decide) (by decide) (by decide)) e7, hA.fr (fr (by decide) (by decide) (by decide) (by decide) (by decide) (by decide)) e7, hS.fr (fr (by decide) (by decide) (by decide) (by decide) (by decide) (by decide)) e7, ?_, hC.fr (fr (by decide) (by decide) (by decide) (by decide) (by decide) (by decide)) e7, hT.fr (fr (by decide) (by decide) (by decide) (by decide) (by decide) (by decide)) e7⟩
      have e24 : τ 24 = V := by rw [f1 24 (by decide) (by decide) (by decide) (by decide), updR_eq]
      unfold IvG
      rw [e24, e37]
      exact ⟨heq, fun s hs => by have := hV s; omega, fun s hs => by rw [v1 s hs]; exact g3 s hs⟩
  · rw [if_neg c]
    exact hK _ _ (rIc (by omega)) (smR σ) (fun K2 hK2 => hm2 _ _ w2 (wire_eq w3 w4) (ifn c (hK2 _ (smR σ) hI0)))
