/-! the wire out of the groups, and its first rows -/
def QuoI (cnt : Int) (nx g F : Nat → Int) (n : Nat) : Prop := ∀ i : Nat, i < n → (i : Int) < cnt → g i ≠ -1 → g i = mxF g i → ∀ b : Nat, b ≤ 1 → F (2 * (g i).toNat + b) = gaF nx g i b
theorem quoI_skip {cnt : Int} {nx g F : Nat → Int} {i : Nat} (h : QuoI cnt nx g F i) (h1 : ¬ g i = mxF g i) : QuoI cnt nx g F (i + 1) := fun j hj hc hg he b hb => by
  by_cases e : j = i
  · subst e
    exact absurd he h1
  · exact h j (by omega) hc hg he b hb
theorem quoI_set {cnt s : Int} {nx g F : Nat → Int} {i : Nat} (h : QuoI cnt nx g F i) (h1 : g i = mxF g i) (hn : ∀ j : Nat, j < i → g j ≤ mxF g j) (hs : g i = s) : QuoI cnt nx g (up1 (up1 F (2 * s.toNat) (gaF nx g i 0)) (2 * s.toNat + 1) (gaF nx g i 1)) (i + 1) := fun j hj hc hg he b hb => by
  subst hs
  have h0 := mx_0 g i
  by_cases e : j = i
  · subst e
    rcases (show b = 0 ∨ b = 1 by omega) with rfl | rfl
    · rw [up1_ne _ _ _ _ (by omega)]
      exact up1_eq _ _ _
    · exact up1_eq _ _ _
  · have h2 := lt_mx (show j < i by omega) (hn j (by omega))
    have h3 := mx_0 g j
    rw [up1_ne _ _ _ _ (by omega), up1_ne _ _ _ _ (by omega)]
    exact h j (by omega) hc hg he b hb
def NumS (cnt : Int) (g : Nat → Int) : Prop := (∀ i : Nat, (i : Int) < cnt → -1 ≤ g i ∧ g i ≤ mxF g i) ∧ mxF g cnt.toNat ≤ 100
def s_K_fill : Spec := fun as σ Q => popR as fun c0 r0 => popR r0 fun c1 r1 => r1 = [] ∧ c0 = 4 ∧ c1 = 12 ∧ (0 ≤ σ 4 7 ∧ σ 4 7 ≤ 2816) ∧ (Wire (σ 4 7) (σ 7)) ∧ (NumS (σ 4 7) (σ 8)) ∧ ∀ F, QuoW (σ 4 7) (σ 7) (σ 8) F → Q none (updR σ 12 F)
theorem e_K_fill  (σ : St) (Q : Option AV → St → Prop) : s_K_fill [.inr (.inr (some 4)), .inr (.inr (some 12))] σ Q = ((0 ≤ σ 4 7 ∧ σ 4 7 ≤ 2816) ∧ (Wire (σ 4 7) (σ 7)) ∧ (NumS (σ 4 7) (σ 8)) ∧ ∀ F, QuoW (σ 4 7) (σ 7) (σ 8) F → Q none (updR σ 12 F)) := by
  show ([] = [] ∧ _) = _
  simp only [true_and]
set_option maxHeartbeats 4000000 in
set_option maxRecDepth 20000 in
theorem S_K_fill {l : Launch} : Sat l y_K_fill b_K_fill 4 none 1 s_K_fill := by
  refine sat_of (Φ := P_K) (κ := Q_K) (Γ := [(77, 5, 2, s_K_groupAfter)]) (rt := 0) (by decide +kernel) P_K_ok Q_K_ok (by
    refine List.forall_mem_cons.mpr ⟨?_, fun _ h => absurd h List.not_mem_nil⟩
    · exact m_K_groupAfter S_K_groupAfter (by decide) l_K_77) (by simp) o_K_fill ?_
  intro as σ Q hh0
  obtain ⟨c0, rr0, rfl, hh1⟩ := popR_inv hh0
  obtain ⟨c1, rr1, rfl, hh2⟩ := popR_inv hh1
  obtain ⟨hrE, rfl, rfl, hf, hw, hn, hQ⟩ := hh2
  subst hrE
  clear hh0 hh1
  refine ⟨Nat.le_of_ble_eq_true rfl, [(4, mkC (fun L st u => ∃ (i : Int) (F : Nat → Int), L = [.inr (.inr (some 4)), .inr (.inr (some 12)), .inl ((mxF (σ 8) i.toNat)), .inl i] ∧ st = [] ∧ (0 ≤ i ∧ i ≤ σ 4 7) ∧ (QuoI (σ 4 7) (σ 7) (σ 8) F i.toNat) ∧ (u = updR σ 12 F)) (fun L st u => ((2817 - gI L 3).toNat, 0, 0)))], 14, ?_, cuts1 ?_ (cuts0)⟩
  · rw [show entL 4 [.inr (.inr (some 4)), .inr (.inr (some 12))] = [.inr (.inr (some 4)), .inr (.inr (some 12)), .inr (.inr none), .inr (.inr none)] from rfl]
    simp only [↓wpN_go, jmp_e, ↓wp_aload_n0, ↓wp_aload_n1, ↓wp_arraylength, ↓wp_getfield, ↓wp_goto, ↓wp_iadd, ↓wp_iaload, ↓wp_iastore, ↓wp_icmp_ge, ↓wp_icmp_ne, ↓wp_iconst, ↓wp_iinc, ↓wp_iload_n2, ↓wp_iload_n3, ↓wp_imul, ↓wp_invokevirtual, ↓wp_istore_n2, ↓wp_istore_n3, ↓wp_return0, wp_nil, ↓ldI_0, ↓ldI_s, ↓ldL_0, ↓ldL_s, ↓ldR_0, ↓ldR_s, sto1_0, sto1_1, sto1_s, sto2_0, sto2_1, sto2_s, isLong_i, isLong_l, isLong_r, ↓popI_c, ↓popL_c, ↓popR_c, ↓popN_0, ↓popN_s, catS_n, catS_c, psh_s, psh_n, fldV_n, fldV_s, ↓tgt_e, sw_n, ↓sw_c, ↓lk1_h, ↓lk1_m, ↓atC_h, ↓atC_m, ↓atC_n, ltO_n, ltO_s, updR_eq, updR_ne, gI_0i, gI_0l, gI_s, ltM_iff, List.cons.injEq, Sum.inl.injEq, Sum.inr.injEq, Option.some.injEq, exists_eq_left, exists_eq_left', exists_eq_right, exists_eq_right', exists_and_left, exists_and_right, exists_eq, exists_const, and_assoc, ↓j_K_fill_0, ↓j_K_fill_4, ↓j_K_fill_59, ↓j_K_fill_65, ↓f_K_23, ↓f_K_36, List.length_cons, List.length_nil, Nat.zero_add, Nat.reduceAdd, Int.reduceAdd, Int.reduceNeg, Int.reduceToNat, Int.reduceLE, Int.reduceLT, true_and, and_true, Nat.reduceLT, reduceIte, Nat.reduceEqDiff, ne_eq, not_false_eq_true, false_implies, true_implies, Bool.false_eq_true, reduceCtorEq, List.cons_append, List.nil_append, Nat.reduceSub, Nat.reduceLeDiff, Fin.isValue, Int.reduceNatCast', Int.zero_add, Int.add_zero, decide_true, decide_false, implies_true, forall_const, true_or, or_true, or_false, false_or, false_and, and_false, Int.toNat_natCast, ↓oF_4_0, ↓aF_5, ↓oF_4_1, ↓aF_6, ↓oF_4_2, ↓aF_7, ↓oF_4_3, ↓aF_8, ↓oF_4_4, ↓aF_9, ↓oF_4_5, ↓aF_10, ↓oF_4_6, ↓oF_4_7, ↓oF_4_8, oC_0, oC_1, oC_4, oC_11, oC_16, oC_18, oC_20, oC_23, oC_25, oC_26, oC_29, oC_31, oC_33, oC_35, oC_37, isT_29, isT_31, isT_33, isT_35, isL_16, isL_18, isL_26, ↓aF_12, aN_of (show SH[12]? = some (.inr (0, 200)) from rfl) (Or.inl rfl), ↓e_K_groupAfter]
    have h0 : QuoI (σ 4 7) (σ 7) (σ 8) (σ 12) (0 : Int).toNat := fun j hj => absurd hj (Nat.not_lt_zero _)
    have h1 : (0 : Int) = mxF (σ 8) (0 : Int).toNat := rfl
    (try simp only [rI_iff, rL_iff] at *)
    repeat' (with_reducible (first | assumption | apply And.intro | intro _))
    all_goals first | omega | with_reducible assumption | exact True.intro | skip
    all_goals exact ⟨0, h1, rfl, by omega, by omega, σ 12, h0, (updR_self σ 12).symm⟩
  · intro L st u hI
    obtain ⟨i, F, rfl, rfl, hi, hF, hu⟩ := hI
    simp only [↓wpN_go, jmp_e, ↓wp_aload_n0, ↓wp_aload_n1, ↓wp_arraylength, ↓wp_getfield, ↓wp_goto, ↓wp_iadd, ↓wp_iaload, ↓wp_iastore, ↓wp_icmp_ge, ↓wp_icmp_ne, ↓wp_iconst, ↓wp_iinc, ↓wp_iload_n2, ↓wp_iload_n3, ↓wp_imul, ↓wp_invokevirtual, ↓wp_istore_n2, ↓wp_istore_n3, ↓wp_return0, wp_nil, ↓ldI_0, ↓ldI_s, ↓ldL_0, ↓ldL_s, ↓ldR_0, ↓ldR_s, sto1_0, sto1_1, sto1_s, sto2_0, sto2_1, sto2_s, isLong_i, isLong_l, isLong_r, ↓popI_c, ↓popL_c, ↓popR_c, ↓popN_0, ↓popN_s, catS_n, catS_c, psh_s, psh_n, fldV_n, fldV_s, ↓tgt_e, sw_n, ↓sw_c, ↓lk1_h, ↓lk1_m, ↓atC_h, ↓atC_m, ↓atC_n, ltO_n, ltO_s, updR_eq, updR_ne, gI_0i, gI_0l, gI_s, ltM_iff, List.cons.injEq, Sum.inl.injEq, Sum.inr.injEq, Option.some.injEq, exists_eq_left, exists_eq_left', exists_eq_right, exists_eq_right', exists_and_left, exists_and_right, exists_eq, exists_const, and_assoc, ↓j_K_fill_0, ↓j_K_fill_4, ↓j_K_fill_59, ↓j_K_fill_65, ↓f_K_23, ↓f_K_36, List.length_cons, List.length_nil, Nat.zero_add, Nat.reduceAdd, Int.reduceAdd, Int.reduceNeg, Int.reduceToNat, Int.reduceLE, Int.reduceLT, true_and, and_true, Nat.reduceLT, reduceIte, Nat.reduceEqDiff, ne_eq, not_false_eq_true, false_implies, true_implies, Bool.false_eq_true, reduceCtorEq, List.cons_append, List.nil_append, Nat.reduceSub, Nat.reduceLeDiff, Fin.isValue, Int.reduceNatCast', Int.zero_add, Int.add_zero, decide_true, decide_false, implies_true, forall_const, true_or, or_true, or_false, false_or, false_and, and_false, Int.toNat_natCast, ↓oF_4_0, ↓aF_5, ↓oF_4_1, ↓aF_6, ↓oF_4_2, ↓aF_7, ↓oF_4_3, ↓aF_8, ↓oF_4_4, ↓aF_9, ↓oF_4_5, ↓aF_10, ↓oF_4_6, ↓oF_4_7, ↓oF_4_8, oC_0, oC_1, oC_4, oC_11, oC_16, oC_18, oC_20, oC_23, oC_25, oC_26, oC_29, oC_31, oC_33, oC_35, oC_37, isT_29, isT_31, isT_33, isT_35, isL_16, isL_18, isL_26, ↓aF_12, aN_of (show SH[12]? = some (.inr (0, 200)) from rfl) (Or.inl rfl), ↓e_K_groupAfter]
    subst hu
    have e4 : updR σ 12 F 4 = σ 4 := updR_ne _ _ _ _ (by decide)
    have e7 : updR σ 12 F 7 = σ 7 := updR_ne _ _ _ _ (by decide)
    have e8 : updR σ 12 F 8 = σ 8 := updR_ne _ _ _ _ (by decide)
    have e12 : updR σ 12 F 12 = F := updR_eq _ _ _
    have e1 : (i + 1).toNat = i.toNat + 1 := by omega
    have hm0 := mx_0 (σ 8) i.toNat
    have hm1 := mx_mono (σ 8) (show i.toNat ≤ (σ 4 7).toNat by omega)
    have hm2 := hn.2
    have hmx : mxF (σ 8) (i.toNat + 1) = if mxF (σ 8) i.toNat ≤ σ 8 i.toNat then mxF (σ 8) i.toNat + 1 else mxF (σ 8) i.toNat := rfl
    have hgi := hn.1 i.toNat
    have q1 : σ 4 7 ≤ i → Q none (updR σ 12 F) := fun h => hQ F (fun j hj => hF j (by omega) hj)
    have q2 : i < σ 4 7 → ¬ σ 8 i.toNat = mxF (σ 8) i.toNat → QuoI (σ 4 7) (σ 7) (σ 8) F (i.toNat + 1) ∧ mxF (σ 8) i.toNat = mxF (σ 8) (i.toNat + 1) := fun h h1 => by
      refine ⟨quoI_skip hF h1, ?_⟩
      have := hgi (by omega)
      rw [hmx, if_neg (by omega)]
    have q3 : i < σ 4 7 → σ 8 i.toNat = mxF (σ 8) i.toNat → QuoI (σ 4 7) (σ 7) (σ 8) (up1 (up1 F (2 * mxF (σ 8) i.toNat).toNat (gaF (σ 7) (σ 8) i.toNat 0)) (2 * mxF (σ 8) i.toNat + 1).toNat (gaF (σ 7) (σ 8) i.toNat 1)) (i.toNat + 1) ∧ mxF (σ 8) i.toNat + 1 = mxF (σ 8) (i.toNat + 1) ∧ mxF (σ 8) i.toNat ≤ 99 := fun h h1 => by
      have h2 : mxF (σ 8) (i.toNat + 1) = mxF (σ 8) i.toNat + 1 := by rw [hmx, if_pos (by omega)]
      have h3 := mx_mono (σ 8) (show i.toNat + 1 ≤ (σ 4 7).toNat by omega)
      rw [show (2 * mxF (σ 8) i.toNat).toNat = 2 * (mxF (σ 8) i.toNat).toNat by omega, show (2 * mxF (σ 8) i.toNat + 1).toNat = 2 * (mxF (σ 8) i.toNat).toNat + 1 by omega]
      exact ⟨quoI_set hF h1 (fun j hj => (hn.1 j (by omega)).2) h1, h2.symm, by omega⟩
    clear hQ
    simp only [e4, e7, e8, e12, updR_twice, show (0 : Int).toNat = 0 from rfl, show (1 : Int).toNat = 1 from rfl]
    (try simp only [rI_iff, rL_iff] at *)
    repeat' (with_reducible (first | assumption | apply And.intro | intro _))
    all_goals first | omega | with_reducible assumption | exact True.intro | skip
    all_goals first
      | exact q1 (by assumption)
      | (have hs1 := (q3 (by assumption) (by assumption)).2.2; omega)
      | exact ⟨i + 1, by rw [e1]; exact (q2 (by assumption) (by assumption)).2, rfl, by omega, by omega, F, by rw [e1]; exact (q2 (by assumption) (by assumption)).1, rfl⟩
      | exact ⟨i + 1, by rw [e1]; exact (q3 (by assumption) (by assumption)).2.1, rfl, by omega, by omega, _, by rw [e1]; exact (q3 (by assumption) (by assumption)).1, rfl⟩
      | (have hs1 := hgi (by omega); omega)
def FirstP (N : Int) (f par bit dep : Nat → Int) : Prop := dep 0 = 0 ∧ ∀ p : Nat, 0 < p → (p : Int) < N → ∃ π : Nat, π < 2 * p ∧ f π = p ∧ (∀ π' : Nat, π' < π → f π' ≠ p) ∧ par p = ((π / 2 : Nat) : Int) ∧ bit p = ((π % 2 : Nat) : Int) ∧ dep p = dep (π / 2) + 1
def AdI (N : Int) (f par bit dep : Nat → Int) (m : Nat) : Prop := dep 0 = 0 ∧ ∀ p : Nat, 0 < p → (p : Int) < N → (par p = -1 ∧ ∀ π : Nat, π < m → f π ≠ p) ∨ (∃ π : Nat, π < m ∧ f π = p ∧ (∀ π' : Nat, π' < π → f π' ≠ p) ∧ par p = ((π / 2 : Nat) : Int) ∧ bit p = ((π % 2 : Nat) : Int) ∧ dep p = dep (π / 2) + 1)
theorem firstP_tree {N : Int} {f par bit dep : Nat → Int} (h : FirstP N f par bit dep) : Tree N par dep := by
  refine ⟨fun _ => h.1, fun t h0 ht => ?_⟩
  obtain ⟨π, h1, h2, h3, h4, h5, h6⟩ := h.2 t h0 ht
  rw [h4]
  refine ⟨by omega, by omega, ?_⟩
  rw [h6, Int.toNat_natCast]
theorem adI_skip {N : Int} {f par bit dep : Nat → Int} {m : Nat} (h : AdI N f par bit dep m) (h1 : ¬ (0 < f m ∧ par (f m).toNat = -1)) : AdI N f par bit dep (m + 1) := by
  refine ⟨h.1, fun p h0 hp => ?_⟩
  rcases h.2 p h0 hp with ⟨h2, h3⟩ | ⟨π, h2, h3, h4⟩
  · refine Or.inl ⟨h2, fun π hπ q => ?_⟩
    by_cases e : π = m
    · subst e
      refine h1 ⟨by omega, ?_⟩
      rw [q, Int.toNat_natCast]
      exact h2
    · exact h3 π (by omega) q
  · exact Or.inr ⟨π, by omega, h3, h4⟩
theorem adI_set {N : Int} {f par bit dep : Nat → Int} {m : Nat} (hm : (m : Int) < 2 * N) (hW : Wire N f) (hO : OrdW N f) (h : AdI N f par bit dep m) (h1 : 0 < f m) (h2 : par (f m).toNat = -1) : AdI N f (up1 par (f m).toNat ((m / 2 : Nat) : Int)) (up1 bit (f m).toNat ((m % 2 : Nat) : Int)) (up1 dep (f m).toNat (dep (m / 2) + 1)) (m + 1) := by
  have hw := hW m hm
  have hnew : ∀ π : Nat, π < m → f π ≠ (f m).toNat := by
    rcases h.2 (f m).toNat (by omega) (by omega) with h3 | ⟨π, _, _, _, h4, _⟩
    · exact h3.2
    · omega
  obtain ⟨π0, o1, o2, -⟩ := hO (f m).toNat (by omega) (by omega)
  have o3 : m ≤ π0 := by
    apply Classical.byContradiction
    intro c
    exact hnew π0 (by omega) o2
  refine ⟨by rw [up1_ne _ _ _ _ (by omega)]; exact h.1, fun p h0 hp => ?_⟩
  by_cases e : p = (f m).toNat
  · right
    refine ⟨m, by omega, by omega, fun π' hπ q => hnew π' hπ (by rw [q, e]), ?_, ?_, ?_⟩
    · rw [e, up1_eq]
    · rw [e, up1_eq]
    · rw [e, up1_eq, up1_ne _ _ _ _ (by omega)]
  · rw [up1_ne par _ _ _ e, up1_ne bit _ _ _ e, up1_ne dep _ _ _ e]
    rcases h.2 p h0 hp with ⟨h3, h4⟩ | ⟨π, h3, h4, h5, h6, h7, h8⟩
    · refine Or.inl ⟨h3, fun π hπ q => ?_⟩
      by_cases e2 : π = m
      · subst e2; omega
      · exact h4 π (by omega) q
    · refine Or.inr ⟨π, by omega, h4, h5, h6, h7, ?_⟩
      rw [up1_ne _ _ _ _ (by omega)]
      exact h8
theorem adI_end {N : Int} {f par bit dep : Nat → Int} {m : Nat} (hm : (m : Int) = 2 * N) (hO : OrdW N f) (h : AdI N f par bit dep m) : FirstP N f par bit dep := by
  refine ⟨h.1, fun p h0 hp => ?_⟩
  obtain ⟨π0, o1, o2, -⟩ := hO p h0 hp
  rcases h.2 p h0 hp with h3 | ⟨π, h3, h4, h5, h6⟩
  · exact absurd o2 (h3.2 π0 (by omega))
  · refine ⟨π, ?_, h4, h5, h6⟩
    apply Classical.byContradiction
    intro c
    exact h5 π0 (by omega) o2
theorem firstP_uniq {N : Int} {f g par bit dep par' bit' dep' : Nat → Int} (he : ∀ π : Nat, (π : Int) < 2 * N → f π = g π) (h : FirstP N f par bit dep) (h' : FirstP N g par' bit' dep') : ∀ p : Nat, (p : Int) < N → dep p = dep' p ∧ (0 < p → par p = par' p ∧ bit p = bit' p) := by
  intro p
  induction p using Nat.strongRecOn with
  | _ p ih =>
    intro hp
    by_cases e0 : p = 0
    · subst e0
      exact ⟨h.1.trans h'.1.symm, fun q => absurd q (Nat.lt_irrefl _)⟩
    · obtain ⟨π, h1, h2, h3, h4, h5, h6⟩ := h.2 p (by omega) hp
      obtain ⟨π', g1, g2, g3, g4, g5, g6⟩ := h'.2 p (by omega) hp
      have e : π = π' := by
        rcases Nat.lt_trichotomy π π' with c | c | c
        · exact absurd (by rw [← he π (by omega)]; exact h2) (g3 π c)
        · exact c
        · exact absurd (by rw [he π' (by omega)]; exact g2) (h3 π' c)
      subst e
      exact ⟨by rw [h6, g6, (ih (π / 2) (by omega) (by omega)).1], fun _ => ⟨by rw [h4, g4], by rw [h5, g5]⟩⟩
def TakeSt (σ τ : St) : Prop := (∀ k, k ≠ 11 → k ≠ 12 → k ≠ 13 → k ≠ 14 → k ≠ 15 → τ k = σ k) ∧ (∀ j, j ≠ 4 → τ 11 j = σ 11 j) ∧ τ 11 4 = σ 4 8 ∧ QuoW (σ 4 7) (σ 7) (σ 8) (τ 12) ∧ FirstP (σ 4 8) (τ 12) (τ 13) (τ 14) (τ 15) ∧ isBits (τ 14)
def TakeI (σ u : St) (F : Nat → Int) (m : Nat) : Prop := (∀ k, k ≠ 11 → k ≠ 12 → k ≠ 13 → k ≠ 14 → k ≠ 15 → u k = σ k) ∧ u 11 = up1 (σ 11) 4 (σ 4 8) ∧ u 12 = F ∧ AdI (σ 4 8) F (u 13) (u 14) (u 15) m ∧ isBits (u 14) ∧ ∀ j : Nat, j < 100 → -1 ≤ u 13 j ∧ u 13 j < 100
theorem step_in {N s b : Int} {f : Nat → Int} (hs : 0 ≤ s ∧ s < N) (hb : 0 ≤ b ∧ b ≤ 1) : stepZ N f s b = f (2 * s + b).toNat := by
  unfold stepZ
  rw [if_pos ⟨hs.1, hs.2, hb.1, hb.2⟩]
theorem take_step {σ u : St} {F : Nat → Int} {s b : Int} (hW : Wire (σ 4 8) F) (hO : OrdW (σ 4 8) F) (hs : 0 ≤ s ∧ s < σ 4 8) (hN : σ 4 8 ≤ 100) (hb : 0 ≤ b ∧ b ≤ 1) (h : TakeI σ u F (2 * s + b).toNat) : TakeI σ (if 0 < stepZ (σ 4 8) F s b ∧ u 13 (stepZ (σ 4 8) F s b).toNat = -1 then updR (updR (updR u 13 (up1 (u 13) (stepZ (σ 4 8) F s b).toNat s)) 14 (up1 (u 14) (stepZ (σ 4 8) F s b).toNat b)) 15 (up1 (u 15) (stepZ (σ 4 8) F s b).toNat (u 15 s.toNat + 1)) else u) F ((2 * s + b).toNat + 1) := by
  rw [step_in hs hb]
  have hm : (((2 * s + b).toNat : Nat) : Int) < 2 * σ 4 8 := by omega
  have e1 : (((2 * s + b).toNat / 2 : Nat) : Int) = s := by omega
  have e2 : (((2 * s + b).toNat % 2 : Nat) : Int) = b := by omega
  have e3 : (2 * s + b).toNat / 2 = s.toNat := by omega
  obtain ⟨h1, h2, h3, h4, h5, h6⟩ := h
  split
  · next hc =>
    have h7 := adI_set hm hW hO h4 hc.1 hc.2
    rw [e1, e2, e3] at h7
    refine ⟨fun k k11 k12 k13 k14 k15 => ?_, ?_, ?_, ?_, ?_, fun j hj => ?_⟩
    · rw [updR_ne _ _ _ _ k15, updR_ne _ _ _ _ k14, updR_ne _ _ _ _ k13]; exact h1 k k11 k12 k13 k14 k15
    · rw [updR_ne _ 15 11 _ (by decide), updR_ne _ 14 11 _ (by decide), updR_ne _ 13 11 _ (by decide)]; exact h2
    · rw [updR_ne _ 15 12 _ (by decide), updR_ne _ 14 12 _ (by decide), updR_ne _ 13 12 _ (by decide)]; exact h3
    · rw [updR_eq, updR_ne _ 15 14 _ (by decide), updR_eq, updR_ne _ 15 13 _ (by decide), updR_ne _ 14 13 _ (by decide), updR_eq]
      exact h7
    · rw [updR_ne _ 15 14 _ (by decide), updR_eq]
      intro j
      rw [up1_app]
      split
      · omega
      · exact h5 j
    · rw [updR_ne _ 15 13 _ (by decide), updR_ne _ 14 13 _ (by decide), updR_eq, up1_app]
      split
      · omega
      · exact h6 j hj
  · next hc => exact ⟨h1, h2, h3, adI_skip h4 hc, h5, h6⟩
theorem take_0 {σ : St} {F : Nat → Int} (hN : σ 4 8 ≤ 100) (hb : isBits (σ 14)) : TakeI σ (updR (updR (updR (updR σ 11 (up1 (σ 11) 4 (σ 4 8))) 12 F) 13 (fillF (σ 13) 0 100 (-1))) 15 (fillF (σ 15) 0 100 0)) F 0 := by
  have hl : ∀ j : Nat, j < 100 → fillF (σ 13) 0 100 (-1) j = -1 := fun j hj => by rw [fillF_app, if_pos (by omega)]
  refine ⟨fun k k11 k12 k13 k14 k15 => ?_, ?_, ?_, ?_, ?_, fun j hj => ?_⟩
  · rw [updR_ne _ _ _ _ k15, updR_ne _ _ _ _ k13, updR_ne _ _ _ _ k12, updR_ne _ _ _ _ k11]
  · rw [updR_ne _ 15 11 _ (by decide), updR_ne _ 13 11 _ (by decide), updR_ne _ 12 11 _ (by decide), updR_eq]
  · rw [updR_ne _ 15 12 _ (by decide), updR_ne _ 13 12 _ (by decide), updR_eq]
  · rw [updR_eq, updR_ne _ 15 13 _ (by decide), updR_eq, updR_ne _ 15 14 _ (by decide), updR_ne _ 13 14 _ (by decide), updR_ne _ 12 14 _ (by decide), updR_ne _ 11 14 _ (by decide)]
    refine ⟨by rw [fillF_app, if_pos (by omega)], fun p h0 hp => ?_⟩
    exact Or.inl ⟨hl p (by omega), fun π hπ => absurd hπ (Nat.not_lt_zero _)⟩
  · rw [updR_ne _ 15 14 _ (by decide), updR_ne _ 13 14 _ (by decide), updR_ne _ 12 14 _ (by decide), updR_ne _ 11 14 _ (by decide)]; exact hb
  · rw [updR_ne _ 15 13 _ (by decide), updR_eq, hl j hj]
    omega
theorem take_facts {σ u : St} {F : Nat → Int} {m : Nat} (h : TakeI σ u F m) : u 11 4 = σ 4 8 ∧ u 12 = F ∧ AllI (u 13) 100 := by
  obtain ⟨h1, h2, h3, h4, h5, h6⟩ := h
  refine ⟨by rw [h2, up1_eq], h3, fun j hj => ?_⟩
  have := h6 j hj
  unfold rI
  omega
theorem take_end {σ u : St} {F : Nat → Int} {s : Int} (hO : OrdW (σ 4 8) F) (hF : QuoW (σ 4 7) (σ 7) (σ 8) F) (h0 : 0 ≤ s) (hs : s = σ 4 8) (h : TakeI σ u F (2 * s).toNat) : TakeSt σ u := by
  obtain ⟨h1, h2, h3, h4, h5, h6⟩ := h
  refine ⟨h1, fun j hj => by rw [h2, up1_ne _ _ _ _ hj], by rw [h2, up1_eq], by rw [h3]; exact hF, ?_, h5⟩
  rw [h3]
  exact adI_end (by omega) hO h4
def s_W_take : Spec := fun as σ Q => popR as fun c0 r0 => popR r0 fun c1 r1 => r1 = [] ∧ c0 = 11 ∧ c1 = 4 ∧ (0 ≤ σ 4 7 ∧ σ 4 7 ≤ 2816) ∧ (Wire (σ 4 7) (σ 7)) ∧ (NumS (σ 4 7) (σ 8)) ∧ (0 ≤ σ 4 8 ∧ σ 4 8 ≤ 100) ∧ (∀ F, QuoW (σ 4 7) (σ 7) (σ 8) F → Wire (σ 4 8) F ∧ OrdW (σ 4 8) F) ∧ (isBits (σ 14)) ∧ ∀ τ, TakeSt σ τ → Q none τ
theorem e_W_take  (σ : St) (Q : Option AV → St → Prop) : s_W_take [.inr (.inr (some 11)), .inr (.inr (some 4))] σ Q = ((0 ≤ σ 4 7 ∧ σ 4 7 ≤ 2816) ∧ (Wire (σ 4 7) (σ 7)) ∧ (NumS (σ 4 7) (σ 8)) ∧ (0 ≤ σ 4 8 ∧ σ 4 8 ≤ 100) ∧ (∀ F, QuoW (σ 4 7) (σ 7) (σ 8) F → Wire (σ 4 8) F ∧ OrdW (σ 4 8) F) ∧ (isBits (σ 14)) ∧ ∀ τ, TakeSt σ τ → Q none τ) := by
  show ([] = [] ∧ _) = _
  simp only [true_and]
set_option maxHeartbeats 4000000 in
set_option maxRecDepth 20000 in
theorem S_W_take {l : Launch} : Sat l y_W_take b_W_take 3 none 3 s_W_take := by
  refine sat_of (Φ := P_W) (κ := Q_W) (Γ := [(28, 5, 0, s_K_made), (34, 0, 2, s_JM_min), (40, 5, 1, s_K_fill), (44, 0, 2, s_JA_fillI), (49, 8, 2, s_W_adopt)]) (rt := 0) (by decide +kernel) P_W_ok Q_W_ok (by
    refine List.forall_mem_cons.mpr ⟨?_, List.forall_mem_cons.mpr ⟨?_, List.forall_mem_cons.mpr ⟨?_, List.forall_mem_cons.mpr ⟨?_, List.forall_mem_cons.mpr ⟨?_, fun _ h => absurd h List.not_mem_nil⟩⟩⟩⟩⟩
    · exact m_K_made S_K_made (by decide) l_W_28
    · exact m_JM_min S_JM_min (by decide) l_W_34
    · exact m_K_fill S_K_fill (by decide) l_W_40
    · exact m_JA_fillI S_JA_fillI (by decide) l_W_44
    · exact m_W_adopt S_W_adopt (by decide) l_W_49) (by simp) o_W_take ?_
  intro as σ Q hh0
  obtain ⟨c0, rr0, rfl, hh1⟩ := popR_inv hh0
  obtain ⟨c1, rr1, rfl, hh2⟩ := popR_inv hh1
  obtain ⟨hrE, rfl, rfl, hf, hw, hn, hG, hF, hb, hQ⟩ := hh2
  subst hrE
  clear hh0 hh1
  refine ⟨Nat.le_of_ble_eq_true rfl, [(39, mkC (fun L st u => ∃ (s : Int) (F : Nat → Int), L = [.inr (.inr (some 11)), .inr (.inr (some 4)), .inl s] ∧ st = [] ∧ (0 ≤ s ∧ s ≤ σ 4 8) ∧ (QuoW (σ 4 7) (σ 7) (σ 8) F) ∧ (TakeI σ u F (2 * s).toNat)) (fun L st u => ((101 - gI L 2).toNat, 0, 0)))], 14, ?_, cuts1 ?_ (cuts0)⟩
  · rw [show entL 3 [.inr (.inr (some 11)), .inr (.inr (some 4))] = [.inr (.inr (some 11)), .inr (.inr (some 4)), .inr (.inr none)] from rfl]
    simp only [↓wpN_go, jmp_e, ↓wp_aload_n0, ↓wp_aload_n1, ↓wp_bipush, ↓wp_getfield, ↓wp_goto, ↓wp_icmp_ge, ↓wp_iconst, ↓wp_iinc, ↓wp_iload_n2, ↓wp_invokestatic, ↓wp_invokevirtual, ↓wp_istore_n2, ↓wp_putfield, ↓wp_return0, wp_nil, ↓ldI_0, ↓ldI_s, ↓ldL_0, ↓ldL_s, ↓ldR_0, ↓ldR_s, sto1_0, sto1_1, sto1_s, sto2_0, sto2_1, sto2_s, isLong_i, isLong_l, isLong_r, ↓popI_c, ↓popL_c, ↓popR_c, ↓popN_0, ↓popN_s, catS_n, catS_c, psh_s, psh_n, fldV_n, fldV_s, ↓tgt_e, sw_n, ↓sw_c, ↓lk1_h, ↓lk1_m, ↓atC_h, ↓atC_m, ↓atC_n, ltO_n, ltO_s, updR_eq, updR_ne, gI_0i, gI_0l, gI_s, ltM_iff, List.cons.injEq, Sum.inl.injEq, Sum.inr.injEq, Option.some.injEq, exists_eq_left, exists_eq_left', exists_eq_right, exists_eq_right', exists_and_left, exists_and_right, exists_eq, exists_const, and_assoc, ↓j_W_take_0, ↓j_W_take_39, ↓j_W_take_65, ↓f_W_15, ↓f_W_21, ↓f_W_24, ↓f_W_9, List.length_cons, List.length_nil, Nat.zero_add, Nat.reduceAdd, Int.reduceAdd, Int.reduceNeg, Int.reduceToNat, Int.reduceLE, Int.reduceLT, true_and, and_true, Nat.reduceLT, reduceIte, Nat.reduceEqDiff, ne_eq, not_false_eq_true, false_implies, true_implies, Bool.false_eq_true, reduceCtorEq, List.cons_append, List.nil_append, Nat.reduceSub, Nat.reduceLeDiff, Fin.isValue, Int.reduceNatCast', Int.zero_add, Int.add_zero, decide_true, decide_false, implies_true, forall_const, true_or, or_true, or_false, false_or, false_and, and_false, Int.toNat_natCast, ↓oF_11_0, ↓aF_12, ↓oF_11_1, ↓aF_13, ↓oF_11_2, ↓aF_14, ↓oF_11_3, ↓aF_15, ↓oF_11_4, oC_0, oC_1, oC_4, oC_11, oC_16, oC_18, oC_20, oC_23, oC_25, oC_26, oC_29, oC_31, oC_33, oC_35, oC_37, isT_29, isT_31, isT_33, isT_35, isL_16, isL_18, isL_26, ↓oF_4_8, ↓e_K_made, ↓e_JM_min, ↓e_K_fill, ↓e_JA_fillI, ↓e_W_adopt]
    have hmin : min (σ 4 8) 100 = σ 4 8 := by omega
    have hI : ∀ F, QuoW (σ 4 7) (σ 7) (σ 8) F → TakeI σ (updR (updR (updR (updR σ 11 (up1 (σ 11) 4 (σ 4 8))) 12 F) 13 (fillF (σ 13) 0 100 (-1))) 15 (fillF (σ 15) 0 100 0)) F 0 := fun F h => take_0 hG.2 hb
    simp only [hmin]
    (try simp only [rI_iff, rL_iff] at *)
    repeat' (with_reducible (first | assumption | apply And.intro | intro _))
    all_goals first | omega | with_reducible assumption | exact True.intro | skip
    all_goals first
      | exact ⟨_, by assumption, hI _ (by assumption)⟩
      | (refine ⟨0, rfl, by omega, by omega, _, by assumption, ?_⟩; exact hI _ (by assumption))
  · intro L st u hI
    obtain ⟨s, F, rfl, rfl, hi, hq, hu⟩ := hI
    simp only [↓wpN_go, jmp_e, ↓wp_aload_n0, ↓wp_aload_n1, ↓wp_bipush, ↓wp_getfield, ↓wp_goto, ↓wp_icmp_ge, ↓wp_iconst, ↓wp_iinc, ↓wp_iload_n2, ↓wp_invokestatic, ↓wp_invokevirtual, ↓wp_istore_n2, ↓wp_putfield, ↓wp_return0, wp_nil, ↓ldI_0, ↓ldI_s, ↓ldL_0, ↓ldL_s, ↓ldR_0, ↓ldR_s, sto1_0, sto1_1, sto1_s, sto2_0, sto2_1, sto2_s, isLong_i, isLong_l, isLong_r, ↓popI_c, ↓popL_c, ↓popR_c, ↓popN_0, ↓popN_s, catS_n, catS_c, psh_s, psh_n, fldV_n, fldV_s, ↓tgt_e, sw_n, ↓sw_c, ↓lk1_h, ↓lk1_m, ↓atC_h, ↓atC_m, ↓atC_n, ltO_n, ltO_s, updR_eq, updR_ne, gI_0i, gI_0l, gI_s, ltM_iff, List.cons.injEq, Sum.inl.injEq, Sum.inr.injEq, Option.some.injEq, exists_eq_left, exists_eq_left', exists_eq_right, exists_eq_right', exists_and_left, exists_and_right, exists_eq, exists_const, and_assoc, ↓j_W_take_0, ↓j_W_take_39, ↓j_W_take_65, ↓f_W_15, ↓f_W_21, ↓f_W_24, ↓f_W_9, List.length_cons, List.length_nil, Nat.zero_add, Nat.reduceAdd, Int.reduceAdd, Int.reduceNeg, Int.reduceToNat, Int.reduceLE, Int.reduceLT, true_and, and_true, Nat.reduceLT, reduceIte, Nat.reduceEqDiff, ne_eq, not_false_eq_true, false_implies, true_implies, Bool.false_eq_true, reduceCtorEq, List.cons_append, List.nil_append, Nat.reduceSub, Nat.reduceLeDiff, Fin.isValue, Int.reduceNatCast', Int.zero_add, Int.add_zero, decide_true, decide_false, implies_true, forall_const, true_or, or_true, or_false, false_or, false_and, and_false, Int.toNat_natCast, ↓oF_11_0, ↓aF_12, ↓oF_11_1, ↓aF_13, ↓oF_11_2, ↓aF_14, ↓oF_11_3, ↓aF_15, ↓oF_11_4, oC_0, oC_1, oC_4, oC_11, oC_16, oC_18, oC_20, oC_23, oC_25, oC_26, oC_29, oC_31, oC_33, oC_35, oC_37, isT_29, isT_31, isT_33, isT_35, isL_16, isL_18, isL_26, ↓oF_4_8, ↓e_K_made, ↓e_JM_min, ↓e_K_fill, ↓e_JA_fillI, ↓e_W_adopt]
    obtain ⟨e11, e12, e13⟩ := take_facts hu
    obtain ⟨hW, hO⟩ := hF F hq
    have q0 : σ 4 8 ≤ s → Q none u := fun h => hQ u (take_end hO hq hi.1 (by omega) hu)
    have q1 : s < σ 4 8 → TakeI σ (if 0 < stepZ (σ 4 8) F s 0 ∧ u 13 (stepZ (σ 4 8) F s 0).toNat = -1 then updR (updR (updR u 13 (up1 (u 13) (stepZ (σ 4 8) F s 0).toNat s)) 14 (up1 (u 14) (stepZ (σ 4 8) F s 0).toNat 0)) 15 (up1 (u 15) (stepZ (σ 4 8) F s 0).toNat (u 15 s.toNat + 1)) else u) F (2 * s + 1).toNat := fun h => by
      have := take_step (b := 0) hW hO ⟨hi.1, h⟩ hG.2 (by omega) (by rw [show 2 * s + 0 = 2 * s by omega]; exact hu)
      rw [show (2 * s + 1).toNat = (2 * s + 0).toNat + 1 by omega]
      exact this
    simp only [e11, e12]
    generalize (if 0 < stepZ (σ 4 8) F s 0 ∧ u 13 (stepZ (σ 4 8) F s 0).toNat = -1 then updR (updR (updR u 13 (up1 (u 13) (stepZ (σ 4 8) F s 0).toNat s)) 14 (up1 (u 14) (stepZ (σ 4 8) F s 0).toNat 0)) 15 (up1 (u 15) (stepZ (σ 4 8) F s 0).toNat (u 15 s.toNat + 1)) else u) = v at q1 ⊢
    have q2 : s < σ 4 8 → v 11 4 = σ 4 8 ∧ v 12 = F ∧ AllI (v 13) 100 := fun h => take_facts (q1 h)
    have q3 : s < σ 4 8 → TakeI σ (if 0 < stepZ (σ 4 8) F s 1 ∧ v 13 (stepZ (σ 4 8) F s 1).toNat = -1 then updR (updR (updR v 13 (up1 (v 13) (stepZ (σ 4 8) F s 1).toNat s)) 14 (up1 (v 14) (stepZ (σ 4 8) F s 1).toNat 1)) 15 (up1 (v 15) (stepZ (σ 4 8) F s 1).toNat (v 15 s.toNat + 1)) else v) F (2 * (s + 1)).toNat := fun h => by
      have := take_step (b := 1) hW hO ⟨hi.1, h⟩ hG.2 (by omega) (q1 h)
      rw [show (2 * (s + 1)).toNat = (2 * s + 1).toNat + 1 by omega]
      exact this
    by_cases hc : s < σ 4 8
    · obtain ⟨g1, g2, g3⟩ := q2 hc
      have q3 := q3 hc
      simp only [g1, g2]
      generalize (if 0 < stepZ (σ 4 8) F s 1 ∧ v 13 (stepZ (σ 4 8) F s 1).toNat = -1 then updR (updR (updR v 13 (up1 (v 13) (stepZ (σ 4 8) F s 1).toNat s)) 14 (up1 (v 14) (stepZ (σ 4 8) F s 1).toNat 1)) 15 (up1 (v 15) (stepZ (σ 4 8) F s 1).toNat (v 15 s.toNat + 1)) else v) = w at q3 ⊢
      have g4 := (take_facts q3).1
      (try simp only [rI_iff, rL_iff] at *)
      repeat' (with_reducible (first | assumption | apply And.intro | intro _))
      all_goals first | omega | with_reducible assumption | exact True.intro | skip
      all_goals first
        | exact ⟨_, hq, q3⟩
        | exact e13
        | exact g3
        | exact (e13 _ (by assumption)).1
        | exact (e13 _ (by assumption)).2
        | exact (g3 _ (by assumption)).1
        | exact (g3 _ (by assumption)).2
        | exact hW
        | skip
    · have hz := q0 (by omega)
      (try simp only [rI_iff, rL_iff] at *)
      repeat' (with_reducible (first | assumption | apply And.intro | intro _))
      all_goals first | omega | with_reducible assumption | exact True.intro | skip
      all_goals first
        | exact hz
        | exact absurd (by assumption) hc
