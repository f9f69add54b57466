/-! words that never come: the first -/
def MissOK (N : Int) (f : Nat → Int) (σ : St) : Prop := 0 ≤ σ 20 2 ∧ σ 20 2 ≤ 12 ∧ rI (σ 20 4) ∧ (σ 20 3 = -1 → 0 < σ 20 2 → Tab N f (σ 21) (σ 22) 0 1) ∧ ((σ 20 3 = -1 ∧ ∀ k : Nat, 1 ≤ k → (k : Int) ≤ σ 20 2 → Tab N f (σ 21) (σ 22) k (2 ^ k) ∧ ∀ v, 0 ≤ v → v < 2 ^ k → ¬ Miss N f k v) ∨ (FirstMiss N f (σ 20 3) (σ 20 4) ∧ σ 20 3 ≤ 12))
theorem p2_le {a b : Nat} (h : a ≤ b) : (2 : Int) ^ a ≤ 2 ^ b := by
  have : (2 : Nat) ^ a ≤ 2 ^ b := Nat.pow_le_pow_right (by omega) h
  have e1 : ((2 ^ a : Nat) : Int) = 2 ^ a := by rw [Int.natCast_pow]; rfl
  have e2 : ((2 ^ b : Nat) : Int) = 2 ^ b := by rw [Int.natCast_pow]; rfl
  omega
theorem tab_frame {N : Int} {f g h g2 h2 : Nat → Int} {k n : Nat} {c : Int} (hk : k < n) (hc : c ≤ 2 ^ k) (hg : ∀ j : Nat, (j : Int) < 2 ^ n → g2 j = g j ∧ h2 j = h j) (ht : Tab N f g h k c) : Tab N f g2 h2 k c := by
  intro w hw
  have h1 := p2_le (show k + 1 ≤ n by omega)
  have h2 : (2 : Int) ^ (k + 1) = 2 ^ k * 2 := Int.pow_succ _ _
  have e1 : ((2 ^ k : Nat) : Int) = 2 ^ k := by rw [Int.natCast_pow]; rfl
  have := hg (2 ^ k + w) (by omega)
  rw [this.1, this.2]
  exact ht w hw
theorem firstMiss_uniq {N : Int} {f : Nat → Int} {n w n2 w2 : Int} (h1 : FirstMiss N f n w) (h2 : FirstMiss N f n2 w2) : n = n2 ∧ w = w2 := by
  obtain ⟨a1, a2, a3, a4, a5, a6⟩ := h1
  obtain ⟨b1, b2, b3, b4, b5, b6⟩ := h2
  have e : n = n2 := by
    rcases Int.lt_trichotomy n n2 with c | c | c
    · exact absurd a4 (b6 n.toNat (by omega) (by omega) w a2 a3)
    · exact c
    · exact absurd b4 (a6 n2.toNat (by omega) (by omega) w2 b2 b3)
  subst e
  refine ⟨rfl, ?_⟩
  rcases Int.lt_trichotomy w w2 with c | c | c
  · exact absurd a4 (b5 w a2 c)
  · exact c
  · exact absurd b4 (a5 w2 b2 c)
theorem miss_0 {N : Int} {f : Nat → Int} {σ u : St} (h : PutE σ u 1 (fun s => 0 ≤ s ∧ s < N)) : Tab N f (u 21) (u 22) 0 1 := by
  intro w hw
  have hw0 : w = 0 := by omega
  subst hw0
  have := putE_r h
  refine ⟨this.1, this.2.1, fun s => (this.2.2 s).trans ?_⟩
  constructor
  · rintro ⟨h1, h2⟩
    exact ⟨s, h1, h2, rfl, by omega⟩
  · rintro ⟨t, h1, h2, h3, h4⟩
    have : t = s := h3
    subst this
    exact ⟨h1, h2⟩
def FindI (N : Int) (f : Nat → Int) (σ u : St) : Prop := (∀ k : Nat, k ≠ 20 → k ≠ 21 → k ≠ 22 → u k = σ k) ∧ MissOK N f u ∧ (u 20 3 = -1 → Tab N f (u 21) (u 22) 0 1) ∧ u 20 5 = σ 20 5
theorem find_up {N : Int} {f : Nat → Int} {σ u v : St} {n : Int} (hn : 1 ≤ n ∧ n ≤ 12) (h : FindI N f σ u) (h3 : u 20 3 = -1) (he : u 20 2 = n - 1) (hN : u 11 4 = N) (hf : u 12 = f) (hs : SrchEnd u v n) : FindI N f σ (updR v 20 (up1 (v 20) 2 n)) := by
  obtain ⟨h1, ⟨h20, h21, h22, h23, h24⟩, h4, h5⟩ := h
  have h6 : ∀ k : Nat, 1 ≤ k → (k : Int) ≤ u 20 2 → Tab N f (u 21) (u 22) k (2 ^ k) ∧ ∀ v, 0 ≤ v → v < 2 ^ k → ¬ Miss N f k v := by
    rcases h24 with h | h
    · exact h.2
    · have := h.1.1
      omega
  rcases hs with ⟨g, h, rfl, g1, g2, g3⟩ | ⟨x, w, ⟨g, h, rfl, g1, g2, g3⟩, w1, w2, w3, p, q, p1, rfl⟩
  · rw [hN, hf] at g2 g3
    have e20 : updR (updR u 21 g) 22 h 20 = u 20 := by rw [updR_ne _ 22 20 _ (by decide), updR_ne _ 21 20 _ (by decide)]
    have f21 : updR (updR (updR u 21 g) 22 h) 20 (up1 (u 20) 2 n) 21 = g := by rw [updR_ne _ 20 21 _ (by decide), updR_ne _ 22 21 _ (by decide), updR_eq]
    have f22 : updR (updR (updR u 21 g) 22 h) 20 (up1 (u 20) 2 n) 22 = h := by rw [updR_ne _ 20 22 _ (by decide), updR_eq]
    rw [e20]
    have ht0 : Tab N f g h 0 1 := tab_frame (show 0 < n.toNat by omega) (by simp) g1 (h4 h3)
    refine ⟨fun k a1 a2 a3 => ?_, ⟨?_, ?_, ?_, fun _ _ => ?_, Or.inl ⟨?_, fun k hk1 hk2 => ?_⟩⟩, fun _ => ?_, ?_⟩
    · rw [updR_ne _ _ _ _ a1, updR_ne _ _ _ _ a3, updR_ne _ _ _ _ a2]; exact h1 k a1 a2 a3
    · rw [updR_eq, up1_eq]; omega
    · rw [updR_eq, up1_eq]; omega
    · rw [updR_eq, up1_ne _ _ _ _ (by decide)]; exact h22
    · rw [f21, f22]; exact ht0
    · rw [updR_eq, up1_ne _ _ _ _ (by decide)]; exact h3
    · rw [updR_eq, up1_eq] at hk2
      rw [f21, f22]
      by_cases e : k < n.toNat
      · exact ⟨tab_frame e (Int.le_refl _) g1 (h6 k hk1 (by omega)).1, (h6 k hk1 (by omega)).2⟩
      · have : k = n.toNat := by omega
        subst this
        exact ⟨g2, g3⟩
    · rw [f21, f22]; exact ht0
    · rw [updR_eq, up1_ne _ _ _ _ (by decide)]; exact h5
  · rw [hN, hf] at g3 w3
    rw [updR_eq, updR_twice]
    have hfm : FirstMiss N f n w := ⟨hn.1, w1, w2, w3, g3, fun k k1 k2 => (h6 k k1 (by omega)).2⟩
    have hp := p2_13 (n := n.toNat) (by omega)
    refine ⟨fun k a1 a2 a3 => ?_, ⟨?_, ?_, ?_, fun h8 => ?_, Or.inr ⟨?_, ?_⟩⟩, fun h8 => ?_, ?_⟩
    · rw [updR_ne _ _ _ _ a1, updR_ne _ _ _ _ a3, updR_ne _ _ _ _ a2, updR_ne _ _ _ _ a3, updR_ne _ _ _ _ a2]; exact h1 k a1 a2 a3
    · rw [updR_eq, up1_eq]; omega
    · rw [updR_eq, up1_eq]; omega
    · rw [updR_eq, up1_ne _ 2 4 _ (by decide), up1_eq]; unfold rI; omega
    · rw [updR_eq, up1_ne _ 2 3 _ (by decide), up1_ne _ 4 3 _ (by decide), up1_eq] at h8; omega
    · rw [updR_eq, up1_ne _ 2 3 _ (by decide), up1_ne _ 4 3 _ (by decide), up1_eq, up1_ne _ 2 4 _ (by decide), up1_eq]; exact hfm
    · rw [updR_eq, up1_ne _ 2 3 _ (by decide), up1_ne _ 4 3 _ (by decide), up1_eq]; omega
    · rw [updR_eq, up1_ne _ 2 3 _ (by decide), up1_ne _ 4 3 _ (by decide), up1_eq] at h8; omega
    · rw [updR_eq, up1_ne _ 2 5 _ (by decide), up1_ne _ 4 5 _ (by decide), up1_ne _ 3 5 _ (by decide)]; exact h5
def MarkSt (N : Int) (f : Nat → Int) (σ σ' : St) (most r : Int) : Prop := (∀ k : Nat, k ≠ 20 → k ≠ 21 → k ≠ 22 → σ' k = σ k) ∧ MissOK N f σ' ∧ ((∃ w, FirstMiss N f r w ∧ r ≤ most ∧ σ' 20 5 = w) ∨ (r = -1 ∧ σ' 20 5 = σ 20 5 ∧ ∀ n w, FirstMiss N f n w → most < n))
theorem find_none {N : Int} {f : Nat → Int} {σ u : St} {most : Int} (h : FindI N f σ u) (hr : u 20 3 = -1 ∨ most < u 20 3) (hl : most ≤ u 20 2 ∨ ¬ u 20 3 = -1) : MarkSt N f σ u most (-1) := by
  obtain ⟨h1, h2, h4, h5⟩ := h
  refine ⟨h1, h2, Or.inr ⟨rfl, h5, fun n w hfm => ?_⟩⟩
  rcases h2.2.2.2.2 with ⟨g1, g2⟩ | ⟨g1, g2⟩
  · have hl2 := hl.resolve_right (fun q => q g1)
    apply Classical.byContradiction
    intro hc
    obtain ⟨a1, a2, a3, a4, a5, a6⟩ := hfm
    exact (g2 n.toNat (by omega) (by omega)).2 w a2 a3 a4
  · have := firstMiss_uniq g1 hfm
    have := g1.1
    omega
theorem find_some {N : Int} {f : Nat → Int} {σ u : St} {most : Int} (h : FindI N f σ u) (h0 : ¬ u 20 3 = -1) (hr : u 20 3 ≤ most) : MarkSt N f σ (updR u 20 (up1 (u 20) 5 (u 20 4))) most (u 20 3) := by
  obtain ⟨h1, h2, h4, h5⟩ := h
  obtain ⟨h20, h21, h22, h23, h24⟩ := h2
  have hfm := h24.resolve_left (fun q => h0 q.1)
  have e : ∀ j, j ≠ 5 → updR u 20 (up1 (u 20) 5 (u 20 4)) 20 j = u 20 j := fun j hj => by rw [updR_eq, up1_ne _ _ _ _ hj]
  refine ⟨fun k a1 a2 a3 => ?_, ⟨?_, ?_, ?_, fun h8 => ?_, Or.inr ?_⟩, Or.inl ⟨u 20 4, hfm.1, hr, ?_⟩⟩
  · rw [updR_ne _ _ _ _ a1]; exact h1 k a1 a2 a3
  · rw [e 2 (by decide)]; exact h20
  · rw [e 2 (by decide)]; exact h21
  · rw [e 4 (by decide)]; exact h22
  · rw [e 3 (by decide)] at h8; exact absurd h8 h0
  · rw [e 3 (by decide), e 4 (by decide)]; exact hfm
  · rw [updR_eq, up1_eq]
def s_S_find : Spec := fun as σ Q => popR as fun c0 r0 => popR r0 fun c1 r1 => popI r1 fun most r2 => r2 = [] ∧ c0 = 20 ∧ c1 = 11 ∧ (0 ≤ σ 11 4 ∧ σ 11 4 ≤ 100) ∧ (Wire (σ 11 4) (σ 12)) ∧ (1 ≤ most ∧ most ≤ 12) ∧ (MissOK (σ 11 4) (σ 12) σ) ∧ ∀ σ' r, MarkSt (σ 11 4) (σ 12) σ σ' most r → Q (some (.inl r)) σ'
theorem e_S_find (most : Int) (σ : St) (Q : Option AV → St → Prop) : s_S_find [.inr (.inr (some 20)), .inr (.inr (some 11)), .inl most] σ Q = ((0 ≤ σ 11 4 ∧ σ 11 4 ≤ 100) ∧ (Wire (σ 11 4) (σ 12)) ∧ (1 ≤ most ∧ most ≤ 12) ∧ (MissOK (σ 11 4) (σ 12) σ) ∧ ∀ σ' r, MarkSt (σ 11 4) (σ 12) σ σ' most r → Q (some (.inl r)) σ') := by
  show ([] = [] ∧ _) = _
  simp only [true_and]
set_option maxHeartbeats 4000000 in
set_option maxRecDepth 20000 in
theorem S_S_find {l : Launch} : Sat l y_S_find b_S_find 4 (some .int) 4 s_S_find := by
  refine sat_of (Φ := P_S) (κ := Q_S) (Γ := [(31, 6, 1, s_S_startAnywhere), (35, 6, 2, s_S_searchLength)]) (rt := 1) (by decide +kernel) P_S_ok Q_S_ok (by
    refine List.forall_mem_cons.mpr ⟨?_, List.forall_mem_cons.mpr ⟨?_, fun _ h => absurd h List.not_mem_nil⟩⟩
    · exact m_S_startAnywhere S_S_startAnywhere (by decide) l_S_31
    · exact m_S_searchLength S_S_searchLength (by decide) l_S_35) (by simp) o_S_find ?_
  intro as σ Q hh0
  obtain ⟨c0, rr0, rfl, hh1⟩ := popR_inv hh0
  obtain ⟨c1, rr1, rfl, hh2⟩ := popR_inv hh1
  obtain ⟨most, rr2, rfl, hh3⟩ := popI_inv hh2
  obtain ⟨hrE, rfl, rfl, hN, hf, hmost, hok, hQ⟩ := hh3
  subst hrE
  clear hh0 hh1 hh2
  refine ⟨Nat.le_of_ble_eq_true rfl, [(19, mkC (fun L st u => ∃ (n : Int), L = [.inr (.inr (some 20)), .inr (.inr (some 11)), .inl most, .inl n] ∧ st = [] ∧ (n = u 20 2 + 1) ∧ (FindI (σ 11 4) (σ 12) σ u)) (fun L st u => ((14 - gI L 3).toNat, 0, 0)))], 14, ?_, cuts1 ?_ (cuts0)⟩
  · rw [show entL 4 [.inr (.inr (some 20)), .inr (.inr (some 11)), .inl most] = [.inr (.inr (some 20)), .inr (.inr (some 11)), .inl most, .inr (.inr none)] from rfl]
    simp only [↓wpN_go, jmp_e, ↓wp_aload_n0, ↓wp_aload_n1, ↓wp_bipush, ↓wp_getfield, ↓wp_goto, ↓wp_iadd, ↓wp_icmp_eq, ↓wp_icmp_gt, ↓wp_icmp_le, ↓wp_icmp_ne, ↓wp_iconst, ↓wp_if_ne, ↓wp_iinc, ↓wp_iload_n2, ↓wp_iload_n3, ↓wp_invokevirtual, ↓wp_ireturn1, ↓wp_istore_n3, ↓wp_putfield, wp_nil, ↓ldI_0, ↓ldI_s, ↓ldL_0, ↓ldL_s, ↓ldR_0, ↓ldR_s, sto1_0, sto1_1, sto1_s, sto2_0, sto2_1, sto2_s, isLong_i, isLong_l, isLong_r, ↓popI_c, ↓popL_c, ↓popR_c, ↓popN_0, ↓popN_s, catS_n, catS_c, psh_s, psh_n, fldV_n, fldV_s, ↓tgt_e, sw_n, ↓sw_c, ↓lk1_h, ↓lk1_m, ↓atC_h, ↓atC_m, ↓atC_n, ltO_n, ltO_s, updR_eq, updR_ne, gI_0i, gI_0l, gI_s, ltM_iff, List.cons.injEq, Sum.inl.injEq, Sum.inr.injEq, Option.some.injEq, exists_eq_left, exists_eq_left', exists_eq_right, exists_eq_right', exists_and_left, exists_and_right, exists_eq, exists_const, and_assoc, ↓j_S_find_0, ↓j_S_find_12, ↓j_S_find_19, ↓j_S_find_55, ↓j_S_find_71, ↓j_S_find_73, ↓f_S_18, ↓f_S_22, ↓f_S_25, ↓f_S_28, List.length_cons, List.length_nil, Nat.zero_add, Nat.reduceAdd, Int.reduceAdd, Int.reduceNeg, Int.reduceToNat, Int.reduceLE, Int.reduceLT, true_and, and_true, Nat.reduceLT, reduceIte, Nat.reduceEqDiff, ne_eq, not_false_eq_true, false_implies, true_implies, Bool.false_eq_true, reduceCtorEq, List.cons_append, List.nil_append, Nat.reduceSub, Nat.reduceLeDiff, Fin.isValue, Int.reduceNatCast', Int.zero_add, Int.add_zero, decide_true, decide_false, implies_true, forall_const, true_or, or_true, or_false, false_or, false_and, and_false, Int.toNat_natCast, ↓oF_20_0, ↓aF_21, ↓oF_20_1, ↓aF_22, ↓oF_20_2, ↓oF_20_3, ↓oF_20_4, ↓oF_20_5, oC_0, oC_1, oC_4, oC_11, oC_16, oC_18, oC_20, oC_23, oC_25, oC_26, oC_29, oC_31, oC_33, oC_35, oC_37, isT_29, isT_31, isT_33, isT_35, isL_16, isL_18, isL_26, ↓e_S_startAnywhere, ↓e_S_searchLength]
    have hok2 := hok
    obtain ⟨h20, h21, h22, h23, h24⟩ := hok2
    have hI0 : σ 20 2 ≠ 0 → FindI (σ 11 4) (σ 12) σ σ := fun h1 => ⟨fun _ _ _ _ => rfl, hok, fun h2 => h23 h2 (by omega), rfl⟩
    have hI1 : ∀ σ1, σ 20 2 = 0 → PutE σ σ1 1 (fun s => 0 ≤ s ∧ s < σ 11 4) → FindI (σ 11 4) (σ 12) σ σ1 := fun σ1 h1 h2 => by
      have e20 := putE_ne h2 20 (by decide) (by decide)
      refine ⟨fun k _ a1 a2 => putE_ne h2 k a1 a2, ⟨by rw [e20]; exact h20, by rw [e20]; exact h21, by rw [e20]; exact h22, fun _ _ => miss_0 h2, ?_⟩, fun _ => miss_0 h2, by rw [e20]⟩
      rw [e20]
      rcases h24 with h | h
      · exact Or.inl ⟨h.1, fun k k1 k2 => by omega⟩
      · exact Or.inr h
    have hR : ∀ σ1, PutE σ σ1 1 (fun s => 0 ≤ s ∧ s < σ 11 4) → σ1 20 = σ 20 := fun σ1 h => putE_ne h 20 (by decide) (by decide)
    (try simp only [rI_iff, rL_iff] at *)
    repeat' (with_reducible (first | assumption | apply And.intro | intro _))
    all_goals first | omega | with_reducible assumption | exact True.intro | skip
    exact hI1 _ (by assumption) (by assumption)
  · intro L st u hI
    obtain ⟨n, rfl, rfl, hi, hu⟩ := hI
    simp only [↓wpN_go, jmp_e, ↓wp_aload_n0, ↓wp_aload_n1, ↓wp_bipush, ↓wp_getfield, ↓wp_goto, ↓wp_iadd, ↓wp_icmp_eq, ↓wp_icmp_gt, ↓wp_icmp_le, ↓wp_icmp_ne, ↓wp_iconst, ↓wp_if_ne, ↓wp_iinc, ↓wp_iload_n2, ↓wp_iload_n3, ↓wp_invokevirtual, ↓wp_ireturn1, ↓wp_istore_n3, ↓wp_putfield, wp_nil, ↓ldI_0, ↓ldI_s, ↓ldL_0, ↓ldL_s, ↓ldR_0, ↓ldR_s, sto1_0, sto1_1, sto1_s, sto2_0, sto2_1, sto2_s, isLong_i, isLong_l, isLong_r, ↓popI_c, ↓popL_c, ↓popR_c, ↓popN_0, ↓popN_s, catS_n, catS_c, psh_s, psh_n, fldV_n, fldV_s, ↓tgt_e, sw_n, ↓sw_c, ↓lk1_h, ↓lk1_m, ↓atC_h, ↓atC_m, ↓atC_n, ltO_n, ltO_s, updR_eq, updR_ne, gI_0i, gI_0l, gI_s, ltM_iff, List.cons.injEq, Sum.inl.injEq, Sum.inr.injEq, Option.some.injEq, exists_eq_left, exists_eq_left', exists_eq_right, exists_eq_right', exists_and_left, exists_and_right, exists_eq, exists_const, and_assoc, ↓j_S_find_0, ↓j_S_find_12, ↓j_S_find_19, ↓j_S_find_55, ↓j_S_find_71, ↓j_S_find_73, ↓f_S_18, ↓f_S_22, ↓f_S_25, ↓f_S_28, List.length_cons, List.length_nil, Nat.zero_add, Nat.reduceAdd, Int.reduceAdd, Int.reduceNeg, Int.reduceToNat, Int.reduceLE, Int.reduceLT, true_and, and_true, Nat.reduceLT, reduceIte, Nat.reduceEqDiff, ne_eq, not_false_eq_true, false_implies, true_implies, Bool.false_eq_true, reduceCtorEq, List.cons_append, List.nil_append, Nat.reduceSub, Nat.reduceLeDiff, Fin.isValue, Int.reduceNatCast', Int.zero_add, Int.add_zero, decide_true, decide_false, implies_true, forall_const, true_or, or_true, or_false, false_or, false_and, and_false, Int.toNat_natCast, ↓oF_20_0, ↓aF_21, ↓oF_20_1, ↓aF_22, ↓oF_20_2, ↓oF_20_3, ↓oF_20_4, ↓oF_20_5, oC_0, oC_1, oC_4, oC_11, oC_16, oC_18, oC_20, oC_23, oC_25, oC_26, oC_29, oC_31, oC_33, oC_35, oC_37, isT_29, isT_31, isT_33, isT_35, isL_16, isL_18, isL_26, ↓e_S_startAnywhere, ↓e_S_searchLength]
    have hu11 := hu.1 11 (by decide) (by decide) (by decide)
    have hu12 := hu.1 12 (by decide) (by decide) (by decide)
    simp only [hu11, hu12, up1_ne _ 5 3 _ (by decide), up1_eq]
    obtain ⟨h20, h21, h22, h23, h24⟩ := hu.2.1
    have hlen : u 20 3 = -1 ∨ 1 ≤ u 20 3 ∧ u 20 3 ≤ 12 := h24.imp (fun h => h.1) (fun h => ⟨h.1.1, h.2⟩)
    have hA : (u 20 3 = -1 ∨ most < u 20 3) → (most ≤ u 20 2 ∨ ¬ u 20 3 = -1) → Q (some (.inl (-1))) u := fun h1 h2 => hQ _ _ (find_none hu h1 h2)
    have hB : ¬ u 20 3 = -1 → u 20 3 ≤ most → Q (some (.inl (u 20 3))) (updR u 20 (up1 (u 20) 5 (u 20 4))) := fun h1 h2 => hQ _ _ (find_some hu h1 h2)
    have hT : u 20 3 = -1 → Tab (σ 11 4) (σ 12) (u 21) (u 22) (n - 1).toNat (2 ^ (n - 1).toNat) := fun h1 => by
      by_cases e : n = 1
      · subst e
        exact hu.2.2.1 h1
      · rcases h24 with h | h
        · exact (h.2 (n - 1).toNat (by omega) (by omega)).1
        · have := h.1.1
          omega
    have hF : ∀ v, u 20 3 = -1 → n ≤ 12 → SrchEnd u v n → FindI (σ 11 4) (σ 12) σ (updR v 20 (up1 (v 20) 2 n)) := fun v h1 h2 h3 => find_up ⟨by omega, h2⟩ hu h1 (by omega) (by rw [hu11]) hu12 h3
    (try simp only [rI_iff, rL_iff] at *)
    repeat' (with_reducible (first | assumption | apply And.intro | intro _))
    all_goals first | omega | with_reducible assumption | exact True.intro | skip
    · exact hA (Or.inl (by assumption)) (Or.inl (by omega))
    · exact hB (by assumption) (by assumption)
    · exact hA (Or.inr (by assumption)) (Or.inr (by assumption))
    · exact hB (by assumption) (by assumption)
    · exact hA (Or.inr (by assumption)) (Or.inr (by assumption))
    · exact hT (by assumption)
    · exact hF _ (by assumption) (by assumption) (by assumption)
