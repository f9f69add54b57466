/-! groups made finer till they stay -/
def PartG (cnt : Int) (nx g0 g : Nat → Int) (G : Int) : Prop := NumP cnt g G ∧ G ≤ 100 ∧ AlG cnt (alZ (-1) g0) g ∧ DistP cnt (alN (alZ (-1) g0) nx) g
theorem PartG.grr {cnt G : Int} {nx g0 g : Nat → Int} (h : PartG cnt nx g0 g G) : GrR cnt g := fun i hi => by
  have h1 := h.1.2 i hi
  have h2 := lt_mx (n := cnt.toNat) (i := i) (by omega) h1.2
  have h3 := h.1.1
  have h4 := h.2.1
  omega
theorem PartG.up {cnt G H : Int} {nx g0 g h : Nat → Int} {b : Nat} (hp : PartG cnt nx g0 g G) (hw : Wire cnt nx) (hb : b ≤ 1) (hn : NumP cnt h H) (hH : H ≤ 100) (hs : Split1 cnt nx g h b) : PartG cnt nx g0 h H :=
  ⟨hn, hH, hp.2.2.1.up hs, dist_up hw hp.2.2.1 hp.2.2.2 hb hs⟩
theorem part_0 {cnt : Int} {nx g : Nat → Int} (hc : 0 < cnt) (h01 : Is01 cnt g) (h0 : g 0 = 0) : PartG cnt nx g g 1 := by
  have hm : ∀ n : Nat, ((n + 1 : Nat) : Int) ≤ cnt → mxF g (n + 1) = 1 := by
    intro n
    induction n with
    | zero => intro _; rw [mxF, mxF, if_pos (by omega)]; rfl
    | succ n ih =>
      intro hn
      have h1 := ih (by omega)
      have h2 := h01 (n + 1) (by omega)
      rw [mxF, h1, if_neg (by omega)]
  refine ⟨⟨?_, fun i hi => ?_⟩, by omega, fun i hi => alZ_t.symm, fun i j hi hj h1 h2 h3 => ?_⟩
  · have := hm (cnt.toNat - 1) (by omega)
    rw [show cnt.toNat - 1 + 1 = cnt.toNat by omega] at this
    exact this
  · have h1 := mx_0 g i
    rcases h01 i hi with h | h <;> omega
  · have a1 := (h01 i hi).resolve_right h1
    have a2 := (h01 j hj).resolve_right h2
    omega
def RefPost (σ τ : St) (r : Int) : Prop := (∀ k, k ≠ 4 → k ≠ 8 → k ≠ 9 → k ≠ 10 → τ k = σ k) ∧ (∀ j, j ≠ 6 → j ≠ 8 → τ 4 j = σ 4 j) ∧ σ 4 6 ≤ τ 4 6 ∧ τ 4 6 ≤ σ 4 6 + 20402 ∧ (∀ c : Nat, c < 10201 → 0 ≤ τ 10 c ∧ τ 10 c < τ 4 6 + 101) ∧
  ((r = 1 ∧ PartG (σ 4 7) (σ 7) (σ 8) (τ 8) (τ 4 8) ∧ StabP (σ 4 7) (σ 7) (τ 8)) ∨ (r = 0 ∧ ∃ g G b, PartG (σ 4 7) (σ 7) (σ 8) g G ∧ b ≤ 1 ∧ Many1 (σ 4 7) (σ 7) g b))
def RefI (σ u : St) (x : Int) : Prop := (∀ k, k ≠ 4 → k ≠ 8 → k ≠ 9 → k ≠ 10 → u k = σ k) ∧ (∀ j, j ≠ 6 → j ≠ 8 → u 4 j = σ 4 j) ∧ u 4 6 = σ 4 6 + 202 * x ∧ (∀ c : Nat, c < 10201 → 0 ≤ u 10 c ∧ u 10 c < u 4 6 + 101) ∧ PartG (σ 4 7) (σ 7) (σ 8) (u 8) (u 4 8) ∧ x + 1 ≤ u 4 8
def RefH (σ u v : St) (x : Int) : Prop := (∀ k, k ≠ 4 → k ≠ 8 → k ≠ 9 → k ≠ 10 → v k = σ k) ∧ (∀ j, j ≠ 6 → j ≠ 8 → v 4 j = σ 4 j) ∧ v 4 6 = σ 4 6 + 202 * x + 101 ∧ (∀ c : Nat, c < 10201 → 0 ≤ v 10 c ∧ v 10 c < v 4 6 + 101) ∧ PartG (σ 4 7) (σ 7) (σ 8) (v 8) (v 4 8) ∧ Split1 (σ 4 7) (σ 7) (u 8) (v 8) 0
theorem ref_half {σ u v : St} {x r : Int} (hw : Wire (σ 4 7) (σ 7)) (hx : 0 ≤ x ∧ x ≤ 100) (hu : RefI σ u x) (hp : SplitPost u v 0 r) : (r = 0 → RefPost σ v 0) ∧ (¬ r = 0 → RefH σ u v x) := by
  obtain ⟨h1, h2, h3, h4, h5, h6⟩ := hu
  obtain ⟨p1, p2, p3, p4, p5⟩ := hp
  have e7 : u 7 = σ 7 := h1 7 (by decide) (by decide) (by decide) (by decide)
  have e47 : u 4 7 = σ 4 7 := h2 7 (by decide) (by decide)
  rw [e7, e47] at p5
  have f1 : ∀ k, k ≠ 4 → k ≠ 8 → k ≠ 9 → k ≠ 10 → v k = σ k := fun k k4 k8 k9 k10 => (p1 k k4 k8 k9 k10).trans (h1 k k4 k8 k9 k10)
  have f2 : ∀ j, j ≠ 6 → j ≠ 8 → v 4 j = σ 4 j := fun j j6 j8 => (p2 j j6 j8).trans (h2 j j6 j8)
  constructor
  · intro hr
    refine ⟨f1, f2, by omega, by omega, p4, Or.inr ⟨rfl, u 8, u 4 8, 0, h5, by omega, ?_⟩⟩
    rcases p5 with p5 | p5
    · omega
    · exact p5.2
  · intro hr
    have q := p5.resolve_right (fun q => hr q.1)
    exact ⟨f1, f2, by omega, p4, h5.up hw (by omega) q.2.1 q.2.2.1 q.2.2.2, q.2.2.2⟩
theorem ref_full {σ u v w : St} {x r : Int} (hc : 0 ≤ σ 4 7) (hw : Wire (σ 4 7) (σ 7)) (hx : 0 ≤ x ∧ x ≤ 100) (hu : RefI σ u x) (hv : RefH σ u v x) (hp : SplitPost v w 1 r) : (r = 0 → RefPost σ w 0) ∧ (¬ r = 0 → w 4 8 = u 4 8 → RefPost σ w 1) ∧ (¬ r = 0 → ¬ w 4 8 = u 4 8 → RefI σ w (x + 1)) := by
  obtain ⟨h1, h2, h3, h4, h5, h6⟩ := hv
  obtain ⟨p1, p2, p3, p4, p5⟩ := hp
  have e7 : v 7 = σ 7 := h1 7 (by decide) (by decide) (by decide) (by decide)
  have e47 : v 4 7 = σ 4 7 := h2 7 (by decide) (by decide)
  rw [e7, e47] at p5
  have f1 : ∀ k, k ≠ 4 → k ≠ 8 → k ≠ 9 → k ≠ 10 → w k = σ k := fun k k4 k8 k9 k10 => (p1 k k4 k8 k9 k10).trans (h1 k k4 k8 k9 k10)
  have f2 : ∀ j, j ≠ 6 → j ≠ 8 → w 4 j = σ 4 j := fun j j6 j8 => (p2 j j6 j8).trans (h2 j j6 j8)
  refine ⟨fun hr => ?_, fun hr he => ?_, fun hr he => ?_⟩
  · refine ⟨f1, f2, by omega, by omega, p4, Or.inr ⟨rfl, v 8, v 4 8, 1, h5, by omega, ?_⟩⟩
    rcases p5 with p5 | p5
    · omega
    · exact p5.2
  · have q := p5.resolve_right (fun q => hr q.1)
    refine ⟨f1, f2, by omega, by omega, p4, Or.inl ⟨rfl, h5.up hw (by decide) q.2.1 q.2.2.1 q.2.2.2, ?_⟩⟩
    rw [he] at q
    exact stab_of hc hw hu.2.2.2.2.1.1 h5.1 q.2.1 h6 q.2.2.2
  · have q := p5.resolve_right (fun q => hr q.1)
    have l1 := num_le hc hu.2.2.2.2.1.1 h5.1 h6.fine h6.1
    have l2 := num_le hc h5.1 q.2.1 q.2.2.2.fine q.2.2.2.1
    have l3 := hu.2.2.2.2.2
    exact ⟨f1, f2, by omega, p4, h5.up hw (by decide) q.2.1 q.2.2.1 q.2.2.2, by omega⟩
def s_K_refine : Spec := fun as σ Q => popR as fun c0 r0 => r0 = [] ∧ c0 = 4 ∧ (0 < σ 4 7 ∧ σ 4 7 ≤ 2816) ∧ (Wire (σ 4 7) (σ 7)) ∧ (Is01 (σ 4 7) (σ 8)) ∧ (σ 8 0 = 0) ∧ (σ 4 8 = 1) ∧ (0 ≤ σ 4 6 ∧ σ 4 6 ≤ 900000) ∧ (∀ c : Nat, c < 10201 → 0 ≤ σ 10 c ∧ σ 10 c < σ 4 6 + 101) ∧ ∀ τ r, RefPost σ τ r → Q (some (.inl r)) τ
theorem e_K_refine  (σ : St) (Q : Option AV → St → Prop) : s_K_refine [.inr (.inr (some 4))] σ Q = ((0 < σ 4 7 ∧ σ 4 7 ≤ 2816) ∧ (Wire (σ 4 7) (σ 7)) ∧ (Is01 (σ 4 7) (σ 8)) ∧ (σ 8 0 = 0) ∧ (σ 4 8 = 1) ∧ (0 ≤ σ 4 6 ∧ σ 4 6 ≤ 900000) ∧ (∀ c : Nat, c < 10201 → 0 ≤ σ 10 c ∧ σ 10 c < σ 4 6 + 101) ∧ ∀ τ r, RefPost σ τ r → Q (some (.inl r)) τ) := by
  show ([] = [] ∧ _) = _
  simp only [true_and]
set_option maxHeartbeats 4000000 in
set_option maxRecDepth 20000 in
theorem S_K_refine {l : Launch} : Sat l y_K_refine b_K_refine 3 (some .boolean) 2 s_K_refine := by
  refine sat_of (Φ := P_K) (κ := Q_K) (Γ := [(81, 5, 1, s_K_split)]) (rt := 3) (by decide +kernel) P_K_ok Q_K_ok (by
    refine List.forall_mem_cons.mpr ⟨?_, fun _ h => absurd h List.not_mem_nil⟩
    · exact m_K_split S_K_split (by decide) l_K_81) (by simp) o_K_refine ?_
  intro as σ Q hh0
  obtain ⟨c0, rr0, rfl, hh1⟩ := popR_inv hh0
  obtain ⟨hrE, rfl, hf, hw, hg, h0, hG, hB, hT, hQ⟩ := hh1
  subst hrE
  clear hh0
  refine ⟨Nat.le_of_ble_eq_true rfl, [(2, mkC (fun L st u => ∃ (x : Int) (v2 : AV), L = [.inr (.inr (some 4)), .inl x, v2] ∧ st = [] ∧ (0 ≤ x ∧ x ≤ 101) ∧ (RefI σ u x)) (fun L st u => ((102 - gI L 1).toNat, 0, 0)))], 14, ?_, cuts1 ?_ (cuts0)⟩
  · rw [show entL 3 [.inr (.inr (some 4))] = [.inr (.inr (some 4)), .inr (.inr none), .inr (.inr none)] from rfl]
    simp only [↓wpN_go, jmp_e, ↓wp_aload_n0, ↓wp_bipush, ↓wp_getfield, ↓wp_goto, ↓wp_icmp_gt, ↓wp_icmp_ne, ↓wp_iconst, ↓wp_if_eq, ↓wp_if_ne, ↓wp_iinc, ↓wp_iload_n1, ↓wp_iload_n2, ↓wp_invokevirtual, ↓wp_ireturn3, ↓wp_istore_n1, ↓wp_istore_n2, wp_nil, ↓ldI_0, ↓ldI_s, ↓ldL_0, ↓ldL_s, ↓ldR_0, ↓ldR_s, sto1_0, sto1_1, sto1_s, sto2_0, sto2_1, sto2_s, isLong_i, isLong_l, isLong_r, ↓popI_c, ↓popL_c, ↓popR_c, ↓popN_0, ↓popN_s, catS_n, catS_c, psh_s, psh_n, fldV_n, fldV_s, ↓tgt_e, sw_n, ↓sw_c, ↓lk1_h, ↓lk1_m, ↓atC_h, ↓atC_m, ↓atC_n, ltO_n, ltO_s, updR_eq, updR_ne, gI_0i, gI_0l, gI_s, ltM_iff, List.cons.injEq, Sum.inl.injEq, Sum.inr.injEq, Option.some.injEq, exists_eq_left, exists_eq_left', exists_eq_right, exists_eq_right', exists_and_left, exists_and_right, exists_eq, exists_const, and_assoc, ↓j_K_refine_0, ↓j_K_refine_2, ↓j_K_refine_29, ↓j_K_refine_31, ↓j_K_refine_41, ↓j_K_refine_47, ↓f_K_39, List.length_cons, List.length_nil, Nat.zero_add, Nat.reduceAdd, Int.reduceAdd, Int.reduceNeg, Int.reduceToNat, Int.reduceLE, Int.reduceLT, true_and, and_true, Nat.reduceLT, reduceIte, Nat.reduceEqDiff, ne_eq, not_false_eq_true, false_implies, true_implies, Bool.false_eq_true, reduceCtorEq, List.cons_append, List.nil_append, Nat.reduceSub, Nat.reduceLeDiff, Fin.isValue, Int.reduceNatCast', Int.zero_add, Int.add_zero, decide_true, decide_false, implies_true, forall_const, true_or, or_true, or_false, false_or, false_and, and_false, Int.toNat_natCast, ↓oF_4_0, ↓aF_5, ↓oF_4_1, ↓aF_6, ↓oF_4_2, ↓aF_7, ↓oF_4_3, ↓aF_8, ↓oF_4_4, ↓aF_9, ↓oF_4_5, ↓aF_10, ↓oF_4_6, ↓oF_4_7, ↓oF_4_8, oC_0, oC_1, oC_4, oC_11, oC_16, oC_18, oC_20, oC_23, oC_25, oC_26, oC_29, oC_31, oC_33, oC_35, oC_37, isT_29, isT_31, isT_33, isT_35, isL_16, isL_18, isL_26, ↓e_K_split]
    have hI : RefI σ σ 0 := ⟨fun _ _ _ _ _ => rfl, fun _ _ _ => rfl, by omega, hT, by rw [hG]; exact part_0 hf.1 hg h0, by omega⟩
    (try simp only [rI_iff, rL_iff] at *)
    repeat' (with_reducible (first | assumption | apply And.intro | intro _))
    all_goals first | omega | with_reducible assumption | exact True.intro | skip
    all_goals first
      | exact hI
      | exact ⟨_, hI⟩
  · intro L st u hI
    obtain ⟨x, v2, rfl, rfl, hi, hu⟩ := hI
    simp only [↓wpN_go, jmp_e, ↓wp_aload_n0, ↓wp_bipush, ↓wp_getfield, ↓wp_goto, ↓wp_icmp_gt, ↓wp_icmp_ne, ↓wp_iconst, ↓wp_if_eq, ↓wp_if_ne, ↓wp_iinc, ↓wp_iload_n1, ↓wp_iload_n2, ↓wp_invokevirtual, ↓wp_ireturn3, ↓wp_istore_n1, ↓wp_istore_n2, wp_nil, ↓ldI_0, ↓ldI_s, ↓ldL_0, ↓ldL_s, ↓ldR_0, ↓ldR_s, sto1_0, sto1_1, sto1_s, sto2_0, sto2_1, sto2_s, isLong_i, isLong_l, isLong_r, ↓popI_c, ↓popL_c, ↓popR_c, ↓popN_0, ↓popN_s, catS_n, catS_c, psh_s, psh_n, fldV_n, fldV_s, ↓tgt_e, sw_n, ↓sw_c, ↓lk1_h, ↓lk1_m, ↓atC_h, ↓atC_m, ↓atC_n, ltO_n, ltO_s, updR_eq, updR_ne, gI_0i, gI_0l, gI_s, ltM_iff, List.cons.injEq, Sum.inl.injEq, Sum.inr.injEq, Option.some.injEq, exists_eq_left, exists_eq_left', exists_eq_right, exists_eq_right', exists_and_left, exists_and_right, exists_eq, exists_const, and_assoc, ↓j_K_refine_0, ↓j_K_refine_2, ↓j_K_refine_29, ↓j_K_refine_31, ↓j_K_refine_41, ↓j_K_refine_47, ↓f_K_39, List.length_cons, List.length_nil, Nat.zero_add, Nat.reduceAdd, Int.reduceAdd, Int.reduceNeg, Int.reduceToNat, Int.reduceLE, Int.reduceLT, true_and, and_true, Nat.reduceLT, reduceIte, Nat.reduceEqDiff, ne_eq, not_false_eq_true, false_implies, true_implies, Bool.false_eq_true, reduceCtorEq, List.cons_append, List.nil_append, Nat.reduceSub, Nat.reduceLeDiff, Fin.isValue, Int.reduceNatCast', Int.zero_add, Int.add_zero, decide_true, decide_false, implies_true, forall_const, true_or, or_true, or_false, false_or, false_and, and_false, Int.toNat_natCast, ↓oF_4_0, ↓aF_5, ↓oF_4_1, ↓aF_6, ↓oF_4_2, ↓aF_7, ↓oF_4_3, ↓aF_8, ↓oF_4_4, ↓aF_9, ↓oF_4_5, ↓aF_10, ↓oF_4_6, ↓oF_4_7, ↓oF_4_8, oC_0, oC_1, oC_4, oC_11, oC_16, oC_18, oC_20, oC_23, oC_25, oC_26, oC_29, oC_31, oC_33, oC_35, oC_37, isT_29, isT_31, isT_33, isT_35, isL_16, isL_18, isL_26, ↓e_K_split]
    have e7 := hu.1 7 (by decide) (by decide) (by decide) (by decide)
    have e47 := hu.2.1 7 (by decide) (by decide)
    have e46 := hu.2.2.1
    have ht := hu.2.2.2.1
    have hgr := hu.2.2.2.2.1.grr
    have hG2 := hu.2.2.2.2.1.2.1
    have hG1 := hu.2.2.2.2.2
    have hsr : ∀ w v b r, SplitPost w v b r → r = 0 ∨ r = 1 := fun w v b r h => by
      rcases h.2.2.2.2 with h | h
      · exact Or.inr h.1
      · exact Or.inl h.1
    have hsG : ∀ w v b r, SplitPost w v b r → ¬ r = 0 → 0 ≤ v 4 8 ∧ v 4 8 ≤ 100 := fun w v b r h h0 => by
      have q := h.2.2.2.2.resolve_right (fun q => h0 q.1)
      have := mx_0 (v 8) (w 4 7).toNat
      rw [q.2.1.1] at this
      exact ⟨this, q.2.2.1⟩
    have q1 : x ≤ 100 → ∀ v r, SplitPost u v 0 r → r = 0 → Q (some (.inl 0)) v := fun hx v r h h0 => hQ _ _ ((ref_half hw ⟨hi.1, hx⟩ hu h).1 h0)
    have q2 : x ≤ 100 → ∀ v r, SplitPost u v 0 r → ¬ r = 0 → RefH σ u v x := fun hx v r h h0 => (ref_half hw ⟨hi.1, hx⟩ hu h).2 h0
    have q3 : x ≤ 100 → ∀ v r, SplitPost u v 0 r → ¬ r = 0 → v 4 7 = σ 4 7 ∧ v 7 = σ 7 ∧ GrR (σ 4 7) (v 8) ∧ 0 ≤ v 4 6 ∧ v 4 6 ≤ 1000000 ∧ ∀ c : Nat, c < 10201 → 0 ≤ v 10 c ∧ v 10 c < v 4 6 + 101 := fun hx v r h h0 => by
      have h1 := q2 hx v r h h0
      have h2 := h1.2.2.1
      exact ⟨h1.2.1 7 (by decide) (by decide), h1.1 7 (by decide) (by decide) (by decide) (by decide), h1.2.2.2.2.1.grr, by omega, by omega, h1.2.2.2.1⟩
    have q4 : x ≤ 100 → ∀ v r, SplitPost u v 0 r → ¬ r = 0 → ∀ w r1, SplitPost v w 1 r1 → (r1 = 0 → Q (some (.inl 0)) w) ∧ (¬ r1 = 0 → w 4 8 = u 4 8 → Q (some (.inl 1)) w) ∧ (¬ r1 = 0 → ¬ w 4 8 = u 4 8 → RefI σ w (x + 1)) := fun hx v r h h0 w r1 h1 => by
      have h2 := ref_full (by omega) hw ⟨hi.1, hx⟩ hu (q2 hx v r h h0) h1
      exact ⟨fun h3 => hQ _ _ (h2.1 h3), fun h3 h4 => hQ _ _ (h2.2.1 h3 h4), h2.2.2⟩
    clear hQ
    simp only [e7, e47]
    (try simp only [rI_iff, rL_iff] at *)
    repeat' (with_reducible (first | assumption | apply And.intro | intro _))
    all_goals first | omega | with_reducible assumption | exact True.intro | skip
    all_goals first
      | (have hs1 := hsr _ _ _ _ (by assumption); omega)
      | (have hs1 := hsG _ _ _ _ (by assumption) (by assumption); omega)
      | exact (ht _ (by assumption)).1
      | exact (ht _ (by assumption)).2
      | exact q1 (by assumption) _ _ (by assumption) (by assumption)
      | exact (q4 (by assumption) _ _ (by assumption) (by assumption) _ _ (by assumption)).1 (by assumption)
      | exact (q4 (by assumption) _ _ (by assumption) (by assumption) _ _ (by assumption)).2.1 (by assumption) (by assumption)
      | exact ⟨_, (q4 (by assumption) _ _ (by assumption) (by assumption) _ _ (by assumption)).2.2 (by assumption) (by assumption)⟩
      | exact (q4 (by assumption) _ _ (by assumption) (by assumption) _ _ (by assumption)).2.2 (by assumption) (by assumption)
      | (obtain ⟨g1, g2, g3, g4, g5, g6⟩ := q3 (by assumption) _ _ (by assumption) (by assumption)
         first
           | omega
           | exact (g6 _ (by assumption)).1
           | exact (g6 _ (by assumption)).2
           | (rw [g1]; exact g3)
           | (rw [g1, g2]; exact hw))
