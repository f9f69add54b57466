/-! ladders -/
def ladV (f : Nat → Int) (r s : Int) : Int := if 0 ≤ r ∧ r < 61 ∧ 0 ≤ s ∧ s < 100 then f (r * 100 + s).toNat else 0
def Climbed (N : Int) (f w : Nat → Int) (top : Int) (g : Nat → Int) : Prop := ∀ r : Nat, (r : Int) ≤ top → r < 61 → ∀ s : Nat, (s : Int) < N → g (r * 100 + s) = ladI N f w r s
theorem isL_cases {o : Nat} (h : isL o) : o = 16 ∨ o = 18 ∨ o = 26 := by
  have h1 : o < 67 := (List.getElem?_eq_some_iff.mp h.1).1
  have h2 : (List.range 67).all (fun o => !(decide (SH[o]? = some (.inl (3, [some (o + 1)])))) || (o == 16 || (o == 18 || o == 26))) = true := by decide +kernel
  have h3 := List.all_eq_true.mp h2 o (List.mem_range.mpr h1)
  simpa [h.1] using h3
theorem updR_L11 {o : Nat} (h : isL o) (σ : St) (f : Nat → Int) : updR σ (o + 1) f 11 = σ 11 := updR_ne _ _ _ _ (by have := isL_cases h; omega)
theorem updR_L12 {o : Nat} (h : isL o) (σ : St) (f : Nat → Int) : updR σ (o + 1) f 12 = σ 12 := updR_ne _ _ _ _ (by have := isL_cases h; omega)
theorem ladI_out {N : Int} {f w : Nat → Int} {r : Nat} {s : Int} (h : ¬ (0 ≤ s ∧ s < N)) : ladI N f w r s = 0 := by
  cases r <;> exact if_neg h
theorem lad_at {N : Int} {f w g : Nat → Int} {r : Nat} (hN : N ≤ 100) (hr : r < 61) (h : ∀ s : Nat, (s : Int) < N → g (r * 100 + s) = ladI N f w r s) {t : Int} (ht : t < N ∨ t = -1) : ladV g r t = ladI N f w r t := by
  unfold ladV
  by_cases h1 : 0 ≤ t ∧ t < N
  · rw [if_pos (by omega)]
    have := h t.toNat (by omega)
    rw [show ((r : Int) * 100 + t).toNat = r * 100 + t.toNat by omega, this, Int.toNat_of_nonneg h1.1]
  · rw [if_neg (by omega), ladI_out h1]
def s_L_at : Spec := fun as σ Q => popR as fun o r0 => popI r0 fun r r1 => popI r1 fun s r2 => r2 = [] ∧ (isL o) ∧ (rI r) ∧ (rI s) ∧ Q (some (.inr (.inl (ladV (σ (o + 1)) r s)))) σ
theorem e_L_at (o : Nat) (r : Int) (s : Int) (σ : St) (Q : Option AV → St → Prop) : s_L_at [.inr (.inr (some o)), .inl r, .inl s] σ Q = ((isL o) ∧ (rI r) ∧ (rI s) ∧ Q (some (.inr (.inl (ladV (σ (o + 1)) r s)))) σ) := by
  show ([] = [] ∧ _) = _
  simp only [true_and]
set_option maxHeartbeats 4000000 in
set_option maxRecDepth 20000 in
theorem S_L_at {l : Launch} : Sat l y_L_at b_L_at 3 (some .long) 0 s_L_at := by
  refine sat_of (Φ := P_L) (κ := Q_L) (Γ := []) (rt := 2) (by decide +kernel) P_L_ok Q_L_ok (fun g hg => absurd hg List.not_mem_nil) (by simp) o_L_at ?_
  intro as σ Q hh0
  obtain ⟨o, rr0, rfl, hh1⟩ := popR_inv hh0
  obtain ⟨r, rr1, rfl, hh2⟩ := popI_inv hh1
  obtain ⟨s, rr2, rfl, hh3⟩ := popI_inv hh2
  obtain ⟨hrE, hL, hr, hs, hQ⟩ := hh3
  subst hrE
  clear hh0 hh1 hh2
  refine ⟨Nat.le_of_ble_eq_true rfl, [], 14, ?_, cuts0⟩
  · rw [show entL 3 [.inr (.inr (some o)), .inl r, .inl s] = [.inr (.inr (some o)), .inl r, .inl s] from rfl]
    simp only [↓wpN_go, jmp_e, ↓wp_aload_n0, ↓wp_bipush, ↓wp_getfield, ↓wp_iadd, ↓wp_icmp_ge, ↓wp_icmp_lt, ↓wp_if_lt, ↓wp_iload_n1, ↓wp_iload_n2, ↓wp_imul, ↓wp_laload, ↓wp_lconst0, ↓wp_lreturn2, wp_nil, ↓ldI_0, ↓ldI_s, ↓ldL_0, ↓ldL_s, ↓ldR_0, ↓ldR_s, sto1_0, sto1_1, sto1_s, sto2_0, sto2_1, sto2_s, isLong_i, isLong_l, isLong_r, ↓popI_c, ↓popL_c, ↓popR_c, ↓popN_0, ↓popN_s, catS_n, catS_c, psh_s, psh_n, fldV_n, fldV_s, ↓tgt_e, sw_n, ↓sw_c, ↓lk1_h, ↓lk1_m, ↓atC_h, ↓atC_m, ↓atC_n, ltO_n, ltO_s, updR_eq, updR_ne, gI_0i, gI_0l, gI_s, ltM_iff, List.cons.injEq, Sum.inl.injEq, Sum.inr.injEq, Option.some.injEq, exists_eq_left, exists_eq_left', exists_eq_right, exists_eq_right', exists_and_left, exists_and_right, exists_eq, exists_const, and_assoc, ↓j_L_at_0, ↓j_L_at_20, ↓j_L_at_22, ↓f_L_11, List.length_cons, List.length_nil, Nat.zero_add, Nat.reduceAdd, Int.reduceAdd, Int.reduceNeg, Int.reduceToNat, Int.reduceLE, Int.reduceLT, true_and, and_true, Nat.reduceLT, reduceIte, Nat.reduceEqDiff, ne_eq, not_false_eq_true, false_implies, true_implies, Bool.false_eq_true, reduceCtorEq, List.cons_append, List.nil_append, Nat.reduceSub, Nat.reduceLeDiff, Fin.isValue, Int.reduceNatCast', Int.zero_add, Int.add_zero, decide_true, decide_false, implies_true, forall_const, true_or, or_true, or_false, false_or, false_and, and_false, Int.toNat_natCast, oC_0, oC_1, oC_4, oC_11, oC_16, oC_18, oC_20, oC_23, oC_25, oC_26, oC_29, oC_31, oC_33, oC_35, oC_37, isT_29, isT_31, isT_33, isT_35, isL_16, isL_18, isL_26, ↓hL.f0, ↓hL.a, hL.c, updR_o1, updR_o2, eq_true hL, updR_L11 hL, updR_L12 hL]
    (try simp only [rI_iff, rL_iff] at *)
    repeat' (first | assumption | apply And.intro | intro _)
    all_goals first
      | omega
      | (refine st_ext fun k j => ?_; grind [updR_app, up1_app, ladV])
      | (refine Q_eq hQ ?_ ?_ <;> first | rfl | (refine st_ext fun k j => ?_; grind [updR_app, up1_app, ladV]) | grind [updR_app, up1_app, ladV])
      | grind [updR_app, up1_app, ladV]
def s_L_set : Spec := fun as σ Q => popR as fun o r0 => popI r0 fun s r1 => popL r1 fun z r2 => r2 = [] ∧ (isL o) ∧ (rI s) ∧ Q none (if 0 ≤ s ∧ s < 100 then updR σ (o + 1) (up1 (σ (o + 1)) s.toNat z) else σ)
theorem e_L_set (o : Nat) (s : Int) (z : Int) (σ : St) (Q : Option AV → St → Prop) : s_L_set [.inr (.inr (some o)), .inl s, .inr (.inl z)] σ Q = ((isL o) ∧ (rI s) ∧ Q none (if 0 ≤ s ∧ s < 100 then updR σ (o + 1) (up1 (σ (o + 1)) s.toNat z) else σ)) := by
  show ([] = [] ∧ _) = _
  simp only [true_and]
set_option maxHeartbeats 4000000 in
set_option maxRecDepth 20000 in
theorem S_L_set {l : Launch} : Sat l y_L_set b_L_set 4 none 0 s_L_set := by
  refine sat_of (Φ := P_L) (κ := Q_L) (Γ := []) (rt := 0) (by decide +kernel) P_L_ok Q_L_ok (fun g hg => absurd hg List.not_mem_nil) (by simp) o_L_set ?_
  intro as σ Q hh0
  obtain ⟨o, rr0, rfl, hh1⟩ := popR_inv hh0
  obtain ⟨s, rr1, rfl, hh2⟩ := popI_inv hh1
  obtain ⟨z, rr2, rfl, hh3⟩ := popL_inv hh2
  obtain ⟨hrE, hL, hs, hQ⟩ := hh3
  subst hrE
  clear hh0 hh1 hh2
  refine ⟨Nat.le_of_ble_eq_true rfl, [], 14, ?_, cuts0⟩
  · rw [show entL 4 [.inr (.inr (some o)), .inl s, .inr (.inl z)] = [.inr (.inr (some o)), .inl s, .inr (.inl z), .inr (.inr none)] from rfl]
    simp only [↓wpN_go, jmp_e, ↓wp_aload_n0, ↓wp_bipush, ↓wp_getfield, ↓wp_icmp_ge, ↓wp_if_lt, ↓wp_iload_n1, ↓wp_lastore, ↓wp_lload_n2, ↓wp_return0, wp_nil, ↓ldI_0, ↓ldI_s, ↓ldL_0, ↓ldL_s, ↓ldR_0, ↓ldR_s, sto1_0, sto1_1, sto1_s, sto2_0, sto2_1, sto2_s, isLong_i, isLong_l, isLong_r, ↓popI_c, ↓popL_c, ↓popR_c, ↓popN_0, ↓popN_s, catS_n, catS_c, psh_s, psh_n, fldV_n, fldV_s, ↓tgt_e, sw_n, ↓sw_c, ↓lk1_h, ↓lk1_m, ↓atC_h, ↓atC_m, ↓atC_n, ltO_n, ltO_s, updR_eq, updR_ne, gI_0i, gI_0l, gI_s, ltM_iff, List.cons.injEq, Sum.inl.injEq, Sum.inr.injEq, Option.some.injEq, exists_eq_left, exists_eq_left', exists_eq_right, exists_eq_right', exists_and_left, exists_and_right, exists_eq, exists_const, and_assoc, ↓j_L_set_0, ↓j_L_set_17, ↓f_L_11, List.length_cons, List.length_nil, Nat.zero_add, Nat.reduceAdd, Int.reduceAdd, Int.reduceNeg, Int.reduceToNat, Int.reduceLE, Int.reduceLT, true_and, and_true, Nat.reduceLT, reduceIte, Nat.reduceEqDiff, ne_eq, not_false_eq_true, false_implies, true_implies, Bool.false_eq_true, reduceCtorEq, List.cons_append, List.nil_append, Nat.reduceSub, Nat.reduceLeDiff, Fin.isValue, Int.reduceNatCast', Int.zero_add, Int.add_zero, decide_true, decide_false, implies_true, forall_const, true_or, or_true, or_false, false_or, false_and, and_false, Int.toNat_natCast, oC_0, oC_1, oC_4, oC_11, oC_16, oC_18, oC_20, oC_23, oC_25, oC_26, oC_29, oC_31, oC_33, oC_35, oC_37, isT_29, isT_31, isT_33, isT_35, isL_16, isL_18, isL_26, ↓hL.f0, ↓hL.a, hL.c, updR_o1, updR_o2, eq_true hL, updR_L11 hL, updR_L12 hL]
    (try simp only [rI_iff, rL_iff] at *)
    repeat' (first | assumption | apply And.intro | intro _)
    all_goals first
      | omega
      | (refine st_ext fun k j => ?_; grind [updR_app, up1_app])
      | (refine Q_eq hQ ?_ ?_ <;> first | rfl | (refine st_ext fun k j => ?_; grind [updR_app, up1_app]) | grind [updR_app, up1_app])
      | grind [updR_app, up1_app]
def s_L_setAll : Spec := fun as σ Q => popR as fun o r0 => popL r0 fun z r1 => r1 = [] ∧ (isL o) ∧ Q none (updR σ (o + 1) (fillF (σ (o + 1)) 0 100 z))
theorem e_L_setAll (o : Nat) (z : Int) (σ : St) (Q : Option AV → St → Prop) : s_L_setAll [.inr (.inr (some o)), .inr (.inl z)] σ Q = ((isL o) ∧ Q none (updR σ (o + 1) (fillF (σ (o + 1)) 0 100 z))) := by
  show ([] = [] ∧ _) = _
  simp only [true_and]
set_option maxHeartbeats 4000000 in
set_option maxRecDepth 20000 in
theorem S_L_setAll {l : Launch} : Sat l y_L_setAll b_L_setAll 3 none 2 s_L_setAll := by
  refine sat_of (Φ := P_L) (κ := Q_L) (Γ := [(15, 0, 4, s_JA_fillL)]) (rt := 0) (by decide +kernel) P_L_ok Q_L_ok (by
    refine List.forall_mem_cons.mpr ⟨?_, fun _ h => absurd h List.not_mem_nil⟩
    · exact m_JA_fillL S_JA_fillL (by decide) l_L_15) (by simp) o_L_setAll ?_
  intro as σ Q hh0
  obtain ⟨o, rr0, rfl, hh1⟩ := popR_inv hh0
  obtain ⟨z, rr1, rfl, hh2⟩ := popL_inv hh1
  obtain ⟨hrE, hL, hQ⟩ := hh2
  subst hrE
  clear hh0 hh1
  refine ⟨Nat.le_of_ble_eq_true rfl, [], 14, ?_, cuts0⟩
  · rw [show entL 3 [.inr (.inr (some o)), .inr (.inl z)] = [.inr (.inr (some o)), .inr (.inl z), .inr (.inr none)] from rfl]
    simp only [↓wpN_go, jmp_e, ↓wp_aload_n0, ↓wp_bipush, ↓wp_getfield, ↓wp_iconst, ↓wp_invokestatic, ↓wp_lload_n1, ↓wp_return0, wp_nil, ↓ldI_0, ↓ldI_s, ↓ldL_0, ↓ldL_s, ↓ldR_0, ↓ldR_s, sto1_0, sto1_1, sto1_s, sto2_0, sto2_1, sto2_s, isLong_i, isLong_l, isLong_r, ↓popI_c, ↓popL_c, ↓popR_c, ↓popN_0, ↓popN_s, catS_n, catS_c, psh_s, psh_n, fldV_n, fldV_s, ↓tgt_e, sw_n, ↓sw_c, ↓lk1_h, ↓lk1_m, ↓atC_h, ↓atC_m, ↓atC_n, ltO_n, ltO_s, updR_eq, updR_ne, gI_0i, gI_0l, gI_s, ltM_iff, List.cons.injEq, Sum.inl.injEq, Sum.inr.injEq, Option.some.injEq, exists_eq_left, exists_eq_left', exists_eq_right, exists_eq_right', exists_and_left, exists_and_right, exists_eq, exists_const, and_assoc, ↓j_L_setAll_0, ↓f_L_11, List.length_cons, List.length_nil, Nat.zero_add, Nat.reduceAdd, Int.reduceAdd, Int.reduceNeg, Int.reduceToNat, Int.reduceLE, Int.reduceLT, true_and, and_true, Nat.reduceLT, reduceIte, Nat.reduceEqDiff, ne_eq, not_false_eq_true, false_implies, true_implies, Bool.false_eq_true, reduceCtorEq, List.cons_append, List.nil_append, Nat.reduceSub, Nat.reduceLeDiff, Fin.isValue, Int.reduceNatCast', Int.zero_add, Int.add_zero, decide_true, decide_false, implies_true, forall_const, true_or, or_true, or_false, false_or, false_and, and_false, Int.toNat_natCast, oC_0, oC_1, oC_4, oC_11, oC_16, oC_18, oC_20, oC_23, oC_25, oC_26, oC_29, oC_31, oC_33, oC_35, oC_37, isT_29, isT_31, isT_33, isT_35, isL_16, isL_18, isL_26, ↓hL.f0, ↓hL.a, hL.c, updR_o1, updR_o2, eq_true hL, updR_L11 hL, updR_L12 hL, ↓e_JA_fillL]
    (try simp only [rI_iff, rL_iff] at *)
    repeat' (first | assumption | apply And.intro | intro _)
    all_goals first
      | omega
      | (refine st_ext fun k j => ?_; grind [updR_app, up1_app])
      | (refine Q_eq hQ ?_ ?_ <;> first | rfl | (refine st_ext fun k j => ?_; grind [updR_app, up1_app]) | grind [updR_app, up1_app])
      | grind [updR_app, up1_app]
theorem lad_climb {N : Int} {f w g : Nat → Int} {r s : Int} (hN : N ≤ 100) (hf : ∀ π : Nat, (π : Int) < 2 * N → -1 ≤ f π ∧ f π < N) (hr : 1 ≤ r ∧ r ≤ 60) (hs : 0 ≤ s ∧ s < N) (h : Climbed N f w (r - 1) g) :
    ladV g (r - 1) (stepZ N f s 0) + ladV g (r - 1) (stepZ N f s 1) = ladI N f w r.toNat s := by
  obtain ⟨n, rfl⟩ : ∃ n : Nat, r = n + 1 := ⟨(r - 1).toNat, by omega⟩
  have e1 : (n : Int) + 1 - 1 = n := by omega
  rw [e1] at h ⊢
  rw [lad_at hN (by omega) (fun s hs => h n (by omega) (by omega) s hs) (stepZ_r hN hf s 0).2, lad_at hN (by omega) (fun s hs => h n (by omega) (by omega) s hs) (stepZ_r hN hf s 1).2]
  rw [show ((n : Int) + 1).toNat = n + 1 by omega, ladI, if_pos hs]
theorem climbed_0 {N : Int} {f w g : Nat → Int} (hg : ∀ s : Nat, s < 100 → g s = w s) (hN : N ≤ 100) : Climbed N f w (1 - 1) g := by
  intro r hr hr2 s hs
  have : r = 0 := by omega
  subst this
  rw [Nat.zero_mul, Nat.zero_add, hg s (by omega), ladI, if_pos ⟨by omega, hs⟩, Int.toNat_natCast]
theorem climbed_s {N : Int} {f w g : Nat → Int} {r : Int} (hr : 1 ≤ r) (h : Climbed N f w (r - 1) g) (h2 : ∀ t : Nat, (t : Int) < N → g (r.toNat * 100 + t) = ladI N f w r.toNat t) : Climbed N f w r g := by
  intro q hq hq2 s hs
  by_cases h3 : (q : Int) ≤ r - 1
  · exact h q h3 hq2 s hs
  · have : q = r.toNat := by omega
    subst this
    exact h2 s hs
theorem climbed_le {N : Int} {f w g : Nat → Int} {r r2 : Int} (h : Climbed N f w r g) (h2 : r2 ≤ r ∨ 60 ≤ r) : Climbed N f w r2 g := fun q hq hq2 s hs => h q (by omega) hq2 s hs
theorem climbed_up {N : Int} {f w g : Nat → Int} {r s z : Int} (hN : N ≤ 100) (hr : 1 ≤ r) (hs : 0 ≤ s) (h : Climbed N f w (r - 1) g) : Climbed N f w (r - 1) (up1 g (r * 100 + s).toNat z) := by
  intro q hq hq2 t ht
  rw [up1_app, if_neg (by omega)]
  exact h q hq hq2 t ht
def s_L_climb : Spec := fun as σ Q => popR as fun o r0 => popR r0 fun c1 r1 => popI r1 fun top r2 => r2 = [] ∧ c1 = 11 ∧ (isL o) ∧ (0 ≤ σ 11 4 ∧ σ 11 4 ≤ 100) ∧ (Wire (σ 11 4) (σ 12)) ∧ (0 ≤ top ∧ rI top) ∧ ∀ g, (∀ s : Nat, s < 100 → g s = σ (o + 1) s) → Climbed (σ 11 4) (σ 12) (σ (o + 1)) top g → Q none (updR σ (o + 1) g)
theorem e_L_climb (o : Nat) (top : Int) (σ : St) (Q : Option AV → St → Prop) : s_L_climb [.inr (.inr (some o)), .inr (.inr (some 11)), .inl top] σ Q = ((isL o) ∧ (0 ≤ σ 11 4 ∧ σ 11 4 ≤ 100) ∧ (Wire (σ 11 4) (σ 12)) ∧ (0 ≤ top ∧ rI top) ∧ ∀ g, (∀ s : Nat, s < 100 → g s = σ (o + 1) s) → Climbed (σ 11 4) (σ 12) (σ (o + 1)) top g → Q none (updR σ (o + 1) g)) := by
  show ([] = [] ∧ _) = _
  simp only [true_and]
set_option maxHeartbeats 4000000 in
set_option maxRecDepth 20000 in
theorem S_L_climb {l : Launch} : Sat l y_L_climb b_L_climb 5 none 2 s_L_climb := by
  refine sat_of (Φ := P_L) (κ := Q_L) (Γ := [(21, 8, 0, s_W_size), (27, 8, 2, s_W_step), (31, 4, 2, s_L_at)]) (rt := 0) (by decide +kernel) P_L_ok Q_L_ok (by
    refine List.forall_mem_cons.mpr ⟨?_, List.forall_mem_cons.mpr ⟨?_, List.forall_mem_cons.mpr ⟨?_, fun _ h => absurd h List.not_mem_nil⟩⟩⟩
    · exact m_W_size S_W_size (by decide) l_L_21
    · exact m_W_step S_W_step (by decide) l_L_27
    · exact m_L_at S_L_at (by decide) l_L_31) (by simp) o_L_climb ?_
  intro as σ Q hh0
  obtain ⟨o, rr0, rfl, hh1⟩ := popR_inv hh0
  obtain ⟨c1, rr1, rfl, hh2⟩ := popR_inv hh1
  obtain ⟨top, rr2, rfl, hh3⟩ := popI_inv hh2
  obtain ⟨hrE, rfl, hL, hN, hf, ht, hQ⟩ := hh3
  subst hrE
  clear hh0 hh1 hh2
  refine ⟨Nat.le_of_ble_eq_true rfl, [(2, mkC (fun L st u => ∃ (r : Int) (v4 : AV), L = [.inr (.inr (some o)), .inr (.inr (some 11)), .inl top, .inl r, v4] ∧ st = [] ∧ (1 ≤ r ∧ r ≤ 61 ∧ r ≤ top + 1) ∧ (∃ g, u = updR σ (o + 1) g ∧ (∀ s : Nat, s < 100 → g s = σ (o + 1) s) ∧ Climbed (σ 11 4) (σ 12) (σ (o + 1)) (r - 1) g)) (fun L st u => ((62 - gI L 3).toNat, 0, 0))),
    (16, mkC (fun L st u => ∃ (r s : Int), L = [.inr (.inr (some o)), .inr (.inr (some 11)), .inl top, .inl r, .inl s] ∧ st = [] ∧ (1 ≤ r ∧ r ≤ 60 ∧ r ≤ top) ∧ (0 ≤ s ∧ s ≤ σ 11 4) ∧ (∃ g, u = updR σ (o + 1) g ∧ (∀ s : Nat, s < 100 → g s = σ (o + 1) s) ∧ Climbed (σ 11 4) (σ 12) (σ (o + 1)) (r - 1) g ∧ ∀ t : Nat, (t : Int) < s → g (r.toNat * 100 + t) = ladI (σ 11 4) (σ 12) (σ (o + 1)) r.toNat t)) (fun L st u => ((61 - gI L 3).toNat, 1, (101 - gI L 4).toNat)))], 14, ?_, cuts1 ?_ (cuts1 ?_ (cuts0))⟩
  · rw [show entL 5 [.inr (.inr (some o)), .inr (.inr (some 11)), .inl top] = [.inr (.inr (some o)), .inr (.inr (some 11)), .inl top, .inr (.inr none), .inr (.inr none)] from rfl]
    simp only [↓wpN_go, jmp_e, ↓wp_aload_n0, ↓wp_aload_n1, ↓wp_bipush, ↓wp_getfield, ↓wp_goto, ↓wp_iadd, ↓wp_icmp_ge, ↓wp_icmp_gt, ↓wp_iconst, ↓wp_iinc, ↓wp_iload, ↓wp_iload_n2, ↓wp_iload_n3, ↓wp_imul, ↓wp_invokevirtual, ↓wp_istore, ↓wp_istore_n3, ↓wp_isub, ↓wp_ladd, ↓wp_lastore, ↓wp_return0, wp_nil, ↓ldI_0, ↓ldI_s, ↓ldL_0, ↓ldL_s, ↓ldR_0, ↓ldR_s, sto1_0, sto1_1, sto1_s, sto2_0, sto2_1, sto2_s, isLong_i, isLong_l, isLong_r, ↓popI_c, ↓popL_c, ↓popR_c, ↓popN_0, ↓popN_s, catS_n, catS_c, psh_s, psh_n, fldV_n, fldV_s, ↓tgt_e, sw_n, ↓sw_c, ↓lk1_h, ↓lk1_m, ↓atC_h, ↓atC_m, ↓atC_n, ltO_n, ltO_s, updR_eq, updR_ne, gI_0i, gI_0l, gI_s, ltM_iff, List.cons.injEq, Sum.inl.injEq, Sum.inr.injEq, Option.some.injEq, exists_eq_left, exists_eq_left', exists_eq_right, exists_eq_right', exists_and_left, exists_and_right, exists_eq, exists_const, and_assoc, ↓j_L_climb_0, ↓j_L_climb_2, ↓j_L_climb_16, ↓j_L_climb_79, ↓j_L_climb_85, ↓f_L_11, List.length_cons, List.length_nil, Nat.zero_add, Nat.reduceAdd, Int.reduceAdd, Int.reduceNeg, Int.reduceToNat, Int.reduceLE, Int.reduceLT, true_and, and_true, Nat.reduceLT, reduceIte, Nat.reduceEqDiff, ne_eq, not_false_eq_true, false_implies, true_implies, Bool.false_eq_true, reduceCtorEq, List.cons_append, List.nil_append, Nat.reduceSub, Nat.reduceLeDiff, Fin.isValue, Int.reduceNatCast', Int.zero_add, Int.add_zero, decide_true, decide_false, implies_true, forall_const, true_or, or_true, or_false, false_or, false_and, and_false, Int.toNat_natCast, oC_0, oC_1, oC_4, oC_11, oC_16, oC_18, oC_20, oC_23, oC_25, oC_26, oC_29, oC_31, oC_33, oC_35, oC_37, isT_29, isT_31, isT_33, isT_35, isL_16, isL_18, isL_26, ↓hL.f0, ↓hL.a, hL.c, updR_o1, updR_o2, eq_true hL, updR_L11 hL, updR_L12 hL, ↓e_W_size, ↓e_W_step, ↓e_L_at]
    exact ⟨by omega, σ (o + 1), (updR_self _ _).symm, fun _ _ => rfl, climbed_0 (fun _ _ => rfl) hN.2⟩
  · intro L st u hI
    obtain ⟨r, v4, rfl, rfl, hr, hg⟩ := hI
    simp only [↓wpN_go, jmp_e, ↓wp_aload_n0, ↓wp_aload_n1, ↓wp_bipush, ↓wp_getfield, ↓wp_goto, ↓wp_iadd, ↓wp_icmp_ge, ↓wp_icmp_gt, ↓wp_iconst, ↓wp_iinc, ↓wp_iload, ↓wp_iload_n2, ↓wp_iload_n3, ↓wp_imul, ↓wp_invokevirtual, ↓wp_istore, ↓wp_istore_n3, ↓wp_isub, ↓wp_ladd, ↓wp_lastore, ↓wp_return0, wp_nil, ↓ldI_0, ↓ldI_s, ↓ldL_0, ↓ldL_s, ↓ldR_0, ↓ldR_s, sto1_0, sto1_1, sto1_s, sto2_0, sto2_1, sto2_s, isLong_i, isLong_l, isLong_r, ↓popI_c, ↓popL_c, ↓popR_c, ↓popN_0, ↓popN_s, catS_n, catS_c, psh_s, psh_n, fldV_n, fldV_s, ↓tgt_e, sw_n, ↓sw_c, ↓lk1_h, ↓lk1_m, ↓atC_h, ↓atC_m, ↓atC_n, ltO_n, ltO_s, updR_eq, updR_ne, gI_0i, gI_0l, gI_s, ltM_iff, List.cons.injEq, Sum.inl.injEq, Sum.inr.injEq, Option.some.injEq, exists_eq_left, exists_eq_left', exists_eq_right, exists_eq_right', exists_and_left, exists_and_right, exists_eq, exists_const, and_assoc, ↓j_L_climb_0, ↓j_L_climb_2, ↓j_L_climb_16, ↓j_L_climb_79, ↓j_L_climb_85, ↓f_L_11, List.length_cons, List.length_nil, Nat.zero_add, Nat.reduceAdd, Int.reduceAdd, Int.reduceNeg, Int.reduceToNat, Int.reduceLE, Int.reduceLT, true_and, and_true, Nat.reduceLT, reduceIte, Nat.reduceEqDiff, ne_eq, not_false_eq_true, false_implies, true_implies, Bool.false_eq_true, reduceCtorEq, List.cons_append, List.nil_append, Nat.reduceSub, Nat.reduceLeDiff, Fin.isValue, Int.reduceNatCast', Int.zero_add, Int.add_zero, decide_true, decide_false, implies_true, forall_const, true_or, or_true, or_false, false_or, false_and, and_false, Int.toNat_natCast, oC_0, oC_1, oC_4, oC_11, oC_16, oC_18, oC_20, oC_23, oC_25, oC_26, oC_29, oC_31, oC_33, oC_35, oC_37, isT_29, isT_31, isT_33, isT_35, isL_16, isL_18, isL_26, ↓hL.f0, ↓hL.a, hL.c, updR_o1, updR_o2, eq_true hL, updR_L11 hL, updR_L12 hL, ↓e_W_size, ↓e_W_step, ↓e_L_at]
    obtain ⟨g, rfl, hg1, hg2⟩ := hg
    simp only [rI_iff] at *
    refine ⟨by omega, by omega, fun h => hQ g hg1 (climbed_le hg2 (by omega)), fun h => ⟨by omega, by omega, fun h2 => hQ g hg1 (climbed_le hg2 (by omega)), fun h2 => ⟨by omega, by omega, by omega, by omega, by omega, g, rfl, hg1, hg2, fun t ht => by omega⟩⟩⟩
  · intro L st u hI
    obtain ⟨r, s, rfl, rfl, hr, hs, hg⟩ := hI
    simp only [↓wpN_go, jmp_e, ↓wp_aload_n0, ↓wp_aload_n1, ↓wp_bipush, ↓wp_getfield, ↓wp_goto, ↓wp_iadd, ↓wp_icmp_ge, ↓wp_icmp_gt, ↓wp_iconst, ↓wp_iinc, ↓wp_iload, ↓wp_iload_n2, ↓wp_iload_n3, ↓wp_imul, ↓wp_invokevirtual, ↓wp_istore, ↓wp_istore_n3, ↓wp_isub, ↓wp_ladd, ↓wp_lastore, ↓wp_return0, wp_nil, ↓ldI_0, ↓ldI_s, ↓ldL_0, ↓ldL_s, ↓ldR_0, ↓ldR_s, sto1_0, sto1_1, sto1_s, sto2_0, sto2_1, sto2_s, isLong_i, isLong_l, isLong_r, ↓popI_c, ↓popL_c, ↓popR_c, ↓popN_0, ↓popN_s, catS_n, catS_c, psh_s, psh_n, fldV_n, fldV_s, ↓tgt_e, sw_n, ↓sw_c, ↓lk1_h, ↓lk1_m, ↓atC_h, ↓atC_m, ↓atC_n, ltO_n, ltO_s, updR_eq, updR_ne, gI_0i, gI_0l, gI_s, ltM_iff, List.cons.injEq, Sum.inl.injEq, Sum.inr.injEq, Option.some.injEq, exists_eq_left, exists_eq_left', exists_eq_right, exists_eq_right', exists_and_left, exists_and_right, exists_eq, exists_const, and_assoc, ↓j_L_climb_0, ↓j_L_climb_2, ↓j_L_climb_16, ↓j_L_climb_79, ↓j_L_climb_85, ↓f_L_11, List.length_cons, List.length_nil, Nat.zero_add, Nat.reduceAdd, Int.reduceAdd, Int.reduceNeg, Int.reduceToNat, Int.reduceLE, Int.reduceLT, true_and, and_true, Nat.reduceLT, reduceIte, Nat.reduceEqDiff, ne_eq, not_false_eq_true, false_implies, true_implies, Bool.false_eq_true, reduceCtorEq, List.cons_append, List.nil_append, Nat.reduceSub, Nat.reduceLeDiff, Fin.isValue, Int.reduceNatCast', Int.zero_add, Int.add_zero, decide_true, decide_false, implies_true, forall_const, true_or, or_true, or_false, false_or, false_and, and_false, Int.toNat_natCast, oC_0, oC_1, oC_4, oC_11, oC_16, oC_18, oC_20, oC_23, oC_25, oC_26, oC_29, oC_31, oC_33, oC_35, oC_37, isT_29, isT_31, isT_33, isT_35, isL_16, isL_18, isL_26, ↓hL.f0, ↓hL.a, hL.c, updR_o1, updR_o2, eq_true hL, updR_L11 hL, updR_L12 hL, ↓e_W_size, ↓e_W_step, ↓e_L_at]
    obtain ⟨g, rfl, hg1, hg2, hg3⟩ := hg
    simp only [updR_eq, updR_twice, updR_L11 hL, updR_L12 hL]
    have h0 := stepZ_r hN.2 hf s 0
    have h1 := stepZ_r hN.2 hf s 1
    simp only [rI_iff] at *
    refine ⟨by omega, by omega, fun h => ?_, fun h => ⟨by omega, by omega, fun h2 => by omega, fun h2 => ?_⟩⟩
    · repeat' apply And.intro
      all_goals first | omega | skip
      exact ⟨g, rfl, hg1, by rw [show r + 1 - 1 = r by omega]; exact climbed_s (by omega) hg2 (fun t ht => hg3 t (by omega))⟩
    · rw [lad_climb hN.2 hf ⟨hr.1, hr.2.1⟩ ⟨hs.1, h⟩ hg2]
      repeat' apply And.intro
      all_goals first | omega | skip
      refine ⟨_, rfl, ?_, climbed_up hN.2 hr.1 hs.1 hg2, ?_⟩
      · intro t ht
        rw [up1_app, if_neg (by omega)]
        exact hg1 t ht
      · intro t ht
        rw [up1_app]
        split
        · next e => rw [show (t : Int) = s by omega]
        · exact hg3 t (by omega)
theorem lad_V {N : Int} {f w : Nat → Int} {top r t : Int} (hN : N ≤ 100) (h : Climbed N f w top w) (hr : 0 ≤ r ∧ r ≤ top ∧ r ≤ 60) (ht : t < N ∨ t = -1) : ladV w r t = ladI N f w r.toNat t := by
  have := lad_at (g := w) (r := r.toNat) (t := t) hN (by omega) (fun s hs => h r.toNat (by omega) (by omega) s hs) ht
  rw [Int.toNat_of_nonneg hr.1] at this
  exact this
def s_L_rank : Spec := fun as σ Q => popR as fun o r0 => popR r0 fun c1 r1 => popI r1 fun s r2 => popL r2 fun row r3 => popI r3 fun n r4 => r4 = [] ∧ c1 = 11 ∧ (isL o) ∧ (0 ≤ σ 11 4 ∧ σ 11 4 ≤ 100) ∧ (Wire (σ 11 4) (σ 12)) ∧ (0 ≤ s ∧ s < σ 11 4) ∧ (rL row) ∧ (0 ≤ n ∧ n ≤ 60) ∧ (Climbed (σ 11 4) (σ 12) (σ (o + 1)) n (σ (o + 1))) ∧ (LadB (σ 11 4) (σ 12) (σ (o + 1)) n) ∧ Q (some (.inr (.inl (if ladI (σ 11 4) (σ 12) (σ (o + 1)) 0 (folZ (σ 11 4) (σ 12) row n.toNat s) = 0 then -1 else rnkZ (σ 11 4) (σ 12) (σ (o + 1)) row n.toNat s)))) σ
theorem e_L_rank (o : Nat) (s : Int) (row : Int) (n : Int) (σ : St) (Q : Option AV → St → Prop) : s_L_rank [.inr (.inr (some o)), .inr (.inr (some 11)), .inl s, .inr (.inl row), .inl n] σ Q = ((isL o) ∧ (0 ≤ σ 11 4 ∧ σ 11 4 ≤ 100) ∧ (Wire (σ 11 4) (σ 12)) ∧ (0 ≤ s ∧ s < σ 11 4) ∧ (rL row) ∧ (0 ≤ n ∧ n ≤ 60) ∧ (Climbed (σ 11 4) (σ 12) (σ (o + 1)) n (σ (o + 1))) ∧ (LadB (σ 11 4) (σ 12) (σ (o + 1)) n) ∧ Q (some (.inr (.inl (if ladI (σ 11 4) (σ 12) (σ (o + 1)) 0 (folZ (σ 11 4) (σ 12) row n.toNat s) = 0 then -1 else rnkZ (σ 11 4) (σ 12) (σ (o + 1)) row n.toNat s)))) σ) := by
  show ([] = [] ∧ _) = _
  simp only [true_and]
set_option maxHeartbeats 4000000 in
set_option maxRecDepth 20000 in
theorem S_L_rank {l : Launch} : Sat l y_L_rank b_L_rank 11 (some .long) 2 s_L_rank := by
  refine sat_of (Φ := P_L) (κ := Q_L) (Γ := [(27, 8, 2, s_W_step), (31, 4, 2, s_L_at)]) (rt := 2) (by decide +kernel) P_L_ok Q_L_ok (by
    refine List.forall_mem_cons.mpr ⟨?_, List.forall_mem_cons.mpr ⟨?_, fun _ h => absurd h List.not_mem_nil⟩⟩
    · exact m_W_step S_W_step (by decide) l_L_27
    · exact m_L_at S_L_at (by decide) l_L_31) (by simp) o_L_rank ?_
  intro as σ Q hh0
  obtain ⟨o, rr0, rfl, hh1⟩ := popR_inv hh0
  obtain ⟨c1, rr1, rfl, hh2⟩ := popR_inv hh1
  obtain ⟨s, rr2, rfl, hh3⟩ := popI_inv hh2
  obtain ⟨row, rr3, rfl, hh4⟩ := popL_inv hh3
  obtain ⟨n, rr4, rfl, hh5⟩ := popI_inv hh4
  obtain ⟨hrE, rfl, hL, hN, hf, hs, hrow, hn, hl, hw, hQ⟩ := hh5
  subst hrE
  clear hh0 hh1 hh2 hh3 hh4
  refine ⟨Nat.le_of_ble_eq_true rfl, [(12, mkC (fun L st u => ∃ (x a i : Int) (v10 : AV), L = [.inr (.inr (some o)), .inr (.inr (some 11)), .inl s, .inr (.inl row), .inr (.inr none), .inl n, .inr (.inl x), .inr (.inr none), .inl a, .inl i, v10] ∧ st = [] ∧ (-1 ≤ i ∧ i < n) ∧ (-1 ≤ a ∧ (a < σ 11 4 ∨ a = -1)) ∧ (x + rnkZ (σ 11 4) (σ 12) (σ (o + 1)) row (i + 1).toNat a = rnkZ (σ 11 4) (σ 12) (σ (o + 1)) row n.toNat s) ∧ (folZ (σ 11 4) (σ 12) row (i + 1).toNat a = folZ (σ 11 4) (σ 12) row n.toNat s) ∧ (u = σ)) (fun L st u => ((gI L 9 + 1).toNat, 0, 0)))], 14, ?_, cuts1 ?_ (cuts0)⟩
  · rw [show entL 11 [.inr (.inr (some o)), .inr (.inr (some 11)), .inl s, .inr (.inl row), .inl n] = [.inr (.inr (some o)), .inr (.inr (some 11)), .inl s, .inr (.inl row), .inr (.inr none), .inl n, .inr (.inr none), .inr (.inr none), .inr (.inr none), .inr (.inr none), .inr (.inr none)] from rfl]
    simp only [↓wpN_go, jmp_e, ↓wp_aload_n0, ↓wp_aload_n1, ↓wp_goto, ↓wp_iand, ↓wp_icmp_ne, ↓wp_iconst, ↓wp_if_lt, ↓wp_if_ne, ↓wp_iinc, ↓wp_iload, ↓wp_iload_n2, ↓wp_invokevirtual, ↓wp_istore, ↓wp_isub, ↓wp_l2i, ↓wp_ladd, ↓wp_lcmp, ↓wp_lconst0, ↓wp_ldc2_w, ↓wp_lload, ↓wp_lload_n3, ↓wp_lreturn2, ↓wp_lshr, ↓wp_lstore, wp_nil, ↓ldI_0, ↓ldI_s, ↓ldL_0, ↓ldL_s, ↓ldR_0, ↓ldR_s, sto1_0, sto1_1, sto1_s, sto2_0, sto2_1, sto2_s, isLong_i, isLong_l, isLong_r, ↓popI_c, ↓popL_c, ↓popR_c, ↓popN_0, ↓popN_s, catS_n, catS_c, psh_s, psh_n, fldV_n, fldV_s, ↓tgt_e, sw_n, ↓sw_c, ↓lk1_h, ↓lk1_m, ↓atC_h, ↓atC_m, ↓atC_n, ltO_n, ltO_s, updR_eq, updR_ne, gI_0i, gI_0l, gI_s, ltM_iff, List.cons.injEq, Sum.inl.injEq, Sum.inr.injEq, Option.some.injEq, exists_eq_left, exists_eq_left', exists_eq_right, exists_eq_right', exists_and_left, exists_and_right, exists_eq, exists_const, and_assoc, ↓j_L_rank_0, ↓j_L_rank_12, ↓j_L_rank_50, ↓j_L_rank_66, ↓j_L_rank_84, ↓j_L_rank_86, ↓c_L_100035, List.length_cons, List.length_nil, Nat.zero_add, Nat.reduceAdd, Int.reduceAdd, Int.reduceNeg, Int.reduceToNat, Int.reduceLE, Int.reduceLT, true_and, and_true, Nat.reduceLT, reduceIte, Nat.reduceEqDiff, ne_eq, not_false_eq_true, false_implies, true_implies, Bool.false_eq_true, reduceCtorEq, List.cons_append, List.nil_append, Nat.reduceSub, Nat.reduceLeDiff, Fin.isValue, Int.reduceNatCast', Int.zero_add, Int.add_zero, decide_true, decide_false, implies_true, forall_const, true_or, or_true, or_false, false_or, false_and, and_false, Int.toNat_natCast, oC_0, oC_1, oC_4, oC_11, oC_16, oC_18, oC_20, oC_23, oC_25, oC_26, oC_29, oC_31, oC_33, oC_35, oC_37, isT_29, isT_31, isT_33, isT_35, isL_16, isL_18, isL_26, ↓hL.f0, ↓hL.a, hL.c, updR_o1, updR_o2, eq_true hL, updR_L11 hL, updR_L12 hL, iandZ_1, wrapI_m, cmpZ_r, cmpZ_eq, ↓e_W_step, ↓e_L_at]
    (try simp only [rI_iff, rL_iff] at *)
    repeat' (first | assumption | apply And.intro | intro _)
    all_goals first
      | omega
      | (refine st_ext fun k j => ?_; grind [updR_app, up1_app, folZ, rnkZ])
      | (refine Q_eq hQ ?_ ?_ <;> first | rfl | (refine st_ext fun k j => ?_; grind [updR_app, up1_app, folZ, rnkZ]) | grind [updR_app, up1_app, folZ, rnkZ])
      | grind [updR_app, up1_app, folZ, rnkZ]
  · intro L st u hI
    obtain ⟨x, a, i, v10, rfl, rfl, hi, ha, hx, hf2, hu⟩ := hI
    simp only [↓wpN_go, jmp_e, ↓wp_aload_n0, ↓wp_aload_n1, ↓wp_goto, ↓wp_iand, ↓wp_icmp_ne, ↓wp_iconst, ↓wp_if_lt, ↓wp_if_ne, ↓wp_iinc, ↓wp_iload, ↓wp_iload_n2, ↓wp_invokevirtual, ↓wp_istore, ↓wp_isub, ↓wp_l2i, ↓wp_ladd, ↓wp_lcmp, ↓wp_lconst0, ↓wp_ldc2_w, ↓wp_lload, ↓wp_lload_n3, ↓wp_lreturn2, ↓wp_lshr, ↓wp_lstore, wp_nil, ↓ldI_0, ↓ldI_s, ↓ldL_0, ↓ldL_s, ↓ldR_0, ↓ldR_s, sto1_0, sto1_1, sto1_s, sto2_0, sto2_1, sto2_s, isLong_i, isLong_l, isLong_r, ↓popI_c, ↓popL_c, ↓popR_c, ↓popN_0, ↓popN_s, catS_n, catS_c, psh_s, psh_n, fldV_n, fldV_s, ↓tgt_e, sw_n, ↓sw_c, ↓lk1_h, ↓lk1_m, ↓atC_h, ↓atC_m, ↓atC_n, ltO_n, ltO_s, updR_eq, updR_ne, gI_0i, gI_0l, gI_s, ltM_iff, List.cons.injEq, Sum.inl.injEq, Sum.inr.injEq, Option.some.injEq, exists_eq_left, exists_eq_left', exists_eq_right, exists_eq_right', exists_and_left, exists_and_right, exists_eq, exists_const, and_assoc, ↓j_L_rank_0, ↓j_L_rank_12, ↓j_L_rank_50, ↓j_L_rank_66, ↓j_L_rank_84, ↓j_L_rank_86, ↓c_L_100035, List.length_cons, List.length_nil, Nat.zero_add, Nat.reduceAdd, Int.reduceAdd, Int.reduceNeg, Int.reduceToNat, Int.reduceLE, Int.reduceLT, true_and, and_true, Nat.reduceLT, reduceIte, Nat.reduceEqDiff, ne_eq, not_false_eq_true, false_implies, true_implies, Bool.false_eq_true, reduceCtorEq, List.cons_append, List.nil_append, Nat.reduceSub, Nat.reduceLeDiff, Fin.isValue, Int.reduceNatCast', Int.zero_add, Int.add_zero, decide_true, decide_false, implies_true, forall_const, true_or, or_true, or_false, false_or, false_and, and_false, Int.toNat_natCast, oC_0, oC_1, oC_4, oC_11, oC_16, oC_18, oC_20, oC_23, oC_25, oC_26, oC_29, oC_31, oC_33, oC_35, oC_37, isT_29, isT_31, isT_33, isT_35, isL_16, isL_18, isL_26, ↓hL.f0, ↓hL.a, hL.c, updR_o1, updR_o2, eq_true hL, updR_L11 hL, updR_L12 hL, iandZ_1, wrapI_m, cmpZ_r, cmpZ_eq, ↓e_W_step, ↓e_L_at]
    subst hu
    have h1 := stepZ_r hN.2 hf a 0
    have h2 := stepZ_r hN.2 hf a (row / 2 ^ i.toNat % 2)
    have e1 : 0 ≤ i → ladV (u (o + 1)) i (stepZ (u 11 4) (u 12) a 0) = ladI (u 11 4) (u 12) (u (o + 1)) i.toNat (stepZ (u 11 4) (u 12) a 0) := fun h => lad_V hN.2 hl ⟨h, by omega, by omega⟩ h1.2
    have e2 : ladV (u (o + 1)) 0 a = ladI (u 11 4) (u 12) (u (o + 1)) 0 a := lad_V hN.2 hl ⟨by omega, by omega, by omega⟩ ha.2
    have e3 : 0 ≤ i → (i + 1).toNat = i.toNat + 1 := fun h => by omega
    have e4 : i + -1 + 1 = i := by omega
    have h3 := hw 0 a (by omega)
    rw [e2, e4]
    by_cases hi0 : 0 ≤ i
    · rw [e1 hi0]
      rw [e3 hi0, rnkZ] at hx
      rw [e3 hi0, folZ] at hf2
      have h4 : bitZ row i.toNat = row / 2 ^ i.toNat % 2 := rfl
      rw [h4] at hx hf2
      (try simp only [rI_iff, rL_iff] at *)
      repeat' (first | assumption | apply And.intro | intro _)
      all_goals first | omega | assumption | exact True.intro | skip
      all_goals grind
    · have e5 : (i + 1).toNat = 0 := by omega
      rw [e5, rnkZ] at hx
      rw [e5, folZ] at hf2
      subst hf2
      (try simp only [rI_iff, rL_iff] at *)
      repeat' (first | assumption | apply And.intro | intro _)
      all_goals first | omega | assumption | exact True.intro | skip
      all_goals grind
def s_L_pick : Spec := fun as σ Q => popR as fun o r0 => popR r0 fun c1 r1 => popI r1 fun s r2 => popL r2 fun num r3 => popI r3 fun n r4 => r4 = [] ∧ c1 = 11 ∧ (isL o) ∧ (0 ≤ σ 11 4 ∧ σ 11 4 ≤ 100) ∧ (Wire (σ 11 4) (σ 12)) ∧ (0 ≤ s ∧ s < σ 11 4) ∧ (0 ≤ num ∧ rL num) ∧ (0 ≤ n ∧ n ≤ 60) ∧ (Climbed (σ 11 4) (σ 12) (σ (o + 1)) n (σ (o + 1))) ∧ (LadB (σ 11 4) (σ 12) (σ (o + 1)) n) ∧ Q (some (.inr (.inl (if ladI (σ 11 4) (σ 12) (σ (o + 1)) n.toNat s ≤ num then -1 else pckZ (σ 11 4) (σ 12) (σ (o + 1)) n.toNat s num)))) σ
theorem e_L_pick (o : Nat) (s : Int) (num : Int) (n : Int) (σ : St) (Q : Option AV → St → Prop) : s_L_pick [.inr (.inr (some o)), .inr (.inr (some 11)), .inl s, .inr (.inl num), .inl n] σ Q = ((isL o) ∧ (0 ≤ σ 11 4 ∧ σ 11 4 ≤ 100) ∧ (Wire (σ 11 4) (σ 12)) ∧ (0 ≤ s ∧ s < σ 11 4) ∧ (0 ≤ num ∧ rL num) ∧ (0 ≤ n ∧ n ≤ 60) ∧ (Climbed (σ 11 4) (σ 12) (σ (o + 1)) n (σ (o + 1))) ∧ (LadB (σ 11 4) (σ 12) (σ (o + 1)) n) ∧ Q (some (.inr (.inl (if ladI (σ 11 4) (σ 12) (σ (o + 1)) n.toNat s ≤ num then -1 else pckZ (σ 11 4) (σ 12) (σ (o + 1)) n.toNat s num)))) σ) := by
  show ([] = [] ∧ _) = _
  simp only [true_and]
set_option maxHeartbeats 4000000 in
set_option maxRecDepth 20000 in
theorem S_L_pick {l : Launch} : Sat l y_L_pick b_L_pick 15 (some .long) 2 s_L_pick := by
  refine sat_of (Φ := P_L) (κ := Q_L) (Γ := [(31, 4, 2, s_L_at), (27, 8, 2, s_W_step)]) (rt := 2) (by decide +kernel) P_L_ok Q_L_ok (by
    refine List.forall_mem_cons.mpr ⟨?_, List.forall_mem_cons.mpr ⟨?_, fun _ h => absurd h List.not_mem_nil⟩⟩
    · exact m_L_at S_L_at (by decide) l_L_31
    · exact m_W_step S_W_step (by decide) l_L_27) (by simp) o_L_pick ?_
  intro as σ Q hh0
  obtain ⟨o, rr0, rfl, hh1⟩ := popR_inv hh0
  obtain ⟨c1, rr1, rfl, hh2⟩ := popR_inv hh1
  obtain ⟨s, rr2, rfl, hh3⟩ := popI_inv hh2
  obtain ⟨num, rr3, rfl, hh4⟩ := popL_inv hh3
  obtain ⟨n, rr4, rfl, hh5⟩ := popI_inv hh4
  obtain ⟨hrE, rfl, hL, hN, hf, hs, hnum, hn, hl, hw, hQ⟩ := hh5
  subst hrE
  clear hh0 hh1 hh2 hh3 hh4
  refine ⟨Nat.le_of_ble_eq_true rfl, [(31, mkC (fun L st u => ∃ (x y a i : Int) (v12 v13 v14 : AV), L = [.inr (.inr (some o)), .inr (.inr (some 11)), .inl s, .inr (.inl num), .inr (.inr none), .inl n, .inr (.inl x), .inr (.inr none), .inr (.inl y), .inr (.inr none), .inl a, .inl i, v12, v13, v14] ∧ st = [] ∧ (-1 ≤ i ∧ i < n) ∧ (-1 ≤ a ∧ (a < σ 11 4 ∨ a = -1)) ∧ (0 ≤ y ∧ y ≤ num) ∧ (ladI (σ 11 4) (σ 12) (σ (o + 1)) n.toNat s > num) ∧ (x * 2 ^ (i + 1).toNat + pckZ (σ 11 4) (σ 12) (σ (o + 1)) (i + 1).toNat a y = pckZ (σ 11 4) (σ 12) (σ (o + 1)) n.toNat s num) ∧ (u = σ)) (fun L st u => ((gI L 11 + 1).toNat, 0, 0)))], 14, ?_, cuts1 ?_ (cuts0)⟩
  · rw [show entL 15 [.inr (.inr (some o)), .inr (.inr (some 11)), .inl s, .inr (.inl num), .inl n] = [.inr (.inr (some o)), .inr (.inr (some 11)), .inl s, .inr (.inl num), .inr (.inr none), .inl n, .inr (.inr none), .inr (.inr none), .inr (.inr none), .inr (.inr none), .inr (.inr none), .inr (.inr none), .inr (.inr none), .inr (.inr none), .inr (.inr none)] from rfl]
    simp only [↓wpN_go, jmp_e, ↓wp_aload_n0, ↓wp_aload_n1, ↓wp_goto, ↓wp_i2l, ↓wp_icmp_ne, ↓wp_iconst, ↓wp_if_ge, ↓wp_if_lt, ↓wp_iinc, ↓wp_iload, ↓wp_iload_n2, ↓wp_invokevirtual, ↓wp_istore, ↓wp_isub, ↓wp_ladd, ↓wp_lcmp, ↓wp_lconst0, ↓wp_ldc2_w, ↓wp_lload, ↓wp_lload_n3, ↓wp_lmul, ↓wp_lreturn2, ↓wp_lstore, ↓wp_lsub, wp_nil, ↓ldI_0, ↓ldI_s, ↓ldL_0, ↓ldL_s, ↓ldR_0, ↓ldR_s, sto1_0, sto1_1, sto1_s, sto2_0, sto2_1, sto2_s, isLong_i, isLong_l, isLong_r, ↓popI_c, ↓popL_c, ↓popR_c, ↓popN_0, ↓popN_s, catS_n, catS_c, psh_s, psh_n, fldV_n, fldV_s, ↓tgt_e, sw_n, ↓sw_c, ↓lk1_h, ↓lk1_m, ↓atC_h, ↓atC_m, ↓atC_n, ltO_n, ltO_s, updR_eq, updR_ne, gI_0i, gI_0l, gI_s, ltM_iff, List.cons.injEq, Sum.inl.injEq, Sum.inr.injEq, Option.some.injEq, exists_eq_left, exists_eq_left', exists_eq_right, exists_eq_right', exists_and_left, exists_and_right, exists_eq, exists_const, and_assoc, ↓j_L_pick_0, ↓j_L_pick_16, ↓j_L_pick_31, ↓j_L_pick_63, ↓j_L_pick_64, ↓j_L_pick_79, ↓j_L_pick_107, ↓c_L_100035, ↓c_L_100037, List.length_cons, List.length_nil, Nat.zero_add, Nat.reduceAdd, Int.reduceAdd, Int.reduceNeg, Int.reduceToNat, Int.reduceLE, Int.reduceLT, true_and, and_true, Nat.reduceLT, reduceIte, Nat.reduceEqDiff, ne_eq, not_false_eq_true, false_implies, true_implies, Bool.false_eq_true, reduceCtorEq, List.cons_append, List.nil_append, Nat.reduceSub, Nat.reduceLeDiff, Fin.isValue, Int.reduceNatCast', Int.zero_add, Int.add_zero, decide_true, decide_false, implies_true, forall_const, true_or, or_true, or_false, false_or, false_and, and_false, Int.toNat_natCast, oC_0, oC_1, oC_4, oC_11, oC_16, oC_18, oC_20, oC_23, oC_25, oC_26, oC_29, oC_31, oC_33, oC_35, oC_37, isT_29, isT_31, isT_33, isT_35, isL_16, isL_18, isL_26, ↓hL.f0, ↓hL.a, hL.c, updR_o1, updR_o2, eq_true hL, updR_L11 hL, updR_L12 hL, cmpZ_r, cmpZ_lt, cmpZ_ge, ↓e_L_at, ↓e_W_step]
    have e0 : ladV (σ (o + 1)) n s = ladI (σ 11 4) (σ 12) (σ (o + 1)) n.toNat s := lad_V hN.2 hl ⟨hn.1, by omega, by omega⟩ (Or.inl hs.2)
    have h0 := hw n.toNat s (by omega)
    rw [e0]
    have e1 : n - 1 + 1 = n := by omega
    rw [e1]
    (try simp only [rI_iff, rL_iff] at *)
    repeat' (first | assumption | apply And.intro | intro _)
    all_goals first | omega | assumption | exact True.intro | skip
    all_goals grind
  · intro L st u hI
    obtain ⟨x, y, a, i, v12, v13, v14, rfl, rfl, hi, ha, hy, hlt, hx, hu⟩ := hI
    simp only [↓wpN_go, jmp_e, ↓wp_aload_n0, ↓wp_aload_n1, ↓wp_goto, ↓wp_i2l, ↓wp_icmp_ne, ↓wp_iconst, ↓wp_if_ge, ↓wp_if_lt, ↓wp_iinc, ↓wp_iload, ↓wp_iload_n2, ↓wp_invokevirtual, ↓wp_istore, ↓wp_isub, ↓wp_ladd, ↓wp_lcmp, ↓wp_lconst0, ↓wp_ldc2_w, ↓wp_lload, ↓wp_lload_n3, ↓wp_lmul, ↓wp_lreturn2, ↓wp_lstore, ↓wp_lsub, wp_nil, ↓ldI_0, ↓ldI_s, ↓ldL_0, ↓ldL_s, ↓ldR_0, ↓ldR_s, sto1_0, sto1_1, sto1_s, sto2_0, sto2_1, sto2_s, isLong_i, isLong_l, isLong_r, ↓popI_c, ↓popL_c, ↓popR_c, ↓popN_0, ↓popN_s, catS_n, catS_c, psh_s, psh_n, fldV_n, fldV_s, ↓tgt_e, sw_n, ↓sw_c, ↓lk1_h, ↓lk1_m, ↓atC_h, ↓atC_m, ↓atC_n, ltO_n, ltO_s, updR_eq, updR_ne, gI_0i, gI_0l, gI_s, ltM_iff, List.cons.injEq, Sum.inl.injEq, Sum.inr.injEq, Option.some.injEq, exists_eq_left, exists_eq_left', exists_eq_right, exists_eq_right', exists_and_left, exists_and_right, exists_eq, exists_const, and_assoc, ↓j_L_pick_0, ↓j_L_pick_16, ↓j_L_pick_31, ↓j_L_pick_63, ↓j_L_pick_64, ↓j_L_pick_79, ↓j_L_pick_107, ↓c_L_100035, ↓c_L_100037, List.length_cons, List.length_nil, Nat.zero_add, Nat.reduceAdd, Int.reduceAdd, Int.reduceNeg, Int.reduceToNat, Int.reduceLE, Int.reduceLT, true_and, and_true, Nat.reduceLT, reduceIte, Nat.reduceEqDiff, ne_eq, not_false_eq_true, false_implies, true_implies, Bool.false_eq_true, reduceCtorEq, List.cons_append, List.nil_append, Nat.reduceSub, Nat.reduceLeDiff, Fin.isValue, Int.reduceNatCast', Int.zero_add, Int.add_zero, decide_true, decide_false, implies_true, forall_const, true_or, or_true, or_false, false_or, false_and, and_false, Int.toNat_natCast, oC_0, oC_1, oC_4, oC_11, oC_16, oC_18, oC_20, oC_23, oC_25, oC_26, oC_29, oC_31, oC_33, oC_35, oC_37, isT_29, isT_31, isT_33, isT_35, isL_16, isL_18, isL_26, ↓hL.f0, ↓hL.a, hL.c, updR_o1, updR_o2, eq_true hL, updR_L11 hL, updR_L12 hL, cmpZ_r, cmpZ_lt, cmpZ_ge, ↓e_L_at, ↓e_W_step]
    subst hu
    have h1 := stepZ_r hN.2 hf a 0
    have h2 := stepZ_r hN.2 hf a 1
    have e1 : 0 ≤ i → ladV (u (o + 1)) i (stepZ (u 11 4) (u 12) a 0) = ladI (u 11 4) (u 12) (u (o + 1)) i.toNat (stepZ (u 11 4) (u 12) a 0) := fun h => lad_V hN.2 hl ⟨h, by omega, by omega⟩ h1.2
    have e3 : 0 ≤ i → (i + 1).toNat = i.toNat + 1 := fun h => by omega
    have e4 : i + -1 + 1 = i := by omega
    rw [e4]
    by_cases hi0 : 0 ≤ i
    · rw [e1 hi0]
      have h3 := hw i.toNat (stepZ (u 11 4) (u 12) a 0) (by omega)
      rw [e3 hi0, pckZ, Int.pow_succ] at hx
      have e6 : ∀ z : Int, (2 * x + z) * 2 ^ i.toNat = x * (2 ^ i.toNat * 2) + z * 2 ^ i.toNat := fun z => by rw [Int.add_mul, Int.mul_comm 2 x, Int.mul_assoc, Int.mul_comm 2 (2 ^ i.toNat)]
      (try simp only [rI_iff, rL_iff] at *)
      repeat' (first | assumption | apply And.intro | intro _)
      all_goals first | omega | assumption | exact True.intro | skip
      all_goals grind
    · have e5 : (i + 1).toNat = 0 := by omega
      rw [e5, pckZ] at hx
      (try simp only [rI_iff, rL_iff] at *)
      repeat' (first | assumption | apply And.intro | intro _)
      all_goals first | omega | assumption | exact True.intro | skip
      all_goals grind
