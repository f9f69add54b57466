/-! the reference: codes -/
def cF (N : Int) (f w : Nat → Int) (n : Nat) (s : Int) : Nat → Int := fun x => ladI N f w 0 (folZ N f (x : Int) n s)
theorem sumF_split {u : Nat → Int} : ∀ a b : Nat, sumF u (a + b) = sumF u a + sumF (fun j => u (a + j)) b
  | a, 0 => by rw [Nat.add_zero, sumF]; omega
  | a, b + 1 => by
    show sumF u (a + b + 1) = _
    rw [sumF, sumF, sumF_split a b]
    omega
theorem n2p (n : Nat) : ((2 ^ n : Nat) : Int) = 2 ^ n := by rw [Int.natCast_pow]; rfl
theorem cF_lo {N : Int} {f w : Nat → Int} {n : Nat} {s : Int} {x : Nat} (hx : x < 2 ^ n) : cF N f w (n + 1) s x = cF N f w n (stepZ N f s 0) x := by
  have := n2p n
  unfold cF
  rw [folZ, bit_hi0 ⟨by omega, by omega⟩]
theorem cF_hi {N : Int} {f w : Nat → Int} {n : Nat} {s : Int} {x : Nat} (hx : x < 2 ^ n) : cF N f w (n + 1) s (2 ^ n + x) = cF N f w n (stepZ N f s 1) x := by
  have := n2p n
  unfold cF
  rw [show (((2 ^ n + x : Nat)) : Int) = 2 ^ n + (x : Int) by omega, folZ, bit_hi1 ⟨by omega, by omega⟩, folZ_lo]
theorem stepZ_neg {N : Int} {f : Nat → Int} {b : Int} : stepZ N f (-1) b = -1 := if_neg (by omega)
theorem cF_all {N : Int} {f w : Nat → Int} (hN : N ≤ 100) (hf : Wire N f) : ∀ (n : Nat) (s : Int), (s = -1 ∨ (0 ≤ s ∧ s < N)) → sumF (cF N f w n s) (2 ^ n) = ladI N f w n s
  | 0, s, _ => by
    show 0 + ladI N f w 0 s = _
    omega
  | n + 1, s, hs => by
    have s1 : sumF (cF N f w (n + 1) s) (2 ^ n) = sumF (cF N f w n (stepZ N f s 0)) (2 ^ n) := sumF_congr (fun x hx => cF_lo hx)
    have s2 : sumF (fun j => cF N f w (n + 1) s (2 ^ n + j)) (2 ^ n) = sumF (cF N f w n (stepZ N f s 1)) (2 ^ n) := sumF_congr (fun x hx => cF_hi hx)
    rw [Nat.pow_succ, Nat.mul_two, sumF_split, s1, s2]
    have h0 := stepZ_r hN hf s 0
    have h1 := stepZ_r hN hf s 1
    have e0 := cF_all (w := w) hN hf n (stepZ N f s 0) (by omega)
    have e1 := cF_all (w := w) hN hf n (stepZ N f s 1) (by omega)
    rw [e0, e1]
    rcases hs with rfl | hs
    · rw [stepZ_neg, stepZ_neg, ladI_out (by omega), ladI_out (by omega)]
      rfl
    · rw [ladI_s hs]
theorem cF_rnk {N : Int} {f w : Nat → Int} (hN : N ≤ 100) (hf : Wire N f) : ∀ (n : Nat) (s : Int) (row : Nat), (s = -1 ∨ (0 ≤ s ∧ s < N)) → row < 2 ^ n → sumF (cF N f w n s) row = rnkZ N f w row n s
  | 0, s, row, _, hr => by
    have : row = 0 := by simp at hr; omega
    subst this
    rfl
  | n + 1, s, row, hs, hr => by
    have h0 := stepZ_r hN hf s 0
    have h1 := stepZ_r hN hf s 1
    have hp := n2p n
    by_cases hc : row < 2 ^ n
    · have s1 : sumF (cF N f w (n + 1) s) row = sumF (cF N f w n (stepZ N f s 0)) row := sumF_congr (fun x hx => cF_lo (by omega))
      rw [s1, cF_rnk hN hf n _ row (by omega) hc, rnkZ, bit_hi0 ⟨by omega, by omega⟩]
      show _ = 0 + _
      omega
    · obtain ⟨y, rfl⟩ : ∃ y, row = 2 ^ n + y := ⟨row - 2 ^ n, by omega⟩
      rw [Nat.pow_succ] at hr
      have hy : y < 2 ^ n := by omega
      have s1 : sumF (cF N f w (n + 1) s) (2 ^ n) = sumF (cF N f w n (stepZ N f s 0)) (2 ^ n) := sumF_congr (fun x hx => cF_lo hx)
      have s2 : sumF (fun j => cF N f w (n + 1) s (2 ^ n + j)) y = sumF (cF N f w n (stepZ N f s 1)) y := sumF_congr (fun x hx => cF_hi (by omega))
      rw [sumF_split, s1, s2, cF_all hN hf n _ (by omega), cF_rnk hN hf n _ y (by omega) hy, show (((2 ^ n + y : Nat)) : Int) = 2 ^ n + (y : Int) by omega, rnkZ, bit_hi1 ⟨by omega, by omega⟩, if_pos rfl]
      congr 1
      exact (rnkZ_bits n _ (fun i hi => bit_lo hi)).symm
theorem rnk_pck {N : Int} {f w : Nat → Int} (hw : isBits w) : ∀ (n : Nat) (s v : Int), 0 ≤ v → v < ladI N f w n s → rnkZ N f w (pckZ N f w n s v) n s = v
  | 0, s, v, h0, h1 => by
    show (0 : Int) = v
    by_cases hs : 0 ≤ s ∧ s < N
    · rw [ladI_0 hs] at h1
      have := hw s.toNat
      omega
    · rw [ladI_out hs] at h1
      omega
  | n + 1, s, v, h0, h1 => by
    have hs : 0 ≤ s ∧ s < N := by
      apply Classical.byContradiction
      intro hc
      rw [ladI_out hc] at h1
      omega
    rw [ladI_s hs] at h1
    rw [pckZ]
    split
    · next hl =>
      have h2 := pckZ_r (N := N) (f := f) (w := w) n (stepZ N f s 0) v
      rw [rnkZ, bit_hi0 h2, rnk_pck hw n _ v h0 hl]
      show 0 + v = v
      omega
    · next hl =>
      have h2 := pckZ_r (N := N) (f := f) (w := w) n (stepZ N f s 1) (v - ladI N f w n (stepZ N f s 0))
      rw [rnkZ, bit_hi1 h2, if_pos rfl, rnkZ_bits n _ (fun i hi => bit_lo hi), rnk_pck hw n _ _ (by omega) (by omega)]
      omega
theorem sumF_le2 {u : Nat → Int} (h : ∀ j, 0 ≤ u j) {a b : Nat} (hab : a ≤ b) : sumF u a ≤ sumF u b := by
  obtain ⟨k, rfl⟩ := Nat.le.dest hab
  induction k with
  | zero => exact Int.le_refl _
  | succ k ih =>
    have h1 := ih (by omega)
    have h2 := h (a + k)
    have e : sumF u (a + (k + 1)) = sumF u (a + k) + u (a + k) := rfl
    omega
theorem cF_01 {N : Int} {f w : Nat → Int} {n : Nat} {s : Int} (hw : isBits w) (x : Nat) : cF N f w n s x = 0 ∨ cF N f w n s x = 1 := by
  unfold cF
  by_cases h : 0 ≤ folZ N f (x : Int) n s ∧ folZ N f (x : Int) n s < N
  · rw [ladI_0 h]
    exact hw _
  · rw [ladI_out h]
    exact Or.inl rfl
/-- counting on till the row of that number -/
theorem pick_go {N : Int} {f w : Nat → Int} {n : Nat} {s v left : Int} {x : Nat} (hN : N ≤ 100) (hf : Wire N f) (hw : isBits w) (hs : 0 ≤ s ∧ s < N) (hv : 0 ≤ v ∧ v < ladI N f w n s) (hx : (x : Int) ≤ pckZ N f w n s v) (hl : sumF (cF N f w n s) x + left = v) (h0 : 0 ≤ left) :
    (cF N f w n s x = 1 → left = 0 → (x : Int) = pckZ N f w n s v) ∧ (cF N f w n s x = 1 → left ≠ 0 → (x : Int) + 1 ≤ pckZ N f w n s v ∧ sumF (cF N f w n s) (x + 1) + (left - 1) = v ∧ 0 ≤ left - 1) ∧ (cF N f w n s x = 0 → (x : Int) + 1 ≤ pckZ N f w n s v ∧ sumF (cF N f w n s) (x + 1) + left = v) := by
  have hp := pckZ_r (N := N) (f := f) (w := w) n s v
  have h2n := n2p n
  have hm := pck_fol hw n s v hv.1 hv.2
  have hr := rnk_pck hw n s v hv.1 hv.2
  have hc := cF_rnk (w := w) hN hf n s (pckZ N f w n s v).toNat (Or.inr hs) (by omega)
  rw [Int.toNat_of_nonneg hp.1, hr] at hc
  have hmem : cF N f w n s (pckZ N f w n s v).toNat = 1 := by
    unfold cF
    rw [Int.toNat_of_nonneg hp.1, ladI_0 ⟨hm.1, hm.2.1⟩]
    exact hm.2.2
  have hnn : ∀ j, 0 ≤ cF N f w n s j := fun j => by rcases cF_01 (f := f) (N := N) (n := n) (s := s) hw j with h | h <;> omega
  have es : sumF (cF N f w n s) (x + 1) = sumF (cF N f w n s) x + cF N f w n s x := rfl
  refine ⟨fun h1 h2 => ?_, fun h1 h2 => ?_, fun h1 => ?_⟩
  · apply Classical.byContradiction
    intro hne
    have := sumF_le2 hnn (show x + 1 ≤ (pckZ N f w n s v).toNat by omega)
    omega
  · refine ⟨?_, by omega, by omega⟩
    apply Classical.byContradiction
    intro hne
    have : x = (pckZ N f w n s v).toNat := by omega
    rw [← this] at hc
    omega
  · refine ⟨?_, by omega⟩
    apply Classical.byContradiction
    intro hne
    have : x = (pckZ N f w n s v).toNat := by omega
    rw [← this] at hmem
    omega
def s_M_isMemberAt : Spec := fun as σ Q => popR as fun c0 r0 => popI r0 fun s r1 => r1 = [] ∧ c0 = 37 ∧ (0 ≤ σ 37 17 ∧ σ 37 17 ≤ 100) ∧ (isBits (σ 62)) ∧ (s = -1 ∨ (0 ≤ s ∧ s < σ 37 17)) ∧ Q (some (.inl (ladI (σ 37 17) (gM σ) (σ 62) 0 s))) σ
theorem e_M_isMemberAt (s : Int) (σ : St) (Q : Option AV → St → Prop) : s_M_isMemberAt [.inr (.inr (some 37)), .inl s] σ Q = ((0 ≤ σ 37 17 ∧ σ 37 17 ≤ 100) ∧ (isBits (σ 62)) ∧ (s = -1 ∨ (0 ≤ s ∧ s < σ 37 17)) ∧ Q (some (.inl (ladI (σ 37 17) (gM σ) (σ 62) 0 s))) σ) := by
  show ([] = [] ∧ _) = _
  simp only [true_and]
set_option maxHeartbeats 4000000 in
set_option maxRecDepth 20000 in
theorem S_M_isMemberAt {l : Launch} : Sat l y_M_isMemberAt b_M_isMemberAt 2 (some .boolean) 0 s_M_isMemberAt := by
  refine sat_of (Φ := P_M) (κ := Q_M) (Γ := []) (rt := 3) (by decide +kernel) P_M_ok Q_M_ok (fun g hg => absurd hg List.not_mem_nil) (by simp) o_M_isMemberAt ?_
  intro as σ Q hh0
  obtain ⟨c0, rr0, rfl, hh1⟩ := popR_inv hh0
  obtain ⟨s, rr1, rfl, hh2⟩ := popI_inv hh1
  obtain ⟨hrE, rfl, hN, hb, hs, hQ⟩ := hh2
  subst hrE
  clear hh0 hh1
  refine ⟨Nat.le_of_ble_eq_true rfl, [], 14, ?_, cuts0⟩
  · rw [show entL 2 [.inr (.inr (some 37)), .inl s] = [.inr (.inr (some 37)), .inl s] from rfl]
    simp only [↓wpN_go, jmp_e, ↓wp_aload_n0, ↓wp_baload, ↓wp_getfield, ↓wp_goto, ↓wp_icmp_eq, ↓wp_iconst, ↓wp_if_eq, ↓wp_iload_n1, ↓wp_ireturn3, wp_nil, ↓ldI_0, ↓ldI_s, ↓ldL_0, ↓ldL_s, ↓ldR_0, ↓ldR_s, sto1_0, sto1_1, sto1_s, sto2_0, sto2_1, sto2_s, isLong_i, isLong_l, isLong_r, ↓popI_c, ↓popL_c, ↓popR_c, ↓popN_0, ↓popN_s, catS_n, catS_c, psh_s, psh_n, fldV_n, fldV_s, ↓tgt_e, sw_n, ↓sw_c, ↓lk1_h, ↓lk1_m, ↓atC_h, ↓atC_m, ↓atC_n, ltO_n, ltO_s, updR_eq, updR_ne, gI_0i, gI_0l, gI_s, ltM_iff, List.cons.injEq, Sum.inl.injEq, Sum.inr.injEq, Option.some.injEq, exists_eq_left, exists_eq_left', exists_eq_right, exists_eq_right', exists_and_left, exists_and_right, exists_eq, exists_const, and_assoc, ↓j_M_isMemberAt_0, ↓j_M_isMemberAt_18, ↓j_M_isMemberAt_19, ↓f_M_91, List.length_cons, List.length_nil, Nat.zero_add, Nat.reduceAdd, Int.reduceAdd, Int.reduceNeg, Int.reduceToNat, Int.reduceLE, Int.reduceLT, true_and, and_true, Nat.reduceLT, reduceIte, Nat.reduceEqDiff, ne_eq, not_false_eq_true, false_implies, true_implies, Bool.false_eq_true, reduceCtorEq, List.cons_append, List.nil_append, Nat.reduceSub, Nat.reduceLeDiff, Fin.isValue, Int.reduceNatCast', Int.zero_add, Int.add_zero, decide_true, decide_false, implies_true, forall_const, true_or, or_true, or_false, false_or, false_and, and_false, Int.toNat_natCast, ↓oF_37_0, ↓oF_37_1, ↓oF_37_2, ↓oF_37_3, ↓aF_38, ↓oF_37_4, ↓aF_39, ↓oF_37_5, ↓oF_37_6, ↓aF_40, ↓oF_37_7, ↓oF_37_8, ↓aF_41, ↓oF_37_9, ↓aF_42, ↓oF_37_10, ↓aF_43, ↓oF_37_11, ↓aF_44, ↓oF_37_12, ↓aF_45, ↓oF_37_13, ↓aF_46, ↓oF_37_14, ↓aF_47, ↓oF_37_15, ↓aF_48, ↓oF_37_16, ↓aF_49, ↓oF_37_17, ↓oF_37_18, ↓aF_50, ↓oF_37_19, ↓aF_51, ↓oF_37_20, ↓aF_52, ↓oF_37_21, ↓aF_53, ↓oF_37_22, ↓aF_54, ↓oF_37_23, ↓aF_55, ↓oF_37_24, ↓aF_56, ↓oF_37_25, ↓aF_57, ↓oF_37_26, ↓oF_37_27, ↓oF_37_28, ↓aF_58, ↓oF_37_29, ↓aF_59, ↓oF_37_30, ↓aF_60, ↓oF_37_31, ↓aF_61, ↓oF_37_32, ↓oF_37_33, ↓oF_37_34, ↓oF_37_35, ↓aF_62, ↓oF_37_36, ↓oF_37_37, ↓aF_63, ↓oF_37_38, ↓oF_37_39, ↓aF_64, ↓oF_37_40, ↓aF_65, ↓oF_37_41, ↓aF_66, oC_0, oC_1, oC_4, oC_11, oC_16, oC_18, oC_20, oC_23, oC_25, oC_26, oC_29, oC_31, oC_33, oC_35, oC_37, isT_29, isT_31, isT_33, isT_35, isL_16, isL_18, isL_26]
    have h0 : s = -1 → ladI (σ 37 17) (gM σ) (σ 62) 0 s = 0 := fun h => ladI_out (by omega)
    have h1 : 0 ≤ s → s < σ 37 17 → ladI (σ 37 17) (gM σ) (σ 62) 0 s = σ 62 s.toNat := fun h h1 => ladI_0 ⟨h, h1⟩
    have h2 := hb s.toNat
    generalize ladI (σ 37 17) (gM σ) (σ 62) 0 s = z at *
    (try simp only [rI_iff, rL_iff] at *)
    repeat' (with_reducible (first | assumption | apply And.intro | intro _))
    all_goals first | omega | with_reducible assumption | exact True.intro | skip
    all_goals grind
def s_M_home : Spec := fun as σ Q => popR as fun c0 r0 => r0 = [] ∧ c0 = 37 ∧ (isBits (σ 62)) ∧ (∃ s : Nat, s < 100 ∧ σ 62 s = 1) ∧ Q (some (.inl (homeF (σ 62)))) σ
theorem e_M_home  (σ : St) (Q : Option AV → St → Prop) : s_M_home [.inr (.inr (some 37))] σ Q = ((isBits (σ 62)) ∧ (∃ s : Nat, s < 100 ∧ σ 62 s = 1) ∧ Q (some (.inl (homeF (σ 62)))) σ) := by
  show ([] = [] ∧ _) = _
  simp only [true_and]
set_option maxHeartbeats 4000000 in
set_option maxRecDepth 20000 in
theorem S_M_home {l : Launch} : Sat l y_M_home b_M_home 2 (some .int) 0 s_M_home := by
  refine sat_of (Φ := P_M) (κ := Q_M) (Γ := []) (rt := 1) (by decide +kernel) P_M_ok Q_M_ok (fun g hg => absurd hg List.not_mem_nil) (by simp) o_M_home ?_
  intro as σ Q hh0
  obtain ⟨c0, rr0, rfl, hh1⟩ := popR_inv hh0
  obtain ⟨hrE, rfl, hb, hx, hQ⟩ := hh1
  subst hrE
  clear hh0
  refine ⟨Nat.le_of_ble_eq_true rfl, [(2, mkC (fun L st u => ∃ (i : Int), L = [.inr (.inr (some 37)), .inl i] ∧ st = [] ∧ (0 ≤ i ∧ i < 100) ∧ (∀ t : Nat, (t : Int) < i → σ 62 t = 0) ∧ (u = σ)) (fun L st u => ((101 - gI L 1).toNat, 0, 0)))], 14, ?_, cuts1 ?_ (cuts0)⟩
  · rw [show entL 2 [.inr (.inr (some 37))] = [.inr (.inr (some 37)), .inr (.inr none)] from rfl]
    simp only [↓wpN_go, jmp_e, ↓wp_aload_n0, ↓wp_baload, ↓wp_getfield, ↓wp_goto, ↓wp_iconst, ↓wp_if_ne, ↓wp_iinc, ↓wp_iload_n1, ↓wp_ireturn1, ↓wp_istore_n1, wp_nil, ↓ldI_0, ↓ldI_s, ↓ldL_0, ↓ldL_s, ↓ldR_0, ↓ldR_s, sto1_0, sto1_1, sto1_s, sto2_0, sto2_1, sto2_s, isLong_i, isLong_l, isLong_r, ↓popI_c, ↓popL_c, ↓popR_c, ↓popN_0, ↓popN_s, catS_n, catS_c, psh_s, psh_n, fldV_n, fldV_s, ↓tgt_e, sw_n, ↓sw_c, ↓lk1_h, ↓lk1_m, ↓atC_h, ↓atC_m, ↓atC_n, ltO_n, ltO_s, updR_eq, updR_ne, gI_0i, gI_0l, gI_s, ltM_iff, List.cons.injEq, Sum.inl.injEq, Sum.inr.injEq, Option.some.injEq, exists_eq_left, exists_eq_left', exists_eq_right, exists_eq_right', exists_and_left, exists_and_right, exists_eq, exists_const, and_assoc, ↓j_M_home_0, ↓j_M_home_2, ↓j_M_home_17, ↓f_M_91, List.length_cons, List.length_nil, Nat.zero_add, Nat.reduceAdd, Int.reduceAdd, Int.reduceNeg, Int.reduceToNat, Int.reduceLE, Int.reduceLT, true_and, and_true, Nat.reduceLT, reduceIte, Nat.reduceEqDiff, ne_eq, not_false_eq_true, false_implies, true_implies, Bool.false_eq_true, reduceCtorEq, List.cons_append, List.nil_append, Nat.reduceSub, Nat.reduceLeDiff, Fin.isValue, Int.reduceNatCast', Int.zero_add, Int.add_zero, decide_true, decide_false, implies_true, forall_const, true_or, or_true, or_false, false_or, false_and, and_false, Int.toNat_natCast, ↓oF_37_0, ↓oF_37_1, ↓oF_37_2, ↓oF_37_3, ↓aF_38, ↓oF_37_4, ↓aF_39, ↓oF_37_5, ↓oF_37_6, ↓aF_40, ↓oF_37_7, ↓oF_37_8, ↓aF_41, ↓oF_37_9, ↓aF_42, ↓oF_37_10, ↓aF_43, ↓oF_37_11, ↓aF_44, ↓oF_37_12, ↓aF_45, ↓oF_37_13, ↓aF_46, ↓oF_37_14, ↓aF_47, ↓oF_37_15, ↓aF_48, ↓oF_37_16, ↓aF_49, ↓oF_37_17, ↓oF_37_18, ↓aF_50, ↓oF_37_19, ↓aF_51, ↓oF_37_20, ↓aF_52, ↓oF_37_21, ↓aF_53, ↓oF_37_22, ↓aF_54, ↓oF_37_23, ↓aF_55, ↓oF_37_24, ↓aF_56, ↓oF_37_25, ↓aF_57, ↓oF_37_26, ↓oF_37_27, ↓oF_37_28, ↓aF_58, ↓oF_37_29, ↓aF_59, ↓oF_37_30, ↓aF_60, ↓oF_37_31, ↓aF_61, ↓oF_37_32, ↓oF_37_33, ↓oF_37_34, ↓oF_37_35, ↓aF_62, ↓oF_37_36, ↓oF_37_37, ↓aF_63, ↓oF_37_38, ↓oF_37_39, ↓aF_64, ↓oF_37_40, ↓aF_65, ↓oF_37_41, ↓aF_66, oC_0, oC_1, oC_4, oC_11, oC_16, oC_18, oC_20, oC_23, oC_25, oC_26, oC_29, oC_31, oC_33, oC_35, oC_37, isT_29, isT_31, isT_33, isT_35, isL_16, isL_18, isL_26]
    (try simp only [rI_iff, rL_iff] at *)
    repeat' (with_reducible (first | assumption | apply And.intro | intro _))
    all_goals first | omega | with_reducible assumption | exact True.intro | skip
    all_goals first
      | omega
      | trace_state
  · intro L st u hI
    obtain ⟨i, rfl, rfl, hi, hz, hu⟩ := hI
    simp only [↓wpN_go, jmp_e, ↓wp_aload_n0, ↓wp_baload, ↓wp_getfield, ↓wp_goto, ↓wp_iconst, ↓wp_if_ne, ↓wp_iinc, ↓wp_iload_n1, ↓wp_ireturn1, ↓wp_istore_n1, wp_nil, ↓ldI_0, ↓ldI_s, ↓ldL_0, ↓ldL_s, ↓ldR_0, ↓ldR_s, sto1_0, sto1_1, sto1_s, sto2_0, sto2_1, sto2_s, isLong_i, isLong_l, isLong_r, ↓popI_c, ↓popL_c, ↓popR_c, ↓popN_0, ↓popN_s, catS_n, catS_c, psh_s, psh_n, fldV_n, fldV_s, ↓tgt_e, sw_n, ↓sw_c, ↓lk1_h, ↓lk1_m, ↓atC_h, ↓atC_m, ↓atC_n, ltO_n, ltO_s, updR_eq, updR_ne, gI_0i, gI_0l, gI_s, ltM_iff, List.cons.injEq, Sum.inl.injEq, Sum.inr.injEq, Option.some.injEq, exists_eq_left, exists_eq_left', exists_eq_right, exists_eq_right', exists_and_left, exists_and_right, exists_eq, exists_const, and_assoc, ↓j_M_home_0, ↓j_M_home_2, ↓j_M_home_17, ↓f_M_91, List.length_cons, List.length_nil, Nat.zero_add, Nat.reduceAdd, Int.reduceAdd, Int.reduceNeg, Int.reduceToNat, Int.reduceLE, Int.reduceLT, true_and, and_true, Nat.reduceLT, reduceIte, Nat.reduceEqDiff, ne_eq, not_false_eq_true, false_implies, true_implies, Bool.false_eq_true, reduceCtorEq, List.cons_append, List.nil_append, Nat.reduceSub, Nat.reduceLeDiff, Fin.isValue, Int.reduceNatCast', Int.zero_add, Int.add_zero, decide_true, decide_false, implies_true, forall_const, true_or, or_true, or_false, false_or, false_and, and_false, Int.toNat_natCast, ↓oF_37_0, ↓oF_37_1, ↓oF_37_2, ↓oF_37_3, ↓aF_38, ↓oF_37_4, ↓aF_39, ↓oF_37_5, ↓oF_37_6, ↓aF_40, ↓oF_37_7, ↓oF_37_8, ↓aF_41, ↓oF_37_9, ↓aF_42, ↓oF_37_10, ↓aF_43, ↓oF_37_11, ↓aF_44, ↓oF_37_12, ↓aF_45, ↓oF_37_13, ↓aF_46, ↓oF_37_14, ↓aF_47, ↓oF_37_15, ↓aF_48, ↓oF_37_16, ↓aF_49, ↓oF_37_17, ↓oF_37_18, ↓aF_50, ↓oF_37_19, ↓aF_51, ↓oF_37_20, ↓aF_52, ↓oF_37_21, ↓aF_53, ↓oF_37_22, ↓aF_54, ↓oF_37_23, ↓aF_55, ↓oF_37_24, ↓aF_56, ↓oF_37_25, ↓aF_57, ↓oF_37_26, ↓oF_37_27, ↓oF_37_28, ↓aF_58, ↓oF_37_29, ↓aF_59, ↓oF_37_30, ↓aF_60, ↓oF_37_31, ↓aF_61, ↓oF_37_32, ↓oF_37_33, ↓oF_37_34, ↓oF_37_35, ↓aF_62, ↓oF_37_36, ↓oF_37_37, ↓aF_63, ↓oF_37_38, ↓oF_37_39, ↓aF_64, ↓oF_37_40, ↓aF_65, ↓oF_37_41, ↓aF_66, oC_0, oC_1, oC_4, oC_11, oC_16, oC_18, oC_20, oC_23, oC_25, oC_26, oC_29, oC_31, oC_33, oC_35, oC_37, isT_29, isT_31, isT_33, isT_35, isL_16, isL_18, isL_26]
    subst hu
    obtain ⟨k, hk1, hk2⟩ := hx
    have hbi := hb i.toNat
    have q1 : ¬ u 62 i.toNat = 0 → Q (some (.inl i)) u := fun h => by
      have e : i = homeF (u 62) := findF_eq (Or.inr ⟨i.toNat, by omega, by omega, by simp; omega, fun t ht => by
        have := hz t (by omega)
        simp [this]⟩)
      rw [e]
      exact hQ
    have q2 : u 62 i.toNat = 0 → ∀ t : Nat, (t : Int) < i + 1 → u 62 t = 0 := fun h t ht => by
      by_cases e : t = i.toNat
      · rw [e]; exact h
      · exact hz t (by omega)
    have q3 : u 62 i.toNat = 0 → i < 99 := fun h => by
      apply Classical.byContradiction
      intro hc
      have : u 62 k = 0 := q2 h k (by omega)
      omega
    (try simp only [rI_iff, rL_iff] at *)
    repeat' (with_reducible (first | assumption | apply And.intro | intro _))
    all_goals first | omega | with_reducible assumption | exact True.intro | skip
    all_goals first
      | exact q1 (by assumption)
      | exact q2 (by assumption) _ (by assumption)
      | (have hs1 := q3 (by assumption); omega)
      | omega
      | trace_state
def s_M_member : Spec := fun as σ Q => popR as fun c0 r0 => popI r0 fun s r1 => r1 = [] ∧ c0 = 37 ∧ (0 ≤ σ 37 17 ∧ σ 37 17 ≤ 100) ∧ (isBits (σ 62)) ∧ (rI s) ∧ (rI (σ 37 32)) ∧ Q (some (.inl (if ¬ (0 ≤ s ∧ s < σ 37 17) then -2 else if σ 37 32 = 0 then -3 else if σ 62 s.toNat = 1 then 1 else 0))) σ
theorem e_M_member (s : Int) (σ : St) (Q : Option AV → St → Prop) : s_M_member [.inr (.inr (some 37)), .inl s] σ Q = ((0 ≤ σ 37 17 ∧ σ 37 17 ≤ 100) ∧ (isBits (σ 62)) ∧ (rI s) ∧ (rI (σ 37 32)) ∧ Q (some (.inl (if ¬ (0 ≤ s ∧ s < σ 37 17) then -2 else if σ 37 32 = 0 then -3 else if σ 62 s.toNat = 1 then 1 else 0))) σ) := by
  show ([] = [] ∧ _) = _
  simp only [true_and]
set_option maxHeartbeats 4000000 in
set_option maxRecDepth 20000 in
theorem S_M_member {l : Launch} : Sat l y_M_member b_M_member 2 (some .int) 2 s_M_member := by
  refine sat_of (Φ := P_M) (κ := Q_M) (Γ := [(185, 10, 1, s_M_isState)]) (rt := 1) (by decide +kernel) P_M_ok Q_M_ok (by
    refine List.forall_mem_cons.mpr ⟨?_, fun _ h => absurd h List.not_mem_nil⟩
    · exact m_M_isState S_M_isState (by decide) l_M_185) (by simp) o_M_member ?_
  intro as σ Q hh0
  obtain ⟨c0, rr0, rfl, hh1⟩ := popR_inv hh0
  obtain ⟨s, rr1, rfl, hh2⟩ := popI_inv hh1
  obtain ⟨hrE, rfl, hN, hb, hrs, hrz, hQ⟩ := hh2
  subst hrE
  clear hh0 hh1
  refine ⟨Nat.le_of_ble_eq_true rfl, [], 14, ?_, cuts0⟩
  · rw [show entL 2 [.inr (.inr (some 37)), .inl s] = [.inr (.inr (some 37)), .inl s] from rfl]
    simp only [↓wpN_go, jmp_e, ↓wp_aload_n0, ↓wp_baload, ↓wp_bipush, ↓wp_getfield, ↓wp_goto, ↓wp_iconst, ↓wp_if_eq, ↓wp_if_ne, ↓wp_iload_n1, ↓wp_invokevirtual, ↓wp_ireturn1, wp_nil, ↓ldI_0, ↓ldI_s, ↓ldL_0, ↓ldL_s, ↓ldR_0, ↓ldR_s, sto1_0, sto1_1, sto1_s, sto2_0, sto2_1, sto2_s, isLong_i, isLong_l, isLong_r, ↓popI_c, ↓popL_c, ↓popR_c, ↓popN_0, ↓popN_s, catS_n, catS_c, psh_s, psh_n, fldV_n, fldV_s, ↓tgt_e, sw_n, ↓sw_c, ↓lk1_h, ↓lk1_m, ↓atC_h, ↓atC_m, ↓atC_n, ltO_n, ltO_s, updR_eq, updR_ne, gI_0i, gI_0l, gI_s, ltM_iff, List.cons.injEq, Sum.inl.injEq, Sum.inr.injEq, Option.some.injEq, exists_eq_left, exists_eq_left', exists_eq_right, exists_eq_right', exists_and_left, exists_and_right, exists_eq, exists_const, and_assoc, ↓j_M_member_0, ↓j_M_member_11, ↓j_M_member_23, ↓j_M_member_36, ↓j_M_member_37, ↓f_M_179, ↓f_M_91, List.length_cons, List.length_nil, Nat.zero_add, Nat.reduceAdd, Int.reduceAdd, Int.reduceNeg, Int.reduceToNat, Int.reduceLE, Int.reduceLT, true_and, and_true, Nat.reduceLT, reduceIte, Nat.reduceEqDiff, ne_eq, not_false_eq_true, false_implies, true_implies, Bool.false_eq_true, reduceCtorEq, List.cons_append, List.nil_append, Nat.reduceSub, Nat.reduceLeDiff, Fin.isValue, Int.reduceNatCast', Int.zero_add, Int.add_zero, decide_true, decide_false, implies_true, forall_const, true_or, or_true, or_false, false_or, false_and, and_false, Int.toNat_natCast, ↓oF_37_0, ↓oF_37_1, ↓oF_37_2, ↓oF_37_3, ↓aF_38, ↓oF_37_4, ↓aF_39, ↓oF_37_5, ↓oF_37_6, ↓aF_40, ↓oF_37_7, ↓oF_37_8, ↓aF_41, ↓oF_37_9, ↓aF_42, ↓oF_37_10, ↓aF_43, ↓oF_37_11, ↓aF_44, ↓oF_37_12, ↓aF_45, ↓oF_37_13, ↓aF_46, ↓oF_37_14, ↓aF_47, ↓oF_37_15, ↓aF_48, ↓oF_37_16, ↓aF_49, ↓oF_37_17, ↓oF_37_18, ↓aF_50, ↓oF_37_19, ↓aF_51, ↓oF_37_20, ↓aF_52, ↓oF_37_21, ↓aF_53, ↓oF_37_22, ↓aF_54, ↓oF_37_23, ↓aF_55, ↓oF_37_24, ↓aF_56, ↓oF_37_25, ↓aF_57, ↓oF_37_26, ↓oF_37_27, ↓oF_37_28, ↓aF_58, ↓oF_37_29, ↓aF_59, ↓oF_37_30, ↓aF_60, ↓oF_37_31, ↓aF_61, ↓oF_37_32, ↓oF_37_33, ↓oF_37_34, ↓oF_37_35, ↓aF_62, ↓oF_37_36, ↓oF_37_37, ↓aF_63, ↓oF_37_38, ↓oF_37_39, ↓aF_64, ↓oF_37_40, ↓aF_65, ↓oF_37_41, ↓aF_66, oC_0, oC_1, oC_4, oC_11, oC_16, oC_18, oC_20, oC_23, oC_25, oC_26, oC_29, oC_31, oC_33, oC_35, oC_37, isT_29, isT_31, isT_33, isT_35, isL_16, isL_18, isL_26, b2i_0, b2i_1, b2i_01, b2i_r, ↓e_M_isState]
    have h2 := hb s.toNat
    (try simp only [rI_iff, rL_iff] at *)
    repeat' (with_reducible (first | assumption | apply And.intro | intro _))
    all_goals first | omega | with_reducible assumption | exact True.intro | skip
    all_goals grind
def s_M_leading : Spec := fun as σ Q => popR as fun c0 r0 => popI r0 fun s r1 => r1 = [] ∧ c0 = 37 ∧ (0 ≤ σ 37 17 ∧ σ 37 17 ≤ 100) ∧ (Wire (σ 37 17) (gM σ)) ∧ (isBits (σ 62)) ∧ (0 ≤ s ∧ s < σ 37 17) ∧ (0 ≤ σ 37 34 ∧ σ 37 34 ≤ 12) ∧ ∀ g h, Q (some (.inl (ladI (σ 37 17) (gM σ) (σ 62) (σ 37 34).toNat s))) (updR (updR σ 59 g) 60 h)
theorem e_M_leading (s : Int) (σ : St) (Q : Option AV → St → Prop) : s_M_leading [.inr (.inr (some 37)), .inl s] σ Q = ((0 ≤ σ 37 17 ∧ σ 37 17 ≤ 100) ∧ (Wire (σ 37 17) (gM σ)) ∧ (isBits (σ 62)) ∧ (0 ≤ s ∧ s < σ 37 17) ∧ (0 ≤ σ 37 34 ∧ σ 37 34 ≤ 12) ∧ ∀ g h, Q (some (.inl (ladI (σ 37 17) (gM σ) (σ 62) (σ 37 34).toNat s))) (updR (updR σ 59 g) 60 h)) := by
  show ([] = [] ∧ _) = _
  simp only [true_and]
set_option maxHeartbeats 4000000 in
set_option maxRecDepth 20000 in
theorem S_M_leading {l : Launch} : Sat l y_M_leading b_M_leading 4 (some .int) 1 s_M_leading := by
  refine sat_of (Φ := P_M) (κ := Q_M) (Γ := [(211, 10, 2, s_M_reachFrom)]) (rt := 1) (by decide +kernel) P_M_ok Q_M_ok (by
    refine List.forall_mem_cons.mpr ⟨?_, fun _ h => absurd h List.not_mem_nil⟩
    · exact m_M_reachFrom S_M_reachFrom (by decide) l_M_211) (by simp) o_M_leading ?_
  intro as σ Q hh0
  obtain ⟨c0, rr0, rfl, hh1⟩ := popR_inv hh0
  obtain ⟨s, rr1, rfl, hh2⟩ := popI_inv hh1
  obtain ⟨hrE, rfl, hN, hf, hb, hs, hn, hQ⟩ := hh2
  subst hrE
  clear hh0 hh1
  refine ⟨Nat.le_of_ble_eq_true rfl, [(13, mkC (fun L st u => ∃ (j : Int) (g h : Nat → Int), L = [.inr (.inr (some 37)), .inl s, .inl ((sumF (fun j => ladI (σ 37 17) (gM σ) (indF j) (σ 37 34).toNat s * σ 62 j) j.toNat)), .inl j] ∧ st = [] ∧ (0 ≤ j ∧ j ≤ σ 37 17) ∧ (ReachG σ (σ 37 17) s (σ 37 34).toNat g) ∧ (u = updR (updR σ 59 g) 60 h)) (fun L st u => ((101 - gI L 3).toNat, 0, 0)))], 14, ?_, cuts1 ?_ (cuts0)⟩
  · rw [show entL 4 [.inr (.inr (some 37)), .inl s] = [.inr (.inr (some 37)), .inl s, .inr (.inr none), .inr (.inr none)] from rfl]
    simp only [↓wpN_go, jmp_e, ↓wp_aload_n0, ↓wp_baload, ↓wp_getfield, ↓wp_goto, ↓wp_iadd, ↓wp_iaload, ↓wp_icmp_ge, ↓wp_iconst, ↓wp_if_eq, ↓wp_iinc, ↓wp_iload_n1, ↓wp_iload_n2, ↓wp_iload_n3, ↓wp_invokevirtual, ↓wp_ireturn1, ↓wp_istore_n2, ↓wp_istore_n3, wp_nil, ↓ldI_0, ↓ldI_s, ↓ldL_0, ↓ldL_s, ↓ldR_0, ↓ldR_s, sto1_0, sto1_1, sto1_s, sto2_0, sto2_1, sto2_s, isLong_i, isLong_l, isLong_r, ↓popI_c, ↓popL_c, ↓popR_c, ↓popN_0, ↓popN_s, catS_n, catS_c, psh_s, psh_n, fldV_n, fldV_s, ↓tgt_e, sw_n, ↓sw_c, ↓lk1_h, ↓lk1_m, ↓atC_h, ↓atC_m, ↓atC_n, ltO_n, ltO_s, updR_eq, updR_ne, gI_0i, gI_0l, gI_s, ltM_iff, List.cons.injEq, Sum.inl.injEq, Sum.inr.injEq, Option.some.injEq, exists_eq_left, exists_eq_left', exists_eq_right, exists_eq_right', exists_and_left, exists_and_right, exists_eq, exists_const, and_assoc, ↓j_M_leading_0, ↓j_M_leading_13, ↓j_M_leading_40, ↓j_M_leading_41, ↓j_M_leading_49, ↓f_M_160, ↓f_M_230, ↓f_M_82, ↓f_M_91, List.length_cons, List.length_nil, Nat.zero_add, Nat.reduceAdd, Int.reduceAdd, Int.reduceNeg, Int.reduceToNat, Int.reduceLE, Int.reduceLT, true_and, and_true, Nat.reduceLT, reduceIte, Nat.reduceEqDiff, ne_eq, not_false_eq_true, false_implies, true_implies, Bool.false_eq_true, reduceCtorEq, List.cons_append, List.nil_append, Nat.reduceSub, Nat.reduceLeDiff, Fin.isValue, Int.reduceNatCast', Int.zero_add, Int.add_zero, decide_true, decide_false, implies_true, forall_const, true_or, or_true, or_false, false_or, false_and, and_false, Int.toNat_natCast, ↓oF_37_0, ↓oF_37_1, ↓oF_37_2, ↓oF_37_3, ↓aF_38, ↓oF_37_4, ↓aF_39, ↓oF_37_5, ↓oF_37_6, ↓aF_40, ↓oF_37_7, ↓oF_37_8, ↓aF_41, ↓oF_37_9, ↓aF_42, ↓oF_37_10, ↓aF_43, ↓oF_37_11, ↓aF_44, ↓oF_37_12, ↓aF_45, ↓oF_37_13, ↓aF_46, ↓oF_37_14, ↓aF_47, ↓oF_37_15, ↓aF_48, ↓oF_37_16, ↓aF_49, ↓oF_37_17, ↓oF_37_18, ↓aF_50, ↓oF_37_19, ↓aF_51, ↓oF_37_20, ↓aF_52, ↓oF_37_21, ↓aF_53, ↓oF_37_22, ↓aF_54, ↓oF_37_23, ↓aF_55, ↓oF_37_24, ↓aF_56, ↓oF_37_25, ↓aF_57, ↓oF_37_26, ↓oF_37_27, ↓oF_37_28, ↓aF_58, ↓oF_37_29, ↓aF_59, ↓oF_37_30, ↓aF_60, ↓oF_37_31, ↓aF_61, ↓oF_37_32, ↓oF_37_33, ↓oF_37_34, ↓oF_37_35, ↓aF_62, ↓oF_37_36, ↓oF_37_37, ↓aF_63, ↓oF_37_38, ↓oF_37_39, ↓aF_64, ↓oF_37_40, ↓aF_65, ↓oF_37_41, ↓aF_66, oC_0, oC_1, oC_4, oC_11, oC_16, oC_18, oC_20, oC_23, oC_25, oC_26, oC_29, oC_31, oC_33, oC_35, oC_37, isT_29, isT_31, isT_33, isT_35, isL_16, isL_18, isL_26, ↓e_M_reachFrom]
    (try simp only [rI_iff, rL_iff] at *)
    repeat' (with_reducible (first | assumption | apply And.intro | intro _))
    all_goals first | omega | with_reducible assumption | exact True.intro | skip
    all_goals first
      | exact ⟨0, rfl, rfl, by omega, by omega, _, by assumption, _, rfl⟩
      | trace_state
  · intro L st u hI
    obtain ⟨j, g, h, rfl, rfl, hj, hg, hu⟩ := hI
    simp only [↓wpN_go, jmp_e, ↓wp_aload_n0, ↓wp_baload, ↓wp_getfield, ↓wp_goto, ↓wp_iadd, ↓wp_iaload, ↓wp_icmp_ge, ↓wp_iconst, ↓wp_if_eq, ↓wp_iinc, ↓wp_iload_n1, ↓wp_iload_n2, ↓wp_iload_n3, ↓wp_invokevirtual, ↓wp_ireturn1, ↓wp_istore_n2, ↓wp_istore_n3, wp_nil, ↓ldI_0, ↓ldI_s, ↓ldL_0, ↓ldL_s, ↓ldR_0, ↓ldR_s, sto1_0, sto1_1, sto1_s, sto2_0, sto2_1, sto2_s, isLong_i, isLong_l, isLong_r, ↓popI_c, ↓popL_c, ↓popR_c, ↓popN_0, ↓popN_s, catS_n, catS_c, psh_s, psh_n, fldV_n, fldV_s, ↓tgt_e, sw_n, ↓sw_c, ↓lk1_h, ↓lk1_m, ↓atC_h, ↓atC_m, ↓atC_n, ltO_n, ltO_s, updR_eq, updR_ne, gI_0i, gI_0l, gI_s, ltM_iff, List.cons.injEq, Sum.inl.injEq, Sum.inr.injEq, Option.some.injEq, exists_eq_left, exists_eq_left', exists_eq_right, exists_eq_right', exists_and_left, exists_and_right, exists_eq, exists_const, and_assoc, ↓j_M_leading_0, ↓j_M_leading_13, ↓j_M_leading_40, ↓j_M_leading_41, ↓j_M_leading_49, ↓f_M_160, ↓f_M_230, ↓f_M_82, ↓f_M_91, List.length_cons, List.length_nil, Nat.zero_add, Nat.reduceAdd, Int.reduceAdd, Int.reduceNeg, Int.reduceToNat, Int.reduceLE, Int.reduceLT, true_and, and_true, Nat.reduceLT, reduceIte, Nat.reduceEqDiff, ne_eq, not_false_eq_true, false_implies, true_implies, Bool.false_eq_true, reduceCtorEq, List.cons_append, List.nil_append, Nat.reduceSub, Nat.reduceLeDiff, Fin.isValue, Int.reduceNatCast', Int.zero_add, Int.add_zero, decide_true, decide_false, implies_true, forall_const, true_or, or_true, or_false, false_or, false_and, and_false, Int.toNat_natCast, ↓oF_37_0, ↓oF_37_1, ↓oF_37_2, ↓oF_37_3, ↓aF_38, ↓oF_37_4, ↓aF_39, ↓oF_37_5, ↓oF_37_6, ↓aF_40, ↓oF_37_7, ↓oF_37_8, ↓aF_41, ↓oF_37_9, ↓aF_42, ↓oF_37_10, ↓aF_43, ↓oF_37_11, ↓aF_44, ↓oF_37_12, ↓aF_45, ↓oF_37_13, ↓aF_46, ↓oF_37_14, ↓aF_47, ↓oF_37_15, ↓aF_48, ↓oF_37_16, ↓aF_49, ↓oF_37_17, ↓oF_37_18, ↓aF_50, ↓oF_37_19, ↓aF_51, ↓oF_37_20, ↓aF_52, ↓oF_37_21, ↓aF_53, ↓oF_37_22, ↓aF_54, ↓oF_37_23, ↓aF_55, ↓oF_37_24, ↓aF_56, ↓oF_37_25, ↓aF_57, ↓oF_37_26, ↓oF_37_27, ↓oF_37_28, ↓aF_58, ↓oF_37_29, ↓aF_59, ↓oF_37_30, ↓aF_60, ↓oF_37_31, ↓aF_61, ↓oF_37_32, ↓oF_37_33, ↓oF_37_34, ↓oF_37_35, ↓aF_62, ↓oF_37_36, ↓oF_37_37, ↓aF_63, ↓oF_37_38, ↓oF_37_39, ↓aF_64, ↓oF_37_40, ↓aF_65, ↓oF_37_41, ↓aF_66, oC_0, oC_1, oC_4, oC_11, oC_16, oC_18, oC_20, oC_23, oC_25, oC_26, oC_29, oC_31, oC_33, oC_35, oC_37, isT_29, isT_31, isT_33, isT_35, isL_16, isL_18, isL_26, ↓e_M_reachFrom]
    subst hu
    have e37 : updR (updR σ 59 g) 60 h 37 = σ 37 := by rw [updR_ne _ 60 37 _ (by decide), updR_ne _ 59 37 _ (by decide)]
    have e62 : updR (updR σ 59 g) 60 h 62 = σ 62 := by rw [updR_ne _ 60 62 _ (by decide), updR_ne _ 59 62 _ (by decide)]
    have e59 : updR (updR σ 59 g) 60 h 59 = g := by rw [updR_ne _ 60 59 _ (by decide), updR_eq]
    simp only [e37, e62, e59]
    have e1 : (j + 1).toNat = j.toNat + 1 := by omega
    have hbj := hb j.toNat
    have hg1 : j < σ 37 17 → g j.toNat = ladI (σ 37 17) (gM σ) (indF j) (σ 37 34).toNat s := fun q => by
      have := hg j.toNat (by omega)
      rw [Int.toNat_of_nonneg hj.1] at this
      exact this
    have hss : sumF (fun j => ladI (σ 37 17) (gM σ) (indF j) (σ 37 34).toNat s * σ 62 j) (j.toNat + 1) = sumF (fun j => ladI (σ 37 17) (gM σ) (indF j) (σ 37 34).toNat s * σ 62 j) j.toNat + ladI (σ 37 17) (gM σ) (indF j) (σ 37 34).toNat s * σ 62 j.toNat := by
      rw [sumF]
      show _ + ladI (σ 37 17) (gM σ) (indF ((j.toNat : Nat) : Int)) (σ 37 34).toNat s * σ 62 j.toNat = _
      rw [Int.toNat_of_nonneg hj.1]
    have q1 : σ 37 17 ≤ j → Q (some (.inl (sumF (fun j => ladI (σ 37 17) (gM σ) (indF j) (σ 37 34).toNat s * σ 62 j) j.toNat))) (updR (updR σ 59 g) 60 h) := fun q => by
      rw [show j.toNat = (σ 37 17).toNat by omega, wsum]
      exact hQ g h
    have m0 : ¬ σ 62 j.toNat = 0 → ladI (σ 37 17) (gM σ) (indF j) (σ 37 34).toNat s * σ 62 j.toNat = ladI (σ 37 17) (gM σ) (indF j) (σ 37 34).toNat s := fun q => by
      rw [show σ 62 j.toNat = 1 by omega, Int.mul_one]
    have m1 : σ 62 j.toNat = 0 → ladI (σ 37 17) (gM σ) (indF j) (σ 37 34).toNat s * σ 62 j.toNat = 0 := fun q => by
      rw [q, Int.mul_zero]
    by_cases hc : j < σ 37 17
    · have hg1 := hg1 hc
      rw [hg1]
      clear hQ
      (try simp only [rI_iff, rL_iff] at *)
      repeat' (with_reducible (first | assumption | apply And.intro | intro _))
      all_goals first | omega | with_reducible assumption | exact True.intro | skip
      all_goals first
        | omega
        | exact ⟨j + 1, by rw [e1, hss]; first | (rw [m0 (by assumption)]) | (rw [m1 (by assumption)]; first | rfl | omega), rfl, by omega, by omega, _, hg, _, rfl⟩
        | trace_state
    · (try simp only [rI_iff, rL_iff] at *)
      repeat' (with_reducible (first | assumption | apply And.intro | intro _))
      all_goals first | omega | with_reducible assumption | exact True.intro | skip
      all_goals first
        | exact q1 (by omega)
        | omega
        | trace_state
def s_M_wordAt : Spec := fun as σ Q => popR as fun c0 r0 => popI r0 fun s r1 => popI r1 fun v r2 => r2 = [] ∧ c0 = 37 ∧ (0 ≤ σ 37 17 ∧ σ 37 17 ≤ 100) ∧ (Wire (σ 37 17) (gM σ)) ∧ (isBits (σ 62)) ∧ (1 ≤ σ 37 34 ∧ σ 37 34 ≤ 12) ∧ (0 ≤ s ∧ s < σ 37 17) ∧ (0 ≤ v ∧ v < ladI (σ 37 17) (gM σ) (σ 62) (σ 37 34).toNat s) ∧ Q (some (.inl (pckZ (σ 37 17) (gM σ) (σ 62) (σ 37 34).toNat s v))) σ
theorem e_M_wordAt (s : Int) (v : Int) (σ : St) (Q : Option AV → St → Prop) : s_M_wordAt [.inr (.inr (some 37)), .inl s, .inl v] σ Q = ((0 ≤ σ 37 17 ∧ σ 37 17 ≤ 100) ∧ (Wire (σ 37 17) (gM σ)) ∧ (isBits (σ 62)) ∧ (1 ≤ σ 37 34 ∧ σ 37 34 ≤ 12) ∧ (0 ≤ s ∧ s < σ 37 17) ∧ (0 ≤ v ∧ v < ladI (σ 37 17) (gM σ) (σ 62) (σ 37 34).toNat s) ∧ Q (some (.inl (pckZ (σ 37 17) (gM σ) (σ 62) (σ 37 34).toNat s v))) σ) := by
  show ([] = [] ∧ _) = _
  simp only [true_and]
set_option maxHeartbeats 4000000 in
set_option maxRecDepth 20000 in
theorem S_M_wordAt {l : Launch} : Sat l y_M_wordAt b_M_wordAt 5 (some .int) 2 s_M_wordAt := by
  refine sat_of (Φ := P_M) (κ := Q_M) (Γ := [(197, 10, 3, s_M_walks), (241, 10, 1, s_M_isMemberAt)]) (rt := 1) (by decide +kernel) P_M_ok Q_M_ok (by
    refine List.forall_mem_cons.mpr ⟨?_, List.forall_mem_cons.mpr ⟨?_, fun _ h => absurd h List.not_mem_nil⟩⟩
    · exact m_M_walks S_M_walks (by decide) l_M_197
    · exact m_M_isMemberAt S_M_isMemberAt (by decide) l_M_241) (by simp) o_M_wordAt ?_
  intro as σ Q hh0
  obtain ⟨c0, rr0, rfl, hh1⟩ := popR_inv hh0
  obtain ⟨s, rr1, rfl, hh2⟩ := popI_inv hh1
  obtain ⟨v, rr2, rfl, hh3⟩ := popI_inv hh2
  obtain ⟨hrE, rfl, hN, hf, hb, hcn, hs, hv, hQ⟩ := hh3
  subst hrE
  clear hh0 hh1 hh2
  refine ⟨Nat.le_of_ble_eq_true rfl, [(5, mkC (fun L st u => ∃ (left x : Int), L = [.inr (.inr (some 37)), .inl s, .inl v, .inl left, .inl x] ∧ st = [] ∧ (0 ≤ x ∧ x ≤ pckZ (σ 37 17) (gM σ) (σ 62) (σ 37 34).toNat s v) ∧ (sumF (cF (σ 37 17) (gM σ) (σ 62) (σ 37 34).toNat s) x.toNat + left = v) ∧ (0 ≤ left ∧ left ≤ v) ∧ (u = σ)) (fun L st u => ((4097 - gI L 4).toNat, 0, 0)))], 14, ?_, cuts1 ?_ (cuts0)⟩
  · rw [show entL 5 [.inr (.inr (some 37)), .inl s, .inl v] = [.inr (.inr (some 37)), .inl s, .inl v, .inr (.inr none), .inr (.inr none)] from rfl]
    simp only [↓wpN_go, jmp_e, ↓wp_aload_n0, ↓wp_getfield, ↓wp_goto, ↓wp_i2l, ↓wp_iconst, ↓wp_if_eq, ↓wp_if_ne, ↓wp_iinc, ↓wp_iload, ↓wp_iload_n1, ↓wp_iload_n2, ↓wp_iload_n3, ↓wp_invokevirtual, ↓wp_ireturn1, ↓wp_istore, ↓wp_istore_n3, wp_nil, ↓ldI_0, ↓ldI_s, ↓ldL_0, ↓ldL_s, ↓ldR_0, ↓ldR_s, sto1_0, sto1_1, sto1_s, sto2_0, sto2_1, sto2_s, isLong_i, isLong_l, isLong_r, ↓popI_c, ↓popL_c, ↓popR_c, ↓popN_0, ↓popN_s, catS_n, catS_c, psh_s, psh_n, fldV_n, fldV_s, ↓tgt_e, sw_n, ↓sw_c, ↓lk1_h, ↓lk1_m, ↓atC_h, ↓atC_m, ↓atC_n, ltO_n, ltO_s, updR_eq, updR_ne, gI_0i, gI_0l, gI_s, ltM_iff, List.cons.injEq, Sum.inl.injEq, Sum.inr.injEq, Option.some.injEq, exists_eq_left, exists_eq_left', exists_eq_right, exists_eq_right', exists_and_left, exists_and_right, exists_eq, exists_const, and_assoc, ↓j_M_wordAt_0, ↓j_M_wordAt_5, ↓j_M_wordAt_31, ↓j_M_wordAt_34, ↓f_M_230, List.length_cons, List.length_nil, Nat.zero_add, Nat.reduceAdd, Int.reduceAdd, Int.reduceNeg, Int.reduceToNat, Int.reduceLE, Int.reduceLT, true_and, and_true, Nat.reduceLT, reduceIte, Nat.reduceEqDiff, ne_eq, not_false_eq_true, false_implies, true_implies, Bool.false_eq_true, reduceCtorEq, List.cons_append, List.nil_append, Nat.reduceSub, Nat.reduceLeDiff, Fin.isValue, Int.reduceNatCast', Int.zero_add, Int.add_zero, decide_true, decide_false, implies_true, forall_const, true_or, or_true, or_false, false_or, false_and, and_false, Int.toNat_natCast, ↓oF_37_0, ↓oF_37_1, ↓oF_37_2, ↓oF_37_3, ↓aF_38, ↓oF_37_4, ↓aF_39, ↓oF_37_5, ↓oF_37_6, ↓aF_40, ↓oF_37_7, ↓oF_37_8, ↓aF_41, ↓oF_37_9, ↓aF_42, ↓oF_37_10, ↓aF_43, ↓oF_37_11, ↓aF_44, ↓oF_37_12, ↓aF_45, ↓oF_37_13, ↓aF_46, ↓oF_37_14, ↓aF_47, ↓oF_37_15, ↓aF_48, ↓oF_37_16, ↓aF_49, ↓oF_37_17, ↓oF_37_18, ↓aF_50, ↓oF_37_19, ↓aF_51, ↓oF_37_20, ↓aF_52, ↓oF_37_21, ↓aF_53, ↓oF_37_22, ↓aF_54, ↓oF_37_23, ↓aF_55, ↓oF_37_24, ↓aF_56, ↓oF_37_25, ↓aF_57, ↓oF_37_26, ↓oF_37_27, ↓oF_37_28, ↓aF_58, ↓oF_37_29, ↓aF_59, ↓oF_37_30, ↓aF_60, ↓oF_37_31, ↓aF_61, ↓oF_37_32, ↓oF_37_33, ↓oF_37_34, ↓oF_37_35, ↓aF_62, ↓oF_37_36, ↓oF_37_37, ↓aF_63, ↓oF_37_38, ↓oF_37_39, ↓aF_64, ↓oF_37_40, ↓aF_65, ↓oF_37_41, ↓aF_66, oC_0, oC_1, oC_4, oC_11, oC_16, oC_18, oC_20, oC_23, oC_25, oC_26, oC_29, oC_31, oC_33, oC_35, oC_37, isT_29, isT_31, isT_33, isT_35, isL_16, isL_18, isL_26, gM_upd, ↓e_M_walks, ↓e_M_isMemberAt]
    have hp := pckZ_r (N := σ 37 17) (f := gM σ) (w := σ 62) (σ 37 34).toNat s v
    have h0 : sumF (cF (σ 37 17) (gM σ) (σ 62) (σ 37 34).toNat s) (0 : Int).toNat = 0 := rfl
    clear hQ
    generalize pckZ (σ 37 17) (gM σ) (σ 62) (σ 37 34).toNat s v = P at *
    (try simp only [rI_iff, rL_iff] at *)
    repeat' (with_reducible (first | assumption | apply And.intro | intro _))
    all_goals first | omega | with_reducible assumption | exact True.intro | skip
    all_goals first
      | omega
      | (show sumF (cF (σ 37 17) (gM σ) (σ 62) (σ 37 34).toNat s) 0 + v = v; rw [sumF]; omega)
      | trace_state
  · intro L st u hI
    obtain ⟨left, x, rfl, rfl, hx, hl, hl0, hu⟩ := hI
    simp only [↓wpN_go, jmp_e, ↓wp_aload_n0, ↓wp_getfield, ↓wp_goto, ↓wp_i2l, ↓wp_iconst, ↓wp_if_eq, ↓wp_if_ne, ↓wp_iinc, ↓wp_iload, ↓wp_iload_n1, ↓wp_iload_n2, ↓wp_iload_n3, ↓wp_invokevirtual, ↓wp_ireturn1, ↓wp_istore, ↓wp_istore_n3, wp_nil, ↓ldI_0, ↓ldI_s, ↓ldL_0, ↓ldL_s, ↓ldR_0, ↓ldR_s, sto1_0, sto1_1, sto1_s, sto2_0, sto2_1, sto2_s, isLong_i, isLong_l, isLong_r, ↓popI_c, ↓popL_c, ↓popR_c, ↓popN_0, ↓popN_s, catS_n, catS_c, psh_s, psh_n, fldV_n, fldV_s, ↓tgt_e, sw_n, ↓sw_c, ↓lk1_h, ↓lk1_m, ↓atC_h, ↓atC_m, ↓atC_n, ltO_n, ltO_s, updR_eq, updR_ne, gI_0i, gI_0l, gI_s, ltM_iff, List.cons.injEq, Sum.inl.injEq, Sum.inr.injEq, Option.some.injEq, exists_eq_left, exists_eq_left', exists_eq_right, exists_eq_right', exists_and_left, exists_and_right, exists_eq, exists_const, and_assoc, ↓j_M_wordAt_0, ↓j_M_wordAt_5, ↓j_M_wordAt_31, ↓j_M_wordAt_34, ↓f_M_230, List.length_cons, List.length_nil, Nat.zero_add, Nat.reduceAdd, Int.reduceAdd, Int.reduceNeg, Int.reduceToNat, Int.reduceLE, Int.reduceLT, true_and, and_true, Nat.reduceLT, reduceIte, Nat.reduceEqDiff, ne_eq, not_false_eq_true, false_implies, true_implies, Bool.false_eq_true, reduceCtorEq, List.cons_append, List.nil_append, Nat.reduceSub, Nat.reduceLeDiff, Fin.isValue, Int.reduceNatCast', Int.zero_add, Int.add_zero, decide_true, decide_false, implies_true, forall_const, true_or, or_true, or_false, false_or, false_and, and_false, Int.toNat_natCast, ↓oF_37_0, ↓oF_37_1, ↓oF_37_2, ↓oF_37_3, ↓aF_38, ↓oF_37_4, ↓aF_39, ↓oF_37_5, ↓oF_37_6, ↓aF_40, ↓oF_37_7, ↓oF_37_8, ↓aF_41, ↓oF_37_9, ↓aF_42, ↓oF_37_10, ↓aF_43, ↓oF_37_11, ↓aF_44, ↓oF_37_12, ↓aF_45, ↓oF_37_13, ↓aF_46, ↓oF_37_14, ↓aF_47, ↓oF_37_15, ↓aF_48, ↓oF_37_16, ↓aF_49, ↓oF_37_17, ↓oF_37_18, ↓aF_50, ↓oF_37_19, ↓aF_51, ↓oF_37_20, ↓aF_52, ↓oF_37_21, ↓aF_53, ↓oF_37_22, ↓aF_54, ↓oF_37_23, ↓aF_55, ↓oF_37_24, ↓aF_56, ↓oF_37_25, ↓aF_57, ↓oF_37_26, ↓oF_37_27, ↓oF_37_28, ↓aF_58, ↓oF_37_29, ↓aF_59, ↓oF_37_30, ↓aF_60, ↓oF_37_31, ↓aF_61, ↓oF_37_32, ↓oF_37_33, ↓oF_37_34, ↓oF_37_35, ↓aF_62, ↓oF_37_36, ↓oF_37_37, ↓aF_63, ↓oF_37_38, ↓oF_37_39, ↓aF_64, ↓oF_37_40, ↓aF_65, ↓oF_37_41, ↓aF_66, oC_0, oC_1, oC_4, oC_11, oC_16, oC_18, oC_20, oC_23, oC_25, oC_26, oC_29, oC_31, oC_33, oC_35, oC_37, isT_29, isT_31, isT_33, isT_35, isL_16, isL_18, isL_26, gM_upd, ↓e_M_walks, ↓e_M_isMemberAt]
    subst hu
    have e1 : (x + 1).toNat = x.toNat + 1 := by omega
    have hp := pckZ_r (N := u 37 17) (f := gM u) (w := u 62) (u 37 34).toNat s v
    have hp12 := p2_le (show (u 37 34).toNat ≤ 12 by omega)
    have e12 : (2 : Int) ^ 12 = 4096 := by decide
    have hgo := pick_go (x := x.toNat) hN.2 hf hb hs hv (by omega) hl hl0.1
    have hcx : cF (u 37 17) (gM u) (u 62) (u 37 34).toNat s x.toNat = ladI (u 37 17) (gM u) (u 62) 0 (folZ (u 37 17) (gM u) x (u 37 34).toNat s) := by
      unfold cF
      rw [Int.toNat_of_nonneg hx.1]
    have h01 := cF_01 (f := gM u) (N := u 37 17) (n := (u 37 34).toNat) (s := s) hb x.toNat
    have hfr := folZ_r (row := x) hN.2 hf (u 37 34).toNat (Or.inr hs)
    have hlb : ladI (u 37 17) (gM u) (u 62) (u 37 34).toNat s ≤ 4096 := by
      have := (ladI_bound (f := gM u) (by omega : (0 : Int) ≤ 1) (fun t _ => by have := hb t; omega : ∀ t : Nat, (t : Int) < u 37 17 → 0 ≤ u 62 t ∧ u 62 t ≤ 1) (u 37 34).toNat s).2
      omega
    rw [← hcx]
    rw [Int.toNat_of_nonneg hx.1] at hgo
    clear hcx
    have q1 : x = pckZ (u 37 17) (gM u) (u 62) (u 37 34).toNat s v → Q (some (.inl x)) u := fun h => by rw [h]; exact hQ
    clear hQ
    generalize pckZ (u 37 17) (gM u) (u 62) (u 37 34).toNat s v = P at *
    generalize cF (u 37 17) (gM u) (u 62) (u 37 34).toNat s x.toNat = c at *
    generalize ladI (u 37 17) (gM u) (u 62) (u 37 34).toNat s = lz at *
    (try simp only [rI_iff, rL_iff] at *)
    repeat' (with_reducible (first | assumption | apply And.intro | intro _))
    all_goals first | omega | with_reducible assumption | exact True.intro | skip
    all_goals first
      | omega
      | exact q1 (hgo.1 (by omega) (by assumption))
      | (have hs1 := (hgo.2.1 (by omega) (by assumption)); rw [e1]; omega)
      | (have hs1 := (hgo.2.2 (by omega)); rw [e1]; omega)
      | trace_state
def s_M_readAt : Spec := fun as σ Q => popR as fun c0 r0 => popI r0 fun s r1 => popI r1 fun w r2 => r2 = [] ∧ c0 = 37 ∧ (0 ≤ σ 37 17 ∧ σ 37 17 ≤ 100) ∧ (Wire (σ 37 17) (gM σ)) ∧ (isBits (σ 62)) ∧ (1 ≤ σ 37 34 ∧ σ 37 34 ≤ 12) ∧ (1 ≤ σ 37 33 ∧ σ 37 33 ≤ 8) ∧ (0 ≤ s ∧ s < σ 37 17) ∧ (0 ≤ w ∧ w < 2 ^ (σ 37 34).toNat) ∧ Q (some (.inl (readZ (σ 37 17) (gM σ) (σ 62) (σ 37 33) (σ 37 34) s w))) σ
theorem e_M_readAt (s : Int) (w : Int) (σ : St) (Q : Option AV → St → Prop) : s_M_readAt [.inr (.inr (some 37)), .inl s, .inl w] σ Q = ((0 ≤ σ 37 17 ∧ σ 37 17 ≤ 100) ∧ (Wire (σ 37 17) (gM σ)) ∧ (isBits (σ 62)) ∧ (1 ≤ σ 37 34 ∧ σ 37 34 ≤ 12) ∧ (1 ≤ σ 37 33 ∧ σ 37 33 ≤ 8) ∧ (0 ≤ s ∧ s < σ 37 17) ∧ (0 ≤ w ∧ w < 2 ^ (σ 37 34).toNat) ∧ Q (some (.inl (readZ (σ 37 17) (gM σ) (σ 62) (σ 37 33) (σ 37 34) s w))) σ) := by
  show ([] = [] ∧ _) = _
  simp only [true_and]
set_option maxHeartbeats 4000000 in
set_option maxRecDepth 20000 in
theorem S_M_readAt {l : Launch} : Sat l y_M_readAt b_M_readAt 5 (some .int) 2 s_M_readAt := by
  refine sat_of (Φ := P_M) (κ := Q_M) (Γ := [(197, 10, 3, s_M_walks), (241, 10, 1, s_M_isMemberAt)]) (rt := 1) (by decide +kernel) P_M_ok Q_M_ok (by
    refine List.forall_mem_cons.mpr ⟨?_, List.forall_mem_cons.mpr ⟨?_, fun _ h => absurd h List.not_mem_nil⟩⟩
    · exact m_M_walks S_M_walks (by decide) l_M_197
    · exact m_M_isMemberAt S_M_isMemberAt (by decide) l_M_241) (by simp) o_M_readAt ?_
  intro as σ Q hh0
  obtain ⟨c0, rr0, rfl, hh1⟩ := popR_inv hh0
  obtain ⟨s, rr1, rfl, hh2⟩ := popI_inv hh1
  obtain ⟨w, rr2, rfl, hh3⟩ := popI_inv hh2
  obtain ⟨hrE, rfl, hN, hf, hb, hcn, hcm, hs, hw, hQ⟩ := hh3
  subst hrE
  clear hh0 hh1 hh2
  refine ⟨Nat.le_of_ble_eq_true rfl, [(25, mkC (fun L st u => ∃ (x : Int), L = [.inr (.inr (some 37)), .inl s, .inl w, .inl ((sumF (cF (σ 37 17) (gM σ) (σ 62) (σ 37 34).toNat s) x.toNat)), .inl x] ∧ st = [] ∧ (¬ ladI (σ 37 17) (gM σ) (σ 62) 0 (folZ (σ 37 17) (gM σ) w (σ 37 34).toNat s) = 0) ∧ (0 ≤ x ∧ x ≤ w) ∧ (u = σ)) (fun L st u => ((4097 - gI L 4).toNat, 0, 0)))], 14, ?_, cuts1 ?_ (cuts0)⟩
  · rw [show entL 5 [.inr (.inr (some 37)), .inl s, .inl w] = [.inr (.inr (some 37)), .inl s, .inl w, .inr (.inr none), .inr (.inr none)] from rfl]
    simp only [↓wpN_go, jmp_e, ↓wp_aload_n0, ↓wp_getfield, ↓wp_goto, ↓wp_i2l, ↓wp_iadd, ↓wp_icmp_ge, ↓wp_iconst, ↓wp_if_eq, ↓wp_if_ne, ↓wp_iinc, ↓wp_iload, ↓wp_iload_n1, ↓wp_iload_n2, ↓wp_iload_n3, ↓wp_invokevirtual, ↓wp_ireturn1, ↓wp_ishl, ↓wp_istore, ↓wp_istore_n3, wp_nil, ↓ldI_0, ↓ldI_s, ↓ldL_0, ↓ldL_s, ↓ldR_0, ↓ldR_s, sto1_0, sto1_1, sto1_s, sto2_0, sto2_1, sto2_s, isLong_i, isLong_l, isLong_r, ↓popI_c, ↓popL_c, ↓popR_c, ↓popN_0, ↓popN_s, catS_n, catS_c, psh_s, psh_n, fldV_n, fldV_s, ↓tgt_e, sw_n, ↓sw_c, ↓lk1_h, ↓lk1_m, ↓atC_h, ↓atC_m, ↓atC_n, ltO_n, ltO_s, updR_eq, updR_ne, gI_0i, gI_0l, gI_s, ltM_iff, List.cons.injEq, Sum.inl.injEq, Sum.inr.injEq, Option.some.injEq, exists_eq_left, exists_eq_left', exists_eq_right, exists_eq_right', exists_and_left, exists_and_right, exists_eq, exists_const, and_assoc, ↓j_M_readAt_0, ↓j_M_readAt_20, ↓j_M_readAt_25, ↓j_M_readAt_55, ↓j_M_readAt_56, ↓j_M_readAt_64, ↓j_M_readAt_78, ↓j_M_readAt_79, ↓f_M_230, ↓f_M_235, List.length_cons, List.length_nil, Nat.zero_add, Nat.reduceAdd, Int.reduceAdd, Int.reduceNeg, Int.reduceToNat, Int.reduceLE, Int.reduceLT, true_and, and_true, Nat.reduceLT, reduceIte, Nat.reduceEqDiff, ne_eq, not_false_eq_true, false_implies, true_implies, Bool.false_eq_true, reduceCtorEq, List.cons_append, List.nil_append, Nat.reduceSub, Nat.reduceLeDiff, Fin.isValue, Int.reduceNatCast', Int.zero_add, Int.add_zero, decide_true, decide_false, implies_true, forall_const, true_or, or_true, or_false, false_or, false_and, and_false, Int.toNat_natCast, ↓oF_37_0, ↓oF_37_1, ↓oF_37_2, ↓oF_37_3, ↓aF_38, ↓oF_37_4, ↓aF_39, ↓oF_37_5, ↓oF_37_6, ↓aF_40, ↓oF_37_7, ↓oF_37_8, ↓aF_41, ↓oF_37_9, ↓aF_42, ↓oF_37_10, ↓aF_43, ↓oF_37_11, ↓aF_44, ↓oF_37_12, ↓aF_45, ↓oF_37_13, ↓aF_46, ↓oF_37_14, ↓aF_47, ↓oF_37_15, ↓aF_48, ↓oF_37_16, ↓aF_49, ↓oF_37_17, ↓oF_37_18, ↓aF_50, ↓oF_37_19, ↓aF_51, ↓oF_37_20, ↓aF_52, ↓oF_37_21, ↓aF_53, ↓oF_37_22, ↓aF_54, ↓oF_37_23, ↓aF_55, ↓oF_37_24, ↓aF_56, ↓oF_37_25, ↓aF_57, ↓oF_37_26, ↓oF_37_27, ↓oF_37_28, ↓aF_58, ↓oF_37_29, ↓aF_59, ↓oF_37_30, ↓aF_60, ↓oF_37_31, ↓aF_61, ↓oF_37_32, ↓oF_37_33, ↓oF_37_34, ↓oF_37_35, ↓aF_62, ↓oF_37_36, ↓oF_37_37, ↓aF_63, ↓oF_37_38, ↓oF_37_39, ↓aF_64, ↓oF_37_40, ↓aF_65, ↓oF_37_41, ↓aF_66, oC_0, oC_1, oC_4, oC_11, oC_16, oC_18, oC_20, oC_23, oC_25, oC_26, oC_29, oC_31, oC_33, oC_35, oC_37, isT_29, isT_31, isT_33, isT_35, isL_16, isL_18, isL_26, ↓e_M_walks, ↓e_M_isMemberAt]
    have hp12 := p2_le (show (σ 37 34).toNat ≤ 12 by omega)
    have e12 : (2 : Int) ^ 12 = 4096 := by decide
    have hfr := folZ_r (row := w) hN.2 hf (σ 37 34).toNat (Or.inr hs)
    have h01 : ladI (σ 37 17) (gM σ) (σ 62) 0 (folZ (σ 37 17) (gM σ) w (σ 37 34).toNat s) = 0 ∨ ladI (σ 37 17) (gM σ) (σ 62) 0 (folZ (σ 37 17) (gM σ) w (σ 37 34).toNat s) = 1 := by
      have := cF_01 (f := gM σ) (N := σ 37 17) (n := (σ 37 34).toNat) (s := s) hb w.toNat
      unfold cF at this
      rw [Int.toNat_of_nonneg hw.1] at this
      exact this
    have hp0 := p2_pos (σ 37 33).toNat
    have q1 : ladI (σ 37 17) (gM σ) (σ 62) 0 (folZ (σ 37 17) (gM σ) w (σ 37 34).toNat s) = 0 → Q (some (.inl (-1))) σ := fun h => by
      unfold readZ at hQ
      rw [if_pos h, if_pos (by omega)] at hQ
      exact hQ
    clear hQ
    generalize (2 : Int) ^ (σ 37 34).toNat = p at *
    generalize ladI (σ 37 17) (gM σ) (σ 62) 0 (folZ (σ 37 17) (gM σ) w (σ 37 34).toNat s) = z at *
    (try simp only [rI_iff, rL_iff] at *)
    repeat' (with_reducible (first | assumption | apply And.intro | intro _))
    all_goals first | omega | with_reducible assumption | exact True.intro | skip
    all_goals first
      | omega
      | exact q1 (by assumption)
      | exact ⟨0, rfl, rfl, by omega, by omega, by omega⟩
      | trace_state
  · intro L st u hI
    obtain ⟨x, rfl, rfl, hm, hx, hu⟩ := hI
    simp only [↓wpN_go, jmp_e, ↓wp_aload_n0, ↓wp_getfield, ↓wp_goto, ↓wp_i2l, ↓wp_iadd, ↓wp_icmp_ge, ↓wp_iconst, ↓wp_if_eq, ↓wp_if_ne, ↓wp_iinc, ↓wp_iload, ↓wp_iload_n1, ↓wp_iload_n2, ↓wp_iload_n3, ↓wp_invokevirtual, ↓wp_ireturn1, ↓wp_ishl, ↓wp_istore, ↓wp_istore_n3, wp_nil, ↓ldI_0, ↓ldI_s, ↓ldL_0, ↓ldL_s, ↓ldR_0, ↓ldR_s, sto1_0, sto1_1, sto1_s, sto2_0, sto2_1, sto2_s, isLong_i, isLong_l, isLong_r, ↓popI_c, ↓popL_c, ↓popR_c, ↓popN_0, ↓popN_s, catS_n, catS_c, psh_s, psh_n, fldV_n, fldV_s, ↓tgt_e, sw_n, ↓sw_c, ↓lk1_h, ↓lk1_m, ↓atC_h, ↓atC_m, ↓atC_n, ltO_n, ltO_s, updR_eq, updR_ne, gI_0i, gI_0l, gI_s, ltM_iff, List.cons.injEq, Sum.inl.injEq, Sum.inr.injEq, Option.some.injEq, exists_eq_left, exists_eq_left', exists_eq_right, exists_eq_right', exists_and_left, exists_and_right, exists_eq, exists_const, and_assoc, ↓j_M_readAt_0, ↓j_M_readAt_20, ↓j_M_readAt_25, ↓j_M_readAt_55, ↓j_M_readAt_56, ↓j_M_readAt_64, ↓j_M_readAt_78, ↓j_M_readAt_79, ↓f_M_230, ↓f_M_235, List.length_cons, List.length_nil, Nat.zero_add, Nat.reduceAdd, Int.reduceAdd, Int.reduceNeg, Int.reduceToNat, Int.reduceLE, Int.reduceLT, true_and, and_true, Nat.reduceLT, reduceIte, Nat.reduceEqDiff, ne_eq, not_false_eq_true, false_implies, true_implies, Bool.false_eq_true, reduceCtorEq, List.cons_append, List.nil_append, Nat.reduceSub, Nat.reduceLeDiff, Fin.isValue, Int.reduceNatCast', Int.zero_add, Int.add_zero, decide_true, decide_false, implies_true, forall_const, true_or, or_true, or_false, false_or, false_and, and_false, Int.toNat_natCast, ↓oF_37_0, ↓oF_37_1, ↓oF_37_2, ↓oF_37_3, ↓aF_38, ↓oF_37_4, ↓aF_39, ↓oF_37_5, ↓oF_37_6, ↓aF_40, ↓oF_37_7, ↓oF_37_8, ↓aF_41, ↓oF_37_9, ↓aF_42, ↓oF_37_10, ↓aF_43, ↓oF_37_11, ↓aF_44, ↓oF_37_12, ↓aF_45, ↓oF_37_13, ↓aF_46, ↓oF_37_14, ↓aF_47, ↓oF_37_15, ↓aF_48, ↓oF_37_16, ↓aF_49, ↓oF_37_17, ↓oF_37_18, ↓aF_50, ↓oF_37_19, ↓aF_51, ↓oF_37_20, ↓aF_52, ↓oF_37_21, ↓aF_53, ↓oF_37_22, ↓aF_54, ↓oF_37_23, ↓aF_55, ↓oF_37_24, ↓aF_56, ↓oF_37_25, ↓aF_57, ↓oF_37_26, ↓oF_37_27, ↓oF_37_28, ↓aF_58, ↓oF_37_29, ↓aF_59, ↓oF_37_30, ↓aF_60, ↓oF_37_31, ↓aF_61, ↓oF_37_32, ↓oF_37_33, ↓oF_37_34, ↓oF_37_35, ↓aF_62, ↓oF_37_36, ↓oF_37_37, ↓aF_63, ↓oF_37_38, ↓oF_37_39, ↓aF_64, ↓oF_37_40, ↓aF_65, ↓oF_37_41, ↓aF_66, oC_0, oC_1, oC_4, oC_11, oC_16, oC_18, oC_20, oC_23, oC_25, oC_26, oC_29, oC_31, oC_33, oC_35, oC_37, isT_29, isT_31, isT_33, isT_35, isL_16, isL_18, isL_26, ↓e_M_walks, ↓e_M_isMemberAt]
    subst hu
    have e1 : (x + 1).toNat = x.toNat + 1 := by omega
    have hp12 := p2_le (show (u 37 34).toNat ≤ 12 by omega)
    have e12 : (2 : Int) ^ 12 = 4096 := by decide
    have hcx : cF (u 37 17) (gM u) (u 62) (u 37 34).toNat s x.toNat = ladI (u 37 17) (gM u) (u 62) 0 (folZ (u 37 17) (gM u) x (u 37 34).toNat s) := by
      unfold cF
      rw [Int.toNat_of_nonneg hx.1]
    have h01 := cF_01 (f := gM u) (N := u 37 17) (n := (u 37 34).toNat) (s := s) hb x.toNat
    have hfr := folZ_r (row := x) hN.2 hf (u 37 34).toNat (Or.inr hs)
    have es : sumF (cF (u 37 17) (gM u) (u 62) (u 37 34).toNat s) (x.toNat + 1) = sumF (cF (u 37 17) (gM u) (u 62) (u 37 34).toNat s) x.toNat + cF (u 37 17) (gM u) (u 62) (u 37 34).toNat s x.toNat := rfl
    have hsb := sumF_bound (w := cF (u 37 17) (gM u) (u 62) (u 37 34).toNat s) (B := 1) (n := x.toNat) (fun t _ => by rcases cF_01 (f := gM u) (N := u 37 17) (n := (u 37 34).toNat) (s := s) hb t with h | h <;> omega)
    have hp8 := pow8 (m := u 37 33) ⟨by omega, by omega⟩
    have hrk : w ≤ x → sumF (cF (u 37 17) (gM u) (u 62) (u 37 34).toNat s) x.toNat = rnkZ (u 37 17) (gM u) (u 62) w (u 37 34).toNat s := fun h => by
      have hn := n2p (u 37 34).toNat
      have := cF_rnk (w := u 62) hN.2 hf (u 37 34).toNat s w.toNat (Or.inr hs) (by omega)
      rw [Int.toNat_of_nonneg hw.1] at this
      rw [show x.toNat = w.toNat by omega, this]
    unfold readZ at hQ
    rw [if_neg hm, Int.one_mul] at *
    rw [← hcx]
    have q1 : w ≤ x → sumF (cF (u 37 17) (gM u) (u 62) (u 37 34).toNat s) x.toNat < 2 ^ (u 37 33).toNat → Q (some (.inl (sumF (cF (u 37 17) (gM u) (u 62) (u 37 34).toNat s) x.toNat))) u := fun h h1 => by
      rw [← hrk h, if_pos h1] at hQ
      exact hQ
    have q2 : w ≤ x → 2 ^ (u 37 33).toNat ≤ sumF (cF (u 37 17) (gM u) (u 62) (u 37 34).toNat s) x.toNat → Q (some (.inl (-1))) u := fun h h1 => by
      rw [← hrk h, if_neg (by omega)] at hQ
      exact hQ
    clear hQ hcx hrk
    generalize (2 : Int) ^ (u 37 34).toNat = p at *
    generalize (2 : Int) ^ (u 37 33).toNat = p8 at *
    (try simp only [rI_iff, rL_iff] at *)
    repeat' (with_reducible (first | assumption | apply And.intro | intro _))
    all_goals first | omega | with_reducible assumption | exact True.intro | skip
    all_goals first
      | omega
      | exact q1 (by omega) (by omega)
      | exact q2 (by omega) (by omega)
      | exact ⟨x + 1, by rw [e1, es]; omega, rfl, hm, by omega, by omega, by first | rfl | trivial⟩
      | trace_state
