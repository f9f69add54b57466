/-! codes: members -/
def dropF (N : Int) (f w : Nat → Int) (n words : Int) (c : Int) : Nat → Int := fun s => if (s : Int) < c ∧ w s = 1 ∧ ladI N f w n.toNat s < words then 0 else w s
theorem dropF_app (N : Int) (f w : Nat → Int) (n words c : Int) (s : Nat) : dropF N f w n words c s = if (s : Int) < c ∧ w s = 1 ∧ ladI N f w n.toNat s < words then 0 else w s := (rfl)
def ClosedC (N : Int) (f : Nat → Int) (words n : Int) (M : Nat → Int) : Prop := ∀ s : Nat, (s : Int) < N → M s = 1 → words ≤ ladI N f M n.toNat s
def GreatC (N : Int) (f : Nat → Int) (words n : Int) (M : Nat → Int) : Prop := isBits M ∧ (∀ s : Nat, s < 100 → ¬ (s : Int) < N → M s = 0) ∧ ClosedC N f words n M ∧ ∀ V, isBits V → ClosedC N f words n V → ∀ s : Nat, (s : Int) < N → V s ≤ M s
def homeF (M : Nat → Int) : Int := findF (fun s => decide (M s = 1)) 100
theorem findF_spec (p : Nat → Bool) : ∀ n, (findF p n = -1 ∧ ∀ s, s < n → p s = false) ∨ (∃ k : Nat, k < n ∧ findF p n = k ∧ p k = true ∧ ∀ s, s < k → p s = false)
  | 0 => Or.inl ⟨rfl, fun s hs => absurd hs (Nat.not_lt_zero s)⟩
  | n + 1 => by
    rcases findF_spec p n with ⟨h1, h2⟩ | ⟨k, h1, h2, h3, h4⟩
    · rw [findF, if_pos h1]
      by_cases hp : p n = true
      · exact Or.inr ⟨n, by omega, if_pos hp, hp, h2⟩
      · refine Or.inl ⟨if_neg hp, fun s hs => ?_⟩
        by_cases e : s = n
        · subst e; simpa using hp
        · exact h2 s (by omega)
    · exact Or.inr ⟨k, by omega, by rw [findF, if_neg (by omega)]; exact h2, h3, h4⟩
theorem findF_eq {p : Nat → Bool} {n : Nat} {z : Int} (h : (z = -1 ∧ ∀ s, s < n → p s = false) ∨ (∃ k : Nat, k < n ∧ z = k ∧ p k = true ∧ ∀ s, s < k → p s = false)) : z = findF p n := by
  rcases h with ⟨h1, h2⟩ | ⟨k, h1, h2, h3, h4⟩ <;> rcases findF_spec p n with ⟨g1, g2⟩ | ⟨j, g1, g2, g3, g4⟩
  · omega
  · rw [h2 j g1] at g3; cases g3
  · rw [g2 k h1] at h3; cases h3
  · rcases Nat.lt_trichotomy j k with e | e | e
    · rw [h4 j e] at g3; cases g3
    · omega
    · rw [g4 k e] at h3; cases h3
theorem drop_up {N n words i : Int} {f W : Nat → Int} (hi : 0 ≤ i ∧ i < N) : (if W i.toNat = 1 ∧ ladI N f W n.toNat i < words then up1 (dropF N f W n words i) i.toNat 0 else dropF N f W n words i) = dropF N f W n words (i + 1) := by
  funext s
  have e1 : ((i.toNat : Nat) : Int) = i := by omega
  rw [dropF_app]
  by_cases e : s = i.toNat
  · subst e
    split
    · next h => rw [up1_eq, if_pos ⟨by omega, h.1, by rw [e1]; exact h.2⟩]
    · next h => rw [dropF_app, if_neg (by omega), if_neg (fun q => h ⟨q.2.1, by rw [← e1]; exact q.2.2⟩)]
  · have h3 : (s : Int) < i ↔ (s : Int) < i + 1 := by omega
    split
    · rw [up1_ne _ _ _ _ e, dropF_app]; simp only [h3]
    · rw [dropF_app]; simp only [h3]
theorem drop_i {N n words i : Int} {f W : Nat → Int} (hi : 0 ≤ i) : dropF N f W n words i i.toNat = W i.toNat := by rw [dropF_app, if_neg (by omega)]
theorem drop_bits {N n words c : Int} {f W : Nat → Int} (h : isBits W) : isBits (dropF N f W n words c) := by
  intro s
  rw [dropF_app]
  split
  · exact Or.inl rfl
  · exact h s
theorem bits_B {W : Nat → Int} {N B : Int} (h : isBits W) (hB : 1 ≤ B) : AllB W N B := fun s1 hs1 => by
  have := h s1
  omega
theorem bits_I {W : Nat → Int} {k : Nat} (h : isBits W) : AllI W k := fun s1 hs1 => by
  have := h s1
  unfold rI
  omega
theorem drop_keep {N n words : Int} {f V W : Nat → Int} (hW : isBits W) (hb : isBits V) (hV : ClosedC N f words n V) (h : ∀ s : Nat, (s : Int) < N → V s ≤ W s) : ∀ s : Nat, (s : Int) < N → V s ≤ dropF N f W n words N s := by
  intro s1 hs1
  rw [dropF_app]
  have h1 := h s1 hs1
  split
  · next hq1 =>
    rcases hb s1 with e | e
    · omega
    · have h2 := hV s1 hs1 e
      have h3 := ladI_mono (f := f) h n.toNat s1
      omega
  · exact h1
theorem drop_id {N n words : Int} {f W : Nat → Int} (h : ∀ s : Nat, (s : Int) < N → W s = 1 → words ≤ ladI N f W n.toNat s) : dropF N f W n words N = W := by
  funext s1
  rw [dropF_app]
  split
  · next hq1 => have := h s1 hq1.1 hq1.2.1; omega
  · rfl
theorem drop_sum {N n words : Int} {f W : Nat → Int} (hW : isBits W) (h : ∃ s : Nat, (s : Int) < N ∧ W s = 1 ∧ ladI N f W n.toNat s < words) : sumF (dropF N f W n words N) N.toNat < sumF W N.toNat := by
  obtain ⟨s1, h1, h2, h3⟩ := h
  refine sumF_lt (fun t ht => ?_) ⟨s1, by omega, ?_⟩
  · rw [dropF_app]
    have := hW t
    split <;> omega
  · rw [dropF_app, if_pos ⟨h1, h2, h3⟩, h2]; omega
def s_C_exists : Spec := fun as σ Q => popR as fun c0 r0 => r0 = [] ∧ c0 = 25 ∧ (0 ≤ σ 25 3 ∧ σ 25 3 ≤ 100) ∧ Q (some (.inl (b2i (0 < σ 25 3)))) σ
theorem e_C_exists  (σ : St) (Q : Option AV → St → Prop) : s_C_exists [.inr (.inr (some 25))] σ Q = ((0 ≤ σ 25 3 ∧ σ 25 3 ≤ 100) ∧ Q (some (.inl (b2i (0 < σ 25 3)))) σ) := by
  show ([] = [] ∧ _) = _
  simp only [true_and]
set_option maxHeartbeats 4000000 in
set_option maxRecDepth 20000 in
theorem S_C_exists {l : Launch} : Sat l y_C_exists b_C_exists 1 (some .boolean) 0 s_C_exists := by
  refine sat_of (Φ := P_C) (κ := Q_C) (Γ := []) (rt := 3) (by decide +kernel) P_C_ok Q_C_ok (fun g hg => absurd hg List.not_mem_nil) (by simp) o_C_exists ?_
  intro as σ Q hh0
  obtain ⟨c0, rr0, rfl, hh1⟩ := popR_inv hh0
  obtain ⟨hrE, rfl, hc, hQ⟩ := hh1
  subst hrE
  clear hh0
  refine ⟨Nat.le_of_ble_eq_true rfl, [], 14, ?_, cuts0⟩
  · rw [show entL 1 [.inr (.inr (some 25))] = [.inr (.inr (some 25))] from rfl]
    simp only [↓wpN_go, jmp_e, ↓wp_aload_n0, ↓wp_getfield, ↓wp_goto, ↓wp_iconst, ↓wp_if_le, ↓wp_ireturn3, wp_nil, ↓ldI_0, ↓ldI_s, ↓ldL_0, ↓ldL_s, ↓ldR_0, ↓ldR_s, sto1_0, sto1_1, sto1_s, sto2_0, sto2_1, sto2_s, isLong_i, isLong_l, isLong_r, ↓popI_c, ↓popL_c, ↓popR_c, ↓popN_0, ↓popN_s, catS_n, catS_c, psh_s, psh_n, fldV_n, fldV_s, ↓tgt_e, sw_n, ↓sw_c, ↓lk1_h, ↓lk1_m, ↓atC_h, ↓atC_m, ↓atC_n, ltO_n, ltO_s, updR_eq, updR_ne, gI_0i, gI_0l, gI_s, ltM_iff, List.cons.injEq, Sum.inl.injEq, Sum.inr.injEq, Option.some.injEq, exists_eq_left, exists_eq_left', exists_eq_right, exists_eq_right', exists_and_left, exists_and_right, exists_eq, exists_const, and_assoc, ↓j_C_exists_0, ↓j_C_exists_11, ↓j_C_exists_12, ↓f_C_29, List.length_cons, List.length_nil, Nat.zero_add, Nat.reduceAdd, Int.reduceAdd, Int.reduceNeg, Int.reduceToNat, Int.reduceLE, Int.reduceLT, true_and, and_true, Nat.reduceLT, reduceIte, Nat.reduceEqDiff, ne_eq, not_false_eq_true, false_implies, true_implies, Bool.false_eq_true, reduceCtorEq, List.cons_append, List.nil_append, Nat.reduceSub, Nat.reduceLeDiff, Fin.isValue, Int.reduceNatCast', Int.zero_add, Int.add_zero, decide_true, decide_false, implies_true, forall_const, true_or, or_true, or_false, false_or, false_and, and_false, Int.toNat_natCast, ↓oF_25_0, ↓oF_25_1, ↓aF_28, ↓oF_25_2, ↓oF_25_3, ↓oF_25_4, ↓oF_25_5, ↓oF_25_6, oC_0, oC_1, oC_4, oC_11, oC_16, oC_18, oC_20, oC_23, oC_25, oC_26, oC_29, oC_31, oC_33, oC_35, oC_37, isT_29, isT_31, isT_33, isT_35, isL_16, isL_18, isL_26]
    (try simp only [rI_iff, rL_iff] at *)
    repeat' (first | assumption | apply And.intro | intro _)
    all_goals first
      | omega
      | (refine st_ext fun k j => ?_; grind [updR_app, up1_app, b2i])
      | (refine Q_eq hQ ?_ ?_ <;> first | rfl | (refine st_ext fun k j => ?_; grind [updR_app, up1_app, b2i]) | grind [updR_app, up1_app, b2i])
      | grind [updR_app, up1_app, b2i]
def s_C_size : Spec := fun as σ Q => popR as fun c0 r0 => r0 = [] ∧ c0 = 25 ∧ Q (some (.inl (σ 25 3))) σ
theorem e_C_size  (σ : St) (Q : Option AV → St → Prop) : s_C_size [.inr (.inr (some 25))] σ Q = (Q (some (.inl (σ 25 3))) σ) := by
  show ([] = [] ∧ _) = _
  simp only [true_and]
set_option maxHeartbeats 4000000 in
set_option maxRecDepth 20000 in
theorem S_C_size {l : Launch} : Sat l y_C_size b_C_size 1 (some .int) 0 s_C_size := by
  refine sat_of (Φ := P_C) (κ := Q_C) (Γ := []) (rt := 1) (by decide +kernel) P_C_ok Q_C_ok (fun g hg => absurd hg List.not_mem_nil) (by simp) o_C_size ?_
  intro as σ Q hh0
  obtain ⟨c0, rr0, rfl, hh1⟩ := popR_inv hh0
  obtain ⟨hrE, rfl, hQ⟩ := hh1
  subst hrE
  clear hh0
  refine ⟨Nat.le_of_ble_eq_true rfl, [], 14, ?_, cuts0⟩
  · rw [show entL 1 [.inr (.inr (some 25))] = [.inr (.inr (some 25))] from rfl]
    simp only [↓wpN_go, jmp_e, ↓wp_aload_n0, ↓wp_getfield, ↓wp_ireturn1, wp_nil, ↓ldI_0, ↓ldI_s, ↓ldL_0, ↓ldL_s, ↓ldR_0, ↓ldR_s, sto1_0, sto1_1, sto1_s, sto2_0, sto2_1, sto2_s, isLong_i, isLong_l, isLong_r, ↓popI_c, ↓popL_c, ↓popR_c, ↓popN_0, ↓popN_s, catS_n, catS_c, psh_s, psh_n, fldV_n, fldV_s, ↓tgt_e, sw_n, ↓sw_c, ↓lk1_h, ↓lk1_m, ↓atC_h, ↓atC_m, ↓atC_n, ltO_n, ltO_s, updR_eq, updR_ne, gI_0i, gI_0l, gI_s, ltM_iff, List.cons.injEq, Sum.inl.injEq, Sum.inr.injEq, Option.some.injEq, exists_eq_left, exists_eq_left', exists_eq_right, exists_eq_right', exists_and_left, exists_and_right, exists_eq, exists_const, and_assoc, ↓j_C_size_0, ↓f_C_29, List.length_cons, List.length_nil, Nat.zero_add, Nat.reduceAdd, Int.reduceAdd, Int.reduceNeg, Int.reduceToNat, Int.reduceLE, Int.reduceLT, true_and, and_true, Nat.reduceLT, reduceIte, Nat.reduceEqDiff, ne_eq, not_false_eq_true, false_implies, true_implies, Bool.false_eq_true, reduceCtorEq, List.cons_append, List.nil_append, Nat.reduceSub, Nat.reduceLeDiff, Fin.isValue, Int.reduceNatCast', Int.zero_add, Int.add_zero, decide_true, decide_false, implies_true, forall_const, true_or, or_true, or_false, false_or, false_and, and_false, Int.toNat_natCast, ↓oF_25_0, ↓oF_25_1, ↓aF_28, ↓oF_25_2, ↓oF_25_3, ↓oF_25_4, ↓oF_25_5, ↓oF_25_6, oC_0, oC_1, oC_4, oC_11, oC_16, oC_18, oC_20, oC_23, oC_25, oC_26, oC_29, oC_31, oC_33, oC_35, oC_37, isT_29, isT_31, isT_33, isT_35, isL_16, isL_18, isL_26]
    (try simp only [rI_iff, rL_iff] at *)
    repeat' (first | assumption | apply And.intro | intro _)
    all_goals first
      | omega
      | (refine st_ext fun k j => ?_; grind [updR_app, up1_app])
      | (refine Q_eq hQ ?_ ?_ <;> first | rfl | (refine st_ext fun k j => ?_; grind [updR_app, up1_app]) | grind [updR_app, up1_app])
      | grind [updR_app, up1_app]
def s_C_pieceLength : Spec := fun as σ Q => popR as fun c0 r0 => r0 = [] ∧ c0 = 25 ∧ Q (some (.inl (σ 25 4))) σ
theorem e_C_pieceLength  (σ : St) (Q : Option AV → St → Prop) : s_C_pieceLength [.inr (.inr (some 25))] σ Q = (Q (some (.inl (σ 25 4))) σ) := by
  show ([] = [] ∧ _) = _
  simp only [true_and]
set_option maxHeartbeats 4000000 in
set_option maxRecDepth 20000 in
theorem S_C_pieceLength {l : Launch} : Sat l y_C_pieceLength b_C_pieceLength 1 (some .int) 0 s_C_pieceLength := by
  refine sat_of (Φ := P_C) (κ := Q_C) (Γ := []) (rt := 1) (by decide +kernel) P_C_ok Q_C_ok (fun g hg => absurd hg List.not_mem_nil) (by simp) o_C_pieceLength ?_
  intro as σ Q hh0
  obtain ⟨c0, rr0, rfl, hh1⟩ := popR_inv hh0
  obtain ⟨hrE, rfl, hQ⟩ := hh1
  subst hrE
  clear hh0
  refine ⟨Nat.le_of_ble_eq_true rfl, [], 14, ?_, cuts0⟩
  · rw [show entL 1 [.inr (.inr (some 25))] = [.inr (.inr (some 25))] from rfl]
    simp only [↓wpN_go, jmp_e, ↓wp_aload_n0, ↓wp_getfield, ↓wp_ireturn1, wp_nil, ↓ldI_0, ↓ldI_s, ↓ldL_0, ↓ldL_s, ↓ldR_0, ↓ldR_s, sto1_0, sto1_1, sto1_s, sto2_0, sto2_1, sto2_s, isLong_i, isLong_l, isLong_r, ↓popI_c, ↓popL_c, ↓popR_c, ↓popN_0, ↓popN_s, catS_n, catS_c, psh_s, psh_n, fldV_n, fldV_s, ↓tgt_e, sw_n, ↓sw_c, ↓lk1_h, ↓lk1_m, ↓atC_h, ↓atC_m, ↓atC_n, ltO_n, ltO_s, updR_eq, updR_ne, gI_0i, gI_0l, gI_s, ltM_iff, List.cons.injEq, Sum.inl.injEq, Sum.inr.injEq, Option.some.injEq, exists_eq_left, exists_eq_left', exists_eq_right, exists_eq_right', exists_and_left, exists_and_right, exists_eq, exists_const, and_assoc, ↓j_C_pieceLength_0, ↓f_C_33, List.length_cons, List.length_nil, Nat.zero_add, Nat.reduceAdd, Int.reduceAdd, Int.reduceNeg, Int.reduceToNat, Int.reduceLE, Int.reduceLT, true_and, and_true, Nat.reduceLT, reduceIte, Nat.reduceEqDiff, ne_eq, not_false_eq_true, false_implies, true_implies, Bool.false_eq_true, reduceCtorEq, List.cons_append, List.nil_append, Nat.reduceSub, Nat.reduceLeDiff, Fin.isValue, Int.reduceNatCast', Int.zero_add, Int.add_zero, decide_true, decide_false, implies_true, forall_const, true_or, or_true, or_false, false_or, false_and, and_false, Int.toNat_natCast, ↓oF_25_0, ↓oF_25_1, ↓aF_28, ↓oF_25_2, ↓oF_25_3, ↓oF_25_4, ↓oF_25_5, ↓oF_25_6, oC_0, oC_1, oC_4, oC_11, oC_16, oC_18, oC_20, oC_23, oC_25, oC_26, oC_29, oC_31, oC_33, oC_35, oC_37, isT_29, isT_31, isT_33, isT_35, isL_16, isL_18, isL_26]
    (try simp only [rI_iff, rL_iff] at *)
    repeat' (first | assumption | apply And.intro | intro _)
    all_goals first
      | omega
      | (refine st_ext fun k j => ?_; grind [updR_app, up1_app])
      | (refine Q_eq hQ ?_ ?_ <;> first | rfl | (refine st_ext fun k j => ?_; grind [updR_app, up1_app]) | grind [updR_app, up1_app])
      | grind [updR_app, up1_app]
def s_C_wordLength : Spec := fun as σ Q => popR as fun c0 r0 => r0 = [] ∧ c0 = 25 ∧ Q (some (.inl (σ 25 5))) σ
theorem e_C_wordLength  (σ : St) (Q : Option AV → St → Prop) : s_C_wordLength [.inr (.inr (some 25))] σ Q = (Q (some (.inl (σ 25 5))) σ) := by
  show ([] = [] ∧ _) = _
  simp only [true_and]
set_option maxHeartbeats 4000000 in
set_option maxRecDepth 20000 in
theorem S_C_wordLength {l : Launch} : Sat l y_C_wordLength b_C_wordLength 1 (some .int) 0 s_C_wordLength := by
  refine sat_of (Φ := P_C) (κ := Q_C) (Γ := []) (rt := 1) (by decide +kernel) P_C_ok Q_C_ok (fun g hg => absurd hg List.not_mem_nil) (by simp) o_C_wordLength ?_
  intro as σ Q hh0
  obtain ⟨c0, rr0, rfl, hh1⟩ := popR_inv hh0
  obtain ⟨hrE, rfl, hQ⟩ := hh1
  subst hrE
  clear hh0
  refine ⟨Nat.le_of_ble_eq_true rfl, [], 14, ?_, cuts0⟩
  · rw [show entL 1 [.inr (.inr (some 25))] = [.inr (.inr (some 25))] from rfl]
    simp only [↓wpN_go, jmp_e, ↓wp_aload_n0, ↓wp_getfield, ↓wp_ireturn1, wp_nil, ↓ldI_0, ↓ldI_s, ↓ldL_0, ↓ldL_s, ↓ldR_0, ↓ldR_s, sto1_0, sto1_1, sto1_s, sto2_0, sto2_1, sto2_s, isLong_i, isLong_l, isLong_r, ↓popI_c, ↓popL_c, ↓popR_c, ↓popN_0, ↓popN_s, catS_n, catS_c, psh_s, psh_n, fldV_n, fldV_s, ↓tgt_e, sw_n, ↓sw_c, ↓lk1_h, ↓lk1_m, ↓atC_h, ↓atC_m, ↓atC_n, ltO_n, ltO_s, updR_eq, updR_ne, gI_0i, gI_0l, gI_s, ltM_iff, List.cons.injEq, Sum.inl.injEq, Sum.inr.injEq, Option.some.injEq, exists_eq_left, exists_eq_left', exists_eq_right, exists_eq_right', exists_and_left, exists_and_right, exists_eq, exists_const, and_assoc, ↓j_C_wordLength_0, ↓f_C_36, List.length_cons, List.length_nil, Nat.zero_add, Nat.reduceAdd, Int.reduceAdd, Int.reduceNeg, Int.reduceToNat, Int.reduceLE, Int.reduceLT, true_and, and_true, Nat.reduceLT, reduceIte, Nat.reduceEqDiff, ne_eq, not_false_eq_true, false_implies, true_implies, Bool.false_eq_true, reduceCtorEq, List.cons_append, List.nil_append, Nat.reduceSub, Nat.reduceLeDiff, Fin.isValue, Int.reduceNatCast', Int.zero_add, Int.add_zero, decide_true, decide_false, implies_true, forall_const, true_or, or_true, or_false, false_or, false_and, and_false, Int.toNat_natCast, ↓oF_25_0, ↓oF_25_1, ↓aF_28, ↓oF_25_2, ↓oF_25_3, ↓oF_25_4, ↓oF_25_5, ↓oF_25_6, oC_0, oC_1, oC_4, oC_11, oC_16, oC_18, oC_20, oC_23, oC_25, oC_26, oC_29, oC_31, oC_33, oC_35, oC_37, isT_29, isT_31, isT_33, isT_35, isL_16, isL_18, isL_26]
    (try simp only [rI_iff, rL_iff] at *)
    repeat' (first | assumption | apply And.intro | intro _)
    all_goals first
      | omega
      | (refine st_ext fun k j => ?_; grind [updR_app, up1_app])
      | (refine Q_eq hQ ?_ ?_ <;> first | rfl | (refine st_ext fun k j => ?_; grind [updR_app, up1_app]) | grind [updR_app, up1_app])
      | grind [updR_app, up1_app]
def s_C_home : Spec := fun as σ Q => popR as fun c0 r0 => r0 = [] ∧ c0 = 25 ∧ Q (some (.inl (σ 25 6))) σ
theorem e_C_home  (σ : St) (Q : Option AV → St → Prop) : s_C_home [.inr (.inr (some 25))] σ Q = (Q (some (.inl (σ 25 6))) σ) := by
  show ([] = [] ∧ _) = _
  simp only [true_and]
set_option maxHeartbeats 4000000 in
set_option maxRecDepth 20000 in
theorem S_C_home {l : Launch} : Sat l y_C_home b_C_home 1 (some .int) 0 s_C_home := by
  refine sat_of (Φ := P_C) (κ := Q_C) (Γ := []) (rt := 1) (by decide +kernel) P_C_ok Q_C_ok (fun g hg => absurd hg List.not_mem_nil) (by simp) o_C_home ?_
  intro as σ Q hh0
  obtain ⟨c0, rr0, rfl, hh1⟩ := popR_inv hh0
  obtain ⟨hrE, rfl, hQ⟩ := hh1
  subst hrE
  clear hh0
  refine ⟨Nat.le_of_ble_eq_true rfl, [], 14, ?_, cuts0⟩
  · rw [show entL 1 [.inr (.inr (some 25))] = [.inr (.inr (some 25))] from rfl]
    simp only [↓wpN_go, jmp_e, ↓wp_aload_n0, ↓wp_getfield, ↓wp_ireturn1, wp_nil, ↓ldI_0, ↓ldI_s, ↓ldL_0, ↓ldL_s, ↓ldR_0, ↓ldR_s, sto1_0, sto1_1, sto1_s, sto2_0, sto2_1, sto2_s, isLong_i, isLong_l, isLong_r, ↓popI_c, ↓popL_c, ↓popR_c, ↓popN_0, ↓popN_s, catS_n, catS_c, psh_s, psh_n, fldV_n, fldV_s, ↓tgt_e, sw_n, ↓sw_c, ↓lk1_h, ↓lk1_m, ↓atC_h, ↓atC_m, ↓atC_n, ltO_n, ltO_s, updR_eq, updR_ne, gI_0i, gI_0l, gI_s, ltM_iff, List.cons.injEq, Sum.inl.injEq, Sum.inr.injEq, Option.some.injEq, exists_eq_left, exists_eq_left', exists_eq_right, exists_eq_right', exists_and_left, exists_and_right, exists_eq, exists_const, and_assoc, ↓j_C_home_0, ↓f_C_39, List.length_cons, List.length_nil, Nat.zero_add, Nat.reduceAdd, Int.reduceAdd, Int.reduceNeg, Int.reduceToNat, Int.reduceLE, Int.reduceLT, true_and, and_true, Nat.reduceLT, reduceIte, Nat.reduceEqDiff, ne_eq, not_false_eq_true, false_implies, true_implies, Bool.false_eq_true, reduceCtorEq, List.cons_append, List.nil_append, Nat.reduceSub, Nat.reduceLeDiff, Fin.isValue, Int.reduceNatCast', Int.zero_add, Int.add_zero, decide_true, decide_false, implies_true, forall_const, true_or, or_true, or_false, false_or, false_and, and_false, Int.toNat_natCast, ↓oF_25_0, ↓oF_25_1, ↓aF_28, ↓oF_25_2, ↓oF_25_3, ↓oF_25_4, ↓oF_25_5, ↓oF_25_6, oC_0, oC_1, oC_4, oC_11, oC_16, oC_18, oC_20, oC_23, oC_25, oC_26, oC_29, oC_31, oC_33, oC_35, oC_37, isT_29, isT_31, isT_33, isT_35, isL_16, isL_18, isL_26]
    (try simp only [rI_iff, rL_iff] at *)
    repeat' (first | assumption | apply And.intro | intro _)
    all_goals first
      | omega
      | (refine st_ext fun k j => ?_; grind [updR_app, up1_app])
      | (refine Q_eq hQ ?_ ?_ <;> first | rfl | (refine st_ext fun k j => ?_; grind [updR_app, up1_app]) | grind [updR_app, up1_app])
      | grind [updR_app, up1_app]
def s_C_holds : Spec := fun as σ Q => popR as fun c0 r0 => popI r0 fun s r1 => r1 = [] ∧ c0 = 25 ∧ (isBits (σ 28)) ∧ (rI s) ∧ Q (some (.inl (b2i (0 ≤ s ∧ s < 100 ∧ σ 28 s.toNat = 1)))) σ
theorem e_C_holds (s : Int) (σ : St) (Q : Option AV → St → Prop) : s_C_holds [.inr (.inr (some 25)), .inl s] σ Q = ((isBits (σ 28)) ∧ (rI s) ∧ Q (some (.inl (b2i (0 ≤ s ∧ s < 100 ∧ σ 28 s.toNat = 1)))) σ) := by
  show ([] = [] ∧ _) = _
  simp only [true_and]
set_option maxHeartbeats 4000000 in
set_option maxRecDepth 20000 in
theorem S_C_holds {l : Launch} : Sat l y_C_holds b_C_holds 2 (some .boolean) 0 s_C_holds := by
  refine sat_of (Φ := P_C) (κ := Q_C) (Γ := []) (rt := 3) (by decide +kernel) P_C_ok Q_C_ok (fun g hg => absurd hg List.not_mem_nil) (by simp) o_C_holds ?_
  intro as σ Q hh0
  obtain ⟨c0, rr0, rfl, hh1⟩ := popR_inv hh0
  obtain ⟨s, rr1, rfl, hh2⟩ := popI_inv hh1
  obtain ⟨hrE, rfl, hb, hs, hQ⟩ := hh2
  subst hrE
  clear hh0 hh1
  refine ⟨Nat.le_of_ble_eq_true rfl, [], 14, ?_, cuts0⟩
  · rw [show entL 2 [.inr (.inr (some 25)), .inl s] = [.inr (.inr (some 25)), .inl s] from rfl]
    simp only [↓wpN_go, jmp_e, ↓wp_aload_n0, ↓wp_bipush, ↓wp_getfield, ↓wp_goto, ↓wp_iaload, ↓wp_icmp_ge, ↓wp_icmp_ne, ↓wp_iconst, ↓wp_if_lt, ↓wp_iload_n1, ↓wp_ireturn3, wp_nil, ↓ldI_0, ↓ldI_s, ↓ldL_0, ↓ldL_s, ↓ldR_0, ↓ldR_s, sto1_0, sto1_1, sto1_s, sto2_0, sto2_1, sto2_s, isLong_i, isLong_l, isLong_r, ↓popI_c, ↓popL_c, ↓popR_c, ↓popN_0, ↓popN_s, catS_n, catS_c, psh_s, psh_n, fldV_n, fldV_s, ↓tgt_e, sw_n, ↓sw_c, ↓lk1_h, ↓lk1_m, ↓atC_h, ↓atC_m, ↓atC_n, ltO_n, ltO_s, updR_eq, updR_ne, gI_0i, gI_0l, gI_s, ltM_iff, List.cons.injEq, Sum.inl.injEq, Sum.inr.injEq, Option.some.injEq, exists_eq_left, exists_eq_left', exists_eq_right, exists_eq_right', exists_and_left, exists_and_right, exists_eq, exists_const, and_assoc, ↓j_C_holds_0, ↓j_C_holds_24, ↓j_C_holds_25, ↓f_C_18, List.length_cons, List.length_nil, Nat.zero_add, Nat.reduceAdd, Int.reduceAdd, Int.reduceNeg, Int.reduceToNat, Int.reduceLE, Int.reduceLT, true_and, and_true, Nat.reduceLT, reduceIte, Nat.reduceEqDiff, ne_eq, not_false_eq_true, false_implies, true_implies, Bool.false_eq_true, reduceCtorEq, List.cons_append, List.nil_append, Nat.reduceSub, Nat.reduceLeDiff, Fin.isValue, Int.reduceNatCast', Int.zero_add, Int.add_zero, decide_true, decide_false, implies_true, forall_const, true_or, or_true, or_false, false_or, false_and, and_false, Int.toNat_natCast, ↓oF_25_0, ↓oF_25_1, ↓aF_28, ↓oF_25_2, ↓oF_25_3, ↓oF_25_4, ↓oF_25_5, ↓oF_25_6, oC_0, oC_1, oC_4, oC_11, oC_16, oC_18, oC_20, oC_23, oC_25, oC_26, oC_29, oC_31, oC_33, oC_35, oC_37, isT_29, isT_31, isT_33, isT_35, isL_16, isL_18, isL_26]
    have h9 := hb s.toNat
    (try simp only [rI_iff, rL_iff] at *)
    repeat' (first | assumption | apply And.intro | intro _)
    all_goals first
      | omega
      | (refine st_ext fun k j => ?_; grind [updR_app, up1_app, b2i])
      | (refine Q_eq hQ ?_ ?_ <;> first | rfl | (refine st_ext fun k j => ?_; grind [updR_app, up1_app, b2i]) | grind [updR_app, up1_app, b2i])
      | grind [updR_app, up1_app, b2i]
def s_C_drop : Spec := fun as σ Q => popR as fun c0 r0 => r0 = [] ∧ c0 = 25 ∧ (0 ≤ σ 29 1 ∧ σ 29 1 ≤ 600) ∧ Q none (updR (updR (updR σ 28 (fillF (σ 28) 0 100 0)) 29 (up1 (σ 29) 1 0)) 25 (up1 (up1 (up1 (up1 (σ 25) 3 0) 4 0) 5 0) 6 (-1)))
theorem e_C_drop  (σ : St) (Q : Option AV → St → Prop) : s_C_drop [.inr (.inr (some 25))] σ Q = ((0 ≤ σ 29 1 ∧ σ 29 1 ≤ 600) ∧ Q none (updR (updR (updR σ 28 (fillF (σ 28) 0 100 0)) 29 (up1 (σ 29) 1 0)) 25 (up1 (up1 (up1 (up1 (σ 25) 3 0) 4 0) 5 0) 6 (-1)))) := by
  show ([] = [] ∧ _) = _
  simp only [true_and]
set_option maxHeartbeats 4000000 in
set_option maxRecDepth 20000 in
theorem S_C_drop {l : Launch} : Sat l y_C_drop b_C_drop 1 none 2 s_C_drop := by
  refine sat_of (Φ := P_C) (κ := Q_C) (Γ := [(42, 0, 2, s_JA_fillI), (48, 2, 1, s_T_keep)]) (rt := 0) (by decide +kernel) P_C_ok Q_C_ok (by
    refine List.forall_mem_cons.mpr ⟨?_, List.forall_mem_cons.mpr ⟨?_, fun _ h => absurd h List.not_mem_nil⟩⟩
    · exact m_JA_fillI S_JA_fillI (by decide) l_C_42
    · exact m_T_keep S_T_keep (by decide) l_C_48) (by simp) o_C_drop ?_
  intro as σ Q hh0
  obtain ⟨c0, rr0, rfl, hh1⟩ := popR_inv hh0
  obtain ⟨hrE, rfl, hs, hQ⟩ := hh1
  subst hrE
  clear hh0
  refine ⟨Nat.le_of_ble_eq_true rfl, [], 14, ?_, cuts0⟩
  · rw [show entL 1 [.inr (.inr (some 25))] = [.inr (.inr (some 25))] from rfl]
    simp only [↓wpN_go, jmp_e, ↓wp_aload_n0, ↓wp_getfield, ↓wp_iconst, ↓wp_invokestatic, ↓wp_invokevirtual, ↓wp_pop, ↓wp_putfield, ↓wp_return0, wp_nil, ↓ldI_0, ↓ldI_s, ↓ldL_0, ↓ldL_s, ↓ldR_0, ↓ldR_s, sto1_0, sto1_1, sto1_s, sto2_0, sto2_1, sto2_s, isLong_i, isLong_l, isLong_r, ↓popI_c, ↓popL_c, ↓popR_c, ↓popN_0, ↓popN_s, catS_n, catS_c, psh_s, psh_n, fldV_n, fldV_s, ↓tgt_e, sw_n, ↓sw_c, ↓lk1_h, ↓lk1_m, ↓atC_h, ↓atC_m, ↓atC_n, ltO_n, ltO_s, updR_eq, updR_ne, gI_0i, gI_0l, gI_s, ltM_iff, List.cons.injEq, Sum.inl.injEq, Sum.inr.injEq, Option.some.injEq, exists_eq_left, exists_eq_left', exists_eq_right, exists_eq_right', exists_and_left, exists_and_right, exists_eq, exists_const, and_assoc, ↓j_C_drop_0, ↓f_C_18, ↓f_C_25, ↓f_C_29, ↓f_C_33, ↓f_C_36, ↓f_C_39, List.length_cons, List.length_nil, Nat.zero_add, Nat.reduceAdd, Int.reduceAdd, Int.reduceNeg, Int.reduceToNat, Int.reduceLE, Int.reduceLT, true_and, and_true, Nat.reduceLT, reduceIte, Nat.reduceEqDiff, ne_eq, not_false_eq_true, false_implies, true_implies, Bool.false_eq_true, reduceCtorEq, List.cons_append, List.nil_append, Nat.reduceSub, Nat.reduceLeDiff, Fin.isValue, Int.reduceNatCast', Int.zero_add, Int.add_zero, decide_true, decide_false, implies_true, forall_const, true_or, or_true, or_false, false_or, false_and, and_false, Int.toNat_natCast, ↓oF_25_0, ↓oF_25_1, ↓aF_28, ↓oF_25_2, ↓oF_25_3, ↓oF_25_4, ↓oF_25_5, ↓oF_25_6, oC_0, oC_1, oC_4, oC_11, oC_16, oC_18, oC_20, oC_23, oC_25, oC_26, oC_29, oC_31, oC_33, oC_35, oC_37, isT_29, isT_31, isT_33, isT_35, isL_16, isL_18, isL_26, ↓e_JA_fillI, ↓e_T_keep]
    simp only [show max 0 (min (σ 29 1) 0) = 0 by omega]
    (try simp only [rI_iff, rL_iff] at *)
    repeat' (first | assumption | apply And.intro | intro _)
    all_goals first
      | omega
      | (refine st_ext fun k j => ?_; grind [updR_app, up1_app])
      | (refine Q_eq hQ ?_ ?_ <;> first | rfl | (refine st_ext fun k j => ?_; grind [updR_app, up1_app]) | grind [updR_app, up1_app])
      | grind [updR_app, up1_app]
def s_C_dropPoor : Spec := fun as σ Q => popR as fun c0 r0 => popR r0 fun c1 r1 => popI r1 fun words r2 => popI r2 fun n r3 => r3 = [] ∧ c0 = 25 ∧ c1 = 11 ∧ (0 ≤ σ 11 4 ∧ σ 11 4 ≤ 100) ∧ (Wire (σ 11 4) (σ 12)) ∧ (isBits (σ 28)) ∧ (1 ≤ words ∧ words ≤ 256 ∧ 0 ≤ n ∧ n ≤ 12) ∧ ∀ g dr, Climbed (σ 11 4) (σ 12) (σ 28) n g → ((dr = 0 ∧ (∀ s : Nat, (s : Int) < σ 11 4 → σ 28 s = 1 → words ≤ ladI (σ 11 4) (σ 12) (σ 28) n.toNat s)) ∨ (dr = 1 ∧ ∃ s : Nat, (s : Int) < σ 11 4 ∧ σ 28 s = 1 ∧ ladI (σ 11 4) (σ 12) (σ 28) n.toNat s < words)) → Q (some (.inl dr)) (updR (updR σ 27 g) 28 (dropF (σ 11 4) (σ 12) (σ 28) n words (σ 11 4)))
theorem e_C_dropPoor (words : Int) (n : Int) (σ : St) (Q : Option AV → St → Prop) : s_C_dropPoor [.inr (.inr (some 25)), .inr (.inr (some 11)), .inl words, .inl n] σ Q = ((0 ≤ σ 11 4 ∧ σ 11 4 ≤ 100) ∧ (Wire (σ 11 4) (σ 12)) ∧ (isBits (σ 28)) ∧ (1 ≤ words ∧ words ≤ 256 ∧ 0 ≤ n ∧ n ≤ 12) ∧ ∀ g dr, Climbed (σ 11 4) (σ 12) (σ 28) n g → ((dr = 0 ∧ (∀ s : Nat, (s : Int) < σ 11 4 → σ 28 s = 1 → words ≤ ladI (σ 11 4) (σ 12) (σ 28) n.toNat s)) ∨ (dr = 1 ∧ ∃ s : Nat, (s : Int) < σ 11 4 ∧ σ 28 s = 1 ∧ ladI (σ 11 4) (σ 12) (σ 28) n.toNat s < words)) → Q (some (.inl dr)) (updR (updR σ 27 g) 28 (dropF (σ 11 4) (σ 12) (σ 28) n words (σ 11 4)))) := by
  show ([] = [] ∧ _) = _
  simp only [true_and]
set_option maxHeartbeats 4000000 in
set_option maxRecDepth 20000 in
theorem S_C_dropPoor {l : Launch} : Sat l y_C_dropPoor b_C_dropPoor 6 (some .boolean) 3 s_C_dropPoor := by
  refine sat_of (Φ := P_C) (κ := Q_C) (Γ := [(55, 8, 0, s_W_size), (68, 4, 2, s_L_set), (72, 4, 2, s_L_climb), (76, 4, 2, s_L_at)]) (rt := 3) (by decide +kernel) P_C_ok Q_C_ok (by
    refine List.forall_mem_cons.mpr ⟨?_, List.forall_mem_cons.mpr ⟨?_, List.forall_mem_cons.mpr ⟨?_, List.forall_mem_cons.mpr ⟨?_, fun _ h => absurd h List.not_mem_nil⟩⟩⟩⟩
    · exact m_W_size S_W_size (by decide) l_C_55
    · exact m_L_set S_L_set (by decide) l_C_68
    · exact m_L_climb S_L_climb (by decide) l_C_72
    · exact m_L_at S_L_at (by decide) l_C_76) (by simp) o_C_dropPoor ?_
  intro as σ Q hh0
  obtain ⟨c0, rr0, rfl, hh1⟩ := popR_inv hh0
  obtain ⟨c1, rr1, rfl, hh2⟩ := popR_inv hh1
  obtain ⟨words, rr2, rfl, hh3⟩ := popI_inv hh2
  obtain ⟨n, rr3, rfl, hh4⟩ := popI_inv hh3
  obtain ⟨hrE, rfl, rfl, hN, hf, hb, hwn, hQ⟩ := hh4
  subst hrE
  clear hh0 hh1 hh2 hh3
  refine ⟨Nat.le_of_ble_eq_true rfl, [(6, mkC (fun L st u => ∃ (i : Int), L = [.inr (.inr (some 25)), .inr (.inr (some 11)), .inl words, .inl n, .inl 0, .inl i] ∧ st = [] ∧ (0 ≤ i ∧ i ≤ σ 11 4) ∧ (u = updR σ 27 (cpyF (σ 28) (σ 27) i))) (fun L st u => (1, (101 - gI L 5).toNat, 0))),
    (57, mkC (fun L st u => ∃ (dr i : Int), L = [.inr (.inr (some 25)), .inr (.inr (some 11)), .inl words, .inl n, .inl dr, .inl i] ∧ st = [] ∧ (0 ≤ i ∧ i ≤ σ 11 4) ∧ ((dr = 0 ∧ (∀ s : Nat, (s : Int) < i → σ 28 s = 1 → words ≤ ladI (σ 11 4) (σ 12) (σ 28) n.toNat s)) ∨ (dr = 1 ∧ ∃ s : Nat, (s : Int) < σ 11 4 ∧ σ 28 s = 1 ∧ ladI (σ 11 4) (σ 12) (σ 28) n.toNat s < words)) ∧ (∃ g, Climbed (σ 11 4) (σ 12) (σ 28) n g ∧ u = updR (updR σ 27 g) 28 (dropF (σ 11 4) (σ 12) (σ 28) n words i))) (fun L st u => (0, (101 - gI L 5).toNat, 0)))], 14, ?_, cuts1 ?_ (cuts1 ?_ (cuts0))⟩
  · rw [show entL 6 [.inr (.inr (some 25)), .inr (.inr (some 11)), .inl words, .inl n] = [.inr (.inr (some 25)), .inr (.inr (some 11)), .inl words, .inl n, .inr (.inr none), .inr (.inr none)] from rfl]
    simp only [↓wpN_go, jmp_e, ↓wp_aload_n0, ↓wp_aload_n1, ↓wp_bipush, ↓wp_getfield, ↓wp_goto, ↓wp_i2l, ↓wp_iaload, ↓wp_iastore, ↓wp_icmp_ge, ↓wp_icmp_ne, ↓wp_iconst, ↓wp_if_ge, ↓wp_iinc, ↓wp_iload, ↓wp_iload_n2, ↓wp_iload_n3, ↓wp_invokevirtual, ↓wp_ireturn3, ↓wp_istore, ↓wp_lcmp, wp_nil, ↓ldI_0, ↓ldI_s, ↓ldL_0, ↓ldL_s, ↓ldR_0, ↓ldR_s, sto1_0, sto1_1, sto1_s, sto2_0, sto2_1, sto2_s, isLong_i, isLong_l, isLong_r, ↓popI_c, ↓popL_c, ↓popR_c, ↓popN_0, ↓popN_s, catS_n, catS_c, psh_s, psh_n, fldV_n, fldV_s, ↓tgt_e, sw_n, ↓sw_c, ↓lk1_h, ↓lk1_m, ↓atC_h, ↓atC_m, ↓atC_n, ltO_n, ltO_s, updR_eq, updR_ne, gI_0i, gI_0l, gI_s, ltM_iff, List.cons.injEq, Sum.inl.injEq, Sum.inr.injEq, Option.some.injEq, exists_eq_left, exists_eq_left', exists_eq_right, exists_eq_right', exists_and_left, exists_and_right, exists_eq, exists_const, and_assoc, ↓j_C_dropPoor_0, ↓j_C_dropPoor_6, ↓j_C_dropPoor_45, ↓j_C_dropPoor_57, ↓j_C_dropPoor_111, ↓j_C_dropPoor_117, ↓f_C_12, ↓f_C_18, List.length_cons, List.length_nil, Nat.zero_add, Nat.reduceAdd, Int.reduceAdd, Int.reduceNeg, Int.reduceToNat, Int.reduceLE, Int.reduceLT, true_and, and_true, Nat.reduceLT, reduceIte, Nat.reduceEqDiff, ne_eq, not_false_eq_true, false_implies, true_implies, Bool.false_eq_true, reduceCtorEq, List.cons_append, List.nil_append, Nat.reduceSub, Nat.reduceLeDiff, Fin.isValue, Int.reduceNatCast', Int.zero_add, Int.add_zero, decide_true, decide_false, implies_true, forall_const, true_or, or_true, or_false, false_or, false_and, and_false, Int.toNat_natCast, ↓oF_25_0, ↓oF_25_1, ↓aF_28, ↓oF_25_2, ↓oF_25_3, ↓oF_25_4, ↓oF_25_5, ↓oF_25_6, oC_0, oC_1, oC_4, oC_11, oC_16, oC_18, oC_20, oC_23, oC_25, oC_26, oC_29, oC_31, oC_33, oC_35, oC_37, isT_29, isT_31, isT_33, isT_35, isL_16, isL_18, isL_26, cmpZ_r, cmpZ_ge, cmpZ_lt, ↓e_W_size, ↓e_L_set, ↓e_L_climb, ↓e_L_at]
    rw [cpyF_0, updR_self]
    (try simp only [rI_iff, rL_iff] at *)
    repeat' (first | assumption | apply And.intro | intro _)
    all_goals first | omega | assumption | exact True.intro | skip
  · intro L st u hI
    obtain ⟨i, rfl, rfl, hi, hu⟩ := hI
    simp only [↓wpN_go, jmp_e, ↓wp_aload_n0, ↓wp_aload_n1, ↓wp_bipush, ↓wp_getfield, ↓wp_goto, ↓wp_i2l, ↓wp_iaload, ↓wp_iastore, ↓wp_icmp_ge, ↓wp_icmp_ne, ↓wp_iconst, ↓wp_if_ge, ↓wp_iinc, ↓wp_iload, ↓wp_iload_n2, ↓wp_iload_n3, ↓wp_invokevirtual, ↓wp_ireturn3, ↓wp_istore, ↓wp_lcmp, wp_nil, ↓ldI_0, ↓ldI_s, ↓ldL_0, ↓ldL_s, ↓ldR_0, ↓ldR_s, sto1_0, sto1_1, sto1_s, sto2_0, sto2_1, sto2_s, isLong_i, isLong_l, isLong_r, ↓popI_c, ↓popL_c, ↓popR_c, ↓popN_0, ↓popN_s, catS_n, catS_c, psh_s, psh_n, fldV_n, fldV_s, ↓tgt_e, sw_n, ↓sw_c, ↓lk1_h, ↓lk1_m, ↓atC_h, ↓atC_m, ↓atC_n, ltO_n, ltO_s, updR_eq, updR_ne, gI_0i, gI_0l, gI_s, ltM_iff, List.cons.injEq, Sum.inl.injEq, Sum.inr.injEq, Option.some.injEq, exists_eq_left, exists_eq_left', exists_eq_right, exists_eq_right', exists_and_left, exists_and_right, exists_eq, exists_const, and_assoc, ↓j_C_dropPoor_0, ↓j_C_dropPoor_6, ↓j_C_dropPoor_45, ↓j_C_dropPoor_57, ↓j_C_dropPoor_111, ↓j_C_dropPoor_117, ↓f_C_12, ↓f_C_18, List.length_cons, List.length_nil, Nat.zero_add, Nat.reduceAdd, Int.reduceAdd, Int.reduceNeg, Int.reduceToNat, Int.reduceLE, Int.reduceLT, true_and, and_true, Nat.reduceLT, reduceIte, Nat.reduceEqDiff, ne_eq, not_false_eq_true, false_implies, true_implies, Bool.false_eq_true, reduceCtorEq, List.cons_append, List.nil_append, Nat.reduceSub, Nat.reduceLeDiff, Fin.isValue, Int.reduceNatCast', Int.zero_add, Int.add_zero, decide_true, decide_false, implies_true, forall_const, true_or, or_true, or_false, false_or, false_and, and_false, Int.toNat_natCast, ↓oF_25_0, ↓oF_25_1, ↓aF_28, ↓oF_25_2, ↓oF_25_3, ↓oF_25_4, ↓oF_25_5, ↓oF_25_6, oC_0, oC_1, oC_4, oC_11, oC_16, oC_18, oC_20, oC_23, oC_25, oC_26, oC_29, oC_31, oC_33, oC_35, oC_37, isT_29, isT_31, isT_33, isT_35, isL_16, isL_18, isL_26, cmpZ_r, cmpZ_ge, cmpZ_lt, ↓e_W_size, ↓e_L_set, ↓e_L_climb, ↓e_L_at]
    subst hu
    simp only [updR_ne _ 27 11 _ (by decide), updR_ne _ 27 12 _ (by decide), updR_ne _ 27 28 _ (by decide), updR_eq, updR_twice]
    have h9 := hb i.toNat
    by_cases h8 : i < σ 11 4
    · simp only [if_pos (show 0 ≤ i ∧ i < 100 by omega), cpyF_up hi.1]
      (try simp only [rI_iff, rL_iff] at *)
      repeat' (first | assumption | apply And.intro | intro _)
      all_goals first | omega | assumption | exact True.intro | skip
    · (try simp only [rI_iff, rL_iff] at *)
      repeat' (first | assumption | apply And.intro | intro _)
      all_goals first | omega | assumption | exact True.intro | skip
      · exact Or.inl (fun s1 hs1 => by omega)
      · rename_i g1 hg0 hg1
        refine ⟨g1, climbed_congr (fun s1 hs1 => by rw [cpyF_app, if_pos (by omega)]) hg1, ?_⟩
        refine st_ext fun k j => ?_
        grind [updR_app, dropF_app]
  · intro L st u hI
    obtain ⟨dr, i, rfl, rfl, hi, hdr, hu⟩ := hI
    simp only [↓wpN_go, jmp_e, ↓wp_aload_n0, ↓wp_aload_n1, ↓wp_bipush, ↓wp_getfield, ↓wp_goto, ↓wp_i2l, ↓wp_iaload, ↓wp_iastore, ↓wp_icmp_ge, ↓wp_icmp_ne, ↓wp_iconst, ↓wp_if_ge, ↓wp_iinc, ↓wp_iload, ↓wp_iload_n2, ↓wp_iload_n3, ↓wp_invokevirtual, ↓wp_ireturn3, ↓wp_istore, ↓wp_lcmp, wp_nil, ↓ldI_0, ↓ldI_s, ↓ldL_0, ↓ldL_s, ↓ldR_0, ↓ldR_s, sto1_0, sto1_1, sto1_s, sto2_0, sto2_1, sto2_s, isLong_i, isLong_l, isLong_r, ↓popI_c, ↓popL_c, ↓popR_c, ↓popN_0, ↓popN_s, catS_n, catS_c, psh_s, psh_n, fldV_n, fldV_s, ↓tgt_e, sw_n, ↓sw_c, ↓lk1_h, ↓lk1_m, ↓atC_h, ↓atC_m, ↓atC_n, ltO_n, ltO_s, updR_eq, updR_ne, gI_0i, gI_0l, gI_s, ltM_iff, List.cons.injEq, Sum.inl.injEq, Sum.inr.injEq, Option.some.injEq, exists_eq_left, exists_eq_left', exists_eq_right, exists_eq_right', exists_and_left, exists_and_right, exists_eq, exists_const, and_assoc, ↓j_C_dropPoor_0, ↓j_C_dropPoor_6, ↓j_C_dropPoor_45, ↓j_C_dropPoor_57, ↓j_C_dropPoor_111, ↓j_C_dropPoor_117, ↓f_C_12, ↓f_C_18, List.length_cons, List.length_nil, Nat.zero_add, Nat.reduceAdd, Int.reduceAdd, Int.reduceNeg, Int.reduceToNat, Int.reduceLE, Int.reduceLT, true_and, and_true, Nat.reduceLT, reduceIte, Nat.reduceEqDiff, ne_eq, not_false_eq_true, false_implies, true_implies, Bool.false_eq_true, reduceCtorEq, List.cons_append, List.nil_append, Nat.reduceSub, Nat.reduceLeDiff, Fin.isValue, Int.reduceNatCast', Int.zero_add, Int.add_zero, decide_true, decide_false, implies_true, forall_const, true_or, or_true, or_false, false_or, false_and, and_false, Int.toNat_natCast, ↓oF_25_0, ↓oF_25_1, ↓aF_28, ↓oF_25_2, ↓oF_25_3, ↓oF_25_4, ↓oF_25_5, ↓oF_25_6, oC_0, oC_1, oC_4, oC_11, oC_16, oC_18, oC_20, oC_23, oC_25, oC_26, oC_29, oC_31, oC_33, oC_35, oC_37, isT_29, isT_31, isT_33, isT_35, isL_16, isL_18, isL_26, cmpZ_r, cmpZ_ge, cmpZ_lt, ↓e_W_size, ↓e_L_set, ↓e_L_climb, ↓e_L_at]
    obtain ⟨g, hg, rfl⟩ := hu
    simp only [updR_ne _ 27 11 _ (by decide), updR_ne _ 27 12 _ (by decide), updR_ne _ 28 11 _ (by decide), updR_ne _ 28 12 _ (by decide), updR_ne _ 28 27 _ (by decide), updR_eq, updR_twice]
    by_cases hlt : i < σ 11 4
    · have e1 : ladV g n i = ladI (σ 11 4) (σ 12) (σ 28) n.toNat i := climbed_at hN.2 hg ⟨hwn.2.2.1, by omega⟩ ⟨hi.1, hlt⟩
      have b1 := ladI_12 (N := σ 11 4) (f := σ 12) hwn.2.2.2 (by omega : (0 : Int) ≤ 1) (bits_B hb (by omega)) i
      have b4 := hb i.toNat
      have e2 : ((i.toNat : Nat) : Int) = i := by omega
      have e3 := drop_up (f := σ 12) (W := σ 28) (n := n) (words := words) ⟨hi.1, hlt⟩
      have e4 : dropF (σ 11 4) (σ 12) (σ 28) n words i i.toNat = σ 28 i.toNat := drop_i hi.1
      rw [e1, e4]
      by_cases hd1 : σ 28 i.toNat = 1 ∧ ladI (σ 11 4) (σ 12) (σ 28) n.toNat i < words
      · rw [if_pos hd1] at e3
        rw [e3]
        (try simp only [rI_iff, rL_iff] at *)
        repeat' (first | assumption | apply And.intro | intro _)
        all_goals first | omega | assumption | exact True.intro | skip
        · exact Or.inr ⟨i.toNat, by omega, hd1.1, by rw [e2]; exact hd1.2⟩
        · exact ⟨g, hg, rfl⟩
      · rw [if_neg hd1] at e3
        rw [e3]
        have hnew : (dr = 0 ∧ (∀ s : Nat, (s : Int) < i + 1 → σ 28 s = 1 → words ≤ ladI (σ 11 4) (σ 12) (σ 28) n.toNat s)) ∨ (dr = 1 ∧ ∃ s : Nat, (s : Int) < σ 11 4 ∧ σ 28 s = 1 ∧ ladI (σ 11 4) (σ 12) (σ 28) n.toNat s < words) := by
          refine hdr.imp (fun hq1 => ⟨hq1.1, fun s1 hs1 hs2 => ?_⟩) id
          by_cases e5 : (s1 : Int) < i
          · exact hq1.2 s1 e5 hs2
          · have e6 : s1 = i.toNat := by omega
            rw [e6] at hs2 ⊢
            rw [e2]
            exact Int.not_lt.mp (fun hq2 => hd1 ⟨hs2, hq2⟩)
        (try simp only [rI_iff, rL_iff] at *)
        repeat' (first | assumption | apply And.intro | intro _)
        all_goals first | omega | assumption | exact True.intro | skip
        all_goals first
          | exact ⟨g, hg, rfl⟩
          | (exfalso; refine hd1 ⟨?_, ?_⟩ <;> assumption)
    · have e6 : i = σ 11 4 := by omega
      (try simp only [rI_iff, rL_iff] at *)
      repeat' (first | assumption | apply And.intro | intro _)
      all_goals first | omega | assumption | exact True.intro | skip
      rw [e6]
      exact hQ g dr hg (by rw [e6] at hdr; exact hdr)
