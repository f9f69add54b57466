/-! weights -/
theorem ladI_congr {N : Int} {f w v : Nat → Int} (h : ∀ s : Nat, (s : Int) < N → w s = v s) : ∀ (r : Nat) (s : Int), ladI N f w r s = ladI N f v r s
  | 0, s => by
    unfold ladI
    split
    · exact h s.toNat (by omega)
    · rfl
  | r + 1, s => by
    unfold ladI
    rw [ladI_congr h r, ladI_congr h r]
theorem ladI_bound {N B : Int} {f w : Nat → Int} (hB : 0 ≤ B) (h : ∀ s : Nat, (s : Int) < N → 0 ≤ w s ∧ w s ≤ B) : ∀ (r : Nat) (s : Int), 0 ≤ ladI N f w r s ∧ ladI N f w r s ≤ 2 ^ r * B
  | 0, s => by
    unfold ladI
    split
    · have := h s.toNat (by omega); omega
    · omega
  | r + 1, s => by
    have h1 := ladI_bound (f := f) hB h r (stepZ N f s 0)
    have h2 := ladI_bound (f := f) hB h r (stepZ N f s 1)
    have e : (2 : Int) ^ (r + 1) * B = 2 ^ r * B + 2 ^ r * B := by rw [Int.pow_succ, Int.mul_assoc, Int.mul_comm 2 B, ← Int.mul_assoc]; omega
    unfold ladI
    rw [e]
    split <;> omega
theorem ladI_mono {N : Int} {f w v : Nat → Int} (h : ∀ s : Nat, (s : Int) < N → w s ≤ v s) : ∀ (r : Nat) (s : Int), ladI N f w r s ≤ ladI N f v r s
  | 0, s => by
    unfold ladI
    split
    · exact h s.toNat (by omega)
    · omega
  | r + 1, s => by
    have h1 := ladI_mono (f := f) h r (stepZ N f s 0)
    have h2 := ladI_mono (f := f) h r (stepZ N f s 1)
    unfold ladI
    split <;> omega
theorem climbed_congr {N : Int} {f w v : Nat → Int} {top : Int} {g : Nat → Int} (h : ∀ s : Nat, (s : Int) < N → w s = v s) (hc : Climbed N f w top g) : Climbed N f v top g := by
  intro r h1 h2 s hs
  rw [hc r h1 h2 s hs, ladI_congr h]
theorem climbed_at {N : Int} {f w g : Nat → Int} {top s : Int} (hN : N ≤ 100) (hc : Climbed N f w top g) (ht : 0 ≤ top ∧ top ≤ 60) (hs : 0 ≤ s ∧ s < N) : ladV g top s = ladI N f w top.toNat s := by
  have := lad_at (N := N) (f := f) (w := w) (g := g) (r := top.toNat) (t := s) hN (by omega) (fun t ht2 => hc top.toNat (by omega) (by omega) t ht2) (Or.inl hs.2)
  rw [Int.toNat_of_nonneg ht.1] at this
  exact this
def bearF (N : Int) (f w : Nat → Int) (m n : Int) (s : Nat) : Int := ladI N f w n.toNat s / 2 ^ m.toNat
def lowerF (N : Int) (f w : Nat → Int) (m n : Int) (c : Int) : Nat → Int := fun s => if (s : Int) < c ∧ bearF N f w m n s < w s then bearF N f w m n s else w s
theorem lowerF_app (N : Int) (f w : Nat → Int) (m n c : Int) (s : Nat) : lowerF N f w m n c s = if (s : Int) < c ∧ bearF N f w m n s < w s then bearF N f w m n s else w s := (rfl)
def findF (p : Nat → Bool) : Nat → Int
  | 0 => -1
  | n + 1 => if findF p n = -1 then (if p n then (n : Int) else -1) else findF p n
theorem findF_on (p : Nat → Bool) (n : Nat) (h : findF p n ≠ -1) : ∀ m, n ≤ m → findF p m = findF p n := by
  intro m hm
  obtain ⟨k, rfl⟩ := Nat.le.dest hm
  induction k with
  | zero => rfl
  | succ k ih =>
    have ih := ih (by omega)
    show findF p (n + k + 1) = _
    rw [findF, ih, if_neg h]
theorem sumF_congr {w v : Nat → Int} : ∀ {n : Nat}, (∀ s, s < n → w s = v s) → sumF w n = sumF v n
  | 0, _ => rfl
  | n + 1, h => by rw [sumF, sumF, sumF_congr (fun s hs => h s (by omega)), h n (by omega)]
theorem sumF_bound {w : Nat → Int} {B : Int} : ∀ {n : Nat}, (∀ s, s < n → 0 ≤ w s ∧ w s ≤ B) → 0 ≤ sumF w n ∧ sumF w n ≤ n * B
  | 0, _ => by simp [sumF]
  | n + 1, h => by
    have h1 := sumF_bound (n := n) (fun s hs => h s (by omega))
    have h2 := h n (by omega)
    rw [sumF]
    have e : ((n + 1 : Nat) : Int) * B = n * B + B := by rw [Int.natCast_add, Int.add_mul]; omega
    omega
theorem sumF_le {w v : Nat → Int} : ∀ {n : Nat}, (∀ s, s < n → w s ≤ v s) → sumF w n ≤ sumF v n
  | 0, _ => by simp [sumF]
  | n + 1, h => by
    have h1 := sumF_le (n := n) (fun s hs => h s (by omega))
    have h2 := h n (by omega)
    rw [sumF, sumF]
    omega
theorem sumF_lt {w v : Nat → Int} : ∀ {n : Nat}, (∀ s, s < n → w s ≤ v s) → (∃ s, s < n ∧ w s < v s) → sumF w n < sumF v n
  | 0, _, ⟨s, hs, _⟩ => by omega
  | n + 1, h, ⟨s, hs, hl⟩ => by
    have h2 := h n (by omega)
    rw [sumF, sumF]
    by_cases e : s = n
    · subst e
      have h1 := sumF_le (n := s) (w := w) (v := v) (fun s hs => h s (by omega))
      omega
    · have h1 := sumF_lt (n := n) (w := w) (v := v) (fun s hs => h s (by omega)) ⟨s, by omega, hl⟩
      omega
def s_W_adopt : Spec := fun as σ Q => popR as fun c0 r0 => popI r0 fun s r1 => popI r1 fun b r2 => r2 = [] ∧ c0 = 11 ∧ (0 ≤ σ 11 4 ∧ σ 11 4 ≤ 100) ∧ (Wire (σ 11 4) (σ 12)) ∧ (0 ≤ s ∧ s < σ 11 4) ∧ (0 ≤ b ∧ b ≤ 1) ∧ (AllI (σ 13) 100) ∧ Q none (if 0 < stepZ (σ 11 4) (σ 12) s b ∧ σ 13 (stepZ (σ 11 4) (σ 12) s b).toNat = -1 then updR (updR (updR σ 13 (up1 (σ 13) (stepZ (σ 11 4) (σ 12) s b).toNat s)) 14 (up1 (σ 14) (stepZ (σ 11 4) (σ 12) s b).toNat b)) 15 (up1 (σ 15) (stepZ (σ 11 4) (σ 12) s b).toNat (σ 15 s.toNat + 1)) else σ)
theorem e_W_adopt (s : Int) (b : Int) (σ : St) (Q : Option AV → St → Prop) : s_W_adopt [.inr (.inr (some 11)), .inl s, .inl b] σ Q = ((0 ≤ σ 11 4 ∧ σ 11 4 ≤ 100) ∧ (Wire (σ 11 4) (σ 12)) ∧ (0 ≤ s ∧ s < σ 11 4) ∧ (0 ≤ b ∧ b ≤ 1) ∧ (AllI (σ 13) 100) ∧ Q none (if 0 < stepZ (σ 11 4) (σ 12) s b ∧ σ 13 (stepZ (σ 11 4) (σ 12) s b).toNat = -1 then updR (updR (updR σ 13 (up1 (σ 13) (stepZ (σ 11 4) (σ 12) s b).toNat s)) 14 (up1 (σ 14) (stepZ (σ 11 4) (σ 12) s b).toNat b)) 15 (up1 (σ 15) (stepZ (σ 11 4) (σ 12) s b).toNat (σ 15 s.toNat + 1)) else σ)) := by
  show ([] = [] ∧ _) = _
  simp only [true_and]
set_option maxHeartbeats 4000000 in
set_option maxRecDepth 20000 in
theorem S_W_adopt {l : Launch} : Sat l y_W_adopt b_W_adopt 4 none 2 s_W_adopt := by
  refine sat_of (Φ := P_W) (κ := Q_W) (Γ := [(53, 8, 2, s_W_step), (56, 8, 1, s_W_has)]) (rt := 0) (by decide +kernel) P_W_ok Q_W_ok (by
    refine List.forall_mem_cons.mpr ⟨?_, List.forall_mem_cons.mpr ⟨?_, fun _ h => absurd h List.not_mem_nil⟩⟩
    · exact m_W_step S_W_step (by decide) l_W_53
    · exact m_W_has S_W_has (by decide) l_W_56) (by simp) o_W_adopt ?_
  intro as σ Q hh0
  obtain ⟨c0, rr0, rfl, hh1⟩ := popR_inv hh0
  obtain ⟨s, rr1, rfl, hh2⟩ := popI_inv hh1
  obtain ⟨b, rr2, rfl, hh3⟩ := popI_inv hh2
  obtain ⟨hrE, rfl, hN, hf, hs, hb, hp, hQ⟩ := hh3
  subst hrE
  clear hh0 hh1 hh2
  refine ⟨Nat.le_of_ble_eq_true rfl, [], 14, ?_, cuts0⟩
  · rw [show entL 4 [.inr (.inr (some 11)), .inl s, .inl b] = [.inr (.inr (some 11)), .inl s, .inl b, .inr (.inr none)] from rfl]
    simp only [↓wpN_go, jmp_e, ↓wp_aload_n0, ↓wp_getfield, ↓wp_iadd, ↓wp_iaload, ↓wp_iastore, ↓wp_icmp_ne, ↓wp_iconst, ↓wp_if_eq, ↓wp_iload_n1, ↓wp_iload_n2, ↓wp_iload_n3, ↓wp_invokevirtual, ↓wp_istore_n3, ↓wp_return0, wp_nil, ↓ldI_0, ↓ldI_s, ↓ldL_0, ↓ldL_s, ↓ldR_0, ↓ldR_s, sto1_0, sto1_1, sto1_s, sto2_0, sto2_1, sto2_s, isLong_i, isLong_l, isLong_r, ↓popI_c, ↓popL_c, ↓popR_c, ↓popN_0, ↓popN_s, catS_n, catS_c, psh_s, psh_n, fldV_n, fldV_s, ↓tgt_e, sw_n, ↓sw_c, ↓lk1_h, ↓lk1_m, ↓atC_h, ↓atC_m, ↓atC_n, ltO_n, ltO_s, updR_eq, updR_ne, gI_0i, gI_0l, gI_s, ltM_iff, List.cons.injEq, Sum.inl.injEq, Sum.inr.injEq, Option.some.injEq, exists_eq_left, exists_eq_left', exists_eq_right, exists_eq_right', exists_and_left, exists_and_right, exists_eq, exists_const, and_assoc, ↓j_W_adopt_0, ↓j_W_adopt_57, ↓f_W_15, ↓f_W_18, ↓f_W_21, List.length_cons, List.length_nil, Nat.zero_add, Nat.reduceAdd, Int.reduceAdd, Int.reduceNeg, Int.reduceToNat, Int.reduceLE, Int.reduceLT, true_and, and_true, Nat.reduceLT, reduceIte, Nat.reduceEqDiff, ne_eq, not_false_eq_true, false_implies, true_implies, Bool.false_eq_true, reduceCtorEq, List.cons_append, List.nil_append, Nat.reduceSub, Nat.reduceLeDiff, Fin.isValue, Int.reduceNatCast', Int.zero_add, Int.add_zero, decide_true, decide_false, implies_true, forall_const, true_or, or_true, or_false, false_or, false_and, and_false, Int.toNat_natCast, ↓oF_11_0, ↓aF_12, ↓oF_11_1, ↓aF_13, ↓oF_11_2, ↓aF_14, ↓oF_11_3, ↓aF_15, ↓oF_11_4, oC_0, oC_1, oC_4, oC_11, oC_16, oC_18, oC_20, oC_23, oC_25, oC_26, oC_29, oC_31, oC_33, oC_35, oC_37, isT_29, isT_31, isT_33, isT_35, isL_16, isL_18, isL_26, ↓e_W_step, ↓e_W_has]
    have h1 := stepZ_r hN.2 hf s b
    have h2 := hp (stepZ (σ 11 4) (σ 12) s b).toNat
    generalize stepZ (σ 11 4) (σ 12) s b = c at *
    simp only [b2i_0]
    (try simp only [rI_iff, rL_iff] at *)
    repeat' (first | assumption | apply And.intro | intro _)
    all_goals first
      | omega
      | (refine st_ext fun k j => ?_; grind [updR_app, up1_app, b2i])
      | (refine Q_eq hQ ?_ ?_ <;> first | rfl | (refine st_ext fun k j => ?_; grind [updR_app, up1_app, b2i]) | grind [updR_app, up1_app, b2i])
      | grind [updR_app, up1_app, b2i]
def s_G_setAll : Spec := fun as σ Q => popR as fun c0 r0 => popI r0 fun v r1 => r1 = [] ∧ c0 = 23 ∧ Q none (updR σ 24 (fillF (σ 24) 0 100 v))
theorem e_G_setAll (v : Int) (σ : St) (Q : Option AV → St → Prop) : s_G_setAll [.inr (.inr (some 23)), .inl v] σ Q = (Q none (updR σ 24 (fillF (σ 24) 0 100 v))) := by
  show ([] = [] ∧ _) = _
  simp only [true_and]
set_option maxHeartbeats 4000000 in
set_option maxRecDepth 20000 in
theorem S_G_setAll {l : Launch} : Sat l y_G_setAll b_G_setAll 2 none 1 s_G_setAll := by
  refine sat_of (Φ := P_G) (κ := Q_G) (Γ := [(15, 0, 2, s_JA_fillI)]) (rt := 0) (by decide +kernel) P_G_ok Q_G_ok (by
    refine List.forall_mem_cons.mpr ⟨?_, fun _ h => absurd h List.not_mem_nil⟩
    · exact m_JA_fillI S_JA_fillI (by decide) l_G_15) (by simp) o_G_setAll ?_
  intro as σ Q hh0
  obtain ⟨c0, rr0, rfl, hh1⟩ := popR_inv hh0
  obtain ⟨v, rr1, rfl, hh2⟩ := popI_inv hh1
  obtain ⟨hrE, rfl, hQ⟩ := hh2
  subst hrE
  clear hh0 hh1
  refine ⟨Nat.le_of_ble_eq_true rfl, [], 14, ?_, cuts0⟩
  · rw [show entL 2 [.inr (.inr (some 23)), .inl v] = [.inr (.inr (some 23)), .inl v] from rfl]
    simp only [↓wpN_go, jmp_e, ↓wp_aload_n0, ↓wp_getfield, ↓wp_iload_n1, ↓wp_invokestatic, ↓wp_return0, wp_nil, ↓ldI_0, ↓ldI_s, ↓ldL_0, ↓ldL_s, ↓ldR_0, ↓ldR_s, sto1_0, sto1_1, sto1_s, sto2_0, sto2_1, sto2_s, isLong_i, isLong_l, isLong_r, ↓popI_c, ↓popL_c, ↓popR_c, ↓popN_0, ↓popN_s, catS_n, catS_c, psh_s, psh_n, fldV_n, fldV_s, ↓tgt_e, sw_n, ↓sw_c, ↓lk1_h, ↓lk1_m, ↓atC_h, ↓atC_m, ↓atC_n, ltO_n, ltO_s, updR_eq, updR_ne, gI_0i, gI_0l, gI_s, ltM_iff, List.cons.injEq, Sum.inl.injEq, Sum.inr.injEq, Option.some.injEq, exists_eq_left, exists_eq_left', exists_eq_right, exists_eq_right', exists_and_left, exists_and_right, exists_eq, exists_const, and_assoc, ↓j_G_setAll_0, ↓f_G_9, List.length_cons, List.length_nil, Nat.zero_add, Nat.reduceAdd, Int.reduceAdd, Int.reduceNeg, Int.reduceToNat, Int.reduceLE, Int.reduceLT, true_and, and_true, Nat.reduceLT, reduceIte, Nat.reduceEqDiff, ne_eq, not_false_eq_true, false_implies, true_implies, Bool.false_eq_true, reduceCtorEq, List.cons_append, List.nil_append, Nat.reduceSub, Nat.reduceLeDiff, Fin.isValue, Int.reduceNatCast', Int.zero_add, Int.add_zero, decide_true, decide_false, implies_true, forall_const, true_or, or_true, or_false, false_or, false_and, and_false, Int.toNat_natCast, ↓oF_23_0, ↓aF_24, oC_0, oC_1, oC_4, oC_11, oC_16, oC_18, oC_20, oC_23, oC_25, oC_26, oC_29, oC_31, oC_33, oC_35, oC_37, isT_29, isT_31, isT_33, isT_35, isL_16, isL_18, isL_26, ↓e_JA_fillI]
    (try simp only [rI_iff, rL_iff] at *)
    repeat' (first | assumption | apply And.intro | intro _)
    all_goals first
      | omega
      | (refine st_ext fun k j => ?_; grind [updR_app, up1_app])
      | (refine Q_eq hQ ?_ ?_ <;> first | rfl | (refine st_ext fun k j => ?_; grind [updR_app, up1_app]) | grind [updR_app, up1_app])
      | grind [updR_app, up1_app]
def s_G_set : Spec := fun as σ Q => popR as fun c0 r0 => popI r0 fun s r1 => popI r1 fun v r2 => r2 = [] ∧ c0 = 23 ∧ (rI s) ∧ Q none (if 0 ≤ s ∧ s < 100 then updR σ 24 (up1 (σ 24) s.toNat v) else σ)
theorem e_G_set (s : Int) (v : Int) (σ : St) (Q : Option AV → St → Prop) : s_G_set [.inr (.inr (some 23)), .inl s, .inl v] σ Q = ((rI s) ∧ Q none (if 0 ≤ s ∧ s < 100 then updR σ 24 (up1 (σ 24) s.toNat v) else σ)) := by
  show ([] = [] ∧ _) = _
  simp only [true_and]
set_option maxHeartbeats 4000000 in
set_option maxRecDepth 20000 in
theorem S_G_set {l : Launch} : Sat l y_G_set b_G_set 3 none 0 s_G_set := by
  refine sat_of (Φ := P_G) (κ := Q_G) (Γ := []) (rt := 0) (by decide +kernel) P_G_ok Q_G_ok (fun g hg => absurd hg List.not_mem_nil) (by simp) o_G_set ?_
  intro as σ Q hh0
  obtain ⟨c0, rr0, rfl, hh1⟩ := popR_inv hh0
  obtain ⟨s, rr1, rfl, hh2⟩ := popI_inv hh1
  obtain ⟨v, rr2, rfl, hh3⟩ := popI_inv hh2
  obtain ⟨hrE, rfl, hs, hQ⟩ := hh3
  subst hrE
  clear hh0 hh1 hh2
  refine ⟨Nat.le_of_ble_eq_true rfl, [], 14, ?_, cuts0⟩
  · rw [show entL 3 [.inr (.inr (some 23)), .inl s, .inl v] = [.inr (.inr (some 23)), .inl s, .inl v] from rfl]
    simp only [↓wpN_go, jmp_e, ↓wp_aload_n0, ↓wp_bipush, ↓wp_getfield, ↓wp_iastore, ↓wp_icmp_ge, ↓wp_if_lt, ↓wp_iload_n1, ↓wp_iload_n2, ↓wp_return0, wp_nil, ↓ldI_0, ↓ldI_s, ↓ldL_0, ↓ldL_s, ↓ldR_0, ↓ldR_s, sto1_0, sto1_1, sto1_s, sto2_0, sto2_1, sto2_s, isLong_i, isLong_l, isLong_r, ↓popI_c, ↓popL_c, ↓popR_c, ↓popN_0, ↓popN_s, catS_n, catS_c, psh_s, psh_n, fldV_n, fldV_s, ↓tgt_e, sw_n, ↓sw_c, ↓lk1_h, ↓lk1_m, ↓atC_h, ↓atC_m, ↓atC_n, ltO_n, ltO_s, updR_eq, updR_ne, gI_0i, gI_0l, gI_s, ltM_iff, List.cons.injEq, Sum.inl.injEq, Sum.inr.injEq, Option.some.injEq, exists_eq_left, exists_eq_left', exists_eq_right, exists_eq_right', exists_and_left, exists_and_right, exists_eq, exists_const, and_assoc, ↓j_G_set_0, ↓j_G_set_17, ↓f_G_9, List.length_cons, List.length_nil, Nat.zero_add, Nat.reduceAdd, Int.reduceAdd, Int.reduceNeg, Int.reduceToNat, Int.reduceLE, Int.reduceLT, true_and, and_true, Nat.reduceLT, reduceIte, Nat.reduceEqDiff, ne_eq, not_false_eq_true, false_implies, true_implies, Bool.false_eq_true, reduceCtorEq, List.cons_append, List.nil_append, Nat.reduceSub, Nat.reduceLeDiff, Fin.isValue, Int.reduceNatCast', Int.zero_add, Int.add_zero, decide_true, decide_false, implies_true, forall_const, true_or, or_true, or_false, false_or, false_and, and_false, Int.toNat_natCast, ↓oF_23_0, ↓aF_24, oC_0, oC_1, oC_4, oC_11, oC_16, oC_18, oC_20, oC_23, oC_25, oC_26, oC_29, oC_31, oC_33, oC_35, oC_37, isT_29, isT_31, isT_33, isT_35, isL_16, isL_18, isL_26]
    (try simp only [rI_iff, rL_iff] at *)
    repeat' (first | assumption | apply And.intro | intro _)
    all_goals first
      | omega
      | (refine st_ext fun k j => ?_; grind [updR_app, up1_app])
      | (refine Q_eq hQ ?_ ?_ <;> first | rfl | (refine st_ext fun k j => ?_; grind [updR_app, up1_app]) | grind [updR_app, up1_app])
      | grind [updR_app, up1_app]
def s_G_of : Spec := fun as σ Q => popR as fun c0 r0 => popI r0 fun s r1 => r1 = [] ∧ c0 = 23 ∧ (rI s) ∧ Q (some (.inl (if 0 ≤ s ∧ s < 100 then σ 24 s.toNat else 0))) σ
theorem e_G_of (s : Int) (σ : St) (Q : Option AV → St → Prop) : s_G_of [.inr (.inr (some 23)), .inl s] σ Q = ((rI s) ∧ Q (some (.inl (if 0 ≤ s ∧ s < 100 then σ 24 s.toNat else 0))) σ) := by
  show ([] = [] ∧ _) = _
  simp only [true_and]
set_option maxHeartbeats 4000000 in
set_option maxRecDepth 20000 in
theorem S_G_of {l : Launch} : Sat l y_G_of b_G_of 2 (some .int) 0 s_G_of := by
  refine sat_of (Φ := P_G) (κ := Q_G) (Γ := []) (rt := 1) (by decide +kernel) P_G_ok Q_G_ok (fun g hg => absurd hg List.not_mem_nil) (by simp) o_G_of ?_
  intro as σ Q hh0
  obtain ⟨c0, rr0, rfl, hh1⟩ := popR_inv hh0
  obtain ⟨s, rr1, rfl, hh2⟩ := popI_inv hh1
  obtain ⟨hrE, rfl, hs, hQ⟩ := hh2
  subst hrE
  clear hh0 hh1
  refine ⟨Nat.le_of_ble_eq_true rfl, [], 14, ?_, cuts0⟩
  · rw [show entL 2 [.inr (.inr (some 23)), .inl s] = [.inr (.inr (some 23)), .inl s] from rfl]
    simp only [↓wpN_go, jmp_e, ↓wp_aload_n0, ↓wp_bipush, ↓wp_getfield, ↓wp_goto, ↓wp_iaload, ↓wp_icmp_ge, ↓wp_iconst, ↓wp_if_lt, ↓wp_iload_n1, ↓wp_ireturn1, wp_nil, ↓ldI_0, ↓ldI_s, ↓ldL_0, ↓ldL_s, ↓ldR_0, ↓ldR_s, sto1_0, sto1_1, sto1_s, sto2_0, sto2_1, sto2_s, isLong_i, isLong_l, isLong_r, ↓popI_c, ↓popL_c, ↓popR_c, ↓popN_0, ↓popN_s, catS_n, catS_c, psh_s, psh_n, fldV_n, fldV_s, ↓tgt_e, sw_n, ↓sw_c, ↓lk1_h, ↓lk1_m, ↓atC_h, ↓atC_m, ↓atC_n, ltO_n, ltO_s, updR_eq, updR_ne, gI_0i, gI_0l, gI_s, ltM_iff, List.cons.injEq, Sum.inl.injEq, Sum.inr.injEq, Option.some.injEq, exists_eq_left, exists_eq_left', exists_eq_right, exists_eq_right', exists_and_left, exists_and_right, exists_eq, exists_const, and_assoc, ↓j_G_of_0, ↓j_G_of_19, ↓j_G_of_20, ↓f_G_9, List.length_cons, List.length_nil, Nat.zero_add, Nat.reduceAdd, Int.reduceAdd, Int.reduceNeg, Int.reduceToNat, Int.reduceLE, Int.reduceLT, true_and, and_true, Nat.reduceLT, reduceIte, Nat.reduceEqDiff, ne_eq, not_false_eq_true, false_implies, true_implies, Bool.false_eq_true, reduceCtorEq, List.cons_append, List.nil_append, Nat.reduceSub, Nat.reduceLeDiff, Fin.isValue, Int.reduceNatCast', Int.zero_add, Int.add_zero, decide_true, decide_false, implies_true, forall_const, true_or, or_true, or_false, false_or, false_and, and_false, Int.toNat_natCast, ↓oF_23_0, ↓aF_24, oC_0, oC_1, oC_4, oC_11, oC_16, oC_18, oC_20, oC_23, oC_25, oC_26, oC_29, oC_31, oC_33, oC_35, oC_37, isT_29, isT_31, isT_33, isT_35, isL_16, isL_18, isL_26]
    (try simp only [rI_iff, rL_iff] at *)
    repeat' (first | assumption | apply And.intro | intro _)
    all_goals first
      | omega
      | (refine st_ext fun k j => ?_; grind [updR_app, up1_app])
      | (refine Q_eq hQ ?_ ?_ <;> first | rfl | (refine st_ext fun k j => ?_; grind [updR_app, up1_app]) | grind [updR_app, up1_app])
      | grind [updR_app, up1_app]
def s_G_sum : Spec := fun as σ Q => popR as fun c0 r0 => r0 = [] ∧ c0 = 23 ∧ Q (some (.inl (sumF (σ 24) 100))) σ
theorem e_G_sum  (σ : St) (Q : Option AV → St → Prop) : s_G_sum [.inr (.inr (some 23))] σ Q = (Q (some (.inl (sumF (σ 24) 100))) σ) := by
  show ([] = [] ∧ _) = _
  simp only [true_and]
set_option maxHeartbeats 4000000 in
set_option maxRecDepth 20000 in
theorem S_G_sum {l : Launch} : Sat l y_G_sum b_G_sum 3 (some .int) 0 s_G_sum := by
  refine sat_of (Φ := P_G) (κ := Q_G) (Γ := []) (rt := 1) (by decide +kernel) P_G_ok Q_G_ok (fun g hg => absurd hg List.not_mem_nil) (by simp) o_G_sum ?_
  intro as σ Q hh0
  obtain ⟨c0, rr0, rfl, hh1⟩ := popR_inv hh0
  obtain ⟨hrE, rfl, hQ⟩ := hh1
  subst hrE
  clear hh0
  refine ⟨Nat.le_of_ble_eq_true rfl, [(4, mkC (fun L st u => ∃ (x i : Int), L = [.inr (.inr (some 23)), .inl x, .inl i] ∧ st = [] ∧ (0 ≤ i ∧ i ≤ 100) ∧ (x = sumF (σ 24) i.toNat) ∧ (u = σ)) (fun L st u => ((100 - gI L 2).toNat, 0, 0)))], 14, ?_, cuts1 ?_ (cuts0)⟩
  · rw [show entL 3 [.inr (.inr (some 23))] = [.inr (.inr (some 23)), .inr (.inr none), .inr (.inr none)] from rfl]
    simp only [↓wpN_go, jmp_e, ↓wp_aload_n0, ↓wp_bipush, ↓wp_getfield, ↓wp_goto, ↓wp_iadd, ↓wp_iaload, ↓wp_icmp_ge, ↓wp_iconst, ↓wp_iinc, ↓wp_iload_n1, ↓wp_iload_n2, ↓wp_ireturn1, ↓wp_istore_n1, ↓wp_istore_n2, wp_nil, ↓ldI_0, ↓ldI_s, ↓ldL_0, ↓ldL_s, ↓ldR_0, ↓ldR_s, sto1_0, sto1_1, sto1_s, sto2_0, sto2_1, sto2_s, isLong_i, isLong_l, isLong_r, ↓popI_c, ↓popL_c, ↓popR_c, ↓popN_0, ↓popN_s, catS_n, catS_c, psh_s, psh_n, fldV_n, fldV_s, ↓tgt_e, sw_n, ↓sw_c, ↓lk1_h, ↓lk1_m, ↓atC_h, ↓atC_m, ↓atC_n, ltO_n, ltO_s, updR_eq, updR_ne, gI_0i, gI_0l, gI_s, ltM_iff, List.cons.injEq, Sum.inl.injEq, Sum.inr.injEq, Option.some.injEq, exists_eq_left, exists_eq_left', exists_eq_right, exists_eq_right', exists_and_left, exists_and_right, exists_eq, exists_const, and_assoc, ↓j_G_sum_0, ↓j_G_sum_4, ↓j_G_sum_25, ↓f_G_9, List.length_cons, List.length_nil, Nat.zero_add, Nat.reduceAdd, Int.reduceAdd, Int.reduceNeg, Int.reduceToNat, Int.reduceLE, Int.reduceLT, true_and, and_true, Nat.reduceLT, reduceIte, Nat.reduceEqDiff, ne_eq, not_false_eq_true, false_implies, true_implies, Bool.false_eq_true, reduceCtorEq, List.cons_append, List.nil_append, Nat.reduceSub, Nat.reduceLeDiff, Fin.isValue, Int.reduceNatCast', Int.zero_add, Int.add_zero, decide_true, decide_false, implies_true, forall_const, true_or, or_true, or_false, false_or, false_and, and_false, Int.toNat_natCast, ↓oF_23_0, ↓aF_24, oC_0, oC_1, oC_4, oC_11, oC_16, oC_18, oC_20, oC_23, oC_25, oC_26, oC_29, oC_31, oC_33, oC_35, oC_37, isT_29, isT_31, isT_33, isT_35, isL_16, isL_18, isL_26]
    (try simp only [rI_iff, rL_iff] at *)
    repeat' (first | assumption | apply And.intro | intro _)
    all_goals first
      | omega
      | (refine st_ext fun k j => ?_; grind [updR_app, up1_app, sumF])
      | (refine Q_eq hQ ?_ ?_ <;> first | rfl | (refine st_ext fun k j => ?_; grind [updR_app, up1_app, sumF]) | grind [updR_app, up1_app, sumF])
      | grind [updR_app, up1_app, sumF]
  · intro L st u hI
    obtain ⟨x, i, rfl, rfl, hi, hx, hu⟩ := hI
    simp only [↓wpN_go, jmp_e, ↓wp_aload_n0, ↓wp_bipush, ↓wp_getfield, ↓wp_goto, ↓wp_iadd, ↓wp_iaload, ↓wp_icmp_ge, ↓wp_iconst, ↓wp_iinc, ↓wp_iload_n1, ↓wp_iload_n2, ↓wp_ireturn1, ↓wp_istore_n1, ↓wp_istore_n2, wp_nil, ↓ldI_0, ↓ldI_s, ↓ldL_0, ↓ldL_s, ↓ldR_0, ↓ldR_s, sto1_0, sto1_1, sto1_s, sto2_0, sto2_1, sto2_s, isLong_i, isLong_l, isLong_r, ↓popI_c, ↓popL_c, ↓popR_c, ↓popN_0, ↓popN_s, catS_n, catS_c, psh_s, psh_n, fldV_n, fldV_s, ↓tgt_e, sw_n, ↓sw_c, ↓lk1_h, ↓lk1_m, ↓atC_h, ↓atC_m, ↓atC_n, ltO_n, ltO_s, updR_eq, updR_ne, gI_0i, gI_0l, gI_s, ltM_iff, List.cons.injEq, Sum.inl.injEq, Sum.inr.injEq, Option.some.injEq, exists_eq_left, exists_eq_left', exists_eq_right, exists_eq_right', exists_and_left, exists_and_right, exists_eq, exists_const, and_assoc, ↓j_G_sum_0, ↓j_G_sum_4, ↓j_G_sum_25, ↓f_G_9, List.length_cons, List.length_nil, Nat.zero_add, Nat.reduceAdd, Int.reduceAdd, Int.reduceNeg, Int.reduceToNat, Int.reduceLE, Int.reduceLT, true_and, and_true, Nat.reduceLT, reduceIte, Nat.reduceEqDiff, ne_eq, not_false_eq_true, false_implies, true_implies, Bool.false_eq_true, reduceCtorEq, List.cons_append, List.nil_append, Nat.reduceSub, Nat.reduceLeDiff, Fin.isValue, Int.reduceNatCast', Int.zero_add, Int.add_zero, decide_true, decide_false, implies_true, forall_const, true_or, or_true, or_false, false_or, false_and, and_false, Int.toNat_natCast, ↓oF_23_0, ↓aF_24, oC_0, oC_1, oC_4, oC_11, oC_16, oC_18, oC_20, oC_23, oC_25, oC_26, oC_29, oC_31, oC_33, oC_35, oC_37, isT_29, isT_31, isT_33, isT_35, isL_16, isL_18, isL_26]
    subst hu
    have e : (i + 1).toNat = i.toNat + 1 := by omega
    simp only [e, sumF, ← hx]
    (try simp only [rI_iff, rL_iff] at *)
    repeat' (first | assumption | apply And.intro | intro _)
    all_goals first
      | omega
      | (refine st_ext fun k j => ?_; grind [updR_app, up1_app, sumF])
      | (refine Q_eq hQ ?_ ?_ <;> first | rfl | (refine st_ext fun k j => ?_; grind [updR_app, up1_app, sumF]) | grind [updR_app, up1_app, sumF])
      | grind [updR_app, up1_app, sumF]
def s_G_raise : Spec := fun as σ Q => popR as fun c0 r0 => popR r0 fun c1 r1 => popI r1 fun v r2 => r2 = [] ∧ c0 = 23 ∧ c1 = 11 ∧ (0 ≤ σ 11 4 ∧ σ 11 4 ≤ 100) ∧ Q none (updR σ 24 (fillF (σ 24) 0 (σ 11 4) v))
theorem e_G_raise (v : Int) (σ : St) (Q : Option AV → St → Prop) : s_G_raise [.inr (.inr (some 23)), .inr (.inr (some 11)), .inl v] σ Q = ((0 ≤ σ 11 4 ∧ σ 11 4 ≤ 100) ∧ Q none (updR σ 24 (fillF (σ 24) 0 (σ 11 4) v))) := by
  show ([] = [] ∧ _) = _
  simp only [true_and]
set_option maxHeartbeats 4000000 in
set_option maxRecDepth 20000 in
theorem S_G_raise {l : Launch} : Sat l y_G_raise b_G_raise 4 none 1 s_G_raise := by
  refine sat_of (Φ := P_G) (κ := Q_G) (Γ := [(21, 8, 0, s_W_size), (27, 7, 2, s_G_set)]) (rt := 0) (by decide +kernel) P_G_ok Q_G_ok (by
    refine List.forall_mem_cons.mpr ⟨?_, List.forall_mem_cons.mpr ⟨?_, fun _ h => absurd h List.not_mem_nil⟩⟩
    · exact m_W_size S_W_size (by decide) l_G_21
    · exact m_G_set S_G_set (by decide) l_G_27) (by simp) o_G_raise ?_
  intro as σ Q hh0
  obtain ⟨c0, rr0, rfl, hh1⟩ := popR_inv hh0
  obtain ⟨c1, rr1, rfl, hh2⟩ := popR_inv hh1
  obtain ⟨v, rr2, rfl, hh3⟩ := popI_inv hh2
  obtain ⟨hrE, rfl, rfl, hN, hQ⟩ := hh3
  subst hrE
  clear hh0 hh1 hh2
  refine ⟨Nat.le_of_ble_eq_true rfl, [(2, mkC (fun L st u => ∃ (i : Int), L = [.inr (.inr (some 23)), .inr (.inr (some 11)), .inl v, .inl i] ∧ st = [] ∧ (0 ≤ i ∧ i ≤ σ 11 4) ∧ (u = updR σ 24 (fillF (σ 24) 0 i v))) (fun L st u => ((100 - gI L 3).toNat, 0, 0)))], 14, ?_, cuts1 ?_ (cuts0)⟩
  · rw [show entL 4 [.inr (.inr (some 23)), .inr (.inr (some 11)), .inl v] = [.inr (.inr (some 23)), .inr (.inr (some 11)), .inl v, .inr (.inr none)] from rfl]
    simp only [↓wpN_go, jmp_e, ↓wp_aload_n0, ↓wp_aload_n1, ↓wp_goto, ↓wp_icmp_ge, ↓wp_iconst, ↓wp_iinc, ↓wp_iload_n2, ↓wp_iload_n3, ↓wp_invokevirtual, ↓wp_istore_n3, ↓wp_return0, wp_nil, ↓ldI_0, ↓ldI_s, ↓ldL_0, ↓ldL_s, ↓ldR_0, ↓ldR_s, sto1_0, sto1_1, sto1_s, sto2_0, sto2_1, sto2_s, isLong_i, isLong_l, isLong_r, ↓popI_c, ↓popL_c, ↓popR_c, ↓popN_0, ↓popN_s, catS_n, catS_c, psh_s, psh_n, fldV_n, fldV_s, ↓tgt_e, sw_n, ↓sw_c, ↓lk1_h, ↓lk1_m, ↓atC_h, ↓atC_m, ↓atC_n, ltO_n, ltO_s, updR_eq, updR_ne, gI_0i, gI_0l, gI_s, ltM_iff, List.cons.injEq, Sum.inl.injEq, Sum.inr.injEq, Option.some.injEq, exists_eq_left, exists_eq_left', exists_eq_right, exists_eq_right', exists_and_left, exists_and_right, exists_eq, exists_const, and_assoc, ↓j_G_raise_0, ↓j_G_raise_2, ↓j_G_raise_22, List.length_cons, List.length_nil, Nat.zero_add, Nat.reduceAdd, Int.reduceAdd, Int.reduceNeg, Int.reduceToNat, Int.reduceLE, Int.reduceLT, true_and, and_true, Nat.reduceLT, reduceIte, Nat.reduceEqDiff, ne_eq, not_false_eq_true, false_implies, true_implies, Bool.false_eq_true, reduceCtorEq, List.cons_append, List.nil_append, Nat.reduceSub, Nat.reduceLeDiff, Fin.isValue, Int.reduceNatCast', Int.zero_add, Int.add_zero, decide_true, decide_false, implies_true, forall_const, true_or, or_true, or_false, false_or, false_and, and_false, Int.toNat_natCast, ↓oF_23_0, ↓aF_24, oC_0, oC_1, oC_4, oC_11, oC_16, oC_18, oC_20, oC_23, oC_25, oC_26, oC_29, oC_31, oC_33, oC_35, oC_37, isT_29, isT_31, isT_33, isT_35, isL_16, isL_18, isL_26, ↓e_W_size, ↓e_G_set]
    rw [fill_0, updR_self]
    (try simp only [rI_iff, rL_iff] at *)
    repeat' (first | assumption | apply And.intro | intro _)
    all_goals first
      | omega
      | (refine st_ext fun k j => ?_; grind [updR_app, up1_app])
      | (refine Q_eq hQ ?_ ?_ <;> first | rfl | (refine st_ext fun k j => ?_; grind [updR_app, up1_app]) | grind [updR_app, up1_app])
      | grind [updR_app, up1_app]
  · intro L st u hI
    obtain ⟨i, rfl, rfl, hi, hu⟩ := hI
    simp only [↓wpN_go, jmp_e, ↓wp_aload_n0, ↓wp_aload_n1, ↓wp_goto, ↓wp_icmp_ge, ↓wp_iconst, ↓wp_iinc, ↓wp_iload_n2, ↓wp_iload_n3, ↓wp_invokevirtual, ↓wp_istore_n3, ↓wp_return0, wp_nil, ↓ldI_0, ↓ldI_s, ↓ldL_0, ↓ldL_s, ↓ldR_0, ↓ldR_s, sto1_0, sto1_1, sto1_s, sto2_0, sto2_1, sto2_s, isLong_i, isLong_l, isLong_r, ↓popI_c, ↓popL_c, ↓popR_c, ↓popN_0, ↓popN_s, catS_n, catS_c, psh_s, psh_n, fldV_n, fldV_s, ↓tgt_e, sw_n, ↓sw_c, ↓lk1_h, ↓lk1_m, ↓atC_h, ↓atC_m, ↓atC_n, ltO_n, ltO_s, updR_eq, updR_ne, gI_0i, gI_0l, gI_s, ltM_iff, List.cons.injEq, Sum.inl.injEq, Sum.inr.injEq, Option.some.injEq, exists_eq_left, exists_eq_left', exists_eq_right, exists_eq_right', exists_and_left, exists_and_right, exists_eq, exists_const, and_assoc, ↓j_G_raise_0, ↓j_G_raise_2, ↓j_G_raise_22, List.length_cons, List.length_nil, Nat.zero_add, Nat.reduceAdd, Int.reduceAdd, Int.reduceNeg, Int.reduceToNat, Int.reduceLE, Int.reduceLT, true_and, and_true, Nat.reduceLT, reduceIte, Nat.reduceEqDiff, ne_eq, not_false_eq_true, false_implies, true_implies, Bool.false_eq_true, reduceCtorEq, List.cons_append, List.nil_append, Nat.reduceSub, Nat.reduceLeDiff, Fin.isValue, Int.reduceNatCast', Int.zero_add, Int.add_zero, decide_true, decide_false, implies_true, forall_const, true_or, or_true, or_false, false_or, false_and, and_false, Int.toNat_natCast, ↓oF_23_0, ↓aF_24, oC_0, oC_1, oC_4, oC_11, oC_16, oC_18, oC_20, oC_23, oC_25, oC_26, oC_29, oC_31, oC_33, oC_35, oC_37, isT_29, isT_31, isT_33, isT_35, isL_16, isL_18, isL_26, ↓e_W_size, ↓e_G_set]
    subst hu
    have h9 : 0 ≤ i ∧ i < 100 ↔ (0 ≤ i ∧ i < 100) := Iff.rfl
    have e9 : i < σ 11 4 → (if 0 ≤ i ∧ i < 100 then updR (updR σ 24 (fillF (σ 24) 0 i v)) 24 (up1 (updR σ 24 (fillF (σ 24) 0 i v) 24) i.toNat v) else updR σ 24 (fillF (σ 24) 0 i v)) = updR σ 24 (fillF (σ 24) 0 (i + 1) v) := fun h => by rw [if_pos (by omega), updR_eq, updR_twice, up1_fill hi.1 hi.1]
    (try simp only [rI_iff, rL_iff] at *)
    repeat' (first | assumption | apply And.intro | intro _)
    all_goals first
      | omega
      | (refine st_ext fun k j => ?_; grind [updR_app, up1_app])
      | (refine Q_eq hQ ?_ ?_ <;> first | rfl | (refine st_ext fun k j => ?_; grind [updR_app, up1_app]) | grind [updR_app, up1_app])
      | grind [updR_app, up1_app]
def Feas (N : Int) (f : Nat → Int) (m n : Int) (V : Nat → Int) : Prop := ∀ s : Nat, (s : Int) < N → 0 ≤ V s ∧ V s ≤ bearF N f V m n s
theorem pow12 {n : Int} (h : n ≤ 12) : (0 : Int) < 2 ^ n.toNat ∧ (2 : Int) ^ n.toNat ≤ 4096 := by
  refine ⟨Int.pow_pos (by omega), ?_⟩
  have : (2 : Nat) ^ n.toNat ≤ 2 ^ 12 := Nat.pow_le_pow_right (by omega) (by omega)
  have e : ((2 ^ n.toNat : Nat) : Int) = 2 ^ n.toNat := by rw [Int.natCast_pow]; rfl
  omega
theorem ladI_12 {N B n : Int} {f w : Nat → Int} (hn : n ≤ 12) (hB : 0 ≤ B) (h : ∀ s : Nat, (s : Int) < N → 0 ≤ w s ∧ w s ≤ B) (s : Int) : 0 ≤ ladI N f w n.toNat s ∧ ladI N f w n.toNat s ≤ 4096 * B := by
  have h1 := ladI_bound (f := f) hB h n.toNat s
  have h2 := Int.mul_le_mul_of_nonneg_right (pow12 hn).2 hB
  omega
theorem bear_0 {N B m n : Int} {f w : Nat → Int} (hB : 0 ≤ B) (h : ∀ s : Nat, (s : Int) < N → 0 ≤ w s ∧ w s ≤ B) (s : Nat) : 0 ≤ bearF N f w m n s := by
  have h1 := (ladI_bound (f := f) hB h n.toNat s).1
  exact Int.ediv_nonneg h1 (Int.le_of_lt (Int.pow_pos (by omega)))
theorem bear_mono {N m n : Int} {f w v : Nat → Int} (h : ∀ s : Nat, (s : Int) < N → w s ≤ v s) (s : Nat) : bearF N f w m n s ≤ bearF N f v m n s := Int.ediv_le_ediv (Int.pow_pos (by omega)) (ladI_mono h n.toNat s)
theorem lower_keep {N m n : Int} {f V W : Nat → Int} (hV : Feas N f m n V) (h : ∀ s : Nat, (s : Int) < N → V s ≤ W s) : ∀ s : Nat, (s : Int) < N → V s ≤ lowerF N f W m n N s := by
  intro s hs
  rw [lowerF_app]
  have h1 := hV s hs
  have h2 := bear_mono (f := f) (m := m) (n := n) h s
  have h3 := h s hs
  split <;> omega
theorem lower_id {N m n : Int} {f W : Nat → Int} (h : ∀ s : Nat, (s : Int) < N → W s ≤ bearF N f W m n s) (c : Int) (hc : c ≤ N) : lowerF N f W m n c = W := by
  funext s
  rw [lowerF_app]
  split
  · next q => have := h s (by omega); omega
  · rfl
theorem lower_sum {N m n : Int} {f W : Nat → Int} (h : ∃ s : Nat, (s : Int) < N ∧ bearF N f W m n s < W s) : sumF (lowerF N f W m n N) N.toNat < sumF W N.toNat := by
  obtain ⟨s, h1, h2⟩ := h
  refine sumF_lt (fun s hs => ?_) ⟨s, by omega, ?_⟩
  · rw [lowerF_app]; split <;> omega
  · rw [lowerF_app, if_pos ⟨h1, h2⟩]; exact h2
def cpyF (f g : Nat → Int) (i : Int) : Nat → Int := fun s => if (s : Int) < i then f s else g s
theorem cpyF_app (f g : Nat → Int) (i : Int) (s : Nat) : cpyF f g i s = if (s : Int) < i then f s else g s := (rfl)
theorem cpyF_up {f g : Nat → Int} {i : Int} (h : 0 ≤ i) : up1 (cpyF f g i) i.toNat (f i.toNat) = cpyF f g (i + 1) := by
  funext s
  rw [up1_app, cpyF_app, cpyF_app]
  by_cases e : s = i.toNat
  · rw [if_pos e, if_pos (by omega), e]
  · rw [if_neg e]
    by_cases h1 : (s : Int) < i
    · rw [if_pos h1, if_pos (by omega)]
    · rw [if_neg h1, if_neg (by omega)]
theorem cpyF_0 {f g : Nat → Int} : cpyF f g 0 = g := by
  funext s
  rw [cpyF_app, if_neg (by omega)]
theorem lower_up {N m n i : Int} {f W : Nat → Int} (hi : 0 ≤ i ∧ i < N) : (if bearF N f W m n i.toNat < W i.toNat then up1 (lowerF N f W m n i) i.toNat (bearF N f W m n i.toNat) else lowerF N f W m n i) = lowerF N f W m n (i + 1) := by
  funext s
  rw [lowerF_app]
  by_cases e : s = i.toNat
  · subst e
    split
    · next h => rw [up1_eq, if_pos ⟨by omega, h⟩]
    · next h => rw [lowerF_app, if_neg (by omega), if_neg (fun q => h q.2)]
  · have : (s : Int) < i ↔ (s : Int) < i + 1 := by omega
    split
    · rw [up1_ne _ _ _ _ e, lowerF_app]; simp only [this]
    · rw [lowerF_app]; simp only [this]
theorem lower_i {N m n i : Int} {f W : Nat → Int} (hi : 0 ≤ i) : lowerF N f W m n i i.toNat = W i.toNat := by rw [lowerF_app, if_neg (by omega)]
theorem updR_L24 {o : Nat} (h : isL o) (σ : St) (f : Nat → Int) : updR σ (o + 1) f 24 = σ 24 := updR_ne _ _ _ _ (by have := isL_cases h; omega)
theorem updR_24L {o : Nat} (h : isL o) (σ : St) (f : Nat → Int) : updR σ 24 f (o + 1) = σ (o + 1) := updR_ne _ _ _ _ (by have := isL_cases h; omega)
def s_G_weighEnds : Spec := fun as σ Q => popR as fun c0 r0 => popR r0 fun c1 r1 => popR r1 fun o r2 => popI r2 fun n r3 => r3 = [] ∧ c0 = 23 ∧ c1 = 11 ∧ (isL o) ∧ (0 ≤ σ 11 4 ∧ σ 11 4 ≤ 100) ∧ (Wire (σ 11 4) (σ 12)) ∧ (0 ≤ n ∧ n ≤ 60) ∧ (AllI (σ 24) 100) ∧ ∀ g, Climbed (σ 11 4) (σ 12) (σ 24) n g → Q none (updR σ (o + 1) g)
theorem e_G_weighEnds (o : Nat) (n : Int) (σ : St) (Q : Option AV → St → Prop) : s_G_weighEnds [.inr (.inr (some 23)), .inr (.inr (some 11)), .inr (.inr (some o)), .inl n] σ Q = ((isL o) ∧ (0 ≤ σ 11 4 ∧ σ 11 4 ≤ 100) ∧ (Wire (σ 11 4) (σ 12)) ∧ (0 ≤ n ∧ n ≤ 60) ∧ (AllI (σ 24) 100) ∧ ∀ g, Climbed (σ 11 4) (σ 12) (σ 24) n g → Q none (updR σ (o + 1) g)) := by
  show ([] = [] ∧ _) = _
  simp only [true_and]
set_option maxHeartbeats 4000000 in
set_option maxRecDepth 20000 in
theorem S_G_weighEnds {l : Launch} : Sat l y_G_weighEnds b_G_weighEnds 5 none 3 s_G_weighEnds := by
  refine sat_of (Φ := P_G) (κ := Q_G) (Γ := [(21, 8, 0, s_W_size), (44, 7, 1, s_G_of), (52, 4, 2, s_L_set), (55, 4, 2, s_L_climb)]) (rt := 0) (by decide +kernel) P_G_ok Q_G_ok (by
    refine List.forall_mem_cons.mpr ⟨?_, List.forall_mem_cons.mpr ⟨?_, List.forall_mem_cons.mpr ⟨?_, List.forall_mem_cons.mpr ⟨?_, fun _ h => absurd h List.not_mem_nil⟩⟩⟩⟩
    · exact m_W_size S_W_size (by decide) l_G_21
    · exact m_G_of S_G_of (by decide) l_G_44
    · exact m_L_set S_L_set (by decide) l_G_52
    · exact m_L_climb S_L_climb (by decide) l_G_55) (by simp) o_G_weighEnds ?_
  intro as σ Q hh0
  obtain ⟨c0, rr0, rfl, hh1⟩ := popR_inv hh0
  obtain ⟨c1, rr1, rfl, hh2⟩ := popR_inv hh1
  obtain ⟨o, rr2, rfl, hh3⟩ := popR_inv hh2
  obtain ⟨n, rr3, rfl, hh4⟩ := popI_inv hh3
  obtain ⟨hrE, rfl, rfl, hL, hN, hf, hn, hw, hQ⟩ := hh4
  subst hrE
  clear hh0 hh1 hh2 hh3
  refine ⟨Nat.le_of_ble_eq_true rfl, [(3, mkC (fun L st u => ∃ (i : Int), L = [.inr (.inr (some 23)), .inr (.inr (some 11)), .inr (.inr (some o)), .inl n, .inl i] ∧ st = [] ∧ (0 ≤ i ∧ i ≤ σ 11 4) ∧ (u = updR σ (o + 1) (cpyF (σ 24) (σ (o + 1)) i))) (fun L st u => ((101 - gI L 4).toNat, 0, 0)))], 14, ?_, cuts1 ?_ (cuts0)⟩
  · rw [show entL 5 [.inr (.inr (some 23)), .inr (.inr (some 11)), .inr (.inr (some o)), .inl n] = [.inr (.inr (some 23)), .inr (.inr (some 11)), .inr (.inr (some o)), .inl n, .inr (.inr none)] from rfl]
    simp only [↓wpN_go, jmp_e, ↓wp_aload_n0, ↓wp_aload_n1, ↓wp_aload_n2, ↓wp_goto, ↓wp_i2l, ↓wp_icmp_ge, ↓wp_iconst, ↓wp_iinc, ↓wp_iload, ↓wp_iload_n3, ↓wp_invokevirtual, ↓wp_istore, ↓wp_return0, wp_nil, ↓ldI_0, ↓ldI_s, ↓ldL_0, ↓ldL_s, ↓ldR_0, ↓ldR_s, sto1_0, sto1_1, sto1_s, sto2_0, sto2_1, sto2_s, isLong_i, isLong_l, isLong_r, ↓popI_c, ↓popL_c, ↓popR_c, ↓popN_0, ↓popN_s, catS_n, catS_c, psh_s, psh_n, fldV_n, fldV_s, ↓tgt_e, sw_n, ↓sw_c, ↓lk1_h, ↓lk1_m, ↓atC_h, ↓atC_m, ↓atC_n, ltO_n, ltO_s, updR_eq, updR_ne, gI_0i, gI_0l, gI_s, ltM_iff, List.cons.injEq, Sum.inl.injEq, Sum.inr.injEq, Option.some.injEq, exists_eq_left, exists_eq_left', exists_eq_right, exists_eq_right', exists_and_left, exists_and_right, exists_eq, exists_const, and_assoc, ↓j_G_weighEnds_0, ↓j_G_weighEnds_3, ↓j_G_weighEnds_31, List.length_cons, List.length_nil, Nat.zero_add, Nat.reduceAdd, Int.reduceAdd, Int.reduceNeg, Int.reduceToNat, Int.reduceLE, Int.reduceLT, true_and, and_true, Nat.reduceLT, reduceIte, Nat.reduceEqDiff, ne_eq, not_false_eq_true, false_implies, true_implies, Bool.false_eq_true, reduceCtorEq, List.cons_append, List.nil_append, Nat.reduceSub, Nat.reduceLeDiff, Fin.isValue, Int.reduceNatCast', Int.zero_add, Int.add_zero, decide_true, decide_false, implies_true, forall_const, true_or, or_true, or_false, false_or, false_and, and_false, Int.toNat_natCast, ↓oF_23_0, ↓aF_24, oC_0, oC_1, oC_4, oC_11, oC_16, oC_18, oC_20, oC_23, oC_25, oC_26, oC_29, oC_31, oC_33, oC_35, oC_37, isT_29, isT_31, isT_33, isT_35, isL_16, isL_18, isL_26, ↓hL.f0, ↓hL.a, hL.c, updR_o1, updR_o2, eq_true hL, updR_L11 hL, updR_L12 hL, updR_L24 hL, updR_24L hL, updR_twice, ↓e_W_size, ↓e_G_of, ↓e_L_set, ↓e_L_climb]
    rw [cpyF_0, updR_self]
    (try simp only [rI_iff, rL_iff] at *)
    repeat' (first | assumption | apply And.intro | intro _)
    all_goals first | omega | assumption | exact True.intro | skip
  · intro L st u hI
    obtain ⟨i, rfl, rfl, hi, hu⟩ := hI
    simp only [↓wpN_go, jmp_e, ↓wp_aload_n0, ↓wp_aload_n1, ↓wp_aload_n2, ↓wp_goto, ↓wp_i2l, ↓wp_icmp_ge, ↓wp_iconst, ↓wp_iinc, ↓wp_iload, ↓wp_iload_n3, ↓wp_invokevirtual, ↓wp_istore, ↓wp_return0, wp_nil, ↓ldI_0, ↓ldI_s, ↓ldL_0, ↓ldL_s, ↓ldR_0, ↓ldR_s, sto1_0, sto1_1, sto1_s, sto2_0, sto2_1, sto2_s, isLong_i, isLong_l, isLong_r, ↓popI_c, ↓popL_c, ↓popR_c, ↓popN_0, ↓popN_s, catS_n, catS_c, psh_s, psh_n, fldV_n, fldV_s, ↓tgt_e, sw_n, ↓sw_c, ↓lk1_h, ↓lk1_m, ↓atC_h, ↓atC_m, ↓atC_n, ltO_n, ltO_s, updR_eq, updR_ne, gI_0i, gI_0l, gI_s, ltM_iff, List.cons.injEq, Sum.inl.injEq, Sum.inr.injEq, Option.some.injEq, exists_eq_left, exists_eq_left', exists_eq_right, exists_eq_right', exists_and_left, exists_and_right, exists_eq, exists_const, and_assoc, ↓j_G_weighEnds_0, ↓j_G_weighEnds_3, ↓j_G_weighEnds_31, List.length_cons, List.length_nil, Nat.zero_add, Nat.reduceAdd, Int.reduceAdd, Int.reduceNeg, Int.reduceToNat, Int.reduceLE, Int.reduceLT, true_and, and_true, Nat.reduceLT, reduceIte, Nat.reduceEqDiff, ne_eq, not_false_eq_true, false_implies, true_implies, Bool.false_eq_true, reduceCtorEq, List.cons_append, List.nil_append, Nat.reduceSub, Nat.reduceLeDiff, Fin.isValue, Int.reduceNatCast', Int.zero_add, Int.add_zero, decide_true, decide_false, implies_true, forall_const, true_or, or_true, or_false, false_or, false_and, and_false, Int.toNat_natCast, ↓oF_23_0, ↓aF_24, oC_0, oC_1, oC_4, oC_11, oC_16, oC_18, oC_20, oC_23, oC_25, oC_26, oC_29, oC_31, oC_33, oC_35, oC_37, isT_29, isT_31, isT_33, isT_35, isL_16, isL_18, isL_26, ↓hL.f0, ↓hL.a, hL.c, updR_o1, updR_o2, eq_true hL, updR_L11 hL, updR_L12 hL, updR_L24 hL, updR_24L hL, updR_twice, ↓e_W_size, ↓e_G_of, ↓e_L_set, ↓e_L_climb]
    subst hu
    simp only [updR_L11 hL, updR_L12 hL, updR_L24 hL, updR_eq, updR_twice]
    have h9 := hw i.toNat
    unfold rI at h9
    by_cases h8 : i < σ 11 4
    · simp only [if_pos (show 0 ≤ i ∧ i < 100 by omega), cpyF_up hi.1]
      (try simp only [rI_iff, rL_iff] at *)
      repeat' (first | assumption | apply And.intro | intro _)
      all_goals first | omega | assumption | exact True.intro | skip
    · (try simp only [rI_iff, rL_iff] at *)
      repeat' (first | assumption | apply And.intro | intro _)
      all_goals first | omega | assumption | exact True.intro | skip
      next h0 g h1 h2 => exact hQ g (climbed_congr (fun s hs => by rw [cpyF_app, if_pos (by omega)]) h2)
