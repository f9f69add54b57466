/-! the lowest 1 of a number -/
def lowB (a t n : Nat) : Prop := t ≤ n ∧ a % 2 ^ t = 0 ∧ (t < n → a / 2 ^ t % 2 = 1)
theorem tb_odd (q j : Nat) : (2 * q + 1).testBit j = (decide (j = 0) || (2 * q).testBit j) := by
  cases j with
  | zero => simp
  | succ j => rw [Nat.testBit_succ, Nat.testBit_succ, show (2 * q + 1) / 2 = q by omega, show 2 * q / 2 = q by omega]; simp
theorem low_a {a t n : Nat} (h : lowB a t n) (ht : t < n) : ∃ q, a = 2 ^ t * (2 * q + 1) + 0 ∧ a - 1 = 2 ^ t * (2 * q) + (2 ^ t - 1) := by
  have h1 := Nat.div_add_mod a (2 ^ t)
  have h2 := h.2.2 ht
  have hp : 0 < 2 ^ t := Nat.two_pow_pos t
  refine ⟨a / 2 ^ t / 2, ?_, ?_⟩
  · rw [show 2 * (a / 2 ^ t / 2) + 1 = a / 2 ^ t by omega]; have := h.2.1; omega
  · have e : 2 * (a / 2 ^ t / 2) + 1 = a / 2 ^ t := by omega
    have e2 : 2 ^ t * (2 * (a / 2 ^ t / 2) + 1) = 2 ^ t * (2 * (a / 2 ^ t / 2)) + 2 ^ t := by rw [Nat.mul_add, Nat.mul_one]
    rw [e] at e2
    have := h.2.1
    omega
theorem low_tb {a t n : Nat} (h : lowB a t n) (ht : t < n) (j : Nat) : (a.testBit j = (decide (j = t) || (decide (t < j) && (a - 1).testBit j))) ∧ ((a - 1).testBit j = (decide (j < t) || (decide (j ≠ t) && a.testBit j))) := by
  obtain ⟨q, h1, h2⟩ := low_a h ht
  have hp : 0 < 2 ^ t := Nat.two_pow_pos t
  have e1 : a.testBit j = if j < t then (0 : Nat).testBit j else (2 * q + 1).testBit (j - t) := by rw [h1]; exact Nat.testBit_two_pow_mul_add _ hp _
  have e2 : (a - 1).testBit j = if j < t then (2 ^ t - 1).testBit j else (2 * q).testBit (j - t) := by rw [h2]; exact Nat.testBit_two_pow_mul_add _ (by omega) _
  rw [e1, e2]
  rcases Nat.lt_trichotomy j t with g | g | g
  · rw [if_pos g, if_pos g, Nat.testBit_two_pow_sub_one]
    simp [g, Nat.ne_of_lt g]
    omega
  · subst g
    rw [if_neg (by omega), if_neg (by omega)]
    simp
  · rw [if_neg (by omega), if_neg (by omega), tb_odd]
    have : ¬ j - t = 0 := by omega
    have g2 : ¬ j < t := by omega
    have g3 : ¬ j = t := by omega
    simp [this, g, g2, g3]
theorem low_ex (a n : Nat) : ∃ t, lowB a t n := by
  induction n with
  | zero => exact ⟨0, Nat.le_refl _, Nat.mod_one a, fun h => absurd h (by omega)⟩
  | succ n ih =>
    obtain ⟨t, h1, h2, h3⟩ := ih
    by_cases ht : t < n
    · exact ⟨t, by omega, h2, fun _ => h3 ht⟩
    · have : t = n := by omega
      subst this
      by_cases hb : a / 2 ^ t % 2 = 1
      · exact ⟨t, by omega, h2, fun _ => hb⟩
      · refine ⟨t + 1, by omega, ?_, fun h => absurd h (by omega)⟩
        have h4 := Nat.div_add_mod a (2 ^ t)
        have h5 := Nat.div_add_mod (a / 2 ^ t) 2
        have h6 : a = 2 ^ (t + 1) * (a / 2 ^ t / 2) := by
          rw [Nat.pow_succ, Nat.mul_assoc, show 2 * (a / 2 ^ t / 2) = a / 2 ^ t by omega]; omega
        rw [h6]
        exact Nat.mul_mod_right _ _
theorem low_y {x : Int} {t : Nat} (h : lowB (x % 4294967296).toNat t 32) : iandZ (ixorZ x (-1)) (x - 1) = if t = 32 then -1 else 2 ^ t - 1 := by
  unfold iandZ
  rw [← zI_xor]
  have hx := zI_natE x
  have hx1 := zI_natE (x - 1)
  have hn : (Int32.ofInt x ^^^ Int32.ofInt (-1)).toBitVec = ~~~ (Int32.ofInt x).toBitVec := by
    rw [Int32.toBitVec_xor, show (Int32.ofInt (-1)).toBitVec = BitVec.allOnes 32 from by decide +kernel, BitVec.xor_allOnes]
  by_cases h32 : t = 32
  · subst h32
    have hz : x % 4294967296 = 0 := by
      have := h.2.1
      have e : (2 : Nat) ^ 32 = 4294967296 := rfl
      rw [e] at this
      omega
    rw [if_pos rfl]
    have e : Int32.ofInt x = 0 := zI_ext (by rw [zI_nat, hz]; rfl)
    have e1 : Int32.ofInt (x - 1) = -1 := zI_ext (by rw [zI_nat]; show (x - 1) % 4294967296 = 4294967295; omega)
    rw [e, e1]
    decide +kernel
  · rw [if_neg h32]
    have ht : t < 32 := by have := h.1; omega
    have hp : (2 : Nat) ^ t ≤ 2 ^ 31 := Nat.pow_le_pow_right (by omega) (by omega)
    have hp0 : 0 < (2 : Nat) ^ t := Nat.two_pow_pos t
    have hnz : x % 4294967296 ≠ 0 := fun hz => by
      have := h.2.2 ht
      rw [hz] at this
      simp at this
    have ha1 : ((x - 1) % 4294967296).toNat = (x % 4294967296).toNat - 1 := by omega
    have key : ((Int32.ofInt x ^^^ Int32.ofInt (-1)) &&& Int32.ofInt (x - 1)) = Int32.ofInt (2 ^ t - 1) := by
      apply Int32.toBitVec.inj
      apply BitVec.eq_of_getLsbD_eq
      intro j hj
      rw [Int32.toBitVec_and, BitVec.getLsbD_and, hn, BitVec.getLsbD_not]
      have e1 : (Int32.ofInt x).toBitVec.getLsbD j = (x % 4294967296).toNat.testBit j := by rw [BitVec.getLsbD, hx]
      have e2 : (Int32.ofInt (x - 1)).toBitVec.getLsbD j = ((x % 4294967296).toNat - 1).testBit j := by rw [BitVec.getLsbD, hx1, ha1]
      have e3 : (Int32.ofInt (2 ^ t - 1)).toBitVec.getLsbD j = (2 ^ t - 1 : Nat).testBit j := by
        rw [BitVec.getLsbD, zI_natE]
        congr 1
        have e : ((2 ^ t : Nat) : Int) = 2 ^ t := by rw [Int.natCast_pow]; rfl
        rw [← e]
        omega
      rw [e1, e2, e3, Nat.testBit_two_pow_sub_one]
      have hl := low_tb h ht j
      rw [hl.1, hl.2]
      rcases Nat.lt_trichotomy j t with g | g | g
      · simp [g, hj, show ¬ j = t by omega, show ¬ t < j by omega]
      · subst g; simp
      · simp [g, hj, show ¬ j = t by omega, show ¬ j < t by omega]
    rw [key]
    exact zI_toInt (by
      have e : ((2 ^ t : Nat) : Int) = 2 ^ t := by rw [Int.natCast_pow]; rfl
      unfold rI
      omega)
def s_JI_numberOfTrailingZeros : Spec := fun as σ Q => popI as fun x r0 => r0 = [] ∧ ∀ t : Nat, lowB (x % 4294967296).toNat t 32 → Q (some (.inl (t : Int))) σ
theorem e_JI_numberOfTrailingZeros (x : Int) (σ : St) (Q : Option AV → St → Prop) : s_JI_numberOfTrailingZeros [.inl x] σ Q = (∀ t : Nat, lowB (x % 4294967296).toNat t 32 → Q (some (.inl (t : Int))) σ) := by
  show ([] = [] ∧ _) = _
  simp only [true_and]
set_option maxHeartbeats 4000000 in
set_option maxRecDepth 20000 in
theorem S_JI_numberOfTrailingZeros {l : Launch} : Sat l y_JI_numberOfTrailingZeros b_JI_numberOfTrailingZeros 2 (some .int) 0 s_JI_numberOfTrailingZeros := by
  refine sat_of (Φ := P_JI) (κ := Q_JI) (Γ := []) (rt := 1) (by decide +kernel) (fun _ h => absurd h List.not_mem_nil) Q_JI_ok (fun g hg => absurd hg List.not_mem_nil) (by simp) o_JI_numberOfTrailingZeros ?_
  intro as σ Q hh0
  obtain ⟨x, rr0, rfl, hh1⟩ := popI_inv hh0
  obtain ⟨hrE, hQ⟩ := hh1
  subst hrE
  clear hh0
  refine ⟨Nat.le_of_ble_eq_true rfl, [], 14, ?_, cuts0⟩
  · rw [show entL 2 [.inl x] = [.inl x, .inr (.inr none)] from rfl]
    simp only [↓wpN_go, jmp_e, ↓wp_bipush, ↓wp_iadd, ↓wp_iand, ↓wp_icmp_le, ↓wp_iconst, ↓wp_if_gt, ↓wp_iinc, ↓wp_iload_n0, ↓wp_iload_n1, ↓wp_ireturn1, ↓wp_istore_n0, ↓wp_istore_n1, ↓wp_isub, ↓wp_iushr, ↓wp_ixor, ↓wp_ldc_w, ↓wp_sipush, wp_nil, ↓ldI_0, ↓ldI_s, ↓ldL_0, ↓ldL_s, ↓ldR_0, ↓ldR_s, sto1_0, sto1_1, sto1_s, sto2_0, sto2_1, sto2_s, isLong_i, isLong_l, isLong_r, ↓popI_c, ↓popL_c, ↓popR_c, ↓popN_0, ↓popN_s, catS_n, catS_c, psh_s, psh_n, fldV_n, fldV_s, ↓tgt_e, sw_n, ↓sw_c, ↓lk1_h, ↓lk1_m, ↓atC_h, ↓atC_m, ↓atC_n, ltO_n, ltO_s, updR_eq, updR_ne, gI_0i, gI_0l, gI_s, ltM_iff, List.cons.injEq, Sum.inl.injEq, Sum.inr.injEq, Option.some.injEq, exists_eq_left, exists_eq_left', exists_eq_right, exists_eq_right', exists_and_left, exists_and_right, exists_eq, exists_const, and_assoc, ↓j_JI_numberOfTrailingZeros_0, ↓j_JI_numberOfTrailingZeros_17, ↓j_JI_numberOfTrailingZeros_34, ↓j_JI_numberOfTrailingZeros_49, ↓j_JI_numberOfTrailingZeros_62, ↓j_JI_numberOfTrailingZeros_74, ↓c_JI_264, List.length_cons, List.length_nil, Nat.zero_add, Nat.reduceAdd, Int.reduceAdd, Int.reduceNeg, Int.reduceToNat, Int.reduceLE, Int.reduceLT, true_and, and_true, Nat.reduceLT, reduceIte, Nat.reduceEqDiff, ne_eq, not_false_eq_true, false_implies, true_implies, Bool.false_eq_true, reduceCtorEq, List.cons_append, List.nil_append, Nat.reduceSub, Nat.reduceLeDiff, Fin.isValue, Int.reduceNatCast', Int.zero_add, Int.add_zero, decide_true, decide_false, implies_true, forall_const, true_or, or_true, or_false, false_or, false_and, and_false, Int.toNat_natCast, oC_0, oC_1, oC_4, oC_11, oC_16, oC_18, oC_20, oC_23, oC_25, oC_26, oC_29, oC_31, oC_33, oC_35, oC_37, isT_29, isT_31, isT_33, isT_35, isL_16, isL_18, isL_26]
    obtain ⟨t, ht⟩ := low_ex (x % 4294967296).toNat 32
    have hy := low_y ht
    have hR := hQ t ht
    clear hQ
    generalize iandZ (ixorZ x (-1)) (x - 1) = y at *
    have htle := ht.1
    clear ht
    have hc0 : iandZ 0 32 = 0 := by decide +kernel
    have hc1 : iandZ (-1) 32 = 32 := by decide +kernel
    rcases (by omega : t = 0 ∨ t = 1 ∨ t = 2 ∨ t = 3 ∨ t = 4 ∨ t = 5 ∨ t = 6 ∨ t = 7 ∨ t = 8 ∨ t = 9 ∨ t = 10 ∨ t = 11 ∨ t = 12 ∨ t = 13 ∨ t = 14 ∨ t = 15 ∨ t = 16 ∨ t = 17 ∨ t = 18 ∨ t = 19 ∨ t = 20 ∨ t = 21 ∨ t = 22 ∨ t = 23 ∨ t = 24 ∨ t = 25 ∨ t = 26 ∨ t = 27 ∨ t = 28 ∨ t = 29 ∨ t = 30 ∨ t = 31 ∨ t = 32) with rfl | rfl | rfl | rfl | rfl | rfl | rfl | rfl | rfl | rfl | rfl | rfl | rfl | rfl | rfl | rfl | rfl | rfl | rfl | rfl | rfl | rfl | rfl | rfl | rfl | rfl | rfl | rfl | rfl | rfl | rfl | rfl | rfl
    all_goals simp at hy
    all_goals subst hy
    all_goals simp [rI, hc0, hc1]
    all_goals simpa using hR
theorem low_lo {a t : Nat} (h : lowB (a % 4294967296) t 32) (h0 : a % 4294967296 ≠ 0) : lowB a t 64 := by
  obtain ⟨h1, h2, h3⟩ := h
  have e32 : (2 : Nat) ^ 32 = 4294967296 := rfl
  have ht : t < 32 := by
    apply Classical.byContradiction
    intro hc
    have : t = 32 := by omega
    subst this
    rw [e32] at h2
    omega
  have hd : 2 ^ t * 2 ^ (32 - t) = 4294967296 := by rw [← Nat.pow_add, show t + (32 - t) = 32 by omega]
  have hd1 : 2 ^ (32 - t) = 2 * 2 ^ (31 - t) := by rw [show 32 - t = 31 - t + 1 by omega, Nat.pow_succ, Nat.mul_comm]
  have e1 := Nat.div_add_mod a 4294967296
  have e2 : a = 2 ^ t * (2 ^ (32 - t) * (a / 4294967296)) + a % 4294967296 := by rw [← Nat.mul_assoc, hd]; omega
  have hp : 0 < 2 ^ t := Nat.two_pow_pos t
  refine ⟨by omega, ?_, fun _ => ?_⟩
  · rw [e2, Nat.mul_add_mod]
    exact h2
  · have e3 : a / 2 ^ t = 2 ^ (32 - t) * (a / 4294967296) + a % 4294967296 / 2 ^ t := by
      conv => lhs; rw [e2]
      exact Nat.mul_add_div hp _ _
    rw [e3, hd1, Nat.mul_assoc]
    have := h3 ht
    omega
theorem low_hi {a t : Nat} (h : lowB (a / 4294967296) t 32) (h0 : a % 4294967296 = 0) : lowB a (32 + t) 64 := by
  obtain ⟨h1, h2, h3⟩ := h
  have e2 : a = 4294967296 * (a / 4294967296) := by omega
  have e3 : (2 : Nat) ^ (32 + t) = 4294967296 * 2 ^ t := by rw [Nat.pow_add]
  refine ⟨by omega, ?_, fun _ => ?_⟩
  · rw [e3, e2, Nat.mul_mod_mul_left, h2]
  · rw [e3, ← Nat.div_div_eq_div_mul]
    exact h3 (by omega)
def s_JL_numberOfTrailingZeros : Spec := fun as σ Q => popL as fun x r0 => r0 = [] ∧ ∀ t : Nat, lowB (x % 18446744073709551616).toNat t 64 → Q (some (.inl (t : Int))) σ
theorem e_JL_numberOfTrailingZeros (x : Int) (σ : St) (Q : Option AV → St → Prop) : s_JL_numberOfTrailingZeros [.inr (.inl x)] σ Q = (∀ t : Nat, lowB (x % 18446744073709551616).toNat t 64 → Q (some (.inl (t : Int))) σ) := by
  show ([] = [] ∧ _) = _
  simp only [true_and]
set_option maxHeartbeats 4000000 in
set_option maxRecDepth 20000 in
theorem S_JL_numberOfTrailingZeros {l : Launch} : Sat l y_JL_numberOfTrailingZeros b_JL_numberOfTrailingZeros 3 (some .int) 1 s_JL_numberOfTrailingZeros := by
  refine sat_of (Φ := P_JL) (κ := Q_JL) (Γ := [(311, 0, 1, s_JI_numberOfTrailingZeros)]) (rt := 1) (by decide +kernel) (fun _ h => absurd h List.not_mem_nil) Q_JL_ok (by
    refine List.forall_mem_cons.mpr ⟨?_, fun _ h => absurd h List.not_mem_nil⟩
    · exact m_JI_numberOfTrailingZeros S_JI_numberOfTrailingZeros (by decide) l_JL_311) (by simp) o_JL_numberOfTrailingZeros ?_
  intro as σ Q hh0
  obtain ⟨x, rr0, rfl, hh1⟩ := popL_inv hh0
  obtain ⟨hrE, hQ⟩ := hh1
  subst hrE
  clear hh0
  refine ⟨Nat.le_of_ble_eq_true rfl, [], 14, ?_, cuts0⟩
  · rw [show entL 3 [.inr (.inl x)] = [.inr (.inl x), .inr (.inr none), .inr (.inr none)] from rfl]
    simp only [↓wpN_go, jmp_e, ↓wp_bipush, ↓wp_goto, ↓wp_iadd, ↓wp_if_ne, ↓wp_iload_n2, ↓wp_invokestatic, ↓wp_ireturn1, ↓wp_istore_n2, ↓wp_l2i, ↓wp_lload_n0, ↓wp_lushr, wp_nil, ↓ldI_0, ↓ldI_s, ↓ldL_0, ↓ldL_s, ↓ldR_0, ↓ldR_s, sto1_0, sto1_1, sto1_s, sto2_0, sto2_1, sto2_s, isLong_i, isLong_l, isLong_r, ↓popI_c, ↓popL_c, ↓popR_c, ↓popN_0, ↓popN_s, catS_n, catS_c, psh_s, psh_n, fldV_n, fldV_s, ↓tgt_e, sw_n, ↓sw_c, ↓lk1_h, ↓lk1_m, ↓atC_h, ↓atC_m, ↓atC_n, ltO_n, ltO_s, updR_eq, updR_ne, gI_0i, gI_0l, gI_s, ltM_iff, List.cons.injEq, Sum.inl.injEq, Sum.inr.injEq, Option.some.injEq, exists_eq_left, exists_eq_left', exists_eq_right, exists_eq_right', exists_and_left, exists_and_right, exists_eq, exists_const, and_assoc, ↓j_JL_numberOfTrailingZeros_0, ↓j_JL_numberOfTrailingZeros_21, ↓j_JL_numberOfTrailingZeros_25, List.length_cons, List.length_nil, Nat.zero_add, Nat.reduceAdd, Int.reduceAdd, Int.reduceNeg, Int.reduceToNat, Int.reduceLE, Int.reduceLT, true_and, and_true, Nat.reduceLT, reduceIte, Nat.reduceEqDiff, ne_eq, not_false_eq_true, false_implies, true_implies, Bool.false_eq_true, reduceCtorEq, List.cons_append, List.nil_append, Nat.reduceSub, Nat.reduceLeDiff, Fin.isValue, Int.reduceNatCast', Int.zero_add, Int.add_zero, decide_true, decide_false, implies_true, forall_const, true_or, or_true, or_false, false_or, false_and, and_false, Int.toNat_natCast, oC_0, oC_1, oC_4, oC_11, oC_16, oC_18, oC_20, oC_23, oC_25, oC_26, oC_29, oC_31, oC_33, oC_35, oC_37, isT_29, isT_31, isT_33, isT_35, isL_16, isL_18, isL_26, ↓e_JI_numberOfTrailingZeros]
    have hw := wrapI_r x
    have e0 : wrapI x = 0 ↔ (x % 18446744073709551616).toNat % 4294967296 = 0 := by unfold wrapI; omega
    have e1 : (wrapI x % 4294967296).toNat = (x % 18446744073709551616).toNat % 4294967296 := by unfold wrapI; omega
    have e2 : (wrapI (x % 18446744073709551616 / 2 ^ 32) % 4294967296).toNat = (x % 18446744073709551616).toNat / 4294967296 := by
      have e4 : (2 : Int) ^ 32 = 4294967296 := rfl
      rw [e4]
      unfold wrapI
      omega
    rw [e1, e2]
    refine ⟨hw, fun h1 t ht => hQ t (low_lo ht (fun h => h1 (e0.mpr h))), fun h1 => ?_⟩
    (try simp only [rI_iff, rL_iff] at *)
    repeat' (first | with_reducible assumption | apply And.intro | intro _)
    all_goals first | omega | with_reducible assumption | exact True.intro | skip
    · rename_i t1 ht1
      have := hQ _ (low_hi ht1 (e0.mp h1))
      exact this
