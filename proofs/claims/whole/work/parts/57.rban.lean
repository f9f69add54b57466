/-! the reference: bans behind a bit -/
def lgF (ws : Nat → Int) : Nat → Int
  | 0 => 0
  | n + 1 => if lgF ws n < ws n then ws n else lgF ws n
theorem lg_mem {ws : Nat → Int} : ∀ n : Nat, max (lgF ws n - 1) 0 = memW ws 0 n
  | 0 => by rw [lgF, memW]; omega
  | n + 1 => by
    have := lg_mem (ws := ws) n
    rw [lgF, memW]
    split <;> omega
def tP (c : Int) : Int := c % 11 - 5
def lastP (c : Int) : Int := c / 11 % 64
def seenP (c : Int) : Int := c / 704 % 2
def zerP (c : Int) : Int := c / 1408
def cdF (z s l t : Int) : Int := ((2 * z + s) * 64 + l) * 11 + t + 5
theorem cd_dec {z s l t : Int} (hz : 0 ≤ z) (hs : 0 ≤ s ∧ s ≤ 1) (hl : 0 ≤ l ∧ l < 64) (ht : -5 ≤ t ∧ t ≤ 5) : tP (cdF z s l t) = t ∧ lastP (cdF z s l t) = l ∧ seenP (cdF z s l t) = s ∧ zerP (cdF z s l t) = z := by
  unfold tP lastP seenP zerP cdF
  omega
def bhZ (d k nw ln : Int) (wb ws : Nat → Int) (c bit : Int) : Int :=
  if (0 ≤ k ∧ ((bit = 0 ∧ zerP c = k) ∨ (bit = 1 ∧ seenP c = 1 ∧ zerP c < d))) ∨ (0 ≤ ln ∧ (tP c + (if bit = 1 then 1 else -1) < -ln ∨ ln < tP c + (if bit = 1 then 1 else -1))) ∨ endW wb ws (2 * lastP c + bit) nw.toNat = true then -1
  else cdF (if 0 ≤ k then (if bit = 0 then zerP c + 1 else 0) else zerP c) (if 0 ≤ k then (if bit = 1 then 1 else seenP c) else seenP c) (shortZ (2 * lastP c + bit) (memW ws 0 nw.toNat)) (if 0 ≤ ln then tP c + (if bit = 1 then 1 else -1) else tP c)
theorem p2z (n : Nat) : (1 : Int) ≤ 2 ^ n := by have := p2_pos n; omega
theorem log_lt {g : Int} {n : Nat} (h : g / 2 ^ n ≤ 1) : g < 2 ^ (n + 1) := by
  have hp := p2_pos n
  have h1 := Int.lt_mul_ediv_self_add (x := g) hp
  rw [Int.pow_succ]
  have h2 : 2 ^ n * (g / 2 ^ n) ≤ 2 ^ n * 1 := Int.mul_le_mul_of_nonneg_left h (by omega)
  omega
theorem log_ge {g : Int} {n : Nat} (h : 1 < g / 2 ^ n) : 2 ^ (n + 1) ≤ g := by
  have hp := p2_pos n
  have h1 := Int.mul_ediv_self_le (x := g) (k := 2 ^ n) (by omega)
  rw [Int.pow_succ]
  have h2 : 2 ^ n * 2 ≤ 2 ^ n * (g / 2 ^ n) := Int.mul_le_mul_of_nonneg_left (by omega) (by omega)
  omega
/-- the highest bit but one becomes the leading one -/
theorem short_cut {g : Int} {n mo : Nat} (h1 : 2 ^ n ≤ g) (h2 : g < 2 ^ (n + 1)) (hm : mo < n) : shortZ (2 ^ (n - 1) + g % 2 ^ (n - 1)) mo = shortZ g mo := by
  have hp := p2_pos (n - 1)
  have hpm := p2_pos mo
  have e1 : (2 : Int) ^ n = 2 ^ (n - 1) * 2 := by rw [← Int.pow_succ]; congr 1; omega
  have e2 : (2 : Int) ^ (n - 1) = 2 ^ mo * 2 ^ (n - 1 - mo) := by rw [← Int.pow_add]; congr 1; omega
  have h3 := Int.emod_nonneg g (b := 2 ^ (n - 1)) (by omega)
  have h4 := Int.emod_lt_of_pos g (b := 2 ^ (n - 1)) (by omega)
  have hle := p2_le (show mo ≤ n - 1 by omega)
  have hd : g % 2 ^ (n - 1) % 2 ^ mo = g % 2 ^ mo := Int.emod_emod_of_dvd g ⟨_, e2⟩
  have hd2 : (2 ^ (n - 1) + g % 2 ^ (n - 1)) % 2 ^ mo = g % 2 ^ mo := by
    rw [Int.add_emod, hd]
    have : (2 : Int) ^ (n - 1) % 2 ^ mo = 0 := by rw [e2, Int.mul_emod_right]
    rw [this, Int.zero_add, Int.emod_emod_of_dvd _ (Int.dvd_refl _)]
  unfold shortZ
  rw [Int.toNat_natCast, if_neg (show ¬ g < 2 * 2 ^ mo by omega)]
  by_cases e : mo = n - 1
  · subst e
    rw [if_pos (by omega)]
  · have hle2 := p2_le (show mo + 1 ≤ n - 1 by omega)
    rw [Int.pow_succ] at hle2
    rw [if_neg (by omega), hd2]
theorem or_low {x : Int} {k : Nat} (hk : k ≤ 20) (h : 0 ≤ x ∧ x < 2 ^ k) : iorZ x (2 ^ k) = 2 ^ k + x := by
  have hp := p2_pos k
  have hp2 := p2_le hk
  have e20 : (2 : Int) ^ 20 = 1048576 := by decide
  obtain ⟨m, rfl⟩ := Int.eq_ofNat_of_zero_le h.1
  have hm : m < 2 ^ k := by have := n2p k; omega
  have e1 : (Int32.ofInt (m : Int)).toBitVec.toNat = m := by rw [zI_natE, Int.emod_eq_of_lt (by omega) (by omega)]; omega
  have e2 : (Int32.ofInt ((2 : Int) ^ k)).toBitVec.toNat = 2 ^ k := by
    have := n2p k
    rw [zI_natE, Int.emod_eq_of_lt (by omega) (by omega)]; omega
  unfold iorZ
  have e3 : (Int32.ofInt (m : Int) ||| Int32.ofInt ((2 : Int) ^ k)) = Int32.ofInt (2 ^ k + m) := by
    apply zI_ext
    have e4 := Nat.two_pow_add_eq_or_of_lt hm 1
    rw [Nat.mul_one] at e4
    rw [Int32.toBitVec_or, BitVec.toNat_or, e1, e2, Nat.or_comm, ← e4, zI_nat, Int.emod_eq_of_lt (by omega) (by omega)]
    have := n2p k
    omega
  rw [e3]
  exact zI_toInt (by unfold rI; omega)
def s_M_codeOf : Spec := fun as σ Q => popI as fun z r0 => popI r0 fun s r1 => popI r1 fun l r2 => popI r2 fun t r3 => r3 = [] ∧ Q (some (.inl (cdF z s l t))) σ
theorem e_M_codeOf (z : Int) (s : Int) (l : Int) (t : Int) (σ : St) (Q : Option AV → St → Prop) : s_M_codeOf [.inl z, .inl s, .inl l, .inl t] σ Q = (Q (some (.inl (cdF z s l t))) σ) := by
  show ([] = [] ∧ _) = _
  simp only [true_and]
set_option maxHeartbeats 4000000 in
set_option maxRecDepth 20000 in
theorem S_M_codeOf {l : Launch} : Sat l y_M_codeOf b_M_codeOf 4 (some .int) 0 s_M_codeOf := by
  refine sat_of (Φ := P_M) (κ := Q_M) (Γ := []) (rt := 1) (by decide +kernel) P_M_ok Q_M_ok (fun g hg => absurd hg List.not_mem_nil) (by simp) o_M_codeOf ?_
  intro as σ Q hh0
  obtain ⟨z, rr0, rfl, hh1⟩ := popI_inv hh0
  obtain ⟨s, rr1, rfl, hh2⟩ := popI_inv hh1
  obtain ⟨l, rr2, rfl, hh3⟩ := popI_inv hh2
  obtain ⟨t, rr3, rfl, hh4⟩ := popI_inv hh3
  obtain ⟨hrE, hQ⟩ := hh4
  subst hrE
  clear hh0 hh1 hh2 hh3
  refine ⟨Nat.le_of_ble_eq_true rfl, [], 14, ?_, cuts0⟩
  · rw [show entL 4 [.inl z, .inl s, .inl l, .inl t] = [.inl z, .inl s, .inl l, .inl t] from rfl]
    simp only [↓wpN_go, jmp_e, ↓wp_bipush, ↓wp_iadd, ↓wp_iconst, ↓wp_iload_n0, ↓wp_iload_n1, ↓wp_iload_n2, ↓wp_iload_n3, ↓wp_imul, ↓wp_ireturn1, wp_nil, ↓ldI_0, ↓ldI_s, ↓ldL_0, ↓ldL_s, ↓ldR_0, ↓ldR_s, sto1_0, sto1_1, sto1_s, sto2_0, sto2_1, sto2_s, isLong_i, isLong_l, isLong_r, ↓popI_c, ↓popL_c, ↓popR_c, ↓popN_0, ↓popN_s, catS_n, catS_c, psh_s, psh_n, fldV_n, fldV_s, ↓tgt_e, sw_n, ↓sw_c, ↓lk1_h, ↓lk1_m, ↓atC_h, ↓atC_m, ↓atC_n, ltO_n, ltO_s, updR_eq, updR_ne, gI_0i, gI_0l, gI_s, ltM_iff, List.cons.injEq, Sum.inl.injEq, Sum.inr.injEq, Option.some.injEq, exists_eq_left, exists_eq_left', exists_eq_right, exists_eq_right', exists_and_left, exists_and_right, exists_eq, exists_const, and_assoc, ↓j_M_codeOf_0, List.length_cons, List.length_nil, Nat.zero_add, Nat.reduceAdd, Int.reduceAdd, Int.reduceNeg, Int.reduceToNat, Int.reduceLE, Int.reduceLT, true_and, and_true, Nat.reduceLT, reduceIte, Nat.reduceEqDiff, ne_eq, not_false_eq_true, false_implies, true_implies, Bool.false_eq_true, reduceCtorEq, List.cons_append, List.nil_append, Nat.reduceSub, Nat.reduceLeDiff, Fin.isValue, Int.reduceNatCast', Int.zero_add, Int.add_zero, decide_true, decide_false, implies_true, forall_const, true_or, or_true, or_false, false_or, false_and, and_false, Int.toNat_natCast, ↓oF_37_0, ↓oF_37_1, ↓oF_37_2, ↓oF_37_3, ↓aF_38, ↓oF_37_4, ↓aF_39, ↓oF_37_5, ↓oF_37_6, ↓aF_40, ↓oF_37_7, ↓oF_37_8, ↓aF_41, ↓oF_37_9, ↓aF_42, ↓oF_37_10, ↓aF_43, ↓oF_37_11, ↓aF_44, ↓oF_37_12, ↓aF_45, ↓oF_37_13, ↓aF_46, ↓oF_37_14, ↓aF_47, ↓oF_37_15, ↓aF_48, ↓oF_37_16, ↓aF_49, ↓oF_37_17, ↓oF_37_18, ↓aF_50, ↓oF_37_19, ↓aF_51, ↓oF_37_20, ↓aF_52, ↓oF_37_21, ↓aF_53, ↓oF_37_22, ↓aF_54, ↓oF_37_23, ↓aF_55, ↓oF_37_24, ↓aF_56, ↓oF_37_25, ↓aF_57, ↓oF_37_26, ↓oF_37_27, ↓oF_37_28, ↓aF_58, ↓oF_37_29, ↓aF_59, ↓oF_37_30, ↓aF_60, ↓oF_37_31, ↓aF_61, ↓oF_37_32, ↓oF_37_33, ↓oF_37_34, ↓oF_37_35, ↓aF_62, ↓oF_37_36, ↓oF_37_37, ↓aF_63, ↓oF_37_38, ↓oF_37_39, ↓aF_64, ↓oF_37_40, ↓aF_65, ↓oF_37_41, ↓aF_66, oC_0, oC_1, oC_4, oC_11, oC_16, oC_18, oC_20, oC_23, oC_25, oC_26, oC_29, oC_31, oC_33, oC_35, oC_37, isT_29, isT_31, isT_33, isT_35, isL_16, isL_18, isL_26]
    (try simp only [rI_iff, rL_iff] at *)
    repeat' (first | assumption | apply And.intro | intro _)
    all_goals first
      | omega
      | (refine st_ext fun k j => ?_; grind [updR_app, up1_app, cdF])
      | (refine Q_eq hQ ?_ ?_ <;> first | rfl | (refine st_ext fun k j => ?_; grind [updR_app, up1_app, cdF]) | grind [updR_app, up1_app, cdF])
      | grind [updR_app, up1_app, cdF]
def s_M_longest : Spec := fun as σ Q => popR as fun c0 r0 => r0 = [] ∧ c0 = 37 ∧ (WordsOK (σ 37 2) (σ 38) (σ 39)) ∧ Q (some (.inl (lgF (σ 39) (σ 37 2).toNat))) σ
theorem e_M_longest  (σ : St) (Q : Option AV → St → Prop) : s_M_longest [.inr (.inr (some 37))] σ Q = ((WordsOK (σ 37 2) (σ 38) (σ 39)) ∧ Q (some (.inl (lgF (σ 39) (σ 37 2).toNat))) σ) := by
  show ([] = [] ∧ _) = _
  simp only [true_and]
set_option maxHeartbeats 4000000 in
set_option maxRecDepth 20000 in
theorem S_M_longest {l : Launch} : Sat l y_M_longest b_M_longest 3 (some .int) 0 s_M_longest := by
  refine sat_of (Φ := P_M) (κ := Q_M) (Γ := []) (rt := 1) (by decide +kernel) P_M_ok Q_M_ok (fun g hg => absurd hg List.not_mem_nil) (by simp) o_M_longest ?_
  intro as σ Q hh0
  obtain ⟨c0, rr0, rfl, hh1⟩ := popR_inv hh0
  obtain ⟨hrE, rfl, hw, hQ⟩ := hh1
  subst hrE
  clear hh0
  refine ⟨Nat.le_of_ble_eq_true rfl, [(4, mkC (fun L st u => ∃ (i : Int), L = [.inr (.inr (some 37)), .inl ((lgF (σ 39) i.toNat)), .inl i] ∧ st = [] ∧ (0 ≤ i ∧ i ≤ σ 37 2) ∧ (0 ≤ lgF (σ 39) i.toNat ∧ lgF (σ 39) i.toNat ≤ 6) ∧ (u = σ)) (fun L st u => ((5 - gI L 2).toNat, 0, 0)))], 14, ?_, cuts1 ?_ (cuts0)⟩
  · rw [show entL 3 [.inr (.inr (some 37))] = [.inr (.inr (some 37)), .inr (.inr none), .inr (.inr none)] from rfl]
    simp only [↓wpN_go, jmp_e, ↓wp_aload_n0, ↓wp_getfield, ↓wp_goto, ↓wp_iaload, ↓wp_icmp_ge, ↓wp_icmp_le, ↓wp_iconst, ↓wp_iinc, ↓wp_iload_n1, ↓wp_iload_n2, ↓wp_ireturn1, ↓wp_istore_n1, ↓wp_istore_n2, wp_nil, ↓ldI_0, ↓ldI_s, ↓ldL_0, ↓ldL_s, ↓ldR_0, ↓ldR_s, sto1_0, sto1_1, sto1_s, sto2_0, sto2_1, sto2_s, isLong_i, isLong_l, isLong_r, ↓popI_c, ↓popL_c, ↓popR_c, ↓popN_0, ↓popN_s, catS_n, catS_c, psh_s, psh_n, fldV_n, fldV_s, ↓tgt_e, sw_n, ↓sw_c, ↓lk1_h, ↓lk1_m, ↓atC_h, ↓atC_m, ↓atC_n, ltO_n, ltO_s, updR_eq, updR_ne, gI_0i, gI_0l, gI_s, ltM_iff, List.cons.injEq, Sum.inl.injEq, Sum.inr.injEq, Option.some.injEq, exists_eq_left, exists_eq_left', exists_eq_right, exists_eq_right', exists_and_left, exists_and_right, exists_eq, exists_const, and_assoc, ↓j_M_longest_0, ↓j_M_longest_4, ↓j_M_longest_31, ↓j_M_longest_32, ↓j_M_longest_39, ↓f_M_117, ↓f_M_17, List.length_cons, List.length_nil, Nat.zero_add, Nat.reduceAdd, Int.reduceAdd, Int.reduceNeg, Int.reduceToNat, Int.reduceLE, Int.reduceLT, true_and, and_true, Nat.reduceLT, reduceIte, Nat.reduceEqDiff, ne_eq, not_false_eq_true, false_implies, true_implies, Bool.false_eq_true, reduceCtorEq, List.cons_append, List.nil_append, Nat.reduceSub, Nat.reduceLeDiff, Fin.isValue, Int.reduceNatCast', Int.zero_add, Int.add_zero, decide_true, decide_false, implies_true, forall_const, true_or, or_true, or_false, false_or, false_and, and_false, Int.toNat_natCast, ↓oF_37_0, ↓oF_37_1, ↓oF_37_2, ↓oF_37_3, ↓aF_38, ↓oF_37_4, ↓aF_39, ↓oF_37_5, ↓oF_37_6, ↓aF_40, ↓oF_37_7, ↓oF_37_8, ↓aF_41, ↓oF_37_9, ↓aF_42, ↓oF_37_10, ↓aF_43, ↓oF_37_11, ↓aF_44, ↓oF_37_12, ↓aF_45, ↓oF_37_13, ↓aF_46, ↓oF_37_14, ↓aF_47, ↓oF_37_15, ↓aF_48, ↓oF_37_16, ↓aF_49, ↓oF_37_17, ↓oF_37_18, ↓aF_50, ↓oF_37_19, ↓aF_51, ↓oF_37_20, ↓aF_52, ↓oF_37_21, ↓aF_53, ↓oF_37_22, ↓aF_54, ↓oF_37_23, ↓aF_55, ↓oF_37_24, ↓aF_56, ↓oF_37_25, ↓aF_57, ↓oF_37_26, ↓oF_37_27, ↓oF_37_28, ↓aF_58, ↓oF_37_29, ↓aF_59, ↓oF_37_30, ↓aF_60, ↓oF_37_31, ↓aF_61, ↓oF_37_32, ↓oF_37_33, ↓oF_37_34, ↓oF_37_35, ↓aF_62, ↓oF_37_36, ↓oF_37_37, ↓aF_63, ↓oF_37_38, ↓oF_37_39, ↓aF_64, ↓oF_37_40, ↓aF_65, ↓oF_37_41, ↓aF_66, oC_0, oC_1, oC_4, oC_11, oC_16, oC_18, oC_20, oC_23, oC_25, oC_26, oC_29, oC_31, oC_33, oC_35, oC_37, isT_29, isT_31, isT_33, isT_35, isL_16, isL_18, isL_26]
    have h1 := hw.1
    have h2 := hw.2.1
    (try simp only [rI_iff, rL_iff] at *)
    repeat' (with_reducible (first | assumption | apply And.intro | intro _))
    all_goals first | omega | with_reducible assumption | exact True.intro | skip
    all_goals first
      | omega
      | exact ⟨0, rfl, rfl, by omega, by omega, by show (0 : Int) ≤ 0; omega, by show (0 : Int) ≤ 6; omega⟩
      | trace_state
  · intro L st u hI
    obtain ⟨i, rfl, rfl, hi, hr, hu⟩ := hI
    simp only [↓wpN_go, jmp_e, ↓wp_aload_n0, ↓wp_getfield, ↓wp_goto, ↓wp_iaload, ↓wp_icmp_ge, ↓wp_icmp_le, ↓wp_iconst, ↓wp_iinc, ↓wp_iload_n1, ↓wp_iload_n2, ↓wp_ireturn1, ↓wp_istore_n1, ↓wp_istore_n2, wp_nil, ↓ldI_0, ↓ldI_s, ↓ldL_0, ↓ldL_s, ↓ldR_0, ↓ldR_s, sto1_0, sto1_1, sto1_s, sto2_0, sto2_1, sto2_s, isLong_i, isLong_l, isLong_r, ↓popI_c, ↓popL_c, ↓popR_c, ↓popN_0, ↓popN_s, catS_n, catS_c, psh_s, psh_n, fldV_n, fldV_s, ↓tgt_e, sw_n, ↓sw_c, ↓lk1_h, ↓lk1_m, ↓atC_h, ↓atC_m, ↓atC_n, ltO_n, ltO_s, updR_eq, updR_ne, gI_0i, gI_0l, gI_s, ltM_iff, List.cons.injEq, Sum.inl.injEq, Sum.inr.injEq, Option.some.injEq, exists_eq_left, exists_eq_left', exists_eq_right, exists_eq_right', exists_and_left, exists_and_right, exists_eq, exists_const, and_assoc, ↓j_M_longest_0, ↓j_M_longest_4, ↓j_M_longest_31, ↓j_M_longest_32, ↓j_M_longest_39, ↓f_M_117, ↓f_M_17, List.length_cons, List.length_nil, Nat.zero_add, Nat.reduceAdd, Int.reduceAdd, Int.reduceNeg, Int.reduceToNat, Int.reduceLE, Int.reduceLT, true_and, and_true, Nat.reduceLT, reduceIte, Nat.reduceEqDiff, ne_eq, not_false_eq_true, false_implies, true_implies, Bool.false_eq_true, reduceCtorEq, List.cons_append, List.nil_append, Nat.reduceSub, Nat.reduceLeDiff, Fin.isValue, Int.reduceNatCast', Int.zero_add, Int.add_zero, decide_true, decide_false, implies_true, forall_const, true_or, or_true, or_false, false_or, false_and, and_false, Int.toNat_natCast, ↓oF_37_0, ↓oF_37_1, ↓oF_37_2, ↓oF_37_3, ↓aF_38, ↓oF_37_4, ↓aF_39, ↓oF_37_5, ↓oF_37_6, ↓aF_40, ↓oF_37_7, ↓oF_37_8, ↓aF_41, ↓oF_37_9, ↓aF_42, ↓oF_37_10, ↓aF_43, ↓oF_37_11, ↓aF_44, ↓oF_37_12, ↓aF_45, ↓oF_37_13, ↓aF_46, ↓oF_37_14, ↓aF_47, ↓oF_37_15, ↓aF_48, ↓oF_37_16, ↓aF_49, ↓oF_37_17, ↓oF_37_18, ↓aF_50, ↓oF_37_19, ↓aF_51, ↓oF_37_20, ↓aF_52, ↓oF_37_21, ↓aF_53, ↓oF_37_22, ↓aF_54, ↓oF_37_23, ↓aF_55, ↓oF_37_24, ↓aF_56, ↓oF_37_25, ↓aF_57, ↓oF_37_26, ↓oF_37_27, ↓oF_37_28, ↓aF_58, ↓oF_37_29, ↓aF_59, ↓oF_37_30, ↓aF_60, ↓oF_37_31, ↓aF_61, ↓oF_37_32, ↓oF_37_33, ↓oF_37_34, ↓oF_37_35, ↓aF_62, ↓oF_37_36, ↓oF_37_37, ↓aF_63, ↓oF_37_38, ↓oF_37_39, ↓aF_64, ↓oF_37_40, ↓aF_65, ↓oF_37_41, ↓aF_66, oC_0, oC_1, oC_4, oC_11, oC_16, oC_18, oC_20, oC_23, oC_25, oC_26, oC_29, oC_31, oC_33, oC_35, oC_37, isT_29, isT_31, isT_33, isT_35, isL_16, isL_18, isL_26]
    subst hu
    have h1 := hw.1
    have h2 := hw.2.1
    have e1 : (i + 1).toNat = i.toNat + 1 := by omega
    have hws := hw.2.2 i.toNat
    have hs : lgF (u 39) (i.toNat + 1) = if lgF (u 39) i.toNat < u 39 i.toNat then u 39 i.toNat else lgF (u 39) i.toNat := rfl
    have q1 : u 37 2 ≤ i → Q (some (.inl (lgF (u 39) i.toNat))) u := fun h => by rw [show i.toNat = (u 37 2).toNat by omega]; exact hQ
    clear hQ
    (try simp only [rI_iff, rL_iff] at *)
    repeat' (with_reducible (first | assumption | apply And.intro | intro _))
    all_goals first | omega | with_reducible assumption | exact True.intro | skip
    all_goals first
      | omega
      | exact q1 (by omega)
      | exact ⟨i + 1, by rw [e1, hs, if_pos (by omega)], rfl, by omega, by omega, by rw [e1, hs, if_pos (by omega)]; omega, by rw [e1, hs, if_pos (by omega)]; omega, by first | rfl | trivial⟩
      | exact ⟨i + 1, by rw [e1, hs, if_neg (by omega)], rfl, by omega, by omega, by rw [e1, hs, if_neg (by omega)]; omega, by rw [e1, hs, if_neg (by omega)]; omega, by first | rfl | trivial⟩
      | trace_state
def s_M_endsBanned : Spec := fun as σ Q => popR as fun c0 r0 => popI r0 fun g r1 => r1 = [] ∧ c0 = 37 ∧ (WordsOK (σ 37 2) (σ 38) (σ 39)) ∧ (1 ≤ g ∧ g < 1024) ∧ Q (some (.inl (b2i (endW (σ 38) (σ 39) g (σ 37 2).toNat = true)))) σ
theorem e_M_endsBanned (g : Int) (σ : St) (Q : Option AV → St → Prop) : s_M_endsBanned [.inr (.inr (some 37)), .inl g] σ Q = ((WordsOK (σ 37 2) (σ 38) (σ 39)) ∧ (1 ≤ g ∧ g < 1024) ∧ Q (some (.inl (b2i (endW (σ 38) (σ 39) g (σ 37 2).toNat = true)))) σ) := by
  show ([] = [] ∧ _) = _
  simp only [true_and]
set_option maxHeartbeats 4000000 in
set_option maxRecDepth 20000 in
theorem S_M_endsBanned {l : Launch} : Sat l y_M_endsBanned b_M_endsBanned 4 (some .boolean) 0 s_M_endsBanned := by
  refine sat_of (Φ := P_M) (κ := Q_M) (Γ := []) (rt := 3) (by decide +kernel) P_M_ok Q_M_ok (fun g hg => absurd hg List.not_mem_nil) (by simp) o_M_endsBanned ?_
  intro as σ Q hh0
  obtain ⟨c0, rr0, rfl, hh1⟩ := popR_inv hh0
  obtain ⟨g, rr1, rfl, hh2⟩ := popI_inv hh1
  obtain ⟨hrE, rfl, hw, hg, hQ⟩ := hh2
  subst hrE
  clear hh0 hh1
  refine ⟨Nat.le_of_ble_eq_true rfl, [(2, mkC (fun L st u => ∃ (n : Int) (v3 : AV), L = [.inr (.inr (some 37)), .inl g, .inl n, v3] ∧ st = [] ∧ (0 ≤ n ∧ 2 ^ n.toNat ≤ g) ∧ (u = σ)) (fun L st u => (100, (50 - gI L 2).toNat, 0))),
    (17, mkC (fun L st u => ∃ (n i : Int), L = [.inr (.inr (some 37)), .inl g, .inl n, .inl i] ∧ st = [] ∧ (0 ≤ n ∧ 2 ^ n.toNat ≤ g ∧ g < 2 ^ (n.toNat + 1)) ∧ (0 ≤ i ∧ i ≤ σ 37 2) ∧ (endW (σ 38) (σ 39) g i.toNat = false) ∧ (u = σ)) (fun L st u => (10, (5 - gI L 3).toNat, 0)))], 14, ?_, cuts1 ?_ (cuts1 ?_ (cuts0))⟩
  · rw [show entL 4 [.inr (.inr (some 37)), .inl g] = [.inr (.inr (some 37)), .inl g, .inr (.inr none), .inr (.inr none)] from rfl]
    simp only [↓wpN_go, jmp_e, ↓wp_aload_n0, ↓wp_getfield, ↓wp_goto, ↓wp_iaload, ↓wp_iand, ↓wp_icmp_ge, ↓wp_icmp_gt, ↓wp_icmp_le, ↓wp_icmp_ne, ↓wp_iconst, ↓wp_iinc, ↓wp_iload_n1, ↓wp_iload_n2, ↓wp_iload_n3, ↓wp_ireturn3, ↓wp_ishl, ↓wp_ishr, ↓wp_istore_n2, ↓wp_istore_n3, ↓wp_isub, wp_nil, ↓ldI_0, ↓ldI_s, ↓ldL_0, ↓ldL_s, ↓ldR_0, ↓ldR_s, sto1_0, sto1_1, sto1_s, sto2_0, sto2_1, sto2_s, isLong_i, isLong_l, isLong_r, ↓popI_c, ↓popL_c, ↓popR_c, ↓popN_0, ↓popN_s, catS_n, catS_c, psh_s, psh_n, fldV_n, fldV_s, ↓tgt_e, sw_n, ↓sw_c, ↓lk1_h, ↓lk1_m, ↓atC_h, ↓atC_m, ↓atC_n, ltO_n, ltO_s, updR_eq, updR_ne, gI_0i, gI_0l, gI_s, ltM_iff, List.cons.injEq, Sum.inl.injEq, Sum.inr.injEq, Option.some.injEq, exists_eq_left, exists_eq_left', exists_eq_right, exists_eq_right', exists_and_left, exists_and_right, exists_eq, exists_const, and_assoc, ↓j_M_endsBanned_0, ↓j_M_endsBanned_2, ↓j_M_endsBanned_15, ↓j_M_endsBanned_17, ↓j_M_endsBanned_58, ↓j_M_endsBanned_64, ↓f_M_117, ↓f_M_13, ↓f_M_17, List.length_cons, List.length_nil, Nat.zero_add, Nat.reduceAdd, Int.reduceAdd, Int.reduceNeg, Int.reduceToNat, Int.reduceLE, Int.reduceLT, true_and, and_true, Nat.reduceLT, reduceIte, Nat.reduceEqDiff, ne_eq, not_false_eq_true, false_implies, true_implies, Bool.false_eq_true, reduceCtorEq, List.cons_append, List.nil_append, Nat.reduceSub, Nat.reduceLeDiff, Fin.isValue, Int.reduceNatCast', Int.zero_add, Int.add_zero, decide_true, decide_false, implies_true, forall_const, true_or, or_true, or_false, false_or, false_and, and_false, Int.toNat_natCast, ↓oF_37_0, ↓oF_37_1, ↓oF_37_2, ↓oF_37_3, ↓aF_38, ↓oF_37_4, ↓aF_39, ↓oF_37_5, ↓oF_37_6, ↓aF_40, ↓oF_37_7, ↓oF_37_8, ↓aF_41, ↓oF_37_9, ↓aF_42, ↓oF_37_10, ↓aF_43, ↓oF_37_11, ↓aF_44, ↓oF_37_12, ↓aF_45, ↓oF_37_13, ↓aF_46, ↓oF_37_14, ↓aF_47, ↓oF_37_15, ↓aF_48, ↓oF_37_16, ↓aF_49, ↓oF_37_17, ↓oF_37_18, ↓aF_50, ↓oF_37_19, ↓aF_51, ↓oF_37_20, ↓aF_52, ↓oF_37_21, ↓aF_53, ↓oF_37_22, ↓aF_54, ↓oF_37_23, ↓aF_55, ↓oF_37_24, ↓aF_56, ↓oF_37_25, ↓aF_57, ↓oF_37_26, ↓oF_37_27, ↓oF_37_28, ↓aF_58, ↓oF_37_29, ↓aF_59, ↓oF_37_30, ↓aF_60, ↓oF_37_31, ↓aF_61, ↓oF_37_32, ↓oF_37_33, ↓oF_37_34, ↓oF_37_35, ↓aF_62, ↓oF_37_36, ↓oF_37_37, ↓aF_63, ↓oF_37_38, ↓oF_37_39, ↓aF_64, ↓oF_37_40, ↓aF_65, ↓oF_37_41, ↓aF_66, oC_0, oC_1, oC_4, oC_11, oC_16, oC_18, oC_20, oC_23, oC_25, oC_26, oC_29, oC_31, oC_33, oC_35, oC_37, isT_29, isT_31, isT_33, isT_35, isL_16, isL_18, isL_26]
    have h0 : (2 : Int) ^ (0 : Int).toNat = 1 := rfl
    (try simp only [rI_iff, rL_iff] at *)
    repeat' (with_reducible (first | assumption | apply And.intro | intro _))
    all_goals first | omega | with_reducible assumption | exact True.intro | skip
    all_goals first
      | omega
      | (show (2 : Int) ^ 0 ≤ g; rw [Int.pow_zero]; omega)
      | trace_state
  · intro L st u hI
    obtain ⟨n, v3, rfl, rfl, hn, hu⟩ := hI
    simp only [↓wpN_go, jmp_e, ↓wp_aload_n0, ↓wp_getfield, ↓wp_goto, ↓wp_iaload, ↓wp_iand, ↓wp_icmp_ge, ↓wp_icmp_gt, ↓wp_icmp_le, ↓wp_icmp_ne, ↓wp_iconst, ↓wp_iinc, ↓wp_iload_n1, ↓wp_iload_n2, ↓wp_iload_n3, ↓wp_ireturn3, ↓wp_ishl, ↓wp_ishr, ↓wp_istore_n2, ↓wp_istore_n3, ↓wp_isub, wp_nil, ↓ldI_0, ↓ldI_s, ↓ldL_0, ↓ldL_s, ↓ldR_0, ↓ldR_s, sto1_0, sto1_1, sto1_s, sto2_0, sto2_1, sto2_s, isLong_i, isLong_l, isLong_r, ↓popI_c, ↓popL_c, ↓popR_c, ↓popN_0, ↓popN_s, catS_n, catS_c, psh_s, psh_n, fldV_n, fldV_s, ↓tgt_e, sw_n, ↓sw_c, ↓lk1_h, ↓lk1_m, ↓atC_h, ↓atC_m, ↓atC_n, ltO_n, ltO_s, updR_eq, updR_ne, gI_0i, gI_0l, gI_s, ltM_iff, List.cons.injEq, Sum.inl.injEq, Sum.inr.injEq, Option.some.injEq, exists_eq_left, exists_eq_left', exists_eq_right, exists_eq_right', exists_and_left, exists_and_right, exists_eq, exists_const, and_assoc, ↓j_M_endsBanned_0, ↓j_M_endsBanned_2, ↓j_M_endsBanned_15, ↓j_M_endsBanned_17, ↓j_M_endsBanned_58, ↓j_M_endsBanned_64, ↓f_M_117, ↓f_M_13, ↓f_M_17, List.length_cons, List.length_nil, Nat.zero_add, Nat.reduceAdd, Int.reduceAdd, Int.reduceNeg, Int.reduceToNat, Int.reduceLE, Int.reduceLT, true_and, and_true, Nat.reduceLT, reduceIte, Nat.reduceEqDiff, ne_eq, not_false_eq_true, false_implies, true_implies, Bool.false_eq_true, reduceCtorEq, List.cons_append, List.nil_append, Nat.reduceSub, Nat.reduceLeDiff, Fin.isValue, Int.reduceNatCast', Int.zero_add, Int.add_zero, decide_true, decide_false, implies_true, forall_const, true_or, or_true, or_false, false_or, false_and, and_false, Int.toNat_natCast, ↓oF_37_0, ↓oF_37_1, ↓oF_37_2, ↓oF_37_3, ↓aF_38, ↓oF_37_4, ↓aF_39, ↓oF_37_5, ↓oF_37_6, ↓aF_40, ↓oF_37_7, ↓oF_37_8, ↓aF_41, ↓oF_37_9, ↓aF_42, ↓oF_37_10, ↓aF_43, ↓oF_37_11, ↓aF_44, ↓oF_37_12, ↓aF_45, ↓oF_37_13, ↓aF_46, ↓oF_37_14, ↓aF_47, ↓oF_37_15, ↓aF_48, ↓oF_37_16, ↓aF_49, ↓oF_37_17, ↓oF_37_18, ↓aF_50, ↓oF_37_19, ↓aF_51, ↓oF_37_20, ↓aF_52, ↓oF_37_21, ↓aF_53, ↓oF_37_22, ↓aF_54, ↓oF_37_23, ↓aF_55, ↓oF_37_24, ↓aF_56, ↓oF_37_25, ↓aF_57, ↓oF_37_26, ↓oF_37_27, ↓oF_37_28, ↓aF_58, ↓oF_37_29, ↓aF_59, ↓oF_37_30, ↓aF_60, ↓oF_37_31, ↓aF_61, ↓oF_37_32, ↓oF_37_33, ↓oF_37_34, ↓oF_37_35, ↓aF_62, ↓oF_37_36, ↓oF_37_37, ↓aF_63, ↓oF_37_38, ↓oF_37_39, ↓aF_64, ↓oF_37_40, ↓aF_65, ↓oF_37_41, ↓aF_66, oC_0, oC_1, oC_4, oC_11, oC_16, oC_18, oC_20, oC_23, oC_25, oC_26, oC_29, oC_31, oC_33, oC_35, oC_37, isT_29, isT_31, isT_33, isT_35, isL_16, isL_18, isL_26]
    subst hu
    have h1 := hw.1
    have h2 := hw.2.1
    have hn9 : n ≤ 9 := by
      apply Classical.byContradiction
      intro hc
      have h3 := p2_le (show 10 ≤ n.toNat by omega)
      have h4 : (2 : Int) ^ 10 = 1024 := by decide
      omega
    have hlt := fun h => log_lt (g := g) (n := n.toNat) h
    have hge := fun h => log_ge (g := g) (n := n.toNat) h
    have hp := p2_pos n.toNat
    have hdv : 0 ≤ g / 2 ^ n.toNat ∧ g / 2 ^ n.toNat ≤ g := ⟨Int.ediv_nonneg (by omega) (by omega), Int.ediv_le_self _ (by omega)⟩
    have e1 : (n + 1).toNat = n.toNat + 1 := by omega
    have hx0 : endW (u 38) (u 39) g 0 = false := rfl
    rw [e1]
    clear hQ
    (try simp only [rI_iff, rL_iff] at *)
    repeat' (with_reducible (first | assumption | apply And.intro | intro _))
    all_goals first | omega | with_reducible assumption | exact True.intro | skip
    all_goals first
      | omega
      | exact hge (by omega)
      | exact ⟨n, 0, rfl, rfl, by omega, by omega, hlt (by omega), by omega, by omega, hx0, by first | rfl | trivial⟩
      | exact hlt (by omega)
      | exact hx0
      | trace_state
  · intro L st u hI
    obtain ⟨n, i, rfl, rfl, hn, hi, hx, hu⟩ := hI
    simp only [↓wpN_go, jmp_e, ↓wp_aload_n0, ↓wp_getfield, ↓wp_goto, ↓wp_iaload, ↓wp_iand, ↓wp_icmp_ge, ↓wp_icmp_gt, ↓wp_icmp_le, ↓wp_icmp_ne, ↓wp_iconst, ↓wp_iinc, ↓wp_iload_n1, ↓wp_iload_n2, ↓wp_iload_n3, ↓wp_ireturn3, ↓wp_ishl, ↓wp_ishr, ↓wp_istore_n2, ↓wp_istore_n3, ↓wp_isub, wp_nil, ↓ldI_0, ↓ldI_s, ↓ldL_0, ↓ldL_s, ↓ldR_0, ↓ldR_s, sto1_0, sto1_1, sto1_s, sto2_0, sto2_1, sto2_s, isLong_i, isLong_l, isLong_r, ↓popI_c, ↓popL_c, ↓popR_c, ↓popN_0, ↓popN_s, catS_n, catS_c, psh_s, psh_n, fldV_n, fldV_s, ↓tgt_e, sw_n, ↓sw_c, ↓lk1_h, ↓lk1_m, ↓atC_h, ↓atC_m, ↓atC_n, ltO_n, ltO_s, updR_eq, updR_ne, gI_0i, gI_0l, gI_s, ltM_iff, List.cons.injEq, Sum.inl.injEq, Sum.inr.injEq, Option.some.injEq, exists_eq_left, exists_eq_left', exists_eq_right, exists_eq_right', exists_and_left, exists_and_right, exists_eq, exists_const, and_assoc, ↓j_M_endsBanned_0, ↓j_M_endsBanned_2, ↓j_M_endsBanned_15, ↓j_M_endsBanned_17, ↓j_M_endsBanned_58, ↓j_M_endsBanned_64, ↓f_M_117, ↓f_M_13, ↓f_M_17, List.length_cons, List.length_nil, Nat.zero_add, Nat.reduceAdd, Int.reduceAdd, Int.reduceNeg, Int.reduceToNat, Int.reduceLE, Int.reduceLT, true_and, and_true, Nat.reduceLT, reduceIte, Nat.reduceEqDiff, ne_eq, not_false_eq_true, false_implies, true_implies, Bool.false_eq_true, reduceCtorEq, List.cons_append, List.nil_append, Nat.reduceSub, Nat.reduceLeDiff, Fin.isValue, Int.reduceNatCast', Int.zero_add, Int.add_zero, decide_true, decide_false, implies_true, forall_const, true_or, or_true, or_false, false_or, false_and, and_false, Int.toNat_natCast, ↓oF_37_0, ↓oF_37_1, ↓oF_37_2, ↓oF_37_3, ↓aF_38, ↓oF_37_4, ↓aF_39, ↓oF_37_5, ↓oF_37_6, ↓aF_40, ↓oF_37_7, ↓oF_37_8, ↓aF_41, ↓oF_37_9, ↓aF_42, ↓oF_37_10, ↓aF_43, ↓oF_37_11, ↓aF_44, ↓oF_37_12, ↓aF_45, ↓oF_37_13, ↓aF_46, ↓oF_37_14, ↓aF_47, ↓oF_37_15, ↓aF_48, ↓oF_37_16, ↓aF_49, ↓oF_37_17, ↓oF_37_18, ↓aF_50, ↓oF_37_19, ↓aF_51, ↓oF_37_20, ↓aF_52, ↓oF_37_21, ↓aF_53, ↓oF_37_22, ↓aF_54, ↓oF_37_23, ↓aF_55, ↓oF_37_24, ↓aF_56, ↓oF_37_25, ↓aF_57, ↓oF_37_26, ↓oF_37_27, ↓oF_37_28, ↓aF_58, ↓oF_37_29, ↓aF_59, ↓oF_37_30, ↓aF_60, ↓oF_37_31, ↓aF_61, ↓oF_37_32, ↓oF_37_33, ↓oF_37_34, ↓oF_37_35, ↓aF_62, ↓oF_37_36, ↓oF_37_37, ↓aF_63, ↓oF_37_38, ↓oF_37_39, ↓aF_64, ↓oF_37_40, ↓aF_65, ↓oF_37_41, ↓aF_66, oC_0, oC_1, oC_4, oC_11, oC_16, oC_18, oC_20, oC_23, oC_25, oC_26, oC_29, oC_31, oC_33, oC_35, oC_37, isT_29, isT_31, isT_33, isT_35, isL_16, isL_18, isL_26]
    subst hu
    have h1 := hw.1
    have h2 := hw.2.1
    have e1 : (i + 1).toNat = i.toNat + 1 := by omega
    have hes : endW (u 38) (u 39) g (i.toNat + 1) = (decide (2 ^ (u 39 i.toNat).toNat ≤ g) && decide (g % 2 ^ (u 39 i.toNat).toNat = u 38 i.toNat)) := by rw [endW, hx]; rfl
    have hws := hw.2.2 i.toNat
    have hn9 : n ≤ 9 := by
      apply Classical.byContradiction
      intro hc
      have h3 := p2_le (show 10 ≤ n.toNat by omega)
      have h4 : (2 : Int) ^ 10 = 1024 := by decide
      omega
    have hcmp : i < u 37 2 → (u 39 i.toNat ≤ n ↔ 2 ^ (u 39 i.toNat).toNat ≤ g) := fun h => by
      have h3 := hws (by omega)
      constructor
      · intro h4
        have := p2_le (show (u 39 i.toNat).toNat ≤ n.toNat by omega)
        omega
      · intro h4
        apply Classical.byContradiction
        intro hc
        have := p2_le (show n.toNat + 1 ≤ (u 39 i.toNat).toNat by omega)
        omega
    have hmk : i < u 37 2 → iandZ g (1 * 2 ^ (u 39 i.toNat).toNat - 1) = g % 2 ^ (u 39 i.toNat).toNat := fun h => by
      rw [Int.one_mul]
      exact iandZ_mask g _ (by have := hws (by omega); omega)
    have q1 : i < u 37 2 → u 39 i.toNat ≤ n → g % 2 ^ (u 39 i.toNat).toNat = u 38 i.toNat → Q (some (.inl 1)) u := fun h h3 h4 => by
      have h5 : endW (u 38) (u 39) g (i.toNat + 1) = true := by
        rw [hes, decide_eq_true ((hcmp h).mp h3), decide_eq_true h4]
        rfl
      rw [b2i_t (endW_i h5 (u 37 2).toNat (by omega))] at hQ
      exact hQ
    have q2 : i < u 37 2 → ¬ (u 39 i.toNat ≤ n ∧ g % 2 ^ (u 39 i.toNat).toNat = u 38 i.toNat) → endW (u 38) (u 39) g (i.toNat + 1) = false := fun h h3 => by
      rw [hes]
      by_cases h4 : u 39 i.toNat ≤ n
      · rw [decide_eq_false (fun q => h3 ⟨h4, q⟩), Bool.and_false]
      · rw [decide_eq_false (fun q => h4 ((hcmp h).mpr q)), Bool.false_and]
    have q3 : u 37 2 ≤ i → Q (some (.inl 0)) u := fun h => by
      rw [show (u 37 2).toNat = i.toNat by omega, b2i_f (by rw [hx]; simp)] at hQ
      exact hQ
    clear hQ
    by_cases hc : i < u 37 2
    · have hwi := hws (by omega)
      have hpw := pow8 (m := u 39 i.toNat) ⟨by omega, by omega⟩
      have hmr := Int.emod_nonneg g (b := 2 ^ (u 39 i.toNat).toNat) (by omega)
      have hmr2 := Int.emod_lt_of_pos g (b := 2 ^ (u 39 i.toNat).toNat) (by omega)
      rw [hmk hc]
      rw [e1]
      (try simp only [rI_iff, rL_iff] at *)
      repeat' (with_reducible (first | assumption | apply And.intro | intro _))
      all_goals first | omega | with_reducible assumption | exact True.intro | skip
      all_goals first
        | omega
        | exact q1 hc (by assumption) (by assumption)
        | exact q2 hc (by omega)
        | trace_state
    · (try simp only [rI_iff, rL_iff] at *)
      repeat' (with_reducible (first | assumption | apply And.intro | intro _))
      all_goals first | omega | with_reducible assumption | exact True.intro | skip
      all_goals first
        | omega
        | exact q3 (by omega)
        | trace_state
