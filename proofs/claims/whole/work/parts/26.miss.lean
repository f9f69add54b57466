/-! sets of STATES in two longs; words that never come -/
def tb (z : Int) (i : Nat) : Bool := (z % 18446744073709551616).toNat.testBit i
theorem tb_bv (z : Int) (i : Nat) : tb z i = (Int64.ofInt z).toBitVec.getLsbD i := by rw [BitVec.getLsbD, zL_natE]; rfl
theorem tb_0 (i : Nat) : tb 0 i = false := by unfold tb; simp
theorem tb_lor (x y : Int) (i : Nat) : tb (lorZ x y) i = (tb x i || tb y i) := by
  rw [tb_bv, tb_bv, tb_bv, ← zL_or, Int64.toBitVec_or, BitVec.getLsbD_or]
theorem tb_land (x y : Int) (i : Nat) : tb (landZ x y) i = (tb x i && tb y i) := by
  rw [tb_bv, tb_bv, tb_bv, ← zL_and, Int64.toBitVec_and, BitVec.getLsbD_and]
theorem tb_shl {k : Nat} (hk : k < 64) (i : Nat) : tb (1 * 2 ^ k) i = decide (i = k) := by
  have hp : (2 : Nat) ^ k ≤ 2 ^ 63 := Nat.pow_le_pow_right (by omega) (by omega)
  have e : ((2 ^ k : Nat) : Int) = 2 ^ k := by rw [Int.natCast_pow]; rfl
  have e2 : ((1 * 2 ^ k : Int) % 18446744073709551616).toNat = 2 ^ k := by
    rw [Int.one_mul, ← e]
    have e3 : (2 : Nat) ^ 63 = 9223372036854775808 := rfl
    rw [e3] at hp
    generalize (2 : Nat) ^ k = w at *
    omega
  unfold tb
  rw [e2, Nat.testBit_two_pow]
  exact decide_eq_decide.mpr ⟨fun h => h.symm, fun h => h.symm⟩
theorem tb_ge (z : Int) {i : Nat} (h : 64 ≤ i) : tb z i = false := by
  rw [tb_bv]
  exact BitVec.getLsbD_of_ge _ _ h
theorem tb_zero {z : Int} (hz : rL z) : z = 0 ↔ ∀ i, tb z i = false := by
  refine ⟨fun h i => by rw [h, tb_0], fun h => ?_⟩
  have : (z % 18446744073709551616).toNat = 0 := Nat.eq_of_testBit_eq (fun i => by rw [Nat.zero_testBit]; exact h i)
  unfold rL at hz
  omega
theorem tb_low {z : Int} {t : Nat} (hz : rL z) (h0 : z ≠ 0) (h : lowB (z % 18446744073709551616).toNat t 64) : t < 64 ∧ tb z t = true ∧ (∀ i, i < t → tb z i = false) ∧ ∀ i, tb (landZ z (z - 1)) i = (tb z i && decide (i ≠ t)) := by
  have hn : z % 18446744073709551616 ≠ 0 := by unfold rL at hz; omega
  have ht : t < 64 := by
    apply Classical.byContradiction
    intro hc
    have h1 := h.1
    have : t = 64 := by omega
    subst this
    have h2 := h.2.1
    have e : (2 : Nat) ^ 64 = 18446744073709551616 := rfl
    rw [e] at h2
    omega
  have hl := low_tb h ht
  have e1 : ((z - 1) % 18446744073709551616).toNat = (z % 18446744073709551616).toNat - 1 := by omega
  refine ⟨ht, ?_, fun i hi => ?_, fun i => ?_⟩
  · unfold tb
    rw [(hl t).1]
    simp
  · unfold tb
    rw [(hl i).1]
    simp
    omega
  · rw [tb_land]
    unfold tb
    rw [e1, (hl i).2, (hl i).1]
    rcases Nat.lt_trichotomy i t with g | g | g
    · simp [show ¬ i = t by omega, show ¬ t < i by omega]
    · subst g; simp
    · simp [show ¬ i = t by omega, show ¬ i < t by omega, g]
def hasE (lo hi s : Int) : Prop := 0 ≤ s ∧ (if s < 64 then tb lo s.toNat else tb hi (s - 64).toNat) = true
theorem lorZ_r (x y : Int) : rL (lorZ x y) := ⟨by unfold lorZ; have := Int64.le_toInt (Int64.ofInt x ||| Int64.ofInt y); omega, by unfold lorZ; have := Int64.toInt_lt (Int64.ofInt x ||| Int64.ofInt y); omega⟩
theorem landZ_r (x y : Int) : rL (landZ x y) := ⟨by unfold landZ; have := Int64.le_toInt (Int64.ofInt x &&& Int64.ofInt y); omega, by unfold landZ; have := Int64.toInt_lt (Int64.ofInt x &&& Int64.ofInt y); omega⟩
theorem hasE_lo {lo hi s : Int} (hs : 0 ≤ s ∧ s < 64) (t : Int) : hasE (lorZ lo (1 * 2 ^ s.toNat)) hi t ↔ hasE lo hi t ∨ t = s := by
  unfold hasE
  by_cases h : t < 64
  · rw [if_pos h, if_pos h, tb_lor, tb_shl (by omega)]
    rw [Bool.or_eq_true, decide_eq_true_eq]
    constructor
    · rintro ⟨g1, g2 | g2⟩
      · exact Or.inl ⟨g1, g2⟩
      · exact Or.inr (by omega)
    · rintro (⟨g1, g2⟩ | g2)
      · exact ⟨g1, Or.inl g2⟩
      · exact ⟨by omega, Or.inr (by rw [g2])⟩
  · rw [if_neg h, if_neg h]
    constructor
    · exact Or.inl
    · intro g
      rcases g with g | g
      · exact g
      · omega
theorem hasE_hi {lo hi s : Int} (hs : 64 ≤ s ∧ s < 128) (t : Int) : hasE lo (lorZ hi (1 * 2 ^ (s - 64).toNat)) t ↔ hasE lo hi t ∨ t = s := by
  unfold hasE
  by_cases h : t < 64
  · rw [if_pos h, if_pos h]
    constructor
    · exact Or.inl
    · intro g
      rcases g with g | g
      · exact g
      · omega
  · rw [if_neg h, if_neg h, tb_lor, tb_shl (by omega)]
    rw [Bool.or_eq_true, decide_eq_true_eq]
    constructor
    · rintro ⟨g1, g2 | g2⟩
      · exact Or.inl ⟨g1, g2⟩
      · exact Or.inr (by omega)
    · rintro (⟨g1, g2⟩ | g2)
      · exact ⟨g1, Or.inl g2⟩
      · exact ⟨by omega, Or.inr (by rw [g2])⟩
theorem hasE_none {lo hi : Int} (hl : rL lo) (hh : rL hi) : (lo = 0 ∧ hi = 0) ↔ ∀ s, ¬ hasE lo hi s := by
  constructor
  · intro h s hs
    rw [h.1, h.2] at hs
    unfold hasE at hs
    split at hs
    · rw [tb_0] at hs; exact absurd hs.2 (by simp)
    · rw [tb_0] at hs; exact absurd hs.2 (by simp)
  · intro h
    rw [tb_zero hl, tb_zero hh]
    refine ⟨fun i => ?_, fun i => ?_⟩
    · by_cases hi1 : i < 64
      · have := h i
        unfold hasE at this
        rw [if_pos (by omega), Int.toNat_natCast] at this
        simpa using this
      · exact tb_ge _ (by omega)
    · have := h (64 + i)
      unfold hasE at this
      rw [if_neg (by omega), show ((64 : Int) + i - 64).toNat = i by omega] at this
      have h2 : ¬ tb hi i = true := fun g => this ⟨by omega, g⟩
      simpa using h2
def addE (σ : St) (x s : Int) : St := if s = -1 then σ else if s < 64 then updR σ 21 (up1 (σ 21) x.toNat (lorZ (σ 21 x.toNat) (1 * 2 ^ s.toNat))) else updR σ 22 (up1 (σ 22) x.toNat (lorZ (σ 22 x.toNat) (1 * 2 ^ (s - 64).toNat)))
def PutE (σ u : St) (x : Int) (P : Int → Prop) : Prop := ∃ g h, u = updR (updR σ 21 g) 22 h ∧ (∀ j, j ≠ x.toNat → g j = σ 21 j ∧ h j = σ 22 j) ∧ rL (g x.toNat) ∧ rL (h x.toNat) ∧ ∀ s, hasE (g x.toNat) (h x.toNat) s ↔ P s
theorem putE_0 {σ : St} {x : Int} (h1 : rL (σ 21 x.toNat)) (h2 : rL (σ 22 x.toNat)) : PutE σ σ x (hasE (σ 21 x.toNat) (σ 22 x.toNat)) := ⟨σ 21, σ 22, by rw [updR_self, updR_self], fun _ _ => ⟨rfl, rfl⟩, h1, h2, fun _ => Iff.rfl⟩
theorem putE_add {σ u : St} {x s : Int} {P : Int → Prop} (h : PutE σ u x P) (hs : -1 ≤ s ∧ s < 100) : PutE σ (addE u x s) x (fun t => P t ∨ (t = s ∧ s ≠ -1)) := by
  obtain ⟨g, h, rfl, h1, h2, h3, h4⟩ := h
  unfold addE
  by_cases e : s = -1
  · rw [if_pos e]
    refine ⟨g, h, rfl, h1, h2, h3, fun t => ?_⟩
    rw [h4]
    exact ⟨Or.inl, fun q => q.elim id (fun q => absurd e q.2)⟩
  · rw [if_neg e]
    by_cases e2 : s < 64
    · rw [if_pos e2]
      refine ⟨up1 g x.toNat (lorZ (g x.toNat) (1 * 2 ^ s.toNat)), h, ?_, fun j hj => ?_, ?_, h3, fun t => ?_⟩
      · rw [updR_ne _ 22 21 _ (by decide), updR_eq, updR_swap _ 22 21 _ _ (by decide), updR_twice]
      · rw [up1_app, if_neg hj]; exact h1 j hj
      · rw [up1_eq]; exact lorZ_r _ _
      · rw [up1_eq, hasE_lo ⟨by omega, e2⟩, h4]
        exact ⟨fun q => q.imp id (fun q => ⟨q, e⟩), fun q => q.imp id (fun q => q.1)⟩
    · rw [if_neg e2]
      refine ⟨g, up1 h x.toNat (lorZ (h x.toNat) (1 * 2 ^ (s - 64).toNat)), ?_, fun j hj => ?_, h2, ?_, fun t => ?_⟩
      · rw [updR_eq, updR_twice]
      · rw [up1_app, if_neg hj]; exact h1 j hj
      · rw [up1_eq]; exact lorZ_r _ _
      · rw [up1_eq, hasE_hi ⟨by omega, by omega⟩, h4]
        exact ⟨fun q => q.imp id (fun q => ⟨q, e⟩), fun q => q.imp id (fun q => q.1)⟩
theorem putE_iff {σ u : St} {x : Int} {P R : Int → Prop} (h : PutE σ u x P) (hPR : ∀ s, P s ↔ R s) : PutE σ u x R := by
  obtain ⟨g, h, h0, h1, h2, h3, h4⟩ := h
  exact ⟨g, h, h0, h1, h2, h3, fun s => (h4 s).trans (hPR s)⟩
theorem putE_ne {σ u : St} {x : Int} {P : Int → Prop} (h : PutE σ u x P) (k : Nat) (h1 : k ≠ 21) (h2 : k ≠ 22) : u k = σ k := by
  obtain ⟨g, h, rfl, _⟩ := h
  rw [updR_ne _ _ _ _ h2, updR_ne _ _ _ _ h1]
theorem putE_r {σ u : St} {x : Int} {P : Int → Prop} (h : PutE σ u x P) : rL (u 21 x.toNat) ∧ rL (u 22 x.toNat) ∧ ∀ s, hasE (u 21 x.toNat) (u 22 x.toNat) s ↔ P s := by
  obtain ⟨g, h, rfl, _, h2, h3, h4⟩ := h
  rw [updR_ne _ 22 21 _ (by decide), updR_eq, updR_eq]
  exact ⟨h2, h3, h4⟩
theorem putE_o {σ u : St} {x : Int} {P : Int → Prop} (h : PutE σ u x P) (j : Nat) (hj : j ≠ x.toNat) : u 21 j = σ 21 j ∧ u 22 j = σ 22 j := by
  obtain ⟨g, h, rfl, h1, _⟩ := h
  rw [updR_ne _ 22 21 _ (by decide), updR_eq, updR_eq]
  exact h1 j hj
def s_S_forget : Spec := fun as σ Q => popR as fun c0 r0 => r0 = [] ∧ c0 = 20 ∧ Q none (updR σ 20 (up1 (up1 (up1 (up1 (σ 20) 2 0) 3 (-1)) 4 0) 5 0))
theorem e_S_forget  (σ : St) (Q : Option AV → St → Prop) : s_S_forget [.inr (.inr (some 20))] σ Q = (Q none (updR σ 20 (up1 (up1 (up1 (up1 (σ 20) 2 0) 3 (-1)) 4 0) 5 0))) := by
  show ([] = [] ∧ _) = _
  simp only [true_and]
set_option maxHeartbeats 4000000 in
set_option maxRecDepth 20000 in
theorem S_S_forget {l : Launch} : Sat l y_S_forget b_S_forget 1 none 0 s_S_forget := by
  refine sat_of (Φ := P_S) (κ := Q_S) (Γ := []) (rt := 0) (by decide +kernel) P_S_ok Q_S_ok (fun g hg => absurd hg List.not_mem_nil) (by simp) o_S_forget ?_
  intro as σ Q hh0
  obtain ⟨c0, rr0, rfl, hh1⟩ := popR_inv hh0
  obtain ⟨hrE, rfl, hQ⟩ := hh1
  subst hrE
  clear hh0
  refine ⟨Nat.le_of_ble_eq_true rfl, [], 14, ?_, cuts0⟩
  · rw [show entL 1 [.inr (.inr (some 20))] = [.inr (.inr (some 20))] from rfl]
    simp only [↓wpN_go, jmp_e, ↓wp_aload_n0, ↓wp_iconst, ↓wp_putfield, ↓wp_return0, wp_nil, ↓ldI_0, ↓ldI_s, ↓ldL_0, ↓ldL_s, ↓ldR_0, ↓ldR_s, sto1_0, sto1_1, sto1_s, sto2_0, sto2_1, sto2_s, isLong_i, isLong_l, isLong_r, ↓popI_c, ↓popL_c, ↓popR_c, ↓popN_0, ↓popN_s, catS_n, catS_c, psh_s, psh_n, fldV_n, fldV_s, ↓tgt_e, sw_n, ↓sw_c, ↓lk1_h, ↓lk1_m, ↓atC_h, ↓atC_m, ↓atC_n, ltO_n, ltO_s, updR_eq, updR_ne, gI_0i, gI_0l, gI_s, ltM_iff, List.cons.injEq, Sum.inl.injEq, Sum.inr.injEq, Option.some.injEq, exists_eq_left, exists_eq_left', exists_eq_right, exists_eq_right', exists_and_left, exists_and_right, exists_eq, exists_const, and_assoc, ↓j_S_forget_0, ↓f_S_18, ↓f_S_22, ↓f_S_25, ↓f_S_28, List.length_cons, List.length_nil, Nat.zero_add, Nat.reduceAdd, Int.reduceAdd, Int.reduceNeg, Int.reduceToNat, Int.reduceLE, Int.reduceLT, true_and, and_true, Nat.reduceLT, reduceIte, Nat.reduceEqDiff, ne_eq, not_false_eq_true, false_implies, true_implies, Bool.false_eq_true, reduceCtorEq, List.cons_append, List.nil_append, Nat.reduceSub, Nat.reduceLeDiff, Fin.isValue, Int.reduceNatCast', Int.zero_add, Int.add_zero, decide_true, decide_false, implies_true, forall_const, true_or, or_true, or_false, false_or, false_and, and_false, Int.toNat_natCast, ↓oF_20_0, ↓aF_21, ↓oF_20_1, ↓aF_22, ↓oF_20_2, ↓oF_20_3, ↓oF_20_4, ↓oF_20_5, oC_0, oC_1, oC_4, oC_11, oC_16, oC_18, oC_20, oC_23, oC_25, oC_26, oC_29, oC_31, oC_33, oC_35, oC_37, isT_29, isT_31, isT_33, isT_35, isL_16, isL_18, isL_26]
    (try simp only [rI_iff, rL_iff] at *)
    repeat' (first | assumption | apply And.intro | intro _)
    all_goals first
      | omega
      | (refine st_ext fun k j => ?_; grind [updR_app, up1_app])
      | (refine Q_eq hQ ?_ ?_ <;> first | rfl | (refine st_ext fun k j => ?_; grind [updR_app, up1_app]) | grind [updR_app, up1_app])
      | grind [updR_app, up1_app]
def s_S_lastFound : Spec := fun as σ Q => popR as fun c0 r0 => r0 = [] ∧ c0 = 20 ∧ Q (some (.inl (σ 20 5))) σ
theorem e_S_lastFound  (σ : St) (Q : Option AV → St → Prop) : s_S_lastFound [.inr (.inr (some 20))] σ Q = (Q (some (.inl (σ 20 5))) σ) := by
  show ([] = [] ∧ _) = _
  simp only [true_and]
set_option maxHeartbeats 4000000 in
set_option maxRecDepth 20000 in
theorem S_S_lastFound {l : Launch} : Sat l y_S_lastFound b_S_lastFound 1 (some .int) 0 s_S_lastFound := by
  refine sat_of (Φ := P_S) (κ := Q_S) (Γ := []) (rt := 1) (by decide +kernel) P_S_ok Q_S_ok (fun g hg => absurd hg List.not_mem_nil) (by simp) o_S_lastFound ?_
  intro as σ Q hh0
  obtain ⟨c0, rr0, rfl, hh1⟩ := popR_inv hh0
  obtain ⟨hrE, rfl, hQ⟩ := hh1
  subst hrE
  clear hh0
  refine ⟨Nat.le_of_ble_eq_true rfl, [], 14, ?_, cuts0⟩
  · rw [show entL 1 [.inr (.inr (some 20))] = [.inr (.inr (some 20))] from rfl]
    simp only [↓wpN_go, jmp_e, ↓wp_aload_n0, ↓wp_getfield, ↓wp_ireturn1, wp_nil, ↓ldI_0, ↓ldI_s, ↓ldL_0, ↓ldL_s, ↓ldR_0, ↓ldR_s, sto1_0, sto1_1, sto1_s, sto2_0, sto2_1, sto2_s, isLong_i, isLong_l, isLong_r, ↓popI_c, ↓popL_c, ↓popR_c, ↓popN_0, ↓popN_s, catS_n, catS_c, psh_s, psh_n, fldV_n, fldV_s, ↓tgt_e, sw_n, ↓sw_c, ↓lk1_h, ↓lk1_m, ↓atC_h, ↓atC_m, ↓atC_n, ltO_n, ltO_s, updR_eq, updR_ne, gI_0i, gI_0l, gI_s, ltM_iff, List.cons.injEq, Sum.inl.injEq, Sum.inr.injEq, Option.some.injEq, exists_eq_left, exists_eq_left', exists_eq_right, exists_eq_right', exists_and_left, exists_and_right, exists_eq, exists_const, and_assoc, ↓j_S_lastFound_0, ↓f_S_28, List.length_cons, List.length_nil, Nat.zero_add, Nat.reduceAdd, Int.reduceAdd, Int.reduceNeg, Int.reduceToNat, Int.reduceLE, Int.reduceLT, true_and, and_true, Nat.reduceLT, reduceIte, Nat.reduceEqDiff, ne_eq, not_false_eq_true, false_implies, true_implies, Bool.false_eq_true, reduceCtorEq, List.cons_append, List.nil_append, Nat.reduceSub, Nat.reduceLeDiff, Fin.isValue, Int.reduceNatCast', Int.zero_add, Int.add_zero, decide_true, decide_false, implies_true, forall_const, true_or, or_true, or_false, false_or, false_and, and_false, Int.toNat_natCast, ↓oF_20_0, ↓aF_21, ↓oF_20_1, ↓aF_22, ↓oF_20_2, ↓oF_20_3, ↓oF_20_4, ↓oF_20_5, oC_0, oC_1, oC_4, oC_11, oC_16, oC_18, oC_20, oC_23, oC_25, oC_26, oC_29, oC_31, oC_33, oC_35, oC_37, isT_29, isT_31, isT_33, isT_35, isL_16, isL_18, isL_26]
    (try simp only [rI_iff, rL_iff] at *)
    repeat' (first | assumption | apply And.intro | intro _)
    all_goals first
      | omega
      | (refine st_ext fun k j => ?_; grind [updR_app, up1_app])
      | (refine Q_eq hQ ?_ ?_ <;> first | rfl | (refine st_ext fun k j => ?_; grind [updR_app, up1_app]) | grind [updR_app, up1_app])
      | grind [updR_app, up1_app]
def s_S_addEnd : Spec := fun as σ Q => popR as fun c0 r0 => popI r0 fun x r1 => popI r1 fun s r2 => r2 = [] ∧ c0 = 20 ∧ (0 ≤ x ∧ x < 8192) ∧ (-1 ≤ s ∧ s < 100) ∧ Q none (addE σ x s)
theorem e_S_addEnd (x : Int) (s : Int) (σ : St) (Q : Option AV → St → Prop) : s_S_addEnd [.inr (.inr (some 20)), .inl x, .inl s] σ Q = ((0 ≤ x ∧ x < 8192) ∧ (-1 ≤ s ∧ s < 100) ∧ Q none (addE σ x s)) := by
  show ([] = [] ∧ _) = _
  simp only [true_and]
set_option maxHeartbeats 4000000 in
set_option maxRecDepth 20000 in
theorem S_S_addEnd {l : Launch} : Sat l y_S_addEnd b_S_addEnd 3 none 0 s_S_addEnd := by
  refine sat_of (Φ := P_S) (κ := Q_S) (Γ := []) (rt := 0) (by decide +kernel) P_S_ok Q_S_ok (fun g hg => absurd hg List.not_mem_nil) (by simp) o_S_addEnd ?_
  intro as σ Q hh0
  obtain ⟨c0, rr0, rfl, hh1⟩ := popR_inv hh0
  obtain ⟨x, rr1, rfl, hh2⟩ := popI_inv hh1
  obtain ⟨s, rr2, rfl, hh3⟩ := popI_inv hh2
  obtain ⟨hrE, rfl, hx, hs, hQ⟩ := hh3
  subst hrE
  clear hh0 hh1 hh2
  refine ⟨Nat.le_of_ble_eq_true rfl, [], 14, ?_, cuts0⟩
  · rw [show entL 3 [.inr (.inr (some 20)), .inl x, .inl s] = [.inr (.inr (some 20)), .inl x, .inl s] from rfl]
    simp only [↓wpN_go, jmp_e, ↓wp_aload_n0, ↓wp_bipush, ↓wp_dup2, ↓wp_getfield, ↓wp_goto, ↓wp_icmp_ge, ↓wp_icmp_ne, ↓wp_iconst, ↓wp_iload_n1, ↓wp_iload_n2, ↓wp_isub, ↓wp_laload, ↓wp_lastore, ↓wp_lconst1, ↓wp_lor, ↓wp_lshl, ↓wp_return0, wp_nil, ↓ldI_0, ↓ldI_s, ↓ldL_0, ↓ldL_s, ↓ldR_0, ↓ldR_s, sto1_0, sto1_1, sto1_s, sto2_0, sto2_1, sto2_s, isLong_i, isLong_l, isLong_r, ↓popI_c, ↓popL_c, ↓popR_c, ↓popN_0, ↓popN_s, catS_n, catS_c, psh_s, psh_n, fldV_n, fldV_s, ↓tgt_e, sw_n, ↓sw_c, ↓lk1_h, ↓lk1_m, ↓atC_h, ↓atC_m, ↓atC_n, ltO_n, ltO_s, updR_eq, updR_ne, gI_0i, gI_0l, gI_s, ltM_iff, List.cons.injEq, Sum.inl.injEq, Sum.inr.injEq, Option.some.injEq, exists_eq_left, exists_eq_left', exists_eq_right, exists_eq_right', exists_and_left, exists_and_right, exists_eq, exists_const, and_assoc, ↓j_S_addEnd_0, ↓j_S_addEnd_6, ↓j_S_addEnd_27, ↓j_S_addEnd_42, ↓f_S_11, ↓f_S_15, List.length_cons, List.length_nil, Nat.zero_add, Nat.reduceAdd, Int.reduceAdd, Int.reduceNeg, Int.reduceToNat, Int.reduceLE, Int.reduceLT, true_and, and_true, Nat.reduceLT, reduceIte, Nat.reduceEqDiff, ne_eq, not_false_eq_true, false_implies, true_implies, Bool.false_eq_true, reduceCtorEq, List.cons_append, List.nil_append, Nat.reduceSub, Nat.reduceLeDiff, Fin.isValue, Int.reduceNatCast', Int.zero_add, Int.add_zero, decide_true, decide_false, implies_true, forall_const, true_or, or_true, or_false, false_or, false_and, and_false, Int.toNat_natCast, ↓oF_20_0, ↓aF_21, ↓oF_20_1, ↓aF_22, ↓oF_20_2, ↓oF_20_3, ↓oF_20_4, ↓oF_20_5, oC_0, oC_1, oC_4, oC_11, oC_16, oC_18, oC_20, oC_23, oC_25, oC_26, oC_29, oC_31, oC_33, oC_35, oC_37, isT_29, isT_31, isT_33, isT_35, isL_16, isL_18, isL_26]
    unfold addE at hQ
    (try simp only [rI_iff, rL_iff] at *)
    repeat' (first | assumption | apply And.intro | intro _)
    all_goals first
      | omega
      | (refine st_ext fun k j => ?_; grind [updR_app, up1_app])
      | (refine Q_eq hQ ?_ ?_ <;> first | rfl | (refine st_ext fun k j => ?_; grind [updR_app, up1_app]) | grind [updR_app, up1_app])
      | grind [updR_app, up1_app]
def s_S_goOn : Spec := fun as σ Q => popR as fun c0 r0 => popR r0 fun c1 r1 => popI r1 fun x r2 => popL r2 fun z r3 => popI r3 fun b r4 => r4 = [] ∧ c0 = 20 ∧ c1 = 11 ∧ (0 ≤ σ 11 4 ∧ σ 11 4 ≤ 100) ∧ (Wire (σ 11 4) (σ 12)) ∧ (0 ≤ x ∧ x < 8192) ∧ (rL (σ 21 x.toNat) ∧ rL (σ 22 x.toNat) ∧ rL z ∧ 0 ≤ b ∧ b ≤ 64) ∧ ∀ σ', PutE σ σ' x (fun s => hasE (σ 21 x.toNat) (σ 22 x.toNat) s ∨ ∃ i : Nat, tb z i = true ∧ stepZ (σ 11 4) (σ 12) (b + i) (x % 2) = s ∧ s ≠ -1) → Q none σ'
theorem e_S_goOn (x : Int) (z : Int) (b : Int) (σ : St) (Q : Option AV → St → Prop) : s_S_goOn [.inr (.inr (some 20)), .inr (.inr (some 11)), .inl x, .inr (.inl z), .inl b] σ Q = ((0 ≤ σ 11 4 ∧ σ 11 4 ≤ 100) ∧ (Wire (σ 11 4) (σ 12)) ∧ (0 ≤ x ∧ x < 8192) ∧ (rL (σ 21 x.toNat) ∧ rL (σ 22 x.toNat) ∧ rL z ∧ 0 ≤ b ∧ b ≤ 64) ∧ ∀ σ', PutE σ σ' x (fun s => hasE (σ 21 x.toNat) (σ 22 x.toNat) s ∨ ∃ i : Nat, tb z i = true ∧ stepZ (σ 11 4) (σ 12) (b + i) (x % 2) = s ∧ s ≠ -1) → Q none σ') := by
  show ([] = [] ∧ _) = _
  simp only [true_and]
set_option maxHeartbeats 4000000 in
set_option maxRecDepth 20000 in
theorem S_S_goOn {l : Launch} : Sat l y_S_goOn b_S_goOn 9 none 2 s_S_goOn := by
  refine sat_of (Φ := P_S) (κ := Q_S) (Γ := [(53, 0, 1, s_JL_numberOfTrailingZeros), (59, 8, 2, s_W_step), (45, 6, 2, s_S_addEnd)]) (rt := 0) (by decide +kernel) P_S_ok Q_S_ok (by
    refine List.forall_mem_cons.mpr ⟨?_, List.forall_mem_cons.mpr ⟨?_, List.forall_mem_cons.mpr ⟨?_, fun _ h => absurd h List.not_mem_nil⟩⟩⟩
    · exact m_JL_numberOfTrailingZeros S_JL_numberOfTrailingZeros (by decide) l_S_53
    · exact m_W_step S_W_step (by decide) l_S_59
    · exact m_S_addEnd S_S_addEnd (by decide) l_S_45) (by simp) o_S_goOn ?_
  intro as σ Q hh0
  obtain ⟨c0, rr0, rfl, hh1⟩ := popR_inv hh0
  obtain ⟨c1, rr1, rfl, hh2⟩ := popR_inv hh1
  obtain ⟨x, rr2, rfl, hh3⟩ := popI_inv hh2
  obtain ⟨z, rr3, rfl, hh4⟩ := popL_inv hh3
  obtain ⟨b, rr4, rfl, hh5⟩ := popI_inv hh4
  obtain ⟨hrE, rfl, rfl, hN, hf, hx, hr, hQ⟩ := hh5
  subst hrE
  clear hh0 hh1 hh2 hh3 hh4
  refine ⟨Nat.le_of_ble_eq_true rfl, [(6, mkC (fun L st u => ∃ (rest i : Int), L = [.inr (.inr (some 20)), .inr (.inr (some 11)), .inl x, .inr (.inl z), .inr (.inr none), .inl b, .inr (.inl rest), .inr (.inr none), .inl i] ∧ st = [] ∧ (0 ≤ i ∧ i ≤ 64) ∧ (rL rest) ∧ (∃ c : Nat, i ≤ c ∧ (∀ j, tb rest j = (tb z j && decide (c ≤ j))) ∧ PutE σ u x (fun s => hasE (σ 21 x.toNat) (σ 22 x.toNat) s ∨ ∃ i : Nat, i < c ∧ tb z i = true ∧ stepZ (σ 11 4) (σ 12) (b + i) (x % 2) = s ∧ s ≠ -1))) (fun L st u => ((65 - gI L 8).toNat, 0, 0)))], 14, ?_, cuts1 ?_ (cuts0)⟩
  · rw [show entL 9 [.inr (.inr (some 20)), .inr (.inr (some 11)), .inl x, .inr (.inl z), .inl b] = [.inr (.inr (some 20)), .inr (.inr (some 11)), .inl x, .inr (.inl z), .inr (.inr none), .inl b, .inr (.inr none), .inr (.inr none), .inr (.inr none)] from rfl]
    simp only [↓wpN_go, jmp_e, ↓wp_aload_n0, ↓wp_aload_n1, ↓wp_bipush, ↓wp_goto, ↓wp_iadd, ↓wp_iand, ↓wp_icmp_ge, ↓wp_iconst, ↓wp_if_eq, ↓wp_iinc, ↓wp_iload, ↓wp_iload_n2, ↓wp_invokestatic, ↓wp_invokevirtual, ↓wp_istore, ↓wp_land, ↓wp_lcmp, ↓wp_lconst0, ↓wp_lconst1, ↓wp_lload, ↓wp_lload_n3, ↓wp_lstore, ↓wp_lsub, ↓wp_return0, wp_nil, ↓ldI_0, ↓ldI_s, ↓ldL_0, ↓ldL_s, ↓ldR_0, ↓ldR_s, sto1_0, sto1_1, sto1_s, sto2_0, sto2_1, sto2_s, isLong_i, isLong_l, isLong_r, ↓popI_c, ↓popL_c, ↓popR_c, ↓popN_0, ↓popN_s, catS_n, catS_c, psh_s, psh_n, fldV_n, fldV_s, ↓tgt_e, sw_n, ↓sw_c, ↓lk1_h, ↓lk1_m, ↓atC_h, ↓atC_m, ↓atC_n, ltO_n, ltO_s, updR_eq, updR_ne, gI_0i, gI_0l, gI_s, ltM_iff, List.cons.injEq, Sum.inl.injEq, Sum.inr.injEq, Option.some.injEq, exists_eq_left, exists_eq_left', exists_eq_right, exists_eq_right', exists_and_left, exists_and_right, exists_eq, exists_const, and_assoc, ↓j_S_goOn_0, ↓j_S_goOn_6, ↓j_S_goOn_55, List.length_cons, List.length_nil, Nat.zero_add, Nat.reduceAdd, Int.reduceAdd, Int.reduceNeg, Int.reduceToNat, Int.reduceLE, Int.reduceLT, true_and, and_true, Nat.reduceLT, reduceIte, Nat.reduceEqDiff, ne_eq, not_false_eq_true, false_implies, true_implies, Bool.false_eq_true, reduceCtorEq, List.cons_append, List.nil_append, Nat.reduceSub, Nat.reduceLeDiff, Fin.isValue, Int.reduceNatCast', Int.zero_add, Int.add_zero, decide_true, decide_false, implies_true, forall_const, true_or, or_true, or_false, false_or, false_and, and_false, Int.toNat_natCast, ↓oF_20_0, ↓aF_21, ↓oF_20_1, ↓aF_22, ↓oF_20_2, ↓oF_20_3, ↓oF_20_4, ↓oF_20_5, oC_0, oC_1, oC_4, oC_11, oC_16, oC_18, oC_20, oC_23, oC_25, oC_26, oC_29, oC_31, oC_33, oC_35, oC_37, isT_29, isT_31, isT_33, isT_35, isL_16, isL_18, isL_26, cmpZ_r, cmpZ_eq, iandZ_1, ↓e_JL_numberOfTrailingZeros, ↓e_W_step, ↓e_S_addEnd]
    (try simp only [rI_iff, rL_iff] at *)
    repeat' (first | with_reducible assumption | apply And.intro | intro _)
    all_goals first | omega | with_reducible assumption | exact True.intro | skip
    exact ⟨0, Int.le_refl _, fun j => by simp, putE_iff (putE_0 hr.1 hr.2.1) (fun s1 => ⟨Or.inl, fun q => q.elim id (fun ⟨_, q, _⟩ => absurd q (Nat.not_lt_zero _))⟩)⟩
  · intro L st u hI
    obtain ⟨rest, i, rfl, rfl, hi, hrest, hu⟩ := hI
    simp only [↓wpN_go, jmp_e, ↓wp_aload_n0, ↓wp_aload_n1, ↓wp_bipush, ↓wp_goto, ↓wp_iadd, ↓wp_iand, ↓wp_icmp_ge, ↓wp_iconst, ↓wp_if_eq, ↓wp_iinc, ↓wp_iload, ↓wp_iload_n2, ↓wp_invokestatic, ↓wp_invokevirtual, ↓wp_istore, ↓wp_land, ↓wp_lcmp, ↓wp_lconst0, ↓wp_lconst1, ↓wp_lload, ↓wp_lload_n3, ↓wp_lstore, ↓wp_lsub, ↓wp_return0, wp_nil, ↓ldI_0, ↓ldI_s, ↓ldL_0, ↓ldL_s, ↓ldR_0, ↓ldR_s, sto1_0, sto1_1, sto1_s, sto2_0, sto2_1, sto2_s, isLong_i, isLong_l, isLong_r, ↓popI_c, ↓popL_c, ↓popR_c, ↓popN_0, ↓popN_s, catS_n, catS_c, psh_s, psh_n, fldV_n, fldV_s, ↓tgt_e, sw_n, ↓sw_c, ↓lk1_h, ↓lk1_m, ↓atC_h, ↓atC_m, ↓atC_n, ltO_n, ltO_s, updR_eq, updR_ne, gI_0i, gI_0l, gI_s, ltM_iff, List.cons.injEq, Sum.inl.injEq, Sum.inr.injEq, Option.some.injEq, exists_eq_left, exists_eq_left', exists_eq_right, exists_eq_right', exists_and_left, exists_and_right, exists_eq, exists_const, and_assoc, ↓j_S_goOn_0, ↓j_S_goOn_6, ↓j_S_goOn_55, List.length_cons, List.length_nil, Nat.zero_add, Nat.reduceAdd, Int.reduceAdd, Int.reduceNeg, Int.reduceToNat, Int.reduceLE, Int.reduceLT, true_and, and_true, Nat.reduceLT, reduceIte, Nat.reduceEqDiff, ne_eq, not_false_eq_true, false_implies, true_implies, Bool.false_eq_true, reduceCtorEq, List.cons_append, List.nil_append, Nat.reduceSub, Nat.reduceLeDiff, Fin.isValue, Int.reduceNatCast', Int.zero_add, Int.add_zero, decide_true, decide_false, implies_true, forall_const, true_or, or_true, or_false, false_or, false_and, and_false, Int.toNat_natCast, ↓oF_20_0, ↓aF_21, ↓oF_20_1, ↓aF_22, ↓oF_20_2, ↓oF_20_3, ↓oF_20_4, ↓oF_20_5, oC_0, oC_1, oC_4, oC_11, oC_16, oC_18, oC_20, oC_23, oC_25, oC_26, oC_29, oC_31, oC_33, oC_35, oC_37, isT_29, isT_31, isT_33, isT_35, isL_16, isL_18, isL_26, cmpZ_r, cmpZ_eq, iandZ_1, ↓e_JL_numberOfTrailingZeros, ↓e_W_step, ↓e_S_addEnd]
    obtain ⟨c, hc1, hc2, hc3⟩ := hu
    have hu11 := putE_ne hc3 11 (by decide) (by decide)
    have hu12 := putE_ne hc3 12 (by decide) (by decide)
    simp only [hu11, hu12]
    have hstep := fun s1 => stepZ_r hN.2 hf s1 (x % 2)
    have hlr := landZ_r rest (rest - 1)
    have hlow := fun (t1 : Nat) h1 h2 => tb_low (t := t1) hrest h1 h2
    have hend : rest = 0 ∨ 64 ≤ i → Q none u := fun h1 => by
      refine hQ u (putE_iff hc3 (fun s1 => ⟨fun q => q.imp id (fun ⟨j, q1, q2⟩ => ⟨j, q2⟩), fun q => q.imp id (fun ⟨j, q2⟩ => ⟨j, ?_, q2⟩)⟩))
      apply Classical.byContradiction
      intro h2
      have h3 := hc2 j
      rw [q2.1] at h3
      rcases h1 with h1 | h1
      · rw [h1, tb_0] at h3
        simp at h3
        omega
      · have := tb_ge z (i := j) (by omega)
        rw [q2.1] at this
        cases this
    (try simp only [rI_iff, rL_iff] at *)
    repeat' (first | with_reducible assumption | apply And.intro | intro _)
    all_goals first | omega | with_reducible assumption | exact True.intro | skip
    · exact hend (Or.inr (by assumption))
    · exact hend (Or.inl (by assumption))
    · rename_i t1 ht1
      have := (hlow t1 (by assumption) ht1).1
      omega
    · exact (hstep _).1
    · rename_i t1 ht1
      have := (hstep (b + (t1 : Int))).2
      omega
    · rename_i hi1 hne1 t1 ht1
      obtain ⟨g1, g2, g3, g4⟩ := hlow t1 hne1 ht1
      have g5 : c ≤ t1 := by
        have := hc2 t1
        rw [g2] at this
        simp at this
        exact this.2
      have g6 : tb z t1 = true := by
        have := hc2 t1
        rw [g2] at this
        simp at this
        exact this.1
      have g7 : ∀ j, c ≤ j → j < t1 → tb z j = false := fun j h1 h2 => by
        have := hc2 j
        rw [g3 j h2] at this
        simp [h1] at this
        exact this
      refine ⟨t1 + 1, by omega, fun j => ?_, putE_iff (putE_add hc3 ⟨(hstep _).1, by have := (hstep (b + (t1 : Int))).2; omega⟩) (fun s1 => ?_)⟩
      · rw [g4, hc2]
        rcases Nat.lt_trichotomy j t1 with e | e | e
        · by_cases e2 : c ≤ j
          · rw [g7 j e2 e]; rfl
          · simp [e2, show ¬ t1 + 1 ≤ j by omega]
        · subst e; simp
        · simp [show c ≤ j by omega, show ¬ j = t1 by omega, show t1 + 1 ≤ j by omega]
      · constructor
        · rintro ((q | ⟨j, q1, q2, q3, q4⟩) | ⟨q1, q2⟩)
          · exact Or.inl q
          · exact Or.inr ⟨j, by omega, q2, q3, q4⟩
          · exact Or.inr ⟨t1, by omega, g6, q1.symm, by rw [q1]; exact q2⟩
        · rintro (q | ⟨j, q1, q2, q3, q4⟩)
          · exact Or.inl (Or.inl q)
          · by_cases e : j < c
            · exact Or.inl (Or.inr ⟨j, e, q2, q3, q4⟩)
            · by_cases e2 : j = t1
              · subst e2
                exact Or.inr ⟨q3.symm, by rw [q3]; exact q4⟩
              · rw [g7 j (by omega) (by omega)] at q2
                cases q2
