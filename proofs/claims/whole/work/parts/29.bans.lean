/-! bans -/
def tzF : Nat → Nat → Nat
  | 0, _ => 0
  | n + 1, a => if a % 2 = 1 then 0 else 1 + tzF n (a / 2)
theorem lowB_s {a t n : Nat} (h : lowB a (t + 1) (n + 1)) : a % 2 = 0 ∧ lowB (a / 2) t n := by
  obtain ⟨h1, h2, h3⟩ := h
  have hp : 0 < 2 ^ t := Nat.two_pow_pos t
  have e : 2 ^ (t + 1) = 2 * 2 ^ t := by rw [Nat.pow_succ, Nat.mul_comm]
  rw [e] at h2 h3
  have h4 : a % 2 = 0 := by
    have := Nat.mod_mul_right_mod a 2 (2 ^ t)
    rw [h2] at this
    omega
  refine ⟨h4, by omega, ?_, fun h => ?_⟩
  · have e2 : a = 2 * (a / 2) := by omega
    rw [e2, Nat.mul_mod_mul_left] at h2
    omega
  · rw [Nat.div_div_eq_div_mul]
    exact h3 (by omega)
theorem lowB_tz : ∀ {n a t : Nat}, lowB a t n → t = tzF n a
  | 0, a, t, h => by have := h.1; show t = 0; omega
  | n + 1, a, t, h => by
    unfold tzF
    cases t with
    | zero =>
      have := h.2.2 (by omega)
      rw [Nat.pow_zero, Nat.div_one] at this
      rw [if_pos this]
    | succ t =>
      have := lowB_s h
      rw [if_neg (by omega), ← lowB_tz this.2]
      omega
def endW (wb ws : Nat → Int) (g : Int) : Nat → Bool
  | 0 => false
  | n + 1 => endW wb ws g n || (decide (2 ^ (ws n).toNat ≤ g) && decide (g % 2 ^ (ws n).toNat = wb n))
def memW (ws : Nat → Int) (k : Int) : Nat → Int
  | 0 => max k 0
  | n + 1 => max (memW ws k n) (ws n - 1)
def shortZ (g mem : Int) : Int := if g < 2 * 2 ^ mem.toNat then g else 2 ^ mem.toNat + g % 2 ^ mem.toNat
def brkZ (d k past bit : Int) : Bool := decide (k ≠ -1 ∧ ((bit = 0 ∧ k < tzF 32 past.toNat + 1) ∨ (bit ≠ 0 ∧ 1 < past / 2 ^ tzF 32 past.toNat ∧ tzF 32 past.toNat < d)))
def kA (d k nw ln : Int) (wb ws : Nat → Int) (mem key bit : Int) : Int :=
  if (ln ≠ -1 ∧ (key / 256 - 5 + (if bit = 1 then 1 else -1) < -ln ∨ ln < key / 256 - 5 + (if bit = 1 then 1 else -1))) ∨ brkZ d k (key % 256) bit = true ∨ endW wb ws (2 * (key % 256) + bit) nw.toNat = true then -1
  else ((if ln ≠ -1 then key / 256 - 5 + (if bit = 1 then 1 else -1) else key / 256 - 5) + 5) * 256 + shortZ (2 * (key % 256) + bit) mem
def WordsOK (nw : Int) (wb ws : Nat → Int) : Prop := 0 ≤ nw ∧ nw ≤ 4 ∧ ∀ i : Nat, (i : Int) < nw → 1 ≤ ws i ∧ ws i ≤ 6 ∧ 0 ≤ wb i ∧ wb i < 2 ^ (ws i).toNat
def BansOK (d k nw ln : Int) (wb ws : Nat → Int) : Prop := (k = -1 ∧ d = 0 ∨ 0 ≤ d ∧ d ≤ k ∧ k ≤ 7) ∧ WordsOK nw wb ws ∧ -1 ≤ ln ∧ ln ≤ 5
theorem memW_r {nw : Int} {wb ws : Nat → Int} {k : Int} (hk : k ≤ 7) (hw : WordsOK nw wb ws) : ∀ n : Nat, (n : Int) ≤ nw → 0 ≤ memW ws k n ∧ memW ws k n ≤ 7
  | 0, _ => by unfold memW; omega
  | n + 1, h => by
    have h1 := memW_r hk hw n (by omega)
    have h2 := hw.2.2 n (by omega)
    unfold memW
    omega
theorem p2_6 {m : Int} (h : 0 ≤ m ∧ m ≤ 8) : (1 : Int) ≤ 2 ^ m.toNat ∧ (2 : Int) ^ m.toNat ≤ 256 := pow8 h
theorem shortZ_r {g mem : Int} (h : 0 ≤ g) (hm : 0 ≤ mem ∧ mem ≤ 7) : 0 ≤ shortZ g mem ∧ shortZ g mem < 256 := by
  have h1 := pow8 (m := mem) ⟨hm.1, by omega⟩
  have h2 := Int.emod_nonneg g (b := 2 ^ mem.toNat) (by omega)
  have h3 := Int.emod_lt_of_pos g (b := 2 ^ mem.toNat) (by omega)
  have h4 : 2 * (2 : Int) ^ mem.toNat ≤ 256 := by
    have e : (2 : Int) ^ (mem.toNat + 1) = 2 ^ mem.toNat * 2 := Int.pow_succ _ _
    have : (2 : Int) ^ (mem.toNat + 1) ≤ 2 ^ 8 := p2_le (by omega)
    omega
  unfold shortZ
  split <;> omega
theorem endW_i {wb ws : Nat → Int} {g : Int} {n : Nat} (h : endW wb ws g n = true) : ∀ m, n ≤ m → endW wb ws g m = true := by
  intro m hm
  obtain ⟨k, rfl⟩ := Nat.le.dest hm
  induction k with
  | zero => exact h
  | succ k ih =>
    show endW wb ws g (n + k + 1) = true
    rw [endW, ih (by omega)]
    rfl
theorem tzF_le : ∀ n a, tzF n a ≤ n
  | 0, _ => Nat.le_refl _
  | n + 1, a => by
    have := tzF_le n (a / 2)
    unfold tzF
    split <;> omega
theorem tzF_8 {n a : Nat} (h : 0 < a) (h2 : a < 2 ^ n) : tzF n a < n := by
  induction n generalizing a with
  | zero => simp at h2; omega
  | succ n ih =>
    unfold tzF
    split
    · omega
    · have := ih (a := a / 2) (by omega) (by rw [Nat.pow_succ] at h2; omega)
      omega
def s_B_tellRuns : Spec := fun as σ Q => popR as fun c0 r0 => popI r0 fun d r1 => popI r1 fun k r2 => r2 = [] ∧ c0 = 1 ∧ Q none (updR σ 1 (up1 (up1 (σ 1) 3 d) 4 k))
theorem e_B_tellRuns (d : Int) (k : Int) (σ : St) (Q : Option AV → St → Prop) : s_B_tellRuns [.inr (.inr (some 1)), .inl d, .inl k] σ Q = (Q none (updR σ 1 (up1 (up1 (σ 1) 3 d) 4 k))) := by
  show ([] = [] ∧ _) = _
  simp only [true_and]
set_option maxHeartbeats 4000000 in
set_option maxRecDepth 20000 in
theorem S_B_tellRuns {l : Launch} : Sat l y_B_tellRuns b_B_tellRuns 3 none 0 s_B_tellRuns := by
  refine sat_of (Φ := P_B) (κ := Q_B) (Γ := []) (rt := 0) (by decide +kernel) P_B_ok Q_B_ok (fun g hg => absurd hg List.not_mem_nil) (by simp) o_B_tellRuns ?_
  intro as σ Q hh0
  obtain ⟨c0, rr0, rfl, hh1⟩ := popR_inv hh0
  obtain ⟨d, rr1, rfl, hh2⟩ := popI_inv hh1
  obtain ⟨k, rr2, rfl, hh3⟩ := popI_inv hh2
  obtain ⟨hrE, rfl, hQ⟩ := hh3
  subst hrE
  clear hh0 hh1 hh2
  refine ⟨Nat.le_of_ble_eq_true rfl, [], 14, ?_, cuts0⟩
  · rw [show entL 3 [.inr (.inr (some 1)), .inl d, .inl k] = [.inr (.inr (some 1)), .inl d, .inl k] from rfl]
    simp only [↓wpN_go, jmp_e, ↓wp_aload_n0, ↓wp_iload_n1, ↓wp_iload_n2, ↓wp_putfield, ↓wp_return0, wp_nil, ↓ldI_0, ↓ldI_s, ↓ldL_0, ↓ldL_s, ↓ldR_0, ↓ldR_s, sto1_0, sto1_1, sto1_s, sto2_0, sto2_1, sto2_s, isLong_i, isLong_l, isLong_r, ↓popI_c, ↓popL_c, ↓popR_c, ↓popN_0, ↓popN_s, catS_n, catS_c, psh_s, psh_n, fldV_n, fldV_s, ↓tgt_e, sw_n, ↓sw_c, ↓lk1_h, ↓lk1_m, ↓atC_h, ↓atC_m, ↓atC_n, ltO_n, ltO_s, updR_eq, updR_ne, gI_0i, gI_0l, gI_s, ltM_iff, List.cons.injEq, Sum.inl.injEq, Sum.inr.injEq, Option.some.injEq, exists_eq_left, exists_eq_left', exists_eq_right, exists_eq_right', exists_and_left, exists_and_right, exists_eq, exists_const, and_assoc, ↓j_B_tellRuns_0, ↓f_B_22, ↓f_B_25, List.length_cons, List.length_nil, Nat.zero_add, Nat.reduceAdd, Int.reduceAdd, Int.reduceNeg, Int.reduceToNat, Int.reduceLE, Int.reduceLT, true_and, and_true, Nat.reduceLT, reduceIte, Nat.reduceEqDiff, ne_eq, not_false_eq_true, false_implies, true_implies, Bool.false_eq_true, reduceCtorEq, List.cons_append, List.nil_append, Nat.reduceSub, Nat.reduceLeDiff, Fin.isValue, Int.reduceNatCast', Int.zero_add, Int.add_zero, decide_true, decide_false, implies_true, forall_const, true_or, or_true, or_false, false_or, false_and, and_false, Int.toNat_natCast, ↓oF_1_0, ↓aF_2, ↓oF_1_1, ↓aF_3, ↓oF_1_2, ↓oF_1_3, ↓oF_1_4, ↓oF_1_5, oC_0, oC_1, oC_4, oC_11, oC_16, oC_18, oC_20, oC_23, oC_25, oC_26, oC_29, oC_31, oC_33, oC_35, oC_37, isT_29, isT_31, isT_33, isT_35, isL_16, isL_18, isL_26]
    (try simp only [rI_iff, rL_iff] at *)
    repeat' (first | assumption | apply And.intro | intro _)
    all_goals first
      | omega
      | (refine st_ext fun k j => ?_; grind [updR_app, up1_app])
      | (refine Q_eq hQ ?_ ?_ <;> first | rfl | (refine st_ext fun k j => ?_; grind [updR_app, up1_app]) | grind [updR_app, up1_app])
      | grind [updR_app, up1_app]
def s_B_addWord : Spec := fun as σ Q => popR as fun c0 r0 => popI r0 fun w r1 => popI r1 fun n r2 => r2 = [] ∧ c0 = 1 ∧ (0 ≤ σ 1 2 ∧ σ 1 2 ≤ 4) ∧ if σ 1 2 < 4 then Q (some (.inl (σ 1 2 + 1))) (updR (updR (updR σ 2 (up1 (σ 2) (σ 1 2).toNat w)) 3 (up1 (σ 3) (σ 1 2).toNat n)) 1 (up1 (σ 1) 2 (σ 1 2 + 1))) else Q (some (.inl (-4))) σ
theorem e_B_addWord (w : Int) (n : Int) (σ : St) (Q : Option AV → St → Prop) : s_B_addWord [.inr (.inr (some 1)), .inl w, .inl n] σ Q = ((0 ≤ σ 1 2 ∧ σ 1 2 ≤ 4) ∧ if σ 1 2 < 4 then Q (some (.inl (σ 1 2 + 1))) (updR (updR (updR σ 2 (up1 (σ 2) (σ 1 2).toNat w)) 3 (up1 (σ 3) (σ 1 2).toNat n)) 1 (up1 (σ 1) 2 (σ 1 2 + 1))) else Q (some (.inl (-4))) σ) := by
  show ([] = [] ∧ _) = _
  simp only [true_and]
set_option maxHeartbeats 4000000 in
set_option maxRecDepth 20000 in
theorem S_B_addWord {l : Launch} : Sat l y_B_addWord b_B_addWord 3 (some .int) 0 s_B_addWord := by
  refine sat_of (Φ := P_B) (κ := Q_B) (Γ := []) (rt := 1) (by decide +kernel) P_B_ok Q_B_ok (fun g hg => absurd hg List.not_mem_nil) (by simp) o_B_addWord ?_
  intro as σ Q hh0
  obtain ⟨c0, rr0, rfl, hh1⟩ := popR_inv hh0
  obtain ⟨w, rr1, rfl, hh2⟩ := popI_inv hh1
  obtain ⟨n, rr2, rfl, hh3⟩ := popI_inv hh2
  obtain ⟨hrE, rfl, h1, hQ⟩ := hh3
  subst hrE
  clear hh0 hh1 hh2
  refine ⟨Nat.le_of_ble_eq_true rfl, [], 14, ?_, cuts0⟩
  · rw [show entL 3 [.inr (.inr (some 1)), .inl w, .inl n] = [.inr (.inr (some 1)), .inl w, .inl n] from rfl]
    simp only [↓wpN_go, jmp_e, ↓wp_aload_n0, ↓wp_bipush, ↓wp_dup, ↓wp_getfield, ↓wp_iadd, ↓wp_iastore, ↓wp_icmp_lt, ↓wp_iconst, ↓wp_iload_n1, ↓wp_iload_n2, ↓wp_ireturn1, ↓wp_putfield, wp_nil, ↓ldI_0, ↓ldI_s, ↓ldL_0, ↓ldL_s, ↓ldR_0, ↓ldR_s, sto1_0, sto1_1, sto1_s, sto2_0, sto2_1, sto2_s, isLong_i, isLong_l, isLong_r, ↓popI_c, ↓popL_c, ↓popR_c, ↓popN_0, ↓popN_s, catS_n, catS_c, psh_s, psh_n, fldV_n, fldV_s, ↓tgt_e, sw_n, ↓sw_c, ↓lk1_h, ↓lk1_m, ↓atC_h, ↓atC_m, ↓atC_n, ltO_n, ltO_s, updR_eq, updR_ne, gI_0i, gI_0l, gI_s, ltM_iff, List.cons.injEq, Sum.inl.injEq, Sum.inr.injEq, Option.some.injEq, exists_eq_left, exists_eq_left', exists_eq_right, exists_eq_right', exists_and_left, exists_and_right, exists_eq, exists_const, and_assoc, ↓j_B_addWord_0, ↓j_B_addWord_11, ↓f_B_11, ↓f_B_15, ↓f_B_18, List.length_cons, List.length_nil, Nat.zero_add, Nat.reduceAdd, Int.reduceAdd, Int.reduceNeg, Int.reduceToNat, Int.reduceLE, Int.reduceLT, true_and, and_true, Nat.reduceLT, reduceIte, Nat.reduceEqDiff, ne_eq, not_false_eq_true, false_implies, true_implies, Bool.false_eq_true, reduceCtorEq, List.cons_append, List.nil_append, Nat.reduceSub, Nat.reduceLeDiff, Fin.isValue, Int.reduceNatCast', Int.zero_add, Int.add_zero, decide_true, decide_false, implies_true, forall_const, true_or, or_true, or_false, false_or, false_and, and_false, Int.toNat_natCast, ↓oF_1_0, ↓aF_2, ↓oF_1_1, ↓aF_3, ↓oF_1_2, ↓oF_1_3, ↓oF_1_4, ↓oF_1_5, oC_0, oC_1, oC_4, oC_11, oC_16, oC_18, oC_20, oC_23, oC_25, oC_26, oC_29, oC_31, oC_33, oC_35, oC_37, isT_29, isT_31, isT_33, isT_35, isL_16, isL_18, isL_26]
    (try simp only [rI_iff, rL_iff] at *)
    repeat' (first | assumption | apply And.intro | intro _)
    all_goals first
      | omega
      | (refine st_ext fun k j => ?_; grind [updR_app, up1_app])
      | (refine Q_eq hQ ?_ ?_ <;> first | rfl | (refine st_ext fun k j => ?_; grind [updR_app, up1_app]) | grind [updR_app, up1_app])
      | grind [updR_app, up1_app]
def s_B_dropWords : Spec := fun as σ Q => popR as fun c0 r0 => r0 = [] ∧ c0 = 1 ∧ Q (some (.inl (σ 1 2))) (updR σ 1 (up1 (σ 1) 2 0))
theorem e_B_dropWords  (σ : St) (Q : Option AV → St → Prop) : s_B_dropWords [.inr (.inr (some 1))] σ Q = (Q (some (.inl (σ 1 2))) (updR σ 1 (up1 (σ 1) 2 0))) := by
  show ([] = [] ∧ _) = _
  simp only [true_and]
set_option maxHeartbeats 4000000 in
set_option maxRecDepth 20000 in
theorem S_B_dropWords {l : Launch} : Sat l y_B_dropWords b_B_dropWords 2 (some .int) 0 s_B_dropWords := by
  refine sat_of (Φ := P_B) (κ := Q_B) (Γ := []) (rt := 1) (by decide +kernel) P_B_ok Q_B_ok (fun g hg => absurd hg List.not_mem_nil) (by simp) o_B_dropWords ?_
  intro as σ Q hh0
  obtain ⟨c0, rr0, rfl, hh1⟩ := popR_inv hh0
  obtain ⟨hrE, rfl, hQ⟩ := hh1
  subst hrE
  clear hh0
  refine ⟨Nat.le_of_ble_eq_true rfl, [], 14, ?_, cuts0⟩
  · rw [show entL 2 [.inr (.inr (some 1))] = [.inr (.inr (some 1)), .inr (.inr none)] from rfl]
    simp only [↓wpN_go, jmp_e, ↓wp_aload_n0, ↓wp_getfield, ↓wp_iconst, ↓wp_iload_n1, ↓wp_ireturn1, ↓wp_istore_n1, ↓wp_putfield, wp_nil, ↓ldI_0, ↓ldI_s, ↓ldL_0, ↓ldL_s, ↓ldR_0, ↓ldR_s, sto1_0, sto1_1, sto1_s, sto2_0, sto2_1, sto2_s, isLong_i, isLong_l, isLong_r, ↓popI_c, ↓popL_c, ↓popR_c, ↓popN_0, ↓popN_s, catS_n, catS_c, psh_s, psh_n, fldV_n, fldV_s, ↓tgt_e, sw_n, ↓sw_c, ↓lk1_h, ↓lk1_m, ↓atC_h, ↓atC_m, ↓atC_n, ltO_n, ltO_s, updR_eq, updR_ne, gI_0i, gI_0l, gI_s, ltM_iff, List.cons.injEq, Sum.inl.injEq, Sum.inr.injEq, Option.some.injEq, exists_eq_left, exists_eq_left', exists_eq_right, exists_eq_right', exists_and_left, exists_and_right, exists_eq, exists_const, and_assoc, ↓j_B_dropWords_0, ↓f_B_18, List.length_cons, List.length_nil, Nat.zero_add, Nat.reduceAdd, Int.reduceAdd, Int.reduceNeg, Int.reduceToNat, Int.reduceLE, Int.reduceLT, true_and, and_true, Nat.reduceLT, reduceIte, Nat.reduceEqDiff, ne_eq, not_false_eq_true, false_implies, true_implies, Bool.false_eq_true, reduceCtorEq, List.cons_append, List.nil_append, Nat.reduceSub, Nat.reduceLeDiff, Fin.isValue, Int.reduceNatCast', Int.zero_add, Int.add_zero, decide_true, decide_false, implies_true, forall_const, true_or, or_true, or_false, false_or, false_and, and_false, Int.toNat_natCast, ↓oF_1_0, ↓aF_2, ↓oF_1_1, ↓aF_3, ↓oF_1_2, ↓oF_1_3, ↓oF_1_4, ↓oF_1_5, oC_0, oC_1, oC_4, oC_11, oC_16, oC_18, oC_20, oC_23, oC_25, oC_26, oC_29, oC_31, oC_33, oC_35, oC_37, isT_29, isT_31, isT_33, isT_35, isL_16, isL_18, isL_26]
    (try simp only [rI_iff, rL_iff] at *)
    repeat' (first | assumption | apply And.intro | intro _)
    all_goals first
      | omega
      | (refine st_ext fun k j => ?_; grind [updR_app, up1_app])
      | (refine Q_eq hQ ?_ ?_ <;> first | rfl | (refine st_ext fun k j => ?_; grind [updR_app, up1_app]) | grind [updR_app, up1_app])
      | grind [updR_app, up1_app]
def s_B_tellLean : Spec := fun as σ Q => popR as fun c0 r0 => popI r0 fun v r1 => r1 = [] ∧ c0 = 1 ∧ Q none (updR σ 1 (up1 (σ 1) 5 v))
theorem e_B_tellLean (v : Int) (σ : St) (Q : Option AV → St → Prop) : s_B_tellLean [.inr (.inr (some 1)), .inl v] σ Q = (Q none (updR σ 1 (up1 (σ 1) 5 v))) := by
  show ([] = [] ∧ _) = _
  simp only [true_and]
set_option maxHeartbeats 4000000 in
set_option maxRecDepth 20000 in
theorem S_B_tellLean {l : Launch} : Sat l y_B_tellLean b_B_tellLean 2 none 0 s_B_tellLean := by
  refine sat_of (Φ := P_B) (κ := Q_B) (Γ := []) (rt := 0) (by decide +kernel) P_B_ok Q_B_ok (fun g hg => absurd hg List.not_mem_nil) (by simp) o_B_tellLean ?_
  intro as σ Q hh0
  obtain ⟨c0, rr0, rfl, hh1⟩ := popR_inv hh0
  obtain ⟨v, rr1, rfl, hh2⟩ := popI_inv hh1
  obtain ⟨hrE, rfl, hQ⟩ := hh2
  subst hrE
  clear hh0 hh1
  refine ⟨Nat.le_of_ble_eq_true rfl, [], 14, ?_, cuts0⟩
  · rw [show entL 2 [.inr (.inr (some 1)), .inl v] = [.inr (.inr (some 1)), .inl v] from rfl]
    simp only [↓wpN_go, jmp_e, ↓wp_aload_n0, ↓wp_iload_n1, ↓wp_putfield, ↓wp_return0, wp_nil, ↓ldI_0, ↓ldI_s, ↓ldL_0, ↓ldL_s, ↓ldR_0, ↓ldR_s, sto1_0, sto1_1, sto1_s, sto2_0, sto2_1, sto2_s, isLong_i, isLong_l, isLong_r, ↓popI_c, ↓popL_c, ↓popR_c, ↓popN_0, ↓popN_s, catS_n, catS_c, psh_s, psh_n, fldV_n, fldV_s, ↓tgt_e, sw_n, ↓sw_c, ↓lk1_h, ↓lk1_m, ↓atC_h, ↓atC_m, ↓atC_n, ltO_n, ltO_s, updR_eq, updR_ne, gI_0i, gI_0l, gI_s, ltM_iff, List.cons.injEq, Sum.inl.injEq, Sum.inr.injEq, Option.some.injEq, exists_eq_left, exists_eq_left', exists_eq_right, exists_eq_right', exists_and_left, exists_and_right, exists_eq, exists_const, and_assoc, ↓j_B_tellLean_0, ↓f_B_28, List.length_cons, List.length_nil, Nat.zero_add, Nat.reduceAdd, Int.reduceAdd, Int.reduceNeg, Int.reduceToNat, Int.reduceLE, Int.reduceLT, true_and, and_true, Nat.reduceLT, reduceIte, Nat.reduceEqDiff, ne_eq, not_false_eq_true, false_implies, true_implies, Bool.false_eq_true, reduceCtorEq, List.cons_append, List.nil_append, Nat.reduceSub, Nat.reduceLeDiff, Fin.isValue, Int.reduceNatCast', Int.zero_add, Int.add_zero, decide_true, decide_false, implies_true, forall_const, true_or, or_true, or_false, false_or, false_and, and_false, Int.toNat_natCast, ↓oF_1_0, ↓aF_2, ↓oF_1_1, ↓aF_3, ↓oF_1_2, ↓oF_1_3, ↓oF_1_4, ↓oF_1_5, oC_0, oC_1, oC_4, oC_11, oC_16, oC_18, oC_20, oC_23, oC_25, oC_26, oC_29, oC_31, oC_33, oC_35, oC_37, isT_29, isT_31, isT_33, isT_35, isL_16, isL_18, isL_26]
    (try simp only [rI_iff, rL_iff] at *)
    repeat' (first | assumption | apply And.intro | intro _)
    all_goals first
      | omega
      | (refine st_ext fun k j => ?_; grind [updR_app, up1_app])
      | (refine Q_eq hQ ?_ ?_ <;> first | rfl | (refine st_ext fun k j => ?_; grind [updR_app, up1_app]) | grind [updR_app, up1_app])
      | grind [updR_app, up1_app]
def toldW (wb ws : Nat → Int) (what : Int) : Nat → Int
  | 0 => -2
  | n + 1 => if toldW wb ws what n = -2 then (if what = 10 + n then wb n else if what = 20 + n then ws n else -2) else toldW wb ws what n
theorem toldW_on (wb ws : Nat → Int) (what : Int) (n : Nat) (h : toldW wb ws what n ≠ -2) : ∀ m, n ≤ m → toldW wb ws what m = toldW wb ws what n := by
  intro m hm
  obtain ⟨k, rfl⟩ := Nat.le.dest hm
  induction k with
  | zero => rfl
  | succ k ih =>
    have ih := ih (by omega)
    show toldW wb ws what (n + k + 1) = _
    rw [toldW, ih, if_neg h]
def toldZ (σ : St) (what : Int) : Int := if what = 0 then σ 1 3 else if what = 1 then σ 1 4 else if what = 2 then σ 1 2 else if what = 3 then σ 1 5 else toldW (σ 2) (σ 3) what (σ 1 2).toNat
def s_B_toldOfWord : Spec := fun as σ Q => popR as fun c0 r0 => popI r0 fun what r1 => r1 = [] ∧ c0 = 1 ∧ (WordsOK (σ 1 2) (σ 2) (σ 3)) ∧ (rI what) ∧ Q (some (.inl (toldW (σ 2) (σ 3) what (σ 1 2).toNat))) σ
theorem e_B_toldOfWord (what : Int) (σ : St) (Q : Option AV → St → Prop) : s_B_toldOfWord [.inr (.inr (some 1)), .inl what] σ Q = ((WordsOK (σ 1 2) (σ 2) (σ 3)) ∧ (rI what) ∧ Q (some (.inl (toldW (σ 2) (σ 3) what (σ 1 2).toNat))) σ) := by
  show ([] = [] ∧ _) = _
  simp only [true_and]
set_option maxHeartbeats 4000000 in
set_option maxRecDepth 20000 in
theorem S_B_toldOfWord {l : Launch} : Sat l y_B_toldOfWord b_B_toldOfWord 3 (some .int) 0 s_B_toldOfWord := by
  refine sat_of (Φ := P_B) (κ := Q_B) (Γ := []) (rt := 1) (by decide +kernel) P_B_ok Q_B_ok (fun g hg => absurd hg List.not_mem_nil) (by simp) o_B_toldOfWord ?_
  intro as σ Q hh0
  obtain ⟨c0, rr0, rfl, hh1⟩ := popR_inv hh0
  obtain ⟨what, rr1, rfl, hh2⟩ := popI_inv hh1
  obtain ⟨hrE, rfl, hw, hi0, hQ⟩ := hh2
  subst hrE
  clear hh0 hh1
  refine ⟨Nat.le_of_ble_eq_true rfl, [(2, mkC (fun L st u => ∃ (i : Int), L = [.inr (.inr (some 1)), .inl what, .inl i] ∧ st = [] ∧ (0 ≤ i ∧ i ≤ σ 1 2) ∧ (toldW (σ 2) (σ 3) what i.toNat = -2) ∧ (u = σ)) (fun L st u => ((5 - gI L 2).toNat, 0, 0)))], 14, ?_, cuts1 ?_ (cuts0)⟩
  · rw [show entL 3 [.inr (.inr (some 1)), .inl what] = [.inr (.inr (some 1)), .inl what, .inr (.inr none)] from rfl]
    simp only [↓wpN_go, jmp_e, ↓wp_aload_n0, ↓wp_bipush, ↓wp_getfield, ↓wp_goto, ↓wp_iadd, ↓wp_iaload, ↓wp_icmp_ge, ↓wp_icmp_ne, ↓wp_iconst, ↓wp_iinc, ↓wp_iload_n1, ↓wp_iload_n2, ↓wp_ireturn1, ↓wp_istore_n2, wp_nil, ↓ldI_0, ↓ldI_s, ↓ldL_0, ↓ldL_s, ↓ldR_0, ↓ldR_s, sto1_0, sto1_1, sto1_s, sto2_0, sto2_1, sto2_s, isLong_i, isLong_l, isLong_r, ↓popI_c, ↓popL_c, ↓popR_c, ↓popN_0, ↓popN_s, catS_n, catS_c, psh_s, psh_n, fldV_n, fldV_s, ↓tgt_e, sw_n, ↓sw_c, ↓lk1_h, ↓lk1_m, ↓atC_h, ↓atC_m, ↓atC_n, ltO_n, ltO_s, updR_eq, updR_ne, gI_0i, gI_0l, gI_s, ltM_iff, List.cons.injEq, Sum.inl.injEq, Sum.inr.injEq, Option.some.injEq, exists_eq_left, exists_eq_left', exists_eq_right, exists_eq_right', exists_and_left, exists_and_right, exists_eq, exists_const, and_assoc, ↓j_B_toldOfWord_0, ↓j_B_toldOfWord_2, ↓j_B_toldOfWord_25, ↓j_B_toldOfWord_40, ↓j_B_toldOfWord_46, ↓f_B_11, ↓f_B_15, ↓f_B_18, List.length_cons, List.length_nil, Nat.zero_add, Nat.reduceAdd, Int.reduceAdd, Int.reduceNeg, Int.reduceToNat, Int.reduceLE, Int.reduceLT, true_and, and_true, Nat.reduceLT, reduceIte, Nat.reduceEqDiff, ne_eq, not_false_eq_true, false_implies, true_implies, Bool.false_eq_true, reduceCtorEq, List.cons_append, List.nil_append, Nat.reduceSub, Nat.reduceLeDiff, Fin.isValue, Int.reduceNatCast', Int.zero_add, Int.add_zero, decide_true, decide_false, implies_true, forall_const, true_or, or_true, or_false, false_or, false_and, and_false, Int.toNat_natCast, ↓oF_1_0, ↓aF_2, ↓oF_1_1, ↓aF_3, ↓oF_1_2, ↓oF_1_3, ↓oF_1_4, ↓oF_1_5, oC_0, oC_1, oC_4, oC_11, oC_16, oC_18, oC_20, oC_23, oC_25, oC_26, oC_29, oC_31, oC_33, oC_35, oC_37, isT_29, isT_31, isT_33, isT_35, isL_16, isL_18, isL_26]
    have hw1 := hw.1
    have hw2 := hw.2.1
    (try simp only [rI_iff, rL_iff] at *)
    repeat' (with_reducible (first | assumption | apply And.intro | intro _))
    all_goals first | omega | with_reducible assumption | exact True.intro | skip
    · rfl
  · intro L st u hI
    obtain ⟨i, rfl, rfl, hi, hx, hu⟩ := hI
    simp only [↓wpN_go, jmp_e, ↓wp_aload_n0, ↓wp_bipush, ↓wp_getfield, ↓wp_goto, ↓wp_iadd, ↓wp_iaload, ↓wp_icmp_ge, ↓wp_icmp_ne, ↓wp_iconst, ↓wp_iinc, ↓wp_iload_n1, ↓wp_iload_n2, ↓wp_ireturn1, ↓wp_istore_n2, wp_nil, ↓ldI_0, ↓ldI_s, ↓ldL_0, ↓ldL_s, ↓ldR_0, ↓ldR_s, sto1_0, sto1_1, sto1_s, sto2_0, sto2_1, sto2_s, isLong_i, isLong_l, isLong_r, ↓popI_c, ↓popL_c, ↓popR_c, ↓popN_0, ↓popN_s, catS_n, catS_c, psh_s, psh_n, fldV_n, fldV_s, ↓tgt_e, sw_n, ↓sw_c, ↓lk1_h, ↓lk1_m, ↓atC_h, ↓atC_m, ↓atC_n, ltO_n, ltO_s, updR_eq, updR_ne, gI_0i, gI_0l, gI_s, ltM_iff, List.cons.injEq, Sum.inl.injEq, Sum.inr.injEq, Option.some.injEq, exists_eq_left, exists_eq_left', exists_eq_right, exists_eq_right', exists_and_left, exists_and_right, exists_eq, exists_const, and_assoc, ↓j_B_toldOfWord_0, ↓j_B_toldOfWord_2, ↓j_B_toldOfWord_25, ↓j_B_toldOfWord_40, ↓j_B_toldOfWord_46, ↓f_B_11, ↓f_B_15, ↓f_B_18, List.length_cons, List.length_nil, Nat.zero_add, Nat.reduceAdd, Int.reduceAdd, Int.reduceNeg, Int.reduceToNat, Int.reduceLE, Int.reduceLT, true_and, and_true, Nat.reduceLT, reduceIte, Nat.reduceEqDiff, ne_eq, not_false_eq_true, false_implies, true_implies, Bool.false_eq_true, reduceCtorEq, List.cons_append, List.nil_append, Nat.reduceSub, Nat.reduceLeDiff, Fin.isValue, Int.reduceNatCast', Int.zero_add, Int.add_zero, decide_true, decide_false, implies_true, forall_const, true_or, or_true, or_false, false_or, false_and, and_false, Int.toNat_natCast, ↓oF_1_0, ↓aF_2, ↓oF_1_1, ↓aF_3, ↓oF_1_2, ↓oF_1_3, ↓oF_1_4, ↓oF_1_5, oC_0, oC_1, oC_4, oC_11, oC_16, oC_18, oC_20, oC_23, oC_25, oC_26, oC_29, oC_31, oC_33, oC_35, oC_37, isT_29, isT_31, isT_33, isT_35, isL_16, isL_18, isL_26]
    subst hu
    have hw1 := hw.1
    have hw2 := hw.2.1
    have e1 : 0 ≤ i → (i + 1).toNat = i.toNat + 1 := fun h => by omega
    have e2 : toldW (u 2) (u 3) what (i.toNat + 1) = if what = 10 + i then u 2 i.toNat else if what = 20 + i then u 3 i.toNat else -2 := by
      rw [toldW, if_pos hx, Int.toNat_of_nonneg hi.1]
    have e3 : i < u 1 2 → 0 ≤ u 2 i.toNat ∧ 1 ≤ u 3 i.toNat := fun h => by
      have := hw.2.2 i.toNat (by omega)
      omega
    have e4 := toldW_on (u 2) (u 3) what (i.toNat + 1)
    (try simp only [rI_iff, rL_iff] at *)
    repeat' (with_reducible (first | assumption | apply And.intro | intro _))
    all_goals first | omega | with_reducible assumption | exact True.intro | skip
    all_goals first
      | (rw [e1 (by omega), e2]; grind)
      | (rw [show (u 1 2).toNat = i.toNat by omega, hx] at hQ; exact hQ)
      | (rw [e4 (by rw [e2]; grind) (u 1 2).toNat (by omega), e2] at hQ; grind)
def s_B_told : Spec := fun as σ Q => popR as fun c0 r0 => popI r0 fun what r1 => r1 = [] ∧ c0 = 1 ∧ (WordsOK (σ 1 2) (σ 2) (σ 3)) ∧ (rI what) ∧ Q (some (.inl (toldZ σ what))) σ
theorem e_B_told (what : Int) (σ : St) (Q : Option AV → St → Prop) : s_B_told [.inr (.inr (some 1)), .inl what] σ Q = ((WordsOK (σ 1 2) (σ 2) (σ 3)) ∧ (rI what) ∧ Q (some (.inl (toldZ σ what))) σ) := by
  show ([] = [] ∧ _) = _
  simp only [true_and]
set_option maxHeartbeats 4000000 in
set_option maxRecDepth 20000 in
theorem S_B_told {l : Launch} : Sat l y_B_told b_B_told 2 (some .int) 1 s_B_told := by
  refine sat_of (Φ := P_B) (κ := Q_B) (Γ := [(31, 1, 1, s_B_toldOfWord)]) (rt := 1) (by decide +kernel) P_B_ok Q_B_ok (by
    refine List.forall_mem_cons.mpr ⟨?_, fun _ h => absurd h List.not_mem_nil⟩
    · exact m_B_toldOfWord S_B_toldOfWord (by decide) l_B_31) (by simp) o_B_told ?_
  intro as σ Q hh0
  obtain ⟨c0, rr0, rfl, hh1⟩ := popR_inv hh0
  obtain ⟨what, rr1, rfl, hh2⟩ := popI_inv hh1
  obtain ⟨hrE, rfl, hw, hi0, hQ⟩ := hh2
  subst hrE
  clear hh0 hh1
  refine ⟨Nat.le_of_ble_eq_true rfl, [], 14, ?_, cuts0⟩
  · rw [show entL 2 [.inr (.inr (some 1)), .inl what] = [.inr (.inr (some 1)), .inl what] from rfl]
    simp only [↓wpN_go, jmp_e, ↓wp_aload_n0, ↓wp_getfield, ↓wp_iload_n1, ↓wp_invokevirtual, ↓wp_ireturn1, ↓wp_tableswitch, wp_nil, ↓ldI_0, ↓ldI_s, ↓ldL_0, ↓ldL_s, ↓ldR_0, ↓ldR_s, sto1_0, sto1_1, sto1_s, sto2_0, sto2_1, sto2_s, isLong_i, isLong_l, isLong_r, ↓popI_c, ↓popL_c, ↓popR_c, ↓popN_0, ↓popN_s, catS_n, catS_c, psh_s, psh_n, fldV_n, fldV_s, ↓tgt_e, sw_n, ↓sw_c, ↓lk1_h, ↓lk1_m, ↓atC_h, ↓atC_m, ↓atC_n, ltO_n, ltO_s, updR_eq, updR_ne, gI_0i, gI_0l, gI_s, ltM_iff, List.cons.injEq, Sum.inl.injEq, Sum.inr.injEq, Option.some.injEq, exists_eq_left, exists_eq_left', exists_eq_right, exists_eq_right', exists_and_left, exists_and_right, exists_eq, exists_const, and_assoc, ↓j_B_told_0, ↓j_B_told_32, ↓j_B_told_37, ↓j_B_told_42, ↓j_B_told_47, ↓j_B_told_52, ↓f_B_18, ↓f_B_22, ↓f_B_25, ↓f_B_28, List.length_cons, List.length_nil, Nat.zero_add, Nat.reduceAdd, Int.reduceAdd, Int.reduceNeg, Int.reduceToNat, Int.reduceLE, Int.reduceLT, true_and, and_true, Nat.reduceLT, reduceIte, Nat.reduceEqDiff, ne_eq, not_false_eq_true, false_implies, true_implies, Bool.false_eq_true, reduceCtorEq, List.cons_append, List.nil_append, Nat.reduceSub, Nat.reduceLeDiff, Fin.isValue, Int.reduceNatCast', Int.zero_add, Int.add_zero, decide_true, decide_false, implies_true, forall_const, true_or, or_true, or_false, false_or, false_and, and_false, Int.toNat_natCast, ↓oF_1_0, ↓aF_2, ↓oF_1_1, ↓aF_3, ↓oF_1_2, ↓oF_1_3, ↓oF_1_4, ↓oF_1_5, oC_0, oC_1, oC_4, oC_11, oC_16, oC_18, oC_20, oC_23, oC_25, oC_26, oC_29, oC_31, oC_33, oC_35, oC_37, isT_29, isT_31, isT_33, isT_35, isL_16, isL_18, isL_26, ↓e_B_toldOfWord]
    unfold toldZ at hQ
    (try simp only [rI_iff, rL_iff] at *)
    repeat' (with_reducible (first | assumption | apply And.intro | intro _))
    all_goals first | omega | with_reducible assumption | exact True.intro | skip
    all_goals first | (rw [if_neg (by omega), if_neg (by omega), if_neg (by omega), if_neg (by omega)] at hQ; exact hQ) | grind
