/-! the wire's tree: first rows -/
def pathV (par bit : Nat → Int) : Nat → Int → Int
  | 0, _ => 0
  | n + 1, s => bit s.toNat + 2 * pathV par bit n (par s.toNat)
def ancF (par : Nat → Int) : Nat → Int → Int
  | 0, s => s
  | n + 1, s => par (ancF par n s).toNat
def Tree (N : Int) (par dep : Nat → Int) : Prop := (0 < N → dep 0 = 0) ∧ ∀ t : Nat, 0 < t → (t : Int) < N → 0 ≤ par t ∧ par t < t ∧ dep t = dep (par t).toNat + 1
theorem Tree.dep_r {N : Int} {par dep : Nat → Int} (h : Tree N par dep) : ∀ t : Nat, (t : Int) < N → 0 ≤ dep t ∧ dep t ≤ t ∧ (dep t = 0 → t = 0) := by
  intro t
  induction t using Nat.strongRecOn with
  | _ t ih =>
    intro ht
    by_cases h0 : t = 0
    · subst h0; have := h.1 (by omega); omega
    · obtain ⟨h1, h2, h3⟩ := h.2 t (by omega) ht
      have := ih (par t).toNat (by omega) (by omega)
      omega
theorem Tree.at {N : Int} {par dep : Nat → Int} (h : Tree N par dep) {s : Int} (hs : 0 ≤ s ∧ s < N) : 0 ≤ dep s.toNat ∧ dep s.toNat ≤ s ∧ (0 < dep s.toNat → 0 ≤ par s.toNat ∧ par s.toNat < s ∧ dep s.toNat = dep (par s.toNat).toNat + 1) := by
  have h1 := h.dep_r s.toNat (by omega)
  refine ⟨h1.1, by omega, fun h2 => ?_⟩
  have h3 : 0 < s.toNat := by
    rcases Nat.eq_zero_or_pos s.toNat with e | e
    · rw [e, h.1 (by omega)] at h2; omega
    · exact e
  have h4 := h.2 s.toNat h3 (by omega)
  exact ⟨h4.1, by omega, h4.2.2⟩
theorem Tree.anc {N : Int} {par dep : Nat → Int} (h : Tree N par dep) {s : Int} (hs : 0 ≤ s ∧ s < N) : ∀ n : Nat, (n : Int) ≤ dep s.toNat → 0 ≤ ancF par n s ∧ ancF par n s < N ∧ dep (ancF par n s).toNat = dep s.toNat - n
  | 0, _ => ⟨hs.1, hs.2, by show dep s.toNat = _; omega⟩
  | n + 1, hn => by
    obtain ⟨h1, h2, h3⟩ := h.anc hs n (by omega)
    obtain ⟨h4, h5, h6⟩ := h.at ⟨h1, h2⟩
    have h7 := h6 (by omega)
    show 0 ≤ par (ancF par n s).toNat ∧ par (ancF par n s).toNat < N ∧ dep (par (ancF par n s).toNat).toNat = _
    omega
theorem lorZ_add {r b : Int} {i : Nat} (hr : 0 ≤ r ∧ r < 2 ^ i) (hb : b = 0 ∨ b = 1) (hi : i ≤ 61) : lorZ r (b * 2 ^ i) = r + b * 2 ^ i := by
  have hp : (0 : Int) < 2 ^ i := Int.pow_pos (by omega)
  have hp2 : (2 : Int) ^ i ≤ 2305843009213693952 := by
    have : (2 : Nat) ^ i ≤ 2 ^ 61 := Nat.pow_le_pow_right (by omega) hi
    have e : ((2 ^ i : Nat) : Int) = 2 ^ i := by rw [Int.natCast_pow]; rfl
    omega
  obtain ⟨m, rfl⟩ := Int.eq_ofNat_of_zero_le hr.1
  have hm : m < 2 ^ i := by
    have e : ((2 ^ i : Nat) : Int) = 2 ^ i := by rw [Int.natCast_pow]; rfl
    omega
  unfold lorZ
  have hx : ∀ k : Nat, k ≤ 1 → (Int64.ofInt (m : Int) ||| Int64.ofInt ((k : Int) * 2 ^ i)).toInt = m + k * 2 ^ i := by
    intro k hk
    have hk2 : (k : Int) * 2 ^ i ≤ 1 * 2 ^ i := Int.mul_le_mul_of_nonneg_right (by omega) (by omega)
    have hk3 : (0 : Int) ≤ (k : Int) * 2 ^ i := Int.mul_nonneg (by omega) (by omega)
    have e1 : (Int64.ofInt (m : Int)).toBitVec.toNat = m := by rw [zL_natE, Int.emod_eq_of_lt (by omega) (by omega)]; omega
    have e2 : (Int64.ofInt ((k : Int) * 2 ^ i)).toBitVec.toNat = 2 ^ i * k := by
      rw [zL_natE, Int.emod_eq_of_lt hk3 (by omega)]
      have e : (((2 ^ i * k : Nat)) : Int) = (k : Int) * 2 ^ i := by rw [Int.natCast_mul, Int.natCast_pow, Int.mul_comm]; rfl
      omega
    have e3 : (Int64.ofInt (m : Int) ||| Int64.ofInt ((k : Int) * 2 ^ i)) = Int64.ofInt (m + k * 2 ^ i) := by
      apply zL_ext
      rw [Int64.toBitVec_or, BitVec.toNat_or, e1, e2, Nat.or_comm, ← Nat.two_pow_add_eq_or_of_lt hm, zL_nat, Int.emod_eq_of_lt (by omega) (by omega), Int.natCast_add, Int.natCast_mul, Int.natCast_pow, Int.mul_comm]
      show (k : Int) * 2 ^ i + (m : Int) = _
      omega
    rw [e3]
    exact zL_toInt (by unfold rL; omega)
  rcases hb with rfl | rfl
  · exact hx 0 (by omega)
  · exact hx 1 (by omega)
def leadG (par bit : Nat → Int) (d s : Int) (lo : Int) (f : Nat → Int) : Nat → Int := fun j => if lo < j ∧ (j : Int) < d then bit (ancF par (d - 1 - j).toNat s).toNat else f j
theorem leadG_app (par bit : Nat → Int) (d s lo : Int) (f : Nat → Int) (j : Nat) : leadG par bit d s lo f j = if lo < j ∧ (j : Int) < d then bit (ancF par (d - 1 - j).toNat s).toNat else f j := (rfl)
theorem leadG_up {par bit : Nat → Int} {d s i : Int} {f : Nat → Int} (h : 0 ≤ i ∧ i < d) : up1 (leadG par bit d s i f) i.toNat (bit (ancF par (d - 1 - i).toNat s).toNat) = leadG par bit d s (i - 1) f := by
  funext j
  rw [up1_app, leadG_app, leadG_app]
  by_cases e : j = i.toNat
  · rw [if_pos e, if_pos (by omega), show ((j : Int)) = i by omega]
  · rw [if_neg e]
    by_cases h1 : i < j ∧ (j : Int) < d
    · rw [if_pos h1, if_pos (by omega)]
    · rw [if_neg h1, if_neg (by omega)]
def s_W_shortestRow : Spec := fun as σ Q => popR as fun c0 r0 => popI r0 fun s r1 => r1 = [] ∧ c0 = 11 ∧ (0 ≤ σ 11 4 ∧ σ 11 4 ≤ 100) ∧ (0 ≤ s ∧ s < σ 11 4) ∧ (Tree (σ 11 4) (σ 13) (σ 15)) ∧ (isBits (σ 14)) ∧ Q (some (.inr (.inl (if σ 15 s.toNat ≤ 60 then pathV (σ 13) (σ 14) (σ 15 s.toNat).toNat s else -1)))) σ
theorem e_W_shortestRow (s : Int) (σ : St) (Q : Option AV → St → Prop) : s_W_shortestRow [.inr (.inr (some 11)), .inl s] σ Q = ((0 ≤ σ 11 4 ∧ σ 11 4 ≤ 100) ∧ (0 ≤ s ∧ s < σ 11 4) ∧ (Tree (σ 11 4) (σ 13) (σ 15)) ∧ (isBits (σ 14)) ∧ Q (some (.inr (.inl (if σ 15 s.toNat ≤ 60 then pathV (σ 13) (σ 14) (σ 15 s.toNat).toNat s else -1)))) σ) := by
  show ([] = [] ∧ _) = _
  simp only [true_and]
set_option maxHeartbeats 4000000 in
set_option maxRecDepth 20000 in
theorem S_W_shortestRow {l : Launch} : Sat l y_W_shortestRow b_W_shortestRow 7 (some .long) 2 s_W_shortestRow := by
  refine sat_of (Φ := P_W) (κ := Q_W) (Γ := [(60, 8, 1, s_W_depthOf), (66, 8, 1, s_W_lastBitOf), (69, 8, 1, s_W_parentOf)]) (rt := 2) (by decide +kernel) P_W_ok Q_W_ok (by
    refine List.forall_mem_cons.mpr ⟨?_, List.forall_mem_cons.mpr ⟨?_, List.forall_mem_cons.mpr ⟨?_, fun _ h => absurd h List.not_mem_nil⟩⟩⟩
    · exact m_W_depthOf S_W_depthOf (by decide) l_W_60
    · exact m_W_lastBitOf S_W_lastBitOf (by decide) l_W_66
    · exact m_W_parentOf S_W_parentOf (by decide) l_W_69) (by simp) o_W_shortestRow ?_
  intro as σ Q hh0
  obtain ⟨c0, rr0, rfl, hh1⟩ := popR_inv hh0
  obtain ⟨s, rr1, rfl, hh2⟩ := popI_inv hh1
  obtain ⟨hrE, rfl, hN, hs, hT, hb, hQ⟩ := hh2
  subst hrE
  clear hh0 hh1
  refine ⟨Nat.le_of_ble_eq_true rfl, [(24, mkC (fun L st u => ∃ (x a i : Int), L = [.inr (.inr (some 11)), .inl s, .inl (σ 15 s.toNat), .inr (.inl x), .inr (.inr none), .inl a, .inl i] ∧ st = [] ∧ (σ 15 s.toNat ≤ 60) ∧ (0 ≤ i ∧ i ≤ σ 15 s.toNat) ∧ (0 ≤ a ∧ a < σ 11 4 ∧ σ 15 a.toNat = σ 15 s.toNat - i) ∧ (x + 2 ^ i.toNat * pathV (σ 13) (σ 14) (σ 15 s.toNat - i).toNat a = pathV (σ 13) (σ 14) (σ 15 s.toNat).toNat s) ∧ (0 ≤ x ∧ x < 2 ^ i.toNat) ∧ (u = σ)) (fun L st u => ((61 - gI L 6).toNat, 0, 0)))], 14, ?_, cuts1 ?_ (cuts0)⟩
  · rw [show entL 7 [.inr (.inr (some 11)), .inl s] = [.inr (.inr (some 11)), .inl s, .inr (.inr none), .inr (.inr none), .inr (.inr none), .inr (.inr none), .inr (.inr none)] from rfl]
    simp only [↓wpN_go, jmp_e, ↓wp_aload_n0, ↓wp_bipush, ↓wp_goto, ↓wp_i2l, ↓wp_icmp_ge, ↓wp_icmp_le, ↓wp_iconst, ↓wp_iinc, ↓wp_iload, ↓wp_iload_n1, ↓wp_iload_n2, ↓wp_invokevirtual, ↓wp_istore, ↓wp_istore_n2, ↓wp_lconst0, ↓wp_ldc2_w, ↓wp_lload_n3, ↓wp_lor, ↓wp_lreturn2, ↓wp_lshl, ↓wp_lstore_n3, wp_nil, ↓ldI_0, ↓ldI_s, ↓ldL_0, ↓ldL_s, ↓ldR_0, ↓ldR_s, sto1_0, sto1_1, sto1_s, sto2_0, sto2_1, sto2_s, isLong_i, isLong_l, isLong_r, ↓popI_c, ↓popL_c, ↓popR_c, ↓popN_0, ↓popN_s, catS_n, catS_c, psh_s, psh_n, fldV_n, fldV_s, ↓tgt_e, sw_n, ↓sw_c, ↓lk1_h, ↓lk1_m, ↓atC_h, ↓atC_m, ↓atC_n, ltO_n, ltO_s, updR_eq, updR_ne, gI_0i, gI_0l, gI_s, ltM_iff, List.cons.injEq, Sum.inl.injEq, Sum.inr.injEq, Option.some.injEq, exists_eq_left, exists_eq_left', exists_eq_right, exists_eq_right', exists_and_left, exists_and_right, exists_eq, exists_const, and_assoc, ↓j_W_shortestRow_0, ↓j_W_shortestRow_16, ↓j_W_shortestRow_24, ↓j_W_shortestRow_57, ↓c_W_100064, List.length_cons, List.length_nil, Nat.zero_add, Nat.reduceAdd, Int.reduceAdd, Int.reduceNeg, Int.reduceToNat, Int.reduceLE, Int.reduceLT, true_and, and_true, Nat.reduceLT, reduceIte, Nat.reduceEqDiff, ne_eq, not_false_eq_true, false_implies, true_implies, Bool.false_eq_true, reduceCtorEq, List.cons_append, List.nil_append, Nat.reduceSub, Nat.reduceLeDiff, Fin.isValue, Int.reduceNatCast', Int.zero_add, Int.add_zero, decide_true, decide_false, implies_true, forall_const, true_or, or_true, or_false, false_or, false_and, and_false, Int.toNat_natCast, ↓oF_11_0, ↓aF_12, ↓oF_11_1, ↓aF_13, ↓oF_11_2, ↓aF_14, ↓oF_11_3, ↓aF_15, ↓oF_11_4, oC_0, oC_1, oC_4, oC_11, oC_16, oC_18, oC_20, oC_23, oC_25, oC_26, oC_29, oC_31, oC_33, oC_35, oC_37, isT_29, isT_31, isT_33, isT_35, isL_16, isL_18, isL_26, ↓e_W_depthOf, ↓e_W_lastBitOf, ↓e_W_parentOf]
    have h1 := hT.at hs
    (try simp only [rI_iff, rL_iff] at *)
    repeat' (first | assumption | apply And.intro | intro _)
    all_goals first | omega | assumption | exact True.intro | skip
    all_goals grind [pathV]
  · intro L st u hI
    obtain ⟨x, a, i, rfl, rfl, hd, hi, ha, hx, hxr, hu⟩ := hI
    simp only [↓wpN_go, jmp_e, ↓wp_aload_n0, ↓wp_bipush, ↓wp_goto, ↓wp_i2l, ↓wp_icmp_ge, ↓wp_icmp_le, ↓wp_iconst, ↓wp_iinc, ↓wp_iload, ↓wp_iload_n1, ↓wp_iload_n2, ↓wp_invokevirtual, ↓wp_istore, ↓wp_istore_n2, ↓wp_lconst0, ↓wp_ldc2_w, ↓wp_lload_n3, ↓wp_lor, ↓wp_lreturn2, ↓wp_lshl, ↓wp_lstore_n3, wp_nil, ↓ldI_0, ↓ldI_s, ↓ldL_0, ↓ldL_s, ↓ldR_0, ↓ldR_s, sto1_0, sto1_1, sto1_s, sto2_0, sto2_1, sto2_s, isLong_i, isLong_l, isLong_r, ↓popI_c, ↓popL_c, ↓popR_c, ↓popN_0, ↓popN_s, catS_n, catS_c, psh_s, psh_n, fldV_n, fldV_s, ↓tgt_e, sw_n, ↓sw_c, ↓lk1_h, ↓lk1_m, ↓atC_h, ↓atC_m, ↓atC_n, ltO_n, ltO_s, updR_eq, updR_ne, gI_0i, gI_0l, gI_s, ltM_iff, List.cons.injEq, Sum.inl.injEq, Sum.inr.injEq, Option.some.injEq, exists_eq_left, exists_eq_left', exists_eq_right, exists_eq_right', exists_and_left, exists_and_right, exists_eq, exists_const, and_assoc, ↓j_W_shortestRow_0, ↓j_W_shortestRow_16, ↓j_W_shortestRow_24, ↓j_W_shortestRow_57, ↓c_W_100064, List.length_cons, List.length_nil, Nat.zero_add, Nat.reduceAdd, Int.reduceAdd, Int.reduceNeg, Int.reduceToNat, Int.reduceLE, Int.reduceLT, true_and, and_true, Nat.reduceLT, reduceIte, Nat.reduceEqDiff, ne_eq, not_false_eq_true, false_implies, true_implies, Bool.false_eq_true, reduceCtorEq, List.cons_append, List.nil_append, Nat.reduceSub, Nat.reduceLeDiff, Fin.isValue, Int.reduceNatCast', Int.zero_add, Int.add_zero, decide_true, decide_false, implies_true, forall_const, true_or, or_true, or_false, false_or, false_and, and_false, Int.toNat_natCast, ↓oF_11_0, ↓aF_12, ↓oF_11_1, ↓aF_13, ↓oF_11_2, ↓aF_14, ↓oF_11_3, ↓aF_15, ↓oF_11_4, oC_0, oC_1, oC_4, oC_11, oC_16, oC_18, oC_20, oC_23, oC_25, oC_26, oC_29, oC_31, oC_33, oC_35, oC_37, isT_29, isT_31, isT_33, isT_35, isL_16, isL_18, isL_26, ↓e_W_depthOf, ↓e_W_lastBitOf, ↓e_W_parentOf]
    subst hu
    have h1 := hT.at hs
    have h2 := hT.at ⟨ha.1, ha.2.1⟩
    have h3 := hb a.toNat
    have hp : (2 : Int) ^ i.toNat ≤ 1152921504606846976 := by
      have : (2 : Nat) ^ i.toNat ≤ 2 ^ 60 := Nat.pow_le_pow_right (by omega) (by omega)
      have e : ((2 ^ i.toNat : Nat) : Int) = 2 ^ i.toNat := by rw [Int.natCast_pow]; rfl
      omega
    simp only [ha.1, ha.2.1, true_and, reduceIte, and_self]
    by_cases hi2 : i < u 15 s.toNat
    · rw [lorZ_add hxr h3 (by omega)]
      have h4 := h2.2.2 (by omega)
      have e1 : (u 15 s.toNat - i).toNat = (u 15 s.toNat - (i + 1)).toNat + 1 := by omega
      have e2 : (i + 1).toNat = i.toNat + 1 := by omega
      rw [e1, pathV] at hx
      rw [e2, Int.pow_succ]
      (try simp only [rI_iff, rL_iff] at *)
      repeat' (first | assumption | apply And.intro | intro _)
      all_goals first | omega | assumption | exact True.intro | skip
      all_goals grind
    · have e3 : (u 15 s.toNat - i).toNat = 0 := by omega
      rw [e3, pathV] at hx
      (try simp only [rI_iff, rL_iff] at *)
      repeat' (first | assumption | apply And.intro | intro _)
      all_goals first | omega | assumption | exact True.intro | skip
      all_goals grind
def s_T_setPath : Spec := fun as σ Q => popR as fun o r0 => popR r0 fun c1 r1 => popI r1 fun s r2 => r2 = [] ∧ c1 = 11 ∧ (isT o) ∧ (11 ≠ o ∧ 13 ≠ o ∧ 14 ≠ o ∧ 15 ≠ o ∧ 11 ≠ o + 1 ∧ 13 ≠ o + 1 ∧ 14 ≠ o + 1 ∧ 15 ≠ o + 1) ∧ (0 ≤ σ 11 4 ∧ σ 11 4 ≤ 100) ∧ (0 ≤ s ∧ s < σ 11 4) ∧ (Tree (σ 11 4) (σ 13) (σ 15)) ∧ Q none (updR (updR σ o (up1 (σ o) 1 (σ 15 s.toNat))) (o + 1) (leadG (σ 13) (σ 14) (σ 15 s.toNat) s (-1) (σ (o + 1))))
theorem e_T_setPath (o : Nat) (s : Int) (σ : St) (Q : Option AV → St → Prop) : s_T_setPath [.inr (.inr (some o)), .inr (.inr (some 11)), .inl s] σ Q = ((isT o) ∧ (11 ≠ o ∧ 13 ≠ o ∧ 14 ≠ o ∧ 15 ≠ o ∧ 11 ≠ o + 1 ∧ 13 ≠ o + 1 ∧ 14 ≠ o + 1 ∧ 15 ≠ o + 1) ∧ (0 ≤ σ 11 4 ∧ σ 11 4 ≤ 100) ∧ (0 ≤ s ∧ s < σ 11 4) ∧ (Tree (σ 11 4) (σ 13) (σ 15)) ∧ Q none (updR (updR σ o (up1 (σ o) 1 (σ 15 s.toNat))) (o + 1) (leadG (σ 13) (σ 14) (σ 15 s.toNat) s (-1) (σ (o + 1))))) := by
  show ([] = [] ∧ _) = _
  simp only [true_and]
set_option maxHeartbeats 4000000 in
set_option maxRecDepth 20000 in
theorem S_T_setPath {l : Launch} : Sat l y_T_setPath b_T_setPath 5 none 2 s_T_setPath := by
  refine sat_of (Φ := P_T) (κ := Q_T) (Γ := [(38, 8, 1, s_W_depthOf), (19, 0, 2, s_JM_min), (43, 8, 1, s_W_lastBitOf), (46, 8, 1, s_W_parentOf)]) (rt := 0) (by decide +kernel) P_T_ok Q_T_ok (by
    refine List.forall_mem_cons.mpr ⟨?_, List.forall_mem_cons.mpr ⟨?_, List.forall_mem_cons.mpr ⟨?_, List.forall_mem_cons.mpr ⟨?_, fun _ h => absurd h List.not_mem_nil⟩⟩⟩⟩
    · exact m_W_depthOf S_W_depthOf (by decide) l_T_38
    · exact m_JM_min S_JM_min (by decide) l_T_19
    · exact m_W_lastBitOf S_W_lastBitOf (by decide) l_T_43
    · exact m_W_parentOf S_W_parentOf (by decide) l_T_46) (by simp) o_T_setPath ?_
  intro as σ Q hh0
  obtain ⟨o, rr0, rfl, hh1⟩ := popR_inv hh0
  obtain ⟨c1, rr1, rfl, hh2⟩ := popR_inv hh1
  obtain ⟨s, rr2, rfl, hh3⟩ := popI_inv hh2
  obtain ⟨hrE, rfl, hO, hne, hN, hs, hT, hQ⟩ := hh3
  subst hrE
  clear hh0 hh1 hh2
  refine ⟨Nat.le_of_ble_eq_true rfl, [(25, mkC (fun L st u => ∃ (a i : Int), L = [.inr (.inr (some o)), .inr (.inr (some 11)), .inl s, .inl a, .inl i] ∧ st = [] ∧ (-1 ≤ i ∧ i < σ 15 s.toNat) ∧ (a = ancF (σ 13) (σ 15 s.toNat - 1 - i).toNat s) ∧ (u = updR (updR σ o (up1 (σ o) 1 (σ 15 s.toNat))) (o + 1) (leadG (σ 13) (σ 14) (σ 15 s.toNat) s i (σ (o + 1))))) (fun L st u => ((gI L 4 + 1).toNat, 0, 0)))], 14, ?_, cuts1 ?_ (cuts0)⟩
  · rw [show entL 5 [.inr (.inr (some o)), .inr (.inr (some 11)), .inl s] = [.inr (.inr (some o)), .inr (.inr (some 11)), .inl s, .inr (.inr none), .inr (.inr none)] from rfl]
    simp only [↓wpN_go, jmp_e, ↓wp_aload_n0, ↓wp_aload_n1, ↓wp_getfield, ↓wp_goto, ↓wp_iastore, ↓wp_iconst, ↓wp_if_lt, ↓wp_iinc, ↓wp_iload, ↓wp_iload_n2, ↓wp_iload_n3, ↓wp_invokestatic, ↓wp_invokevirtual, ↓wp_istore, ↓wp_istore_n3, ↓wp_isub, ↓wp_putfield, ↓wp_return0, ↓wp_sipush, wp_nil, ↓ldI_0, ↓ldI_s, ↓ldL_0, ↓ldL_s, ↓ldR_0, ↓ldR_s, sto1_0, sto1_1, sto1_s, sto2_0, sto2_1, sto2_s, isLong_i, isLong_l, isLong_r, ↓popI_c, ↓popL_c, ↓popR_c, ↓popN_0, ↓popN_s, catS_n, catS_c, psh_s, psh_n, fldV_n, fldV_s, ↓tgt_e, sw_n, ↓sw_c, ↓lk1_h, ↓lk1_m, ↓atC_h, ↓atC_m, ↓atC_n, ltO_n, ltO_s, updR_eq, updR_ne, gI_0i, gI_0l, gI_s, ltM_iff, List.cons.injEq, Sum.inl.injEq, Sum.inr.injEq, Option.some.injEq, exists_eq_left, exists_eq_left', exists_eq_right, exists_eq_right', exists_and_left, exists_and_right, exists_eq, exists_const, and_assoc, ↓j_T_setPath_0, ↓j_T_setPath_25, ↓j_T_setPath_54, ↓f_T_15, ↓f_T_9, List.length_cons, List.length_nil, Nat.zero_add, Nat.reduceAdd, Int.reduceAdd, Int.reduceNeg, Int.reduceToNat, Int.reduceLE, Int.reduceLT, true_and, and_true, Nat.reduceLT, reduceIte, Nat.reduceEqDiff, ne_eq, not_false_eq_true, false_implies, true_implies, Bool.false_eq_true, reduceCtorEq, List.cons_append, List.nil_append, Nat.reduceSub, Nat.reduceLeDiff, Fin.isValue, Int.reduceNatCast', Int.zero_add, Int.add_zero, decide_true, decide_false, implies_true, forall_const, true_or, or_true, or_false, false_or, false_and, and_false, Int.toNat_natCast, oC_0, oC_1, oC_4, oC_11, oC_16, oC_18, oC_20, oC_23, oC_25, oC_26, oC_29, oC_31, oC_33, oC_35, oC_37, isT_29, isT_31, isT_33, isT_35, isL_16, isL_18, isL_26, ↓hO.f0, ↓hO.f1, ↓hO.a, hO.c, updR_o1, updR_o2, eq_true hO, updR_ne _ _ _ _ hne.1, updR_ne _ _ _ _ hne.2.1, updR_ne _ _ _ _ hne.2.2.1, updR_ne _ _ _ _ hne.2.2.2.1, updR_ne _ _ _ _ hne.2.2.2.2.1, updR_ne _ _ _ _ hne.2.2.2.2.2.1, updR_ne _ _ _ _ hne.2.2.2.2.2.2.1, updR_ne _ _ _ _ hne.2.2.2.2.2.2.2, updR_twice, ↓e_W_depthOf, ↓e_JM_min, ↓e_W_lastBitOf, ↓e_W_parentOf]
    have h1 := hT.at hs
    simp only [if_pos hs, show min (σ 15 s.toNat) 600 = σ 15 s.toNat by omega, up1_eq, show σ 15 s.toNat - 1 - (σ 15 s.toNat - 1) = 0 by omega]
    (try simp only [rI_iff, rL_iff] at *)
    repeat' (first | assumption | apply And.intro | intro _)
    all_goals first | omega | assumption | exact True.intro | skip
    · rfl
    · refine st_ext fun k j => ?_
      grind [updR_app, up1_app, leadG_app]
  · intro L st u hI
    obtain ⟨a, i, rfl, rfl, hi, ha, hu⟩ := hI
    simp only [↓wpN_go, jmp_e, ↓wp_aload_n0, ↓wp_aload_n1, ↓wp_getfield, ↓wp_goto, ↓wp_iastore, ↓wp_iconst, ↓wp_if_lt, ↓wp_iinc, ↓wp_iload, ↓wp_iload_n2, ↓wp_iload_n3, ↓wp_invokestatic, ↓wp_invokevirtual, ↓wp_istore, ↓wp_istore_n3, ↓wp_isub, ↓wp_putfield, ↓wp_return0, ↓wp_sipush, wp_nil, ↓ldI_0, ↓ldI_s, ↓ldL_0, ↓ldL_s, ↓ldR_0, ↓ldR_s, sto1_0, sto1_1, sto1_s, sto2_0, sto2_1, sto2_s, isLong_i, isLong_l, isLong_r, ↓popI_c, ↓popL_c, ↓popR_c, ↓popN_0, ↓popN_s, catS_n, catS_c, psh_s, psh_n, fldV_n, fldV_s, ↓tgt_e, sw_n, ↓sw_c, ↓lk1_h, ↓lk1_m, ↓atC_h, ↓atC_m, ↓atC_n, ltO_n, ltO_s, updR_eq, updR_ne, gI_0i, gI_0l, gI_s, ltM_iff, List.cons.injEq, Sum.inl.injEq, Sum.inr.injEq, Option.some.injEq, exists_eq_left, exists_eq_left', exists_eq_right, exists_eq_right', exists_and_left, exists_and_right, exists_eq, exists_const, and_assoc, ↓j_T_setPath_0, ↓j_T_setPath_25, ↓j_T_setPath_54, ↓f_T_15, ↓f_T_9, List.length_cons, List.length_nil, Nat.zero_add, Nat.reduceAdd, Int.reduceAdd, Int.reduceNeg, Int.reduceToNat, Int.reduceLE, Int.reduceLT, true_and, and_true, Nat.reduceLT, reduceIte, Nat.reduceEqDiff, ne_eq, not_false_eq_true, false_implies, true_implies, Bool.false_eq_true, reduceCtorEq, List.cons_append, List.nil_append, Nat.reduceSub, Nat.reduceLeDiff, Fin.isValue, Int.reduceNatCast', Int.zero_add, Int.add_zero, decide_true, decide_false, implies_true, forall_const, true_or, or_true, or_false, false_or, false_and, and_false, Int.toNat_natCast, oC_0, oC_1, oC_4, oC_11, oC_16, oC_18, oC_20, oC_23, oC_25, oC_26, oC_29, oC_31, oC_33, oC_35, oC_37, isT_29, isT_31, isT_33, isT_35, isL_16, isL_18, isL_26, ↓hO.f0, ↓hO.f1, ↓hO.a, hO.c, updR_o1, updR_o2, eq_true hO, updR_ne _ _ _ _ hne.1, updR_ne _ _ _ _ hne.2.1, updR_ne _ _ _ _ hne.2.2.1, updR_ne _ _ _ _ hne.2.2.2.1, updR_ne _ _ _ _ hne.2.2.2.2.1, updR_ne _ _ _ _ hne.2.2.2.2.2.1, updR_ne _ _ _ _ hne.2.2.2.2.2.2.1, updR_ne _ _ _ _ hne.2.2.2.2.2.2.2, updR_twice, ↓e_W_depthOf, ↓e_JM_min, ↓e_W_lastBitOf, ↓e_W_parentOf]
    subst hu
    have h1 := hT.anc hs (σ 15 s.toNat - 1 - i).toNat (by omega)
    rw [← ha] at h1
    have h2 := hT.at hs
    simp only [updR_ne _ _ _ _ hne.1, updR_ne _ _ _ _ hne.2.1, updR_ne _ _ _ _ hne.2.2.1, updR_ne _ _ _ _ hne.2.2.2.1, updR_ne _ _ _ _ hne.2.2.2.2.1, updR_ne _ _ _ _ hne.2.2.2.2.2.1, updR_ne _ _ _ _ hne.2.2.2.2.2.2.1, updR_ne _ _ _ _ hne.2.2.2.2.2.2.2, updR_eq, if_pos (show 0 ≤ a ∧ a < σ 11 4 from ⟨h1.1, h1.2.1⟩), updR_twice]
    (try simp only [rI_iff, rL_iff] at *)
    repeat' (first | assumption | apply And.intro | intro _)
    all_goals first | omega | assumption | exact True.intro | skip
    · have : i = -1 := by omega
      subst this
      exact hQ
    · rw [show (σ 15 s.toNat - 1 - (i + -1)).toNat = (σ 15 s.toNat - 1 - i).toNat + 1 by omega, ancF, ← ha]
    · rw [ha, leadG_up ⟨by assumption, hi.2⟩]
      rfl
