/-! words that never come: the search -/
def EndP (N : Int) (f : Nat → Int) (n : Nat) (w s : Int) : Prop := ∃ t, 0 ≤ t ∧ t < N ∧ folZ N f w n t = s ∧ s ≠ -1
def Miss (N : Int) (f : Nat → Int) (n : Nat) (w : Int) : Prop := ∀ t, 0 ≤ t → t < N → folZ N f w n t = -1
theorem miss_end {N : Int} {f : Nat → Int} {n : Nat} {w : Int} : Miss N f n w ↔ ∀ s, ¬ EndP N f n w s := by
  constructor
  · rintro h s ⟨t, h1, h2, h3, h4⟩
    exact h4 (h3 ▸ h t h1 h2)
  · intro h t h1 h2
    apply Classical.byContradiction
    intro hc
    exact h _ ⟨t, h1, h2, rfl, hc⟩
theorem bitZ_half (w : Int) (i : Nat) : bitZ w (i + 1) = bitZ (w / 2) i := by
  unfold bitZ
  rw [Int.pow_succ, Int.mul_comm, ← Int.ediv_ediv_of_nonneg (by omega)]
theorem folZ_snoc {N : Int} {f : Nat → Int} (w : Int) : ∀ (n : Nat) (t : Int), folZ N f w (n + 1) t = stepZ N f (folZ N f (w / 2) n t) (w % 2)
  | 0, t => by
    show folZ N f w 0 (stepZ N f t (bitZ w 0)) = _
    have : bitZ w 0 = w % 2 := by unfold bitZ; rw [Int.pow_zero, Int.ediv_one]
    rw [this]
    rfl
  | n + 1, t => by
    show folZ N f w (n + 1) (stepZ N f t (bitZ w (n + 1))) = stepZ N f (folZ N f (w / 2) n (stepZ N f t (bitZ (w / 2) n))) (w % 2)
    rw [folZ_snoc w n, bitZ_half]
theorem stepZ_m (N : Int) (f : Nat → Int) (b : Int) : stepZ N f (-1) b = -1 := by unfold stepZ; rw [if_neg (by omega)]
theorem end_snoc {N : Int} {f : Nat → Int} {n : Nat} {w s : Int} : EndP N f (n + 1) w s ↔ ∃ r, EndP N f n (w / 2) r ∧ stepZ N f r (w % 2) = s ∧ s ≠ -1 := by
  constructor
  · rintro ⟨t, h1, h2, h3, h4⟩
    rw [folZ_snoc] at h3
    refine ⟨_, ⟨t, h1, h2, rfl, fun hc => ?_⟩, h3, h4⟩
    rw [hc, stepZ_m] at h3
    exact h4 h3.symm
  · rintro ⟨r, ⟨t, h1, h2, h3, h4⟩, h5, h6⟩
    exact ⟨t, h1, h2, by rw [folZ_snoc, h3]; exact h5, h6⟩
def SetIs (N : Int) (f : Nat → Int) (lo hi : Int) (n : Nat) (w : Int) : Prop := rL lo ∧ rL hi ∧ ∀ s, hasE lo hi s ↔ EndP N f n w s
def Tab (N : Int) (f g h : Nat → Int) (n : Nat) (c : Int) : Prop := ∀ w : Nat, (w : Int) < c → SetIs N f (g (2 ^ n + w)) (h (2 ^ n + w)) n w
def FirstMiss (N : Int) (f : Nat → Int) (n w : Int) : Prop := 1 ≤ n ∧ 0 ≤ w ∧ w < 2 ^ n.toNat ∧ Miss N f n.toNat w ∧ (∀ v, 0 ≤ v → v < w → ¬ Miss N f n.toNat v) ∧ ∀ k : Nat, 1 ≤ k → (k : Int) < n → ∀ v, 0 ≤ v → v < 2 ^ k → ¬ Miss N f k v
theorem set_none {N : Int} {f : Nat → Int} {lo hi : Int} {n : Nat} {w : Int} (h : SetIs N f lo hi n w) : (lo = 0 ∧ hi = 0) ↔ Miss N f n w := by
  rw [hasE_none h.1 h.2.1, miss_end]
  exact ⟨fun g s q => g s ((h.2.2 s).mpr q), fun g s q => g s ((h.2.2 s).mp q)⟩
theorem hasE_split {N : Int} {f : Nat → Int} {lo hi b s : Int} : ((∃ i : Nat, tb lo i = true ∧ stepZ N f i b = s ∧ s ≠ -1) ∨ ∃ i : Nat, tb hi i = true ∧ stepZ N f (64 + i) b = s ∧ s ≠ -1) ↔ ∃ r, hasE lo hi r ∧ stepZ N f r b = s ∧ s ≠ -1 := by
  constructor
  · rintro (⟨i, h1, h2, h3⟩ | ⟨i, h1, h2, h3⟩)
    · refine ⟨i, ⟨by omega, ?_⟩, h2, h3⟩
      have : i < 64 := by
        apply Classical.byContradiction
        intro hc
        rw [tb_ge _ (by omega)] at h1
        cases h1
      rw [if_pos (by omega), Int.toNat_natCast]
      exact h1
    · refine ⟨64 + i, ⟨by omega, ?_⟩, h2, h3⟩
      rw [if_neg (by omega), show ((64 : Int) + i - 64).toNat = i by omega]
      exact h1
  · rintro ⟨r, ⟨h1, h2⟩, h3, h4⟩
    by_cases h : r < 64
    · rw [if_pos h] at h2
      exact Or.inl ⟨r.toNat, h2, by rw [Int.toNat_of_nonneg h1]; exact h3, h4⟩
    · rw [if_neg h] at h2
      exact Or.inr ⟨(r - 64).toNat, h2, by rw [Int.toNat_of_nonneg (by omega), show 64 + (r - 64) = r by omega]; exact h3, h4⟩
theorem putE_trans {σ u v : St} {x : Int} {P R : Int → Prop} (h1 : PutE σ u x P) (h2 : PutE u v x R) : PutE σ v x R := by
  obtain ⟨g, h, rfl, a1, a2, a3, a4⟩ := h1
  obtain ⟨g2, h2, rfl, b1, b2, b3, b4⟩ := h2
  refine ⟨g2, h2, ?_, fun j hj => ?_, b2, b3, b4⟩
  · refine st_ext fun k j => ?_
    grind [updR_app]
  · have := b1 j hj
    rw [updR_ne _ 22 21 _ (by decide), updR_eq, updR_eq] at this
    rw [this.1, this.2]
    exact a1 j hj
theorem p2_13 {n : Nat} (h : n ≤ 12) : (1 : Int) ≤ 2 ^ n ∧ (2 : Int) ^ n ≤ 4096 ∧ ((2 ^ n : Nat) : Int) = 2 ^ n := by
  have : (2 : Nat) ^ n ≤ 2 ^ 12 := Nat.pow_le_pow_right (by omega) h
  have e : ((2 ^ n : Nat) : Int) = 2 ^ n := by rw [Int.natCast_pow]; rfl
  have := Nat.two_pow_pos n
  omega
def s_S_startAnywhere : Spec := fun as σ Q => popR as fun c0 r0 => popR r0 fun c1 r1 => r1 = [] ∧ c0 = 20 ∧ c1 = 11 ∧ (0 ≤ σ 11 4 ∧ σ 11 4 ≤ 100) ∧ ∀ σ', PutE σ σ' 1 (fun s => 0 ≤ s ∧ s < σ 11 4) → Q none σ'
theorem e_S_startAnywhere  (σ : St) (Q : Option AV → St → Prop) : s_S_startAnywhere [.inr (.inr (some 20)), .inr (.inr (some 11))] σ Q = ((0 ≤ σ 11 4 ∧ σ 11 4 ≤ 100) ∧ ∀ σ', PutE σ σ' 1 (fun s => 0 ≤ s ∧ s < σ 11 4) → Q none σ') := by
  show ([] = [] ∧ _) = _
  simp only [true_and]
set_option maxHeartbeats 4000000 in
set_option maxRecDepth 20000 in
theorem S_S_startAnywhere {l : Launch} : Sat l y_S_startAnywhere b_S_startAnywhere 3 none 1 s_S_startAnywhere := by
  refine sat_of (Φ := P_S) (κ := Q_S) (Γ := [(39, 8, 0, s_W_size), (45, 6, 2, s_S_addEnd)]) (rt := 0) (by decide +kernel) P_S_ok Q_S_ok (by
    refine List.forall_mem_cons.mpr ⟨?_, List.forall_mem_cons.mpr ⟨?_, fun _ h => absurd h List.not_mem_nil⟩⟩
    · exact m_W_size S_W_size (by decide) l_S_39
    · exact m_S_addEnd S_S_addEnd (by decide) l_S_45) (by simp) o_S_startAnywhere ?_
  intro as σ Q hh0
  obtain ⟨c0, rr0, rfl, hh1⟩ := popR_inv hh0
  obtain ⟨c1, rr1, rfl, hh2⟩ := popR_inv hh1
  obtain ⟨hrE, rfl, rfl, hN, hQ⟩ := hh2
  subst hrE
  clear hh0 hh1
  refine ⟨Nat.le_of_ble_eq_true rfl, [(16, mkC (fun L st u => ∃ (i : Int), L = [.inr (.inr (some 20)), .inr (.inr (some 11)), .inl i] ∧ st = [] ∧ (0 ≤ i ∧ i ≤ σ 11 4) ∧ (PutE σ u 1 (fun s => 0 ≤ s ∧ s < i))) (fun L st u => ((101 - gI L 2).toNat, 0, 0)))], 14, ?_, cuts1 ?_ (cuts0)⟩
  · rw [show entL 3 [.inr (.inr (some 20)), .inr (.inr (some 11))] = [.inr (.inr (some 20)), .inr (.inr (some 11)), .inr (.inr none)] from rfl]
    simp only [↓wpN_go, jmp_e, ↓wp_aload_n0, ↓wp_aload_n1, ↓wp_getfield, ↓wp_goto, ↓wp_icmp_ge, ↓wp_iconst, ↓wp_iinc, ↓wp_iload_n2, ↓wp_invokevirtual, ↓wp_istore_n2, ↓wp_lastore, ↓wp_lconst0, ↓wp_return0, wp_nil, ↓ldI_0, ↓ldI_s, ↓ldL_0, ↓ldL_s, ↓ldR_0, ↓ldR_s, sto1_0, sto1_1, sto1_s, sto2_0, sto2_1, sto2_s, isLong_i, isLong_l, isLong_r, ↓popI_c, ↓popL_c, ↓popR_c, ↓popN_0, ↓popN_s, catS_n, catS_c, psh_s, psh_n, fldV_n, fldV_s, ↓tgt_e, sw_n, ↓sw_c, ↓lk1_h, ↓lk1_m, ↓atC_h, ↓atC_m, ↓atC_n, ltO_n, ltO_s, updR_eq, updR_ne, gI_0i, gI_0l, gI_s, ltM_iff, List.cons.injEq, Sum.inl.injEq, Sum.inr.injEq, Option.some.injEq, exists_eq_left, exists_eq_left', exists_eq_right, exists_eq_right', exists_and_left, exists_and_right, exists_eq, exists_const, and_assoc, ↓j_S_startAnywhere_0, ↓j_S_startAnywhere_16, ↓j_S_startAnywhere_36, ↓f_S_11, ↓f_S_15, List.length_cons, List.length_nil, Nat.zero_add, Nat.reduceAdd, Int.reduceAdd, Int.reduceNeg, Int.reduceToNat, Int.reduceLE, Int.reduceLT, true_and, and_true, Nat.reduceLT, reduceIte, Nat.reduceEqDiff, ne_eq, not_false_eq_true, false_implies, true_implies, Bool.false_eq_true, reduceCtorEq, List.cons_append, List.nil_append, Nat.reduceSub, Nat.reduceLeDiff, Fin.isValue, Int.reduceNatCast', Int.zero_add, Int.add_zero, decide_true, decide_false, implies_true, forall_const, true_or, or_true, or_false, false_or, false_and, and_false, Int.toNat_natCast, ↓oF_20_0, ↓aF_21, ↓oF_20_1, ↓aF_22, ↓oF_20_2, ↓oF_20_3, ↓oF_20_4, ↓oF_20_5, oC_0, oC_1, oC_4, oC_11, oC_16, oC_18, oC_20, oC_23, oC_25, oC_26, oC_29, oC_31, oC_33, oC_35, oC_37, isT_29, isT_31, isT_33, isT_35, isL_16, isL_18, isL_26, ↓e_W_size, ↓e_S_addEnd]
    refine ⟨by omega, ?_⟩
    refine ⟨up1 (σ 21) 1 0, up1 (σ 22) 1 0, ?_, fun j hj => ?_, ?_, ?_, fun s1 => ?_⟩
    · rfl
    · have hj1 : j ≠ 1 := hj
      rw [up1_ne _ _ _ _ hj1, up1_ne _ _ _ _ hj1]; exact ⟨rfl, rfl⟩
    · show rL (up1 (σ 21) 1 0 1); rw [up1_eq]; unfold rL; omega
    · show rL (up1 (σ 22) 1 0 1); rw [up1_eq]; unfold rL; omega
    · show hasE (up1 (σ 21) 1 0 1) (up1 (σ 22) 1 0 1) s1 ↔ _
      rw [up1_eq, up1_eq]
      refine ⟨fun q => absurd q ((hasE_none (lo := 0) (hi := 0) (by unfold rL; omega) (by unfold rL; omega)).mp ⟨rfl, rfl⟩ s1), fun q => by omega⟩
  · intro L st u hI
    obtain ⟨i, rfl, rfl, hi, hu⟩ := hI
    simp only [↓wpN_go, jmp_e, ↓wp_aload_n0, ↓wp_aload_n1, ↓wp_getfield, ↓wp_goto, ↓wp_icmp_ge, ↓wp_iconst, ↓wp_iinc, ↓wp_iload_n2, ↓wp_invokevirtual, ↓wp_istore_n2, ↓wp_lastore, ↓wp_lconst0, ↓wp_return0, wp_nil, ↓ldI_0, ↓ldI_s, ↓ldL_0, ↓ldL_s, ↓ldR_0, ↓ldR_s, sto1_0, sto1_1, sto1_s, sto2_0, sto2_1, sto2_s, isLong_i, isLong_l, isLong_r, ↓popI_c, ↓popL_c, ↓popR_c, ↓popN_0, ↓popN_s, catS_n, catS_c, psh_s, psh_n, fldV_n, fldV_s, ↓tgt_e, sw_n, ↓sw_c, ↓lk1_h, ↓lk1_m, ↓atC_h, ↓atC_m, ↓atC_n, ltO_n, ltO_s, updR_eq, updR_ne, gI_0i, gI_0l, gI_s, ltM_iff, List.cons.injEq, Sum.inl.injEq, Sum.inr.injEq, Option.some.injEq, exists_eq_left, exists_eq_left', exists_eq_right, exists_eq_right', exists_and_left, exists_and_right, exists_eq, exists_const, and_assoc, ↓j_S_startAnywhere_0, ↓j_S_startAnywhere_16, ↓j_S_startAnywhere_36, ↓f_S_11, ↓f_S_15, List.length_cons, List.length_nil, Nat.zero_add, Nat.reduceAdd, Int.reduceAdd, Int.reduceNeg, Int.reduceToNat, Int.reduceLE, Int.reduceLT, true_and, and_true, Nat.reduceLT, reduceIte, Nat.reduceEqDiff, ne_eq, not_false_eq_true, false_implies, true_implies, Bool.false_eq_true, reduceCtorEq, List.cons_append, List.nil_append, Nat.reduceSub, Nat.reduceLeDiff, Fin.isValue, Int.reduceNatCast', Int.zero_add, Int.add_zero, decide_true, decide_false, implies_true, forall_const, true_or, or_true, or_false, false_or, false_and, and_false, Int.toNat_natCast, ↓oF_20_0, ↓aF_21, ↓oF_20_1, ↓aF_22, ↓oF_20_2, ↓oF_20_3, ↓oF_20_4, ↓oF_20_5, oC_0, oC_1, oC_4, oC_11, oC_16, oC_18, oC_20, oC_23, oC_25, oC_26, oC_29, oC_31, oC_33, oC_35, oC_37, isT_29, isT_31, isT_33, isT_35, isL_16, isL_18, isL_26, ↓e_W_size, ↓e_S_addEnd]
    have hu11 := putE_ne hu 11 (by decide) (by decide)
    simp only [hu11]
    (try simp only [rI_iff, rL_iff] at *)
    repeat' (first | with_reducible assumption | apply And.intro | intro _)
    all_goals first | omega | with_reducible assumption | exact True.intro | skip
    · rename_i hle1
      have e : i = σ 11 4 := by omega
      subst e
      exact hQ u hu
    · exact putE_iff (putE_add hu ⟨by omega, by omega⟩) (fun s1 => by omega)
def SrchSt (σ u : St) (n : Int) (c : Int) : Prop := ∃ g h, u = updR (updR σ 21 g) 22 h ∧ (∀ j : Nat, (j : Int) < 2 ^ n.toNat → g j = σ 21 j ∧ h j = σ 22 j) ∧ Tab (σ 11 4) (σ 12) g h n.toNat c ∧ ∀ v, 0 ≤ v → v < c → ¬ Miss (σ 11 4) (σ 12) n.toNat v
def SrchEnd (σ σ' : St) (n : Int) : Prop := (SrchSt σ σ' n (2 ^ n.toNat)) ∨ (∃ u w, SrchSt σ u n w ∧ 0 ≤ w ∧ w < 2 ^ n.toNat ∧ Miss (σ 11 4) (σ 12) n.toNat w ∧ ∃ g h, (∀ j : Nat, (j : Int) < 2 ^ n.toNat → g j = u 21 j ∧ h j = u 22 j) ∧ σ' = updR (updR (updR u 21 g) 22 h) 20 (up1 (up1 (σ 20) 3 n) 4 w))
def s_S_searchLength : Spec := fun as σ Q => popR as fun c0 r0 => popR r0 fun c1 r1 => popI r1 fun n r2 => r2 = [] ∧ c0 = 20 ∧ c1 = 11 ∧ (0 ≤ σ 11 4 ∧ σ 11 4 ≤ 100) ∧ (Wire (σ 11 4) (σ 12)) ∧ (1 ≤ n ∧ n ≤ 12) ∧ (Tab (σ 11 4) (σ 12) (σ 21) (σ 22) (n - 1).toNat (2 ^ (n - 1).toNat)) ∧ ∀ σ', SrchEnd σ σ' n → Q none σ'
theorem e_S_searchLength (n : Int) (σ : St) (Q : Option AV → St → Prop) : s_S_searchLength [.inr (.inr (some 20)), .inr (.inr (some 11)), .inl n] σ Q = ((0 ≤ σ 11 4 ∧ σ 11 4 ≤ 100) ∧ (Wire (σ 11 4) (σ 12)) ∧ (1 ≤ n ∧ n ≤ 12) ∧ (Tab (σ 11 4) (σ 12) (σ 21) (σ 22) (n - 1).toNat (2 ^ (n - 1).toNat)) ∧ ∀ σ', SrchEnd σ σ' n → Q none σ') := by
  show ([] = [] ∧ _) = _
  simp only [true_and]
set_option maxHeartbeats 4000000 in
set_option maxRecDepth 20000 in
theorem S_S_searchLength {l : Launch} : Sat l y_S_searchLength b_S_searchLength 6 none 3 s_S_searchLength := by
  refine sat_of (Φ := P_S) (κ := Q_S) (Γ := [(49, 6, 4, s_S_goOn)]) (rt := 0) (by decide +kernel) P_S_ok Q_S_ok (by
    refine List.forall_mem_cons.mpr ⟨?_, fun _ h => absurd h List.not_mem_nil⟩
    · exact m_S_goOn S_S_goOn (by decide) l_S_49) (by simp) o_S_searchLength ?_
  intro as σ Q hh0
  obtain ⟨c0, rr0, rfl, hh1⟩ := popR_inv hh0
  obtain ⟨c1, rr1, rfl, hh2⟩ := popR_inv hh1
  obtain ⟨n, rr2, rfl, hh3⟩ := popI_inv hh2
  obtain ⟨hrE, rfl, rfl, hN, hf, hn, ht, hQ⟩ := hh3
  subst hrE
  clear hh0 hh1 hh2
  refine ⟨Nat.le_of_ble_eq_true rfl, [(7, mkC (fun L st u => ∃ (w : Int) (v5 : AV), L = [.inr (.inr (some 20)), .inr (.inr (some 11)), .inl n, .inl ((1 * 2 ^ n.toNat)), .inl w, v5] ∧ st = [] ∧ (0 ≤ w ∧ w ≤ 2 ^ n.toNat) ∧ (SrchSt σ u n w)) (fun L st u => ((5000 - gI L 4).toNat, 0, 0)))], 14, ?_, cuts1 ?_ (cuts0)⟩
  · rw [show entL 6 [.inr (.inr (some 20)), .inr (.inr (some 11)), .inl n] = [.inr (.inr (some 20)), .inr (.inr (some 11)), .inl n, .inr (.inr none), .inr (.inr none), .inr (.inr none)] from rfl]
    simp only [↓wpN_go, jmp_e, ↓wp_aload_n0, ↓wp_aload_n1, ↓wp_bipush, ↓wp_getfield, ↓wp_goto, ↓wp_iadd, ↓wp_icmp_ge, ↓wp_iconst, ↓wp_if_ne, ↓wp_iinc, ↓wp_iload, ↓wp_iload_n2, ↓wp_iload_n3, ↓wp_invokevirtual, ↓wp_ishl, ↓wp_ishr, ↓wp_istore, ↓wp_istore_n3, ↓wp_laload, ↓wp_lastore, ↓wp_lcmp, ↓wp_lconst0, ↓wp_putfield, ↓wp_return0, wp_nil, ↓ldI_0, ↓ldI_s, ↓ldL_0, ↓ldL_s, ↓ldR_0, ↓ldR_s, sto1_0, sto1_1, sto1_s, sto2_0, sto2_1, sto2_s, isLong_i, isLong_l, isLong_r, ↓popI_c, ↓popL_c, ↓popR_c, ↓popN_0, ↓popN_s, catS_n, catS_c, psh_s, psh_n, fldV_n, fldV_s, ↓tgt_e, sw_n, ↓sw_c, ↓lk1_h, ↓lk1_m, ↓atC_h, ↓atC_m, ↓atC_n, ltO_n, ltO_s, updR_eq, updR_ne, gI_0i, gI_0l, gI_s, ltM_iff, List.cons.injEq, Sum.inl.injEq, Sum.inr.injEq, Option.some.injEq, exists_eq_left, exists_eq_left', exists_eq_right, exists_eq_right', exists_and_left, exists_and_right, exists_eq, exists_const, and_assoc, ↓j_S_searchLength_0, ↓j_S_searchLength_7, ↓j_S_searchLength_106, ↓j_S_searchLength_112, ↓f_S_11, ↓f_S_15, ↓f_S_22, ↓f_S_25, List.length_cons, List.length_nil, Nat.zero_add, Nat.reduceAdd, Int.reduceAdd, Int.reduceNeg, Int.reduceToNat, Int.reduceLE, Int.reduceLT, true_and, and_true, Nat.reduceLT, reduceIte, Nat.reduceEqDiff, ne_eq, not_false_eq_true, false_implies, true_implies, Bool.false_eq_true, reduceCtorEq, List.cons_append, List.nil_append, Nat.reduceSub, Nat.reduceLeDiff, Fin.isValue, Int.reduceNatCast', Int.zero_add, Int.add_zero, decide_true, decide_false, implies_true, forall_const, true_or, or_true, or_false, false_or, false_and, and_false, Int.toNat_natCast, ↓oF_20_0, ↓aF_21, ↓oF_20_1, ↓aF_22, ↓oF_20_2, ↓oF_20_3, ↓oF_20_4, ↓oF_20_5, oC_0, oC_1, oC_4, oC_11, oC_16, oC_18, oC_20, oC_23, oC_25, oC_26, oC_29, oC_31, oC_33, oC_35, oC_37, isT_29, isT_31, isT_33, isT_35, isL_16, isL_18, isL_26, cmpZ_r, cmpZ_eq, ↓e_S_goOn]
    have hp := p2_13 (n := n.toNat) (by omega)
    (try simp only [rI_iff, rL_iff] at *)
    repeat' (first | with_reducible assumption | apply And.intro | intro _)
    all_goals first | omega | with_reducible assumption | exact True.intro | skip
    exact ⟨σ 21, σ 22, by rw [updR_self, updR_self], fun _ _ => ⟨rfl, rfl⟩, fun w1 hw1 => by omega, fun v1 h1 h2 => by omega⟩
  · intro L st u hI
    obtain ⟨w, v5, rfl, rfl, hi, hu⟩ := hI
    simp only [↓wpN_go, jmp_e, ↓wp_aload_n0, ↓wp_aload_n1, ↓wp_bipush, ↓wp_getfield, ↓wp_goto, ↓wp_iadd, ↓wp_icmp_ge, ↓wp_iconst, ↓wp_if_ne, ↓wp_iinc, ↓wp_iload, ↓wp_iload_n2, ↓wp_iload_n3, ↓wp_invokevirtual, ↓wp_ishl, ↓wp_ishr, ↓wp_istore, ↓wp_istore_n3, ↓wp_laload, ↓wp_lastore, ↓wp_lcmp, ↓wp_lconst0, ↓wp_putfield, ↓wp_return0, wp_nil, ↓ldI_0, ↓ldI_s, ↓ldL_0, ↓ldL_s, ↓ldR_0, ↓ldR_s, sto1_0, sto1_1, sto1_s, sto2_0, sto2_1, sto2_s, isLong_i, isLong_l, isLong_r, ↓popI_c, ↓popL_c, ↓popR_c, ↓popN_0, ↓popN_s, catS_n, catS_c, psh_s, psh_n, fldV_n, fldV_s, ↓tgt_e, sw_n, ↓sw_c, ↓lk1_h, ↓lk1_m, ↓atC_h, ↓atC_m, ↓atC_n, ltO_n, ltO_s, updR_eq, updR_ne, gI_0i, gI_0l, gI_s, ltM_iff, List.cons.injEq, Sum.inl.injEq, Sum.inr.injEq, Option.some.injEq, exists_eq_left, exists_eq_left', exists_eq_right, exists_eq_right', exists_and_left, exists_and_right, exists_eq, exists_const, and_assoc, ↓j_S_searchLength_0, ↓j_S_searchLength_7, ↓j_S_searchLength_106, ↓j_S_searchLength_112, ↓f_S_11, ↓f_S_15, ↓f_S_22, ↓f_S_25, List.length_cons, List.length_nil, Nat.zero_add, Nat.reduceAdd, Int.reduceAdd, Int.reduceNeg, Int.reduceToNat, Int.reduceLE, Int.reduceLT, true_and, and_true, Nat.reduceLT, reduceIte, Nat.reduceEqDiff, ne_eq, not_false_eq_true, false_implies, true_implies, Bool.false_eq_true, reduceCtorEq, List.cons_append, List.nil_append, Nat.reduceSub, Nat.reduceLeDiff, Fin.isValue, Int.reduceNatCast', Int.zero_add, Int.add_zero, decide_true, decide_false, implies_true, forall_const, true_or, or_true, or_false, false_or, false_and, and_false, Int.toNat_natCast, ↓oF_20_0, ↓aF_21, ↓oF_20_1, ↓aF_22, ↓oF_20_2, ↓oF_20_3, ↓oF_20_4, ↓oF_20_5, oC_0, oC_1, oC_4, oC_11, oC_16, oC_18, oC_20, oC_23, oC_25, oC_26, oC_29, oC_31, oC_33, oC_35, oC_37, isT_29, isT_31, isT_33, isT_35, isL_16, isL_18, isL_26, cmpZ_r, cmpZ_eq, ↓e_S_goOn]
    obtain ⟨g, h, rfl, hg1, hg2, hg3⟩ := hu
    have hp := p2_13 (n := n.toNat) (by omega)
    simp only [updR_ne, updR_eq, ne_eq, Nat.reduceEqDiff, not_false_eq_true, Nat.succ_ne_self, Int.one_mul]
    have hsrch : SrchSt σ (updR (updR σ 21 g) 22 h) n w := ⟨g, h, rfl, hg1, hg2, hg3⟩
    by_cases hlt : w < 2 ^ n.toNat
    · have hpw : (2 : Int) ^ n.toNat = 2 * 2 ^ (n - 1).toNat := by rw [show n.toNat = (n - 1).toNat + 1 by omega, Int.pow_succ, Int.mul_comm]
      have hp1 := p2_13 (n := (n - 1).toNat) (by omega)
      have e1 : (2 : Int) ^ 1 = 2 := rfl
      rw [e1]
      obtain ⟨w0, rfl⟩ := Int.eq_ofNat_of_zero_le hi.1
      obtain ⟨K, hK⟩ : ∃ K : Nat, K = 2 ^ n.toNat + w0 := ⟨_, rfl⟩
      obtain ⟨K2, hK2⟩ : ∃ K2 : Nat, K2 = 2 ^ (n - 1).toNat + w0 / 2 := ⟨_, rfl⟩
      have eK : ((2 : Int) ^ n.toNat + w0).toNat = K := by omega
      have eK2 : (((2 : Int) ^ n.toNat + w0) / 2).toNat = K2 := by omega
      have eb : ((2 : Int) ^ n.toNat + w0) % 2 = w0 % 2 := by omega
      have hne : K2 ≠ K := by omega
      have hset : SetIs (σ 11 4) (σ 12) (g K2) (h K2) (n - 1).toNat ((w0 : Int) / 2) := by
        have h1 := ht (w0 / 2) (by omega)
        have h2 := hg1 K2 (by omega)
        rw [← hK2, ← h2.1, ← h2.2] at h1
        rw [show ((w0 : Int) / 2) = ((w0 / 2 : Nat) : Int) by omega]
        exact h1
      rw [eK, eK2, eb]
      simp only [up1_eq, up1_ne _ _ _ _ hne]
      refine ⟨⟨by omega, by omega⟩, ⟨by omega, by omega⟩, fun h => absurd h (by omega), fun _ => ⟨by omega, by omega, by omega, by omega, ⟨by omega, by omega⟩, by omega, by omega, hN.1, hN.2, hf, by omega, by omega, ⟨by omega, by omega⟩, ⟨by omega, by omega⟩, hset.1, fun σ1 h1 => ?_⟩⟩
      have q11 : σ1 11 = σ 11 := putE_ne h1 11 (by decide) (by decide)
      have q12 : σ1 12 = σ 12 := putE_ne h1 12 (by decide) (by decide)
      have r1 := putE_r h1
      rw [eK] at r1
      have o1 : σ1 22 K2 = h K2 := ((putE_o h1 K2 (by rw [eK]; exact hne)).2).trans (by rw [updR_eq, up1_ne _ _ _ _ hne])
      rw [q11, q12, o1]
      refine ⟨⟨by omega, by omega⟩, by omega, by omega, hN.1, hN.2, hf, by omega, by omega, r1.1, r1.2.1, hset.2.1, fun σ2 h2 => ?_⟩
      have h3 : PutE _ σ2 (2 ^ n.toNat + w0) (EndP (σ 11 4) (σ 12) n.toNat w0) := putE_iff (putE_trans h1 h2) (fun s1 => by
        rw [r1.2.2 s1, show n.toNat = (n - 1).toNat + 1 by omega, end_snoc]
        have h4 := hasE_split (N := σ 11 4) (f := σ 12) (lo := g K2) (hi := h K2) (b := (w0 : Int) % 2) (s := s1)
        rw [or_assoc]
        refine ⟨fun q1 => ?_, fun q1 => Or.inr (h4.mpr ?_)⟩
        · rcases q1 with q1 | q1
          · exact absurd q1 ((hasE_none (lo := 0) (hi := 0) (by unfold rL; omega) (by unfold rL; omega)).mp ⟨rfl, rfl⟩ s1)
          · obtain ⟨r, q2, q3⟩ := h4.mp q1
            exact ⟨r, (hset.2.2 r).mp q2, q3⟩
        · obtain ⟨r, q2, q3⟩ := q1
          exact ⟨r, (hset.2.2 r).mpr q2, q3⟩)
      have r3 := putE_r h3
      rw [eK] at r3
      have hS : SetIs (σ 11 4) (σ 12) (σ2 21 K) (σ2 22 K) n.toNat w0 := r3
      have hM := set_none hS
      have ho : ∀ j, j ≠ K → σ2 21 j = g j ∧ σ2 22 j = h j := fun j hj => by
        have := putE_o h3 j (by rw [eK]; exact hj)
        rw [updR_ne _ 22 21 _ (by decide), updR_eq, updR_eq, up1_ne _ _ _ _ hj, up1_ne _ _ _ _ hj] at this
        exact this
      have hk : ∀ k, k ≠ 21 → k ≠ 22 → σ2 k = σ k := fun k a1 a2 => by
        rw [putE_ne h3 k a1 a2, updR_ne _ _ _ _ a2, updR_ne _ _ _ _ a1, updR_ne _ _ _ _ a2, updR_ne _ _ _ _ a1]
      have hst : σ2 = updR (updR σ 21 (σ2 21)) 22 (σ2 22) := by
        refine st_ext fun k j => ?_
        by_cases a1 : k = 21
        · subst a1; rw [updR_ne _ 22 21 _ (by decide), updR_eq]
        · by_cases a2 : k = 22
          · subst a2; rw [updR_eq]
          · rw [hk k a1 a2, updR_ne _ _ _ _ a2, updR_ne _ _ _ _ a1]
      have hnext : ¬ Miss (σ 11 4) (σ 12) n.toNat w0 → SrchSt σ σ2 n (w0 + 1) := fun hm => by
        refine ⟨σ2 21, σ2 22, hst, fun j hj => ?_, fun w1 hw1 => ?_, fun v h5 h6 => ?_⟩
        · have := ho j (by omega)
          rw [this.1, this.2]
          exact hg1 j hj
        · by_cases e : w1 = w0
          · subst e
            rw [← hK]
            exact hS
          · have := ho (2 ^ n.toNat + w1) (by omega)
            rw [this.1, this.2]
            exact hg2 w1 (by omega)
        · by_cases e : v = w0
          · rw [e]; exact hm
          · exact hg3 v h5 (by omega)
      refine ⟨by omega, by omega, r3.1, ⟨by omega, by omega⟩, fun h5 => ⟨by omega, by omega, by omega, hnext (fun h6 => h5 (hM.mpr h6).1)⟩, fun h5 => ⟨by omega, by omega, r3.2.1, ⟨by omega, by omega⟩, fun h6 => ⟨by omega, by omega, by omega, hnext (fun h7 => h6 (hM.mpr h7).2)⟩, fun h6 => ?_⟩⟩
      refine hQ _ (Or.inr ⟨_, _, hsrch, hi.1, hlt, hM.mp ⟨h5, h6⟩, σ2 21, σ2 22, fun j hj => ?_, ?_⟩)
      · rw [updR_ne _ 22 21 _ (by decide), updR_eq, updR_eq]
        exact ho j (by omega)
      · rw [updR_twice, hk 20 (by decide) (by decide), updR_4 (by decide), ← hst]
    · (try simp only [rI_iff, rL_iff] at *)
      repeat' (first | with_reducible assumption | apply And.intro | intro _)
      all_goals first | omega | with_reducible assumption | exact True.intro | skip
      have e : w = 2 ^ n.toNat := by omega
      rw [e] at hsrch
      exact hQ _ (Or.inl hsrch)
