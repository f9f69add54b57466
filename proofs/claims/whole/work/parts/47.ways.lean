/-! the reference: ways, marks, weights -/
def accF (N : Int) (f : Nat → Int) (s : Int) (i : Nat) (x : Nat) : Nat → Int := sumF (fun j => ladI N f (indF x) 1 j * ladI N f (indF j) i s)
theorem acc_s {N s : Int} {f : Nat → Int} {i x n : Nat} : accF N f s i x (n + 1) = accF N f s i x n + ladI N f (indF x) 1 n * ladI N f (indF n) i s := rfl
theorem acc_end {N s : Int} {f : Nat → Int} {i x : Nat} : accF N f s i x N.toNat = ladI N f (indF x) (i + 1) s := by
  rw [ladI_last]
  exact (ladI_sum (w := fun t => ladI N f (indF x) 1 (t : Int)) i s).symm
theorem ind_at {N : Int} {f : Nat → Int} {x : Nat} {t : Int} (ht : -1 ≤ t ∧ t < N) : ladI N f (indF x) 0 t = if t = x then 1 else 0 := by
  by_cases h : 0 ≤ t
  · rw [ladI_0 ⟨h, ht.2⟩]
    unfold indF
    rw [Int.toNat_of_nonneg h]
  · rw [ladI_out (by omega), if_neg (by omega)]
theorem ind_1 {σ : St} {N : Int} {x j : Nat} (hf : Wire N (gM σ)) (hj : (j : Int) < N) : ladI N (gM σ) (indF x) 1 j = (if σ 50 j = x then 1 else 0) + (if σ 51 j = x then 1 else 0) := by
  have h0 := gM_r0 hf hj
  have h1 := gM_r1 hf hj
  rw [ladI_s ⟨by omega, hj⟩, step_in ⟨by omega, hj⟩ (by omega), step_in ⟨by omega, hj⟩ (by omega), gM_0 σ (by omega), gM_1 σ (by omega), Int.toNat_natCast, ind_at h0, ind_at h1]
def rch (g : Nat → Int) (c b : Int) : Nat → Int := if c = -1 then g else up1 g c.toNat (g c.toNat + b)
theorem rch_app {g : Nat → Int} {c b N : Int} (hc : -1 ≤ c ∧ c < N) (x : Nat) : rch g c b x = g x + (if c = x then 1 else 0) * b := by
  unfold rch
  by_cases e : c = -1
  · rw [if_pos e, if_neg (by omega), Int.zero_mul, Int.add_zero]
  · rw [if_neg e, up1_app]
    by_cases e2 : x = c.toNat
    · rw [if_pos e2, if_pos (by omega), Int.one_mul, e2]
    · rw [if_neg e2, if_neg (by omega), Int.zero_mul, Int.add_zero]
theorem acc_up {σ : St} {N s : Int} {i j : Nat} {g : Nat → Int} {b : Int} (hf : Wire N (gM σ)) (hj : (j : Int) < N) (hb : b = ladI N (gM σ) (indF j) i s) (hg : ∀ x : Nat, (x : Int) < N → g x = accF N (gM σ) s i x j) : ∀ x : Nat, (x : Int) < N → rch (rch g (σ 50 j) b) (σ 51 j) b x = accF N (gM σ) s i x (j + 1) := fun x hx => by
  have h0 := gM_r0 hf hj
  have h1 := gM_r1 hf hj
  rw [rch_app h1, rch_app h0, acc_s, ind_1 hf hj, hg x hx, ← hb, Int.add_mul]
  omega
def ReachG (σ : St) (N s : Int) (i : Nat) (g : Nat → Int) : Prop := ∀ x : Nat, (x : Int) < N → g x = ladI N (gM σ) (indF x) i s
def s_M_reachFrom : Spec := fun as σ Q => popR as fun c0 r0 => popI r0 fun s r1 => popI r1 fun n r2 => r2 = [] ∧ c0 = 37 ∧ (0 ≤ σ 37 17 ∧ σ 37 17 ≤ 100) ∧ (Wire (σ 37 17) (gM σ)) ∧ (0 ≤ s ∧ s < σ 37 17) ∧ (0 ≤ n ∧ n ≤ 60) ∧ ∀ g h, ReachG σ (σ 37 17) s n.toNat g → Q none (updR (updR σ 59 g) 60 h)
theorem e_M_reachFrom (s : Int) (n : Int) (σ : St) (Q : Option AV → St → Prop) : s_M_reachFrom [.inr (.inr (some 37)), .inl s, .inl n] σ Q = ((0 ≤ σ 37 17 ∧ σ 37 17 ≤ 100) ∧ (Wire (σ 37 17) (gM σ)) ∧ (0 ≤ s ∧ s < σ 37 17) ∧ (0 ≤ n ∧ n ≤ 60) ∧ ∀ g h, ReachG σ (σ 37 17) s n.toNat g → Q none (updR (updR σ 59 g) 60 h)) := by
  show ([] = [] ∧ _) = _
  simp only [true_and]
set_option maxHeartbeats 4000000 in
set_option maxRecDepth 20000 in
theorem S_M_reachFrom {l : Launch} : Sat l y_M_reachFrom b_M_reachFrom 5 none 0 s_M_reachFrom := by
  refine sat_of (Φ := P_M) (κ := Q_M) (Γ := []) (rt := 0) (by decide +kernel) P_M_ok Q_M_ok (fun g hg => absurd hg List.not_mem_nil) (by simp) o_M_reachFrom ?_
  intro as σ Q hh0
  obtain ⟨c0, rr0, rfl, hh1⟩ := popR_inv hh0
  obtain ⟨s, rr1, rfl, hh2⟩ := popI_inv hh1
  obtain ⟨n, rr2, rfl, hh3⟩ := popI_inv hh2
  obtain ⟨hrE, rfl, hN, hf, hs, hn, hQ⟩ := hh3
  subst hrE
  clear hh0 hh1 hh2
  refine ⟨Nat.le_of_ble_eq_true rfl, [(2, mkC (fun L st u => ∃ (j : Int) (v4 : AV) (g h : Nat → Int), L = [.inr (.inr (some 37)), .inl s, .inl n, .inl j, v4] ∧ st = [] ∧ (0 ≤ j ∧ j ≤ σ 37 17) ∧ (∀ x : Nat, (x : Int) < j → g x = if (x : Int) = s then 1 else 0) ∧ (u = updR (updR σ 59 g) 60 h)) (fun L st u => (100, (101 - gI L 3).toNat, 0))),
    (34, mkC (fun L st u => ∃ (i : Int) (v4 : AV) (g h : Nat → Int), L = [.inr (.inr (some 37)), .inl s, .inl n, .inl i, v4] ∧ st = [] ∧ (0 ≤ i ∧ i ≤ n) ∧ (ReachG σ (σ 37 17) s i.toNat g) ∧ (u = updR (updR σ 59 g) 60 h)) (fun L st u => ((60 - gI L 3).toNat, 300, 0))),
    (42, mkC (fun L st u => ∃ (i j : Int) (g h : Nat → Int), L = [.inr (.inr (some 37)), .inl s, .inl n, .inl i, .inl j] ∧ st = [] ∧ (0 ≤ i ∧ i < n) ∧ (0 ≤ j ∧ j ≤ σ 37 17) ∧ (∀ x : Nat, (x : Int) < σ 37 17 → (x < j → g x = 0 ∧ h x = ladI (σ 37 17) (gM σ) (indF x) i.toNat s) ∧ (j ≤ x → g x = ladI (σ 37 17) (gM σ) (indF x) i.toNat s)) ∧ (u = updR (updR σ 59 g) 60 h)) (fun L st u => ((60 - gI L 3).toNat, (250 - gI L 4).toNat, 0))),
    (82, mkC (fun L st u => ∃ (i j : Int) (g h : Nat → Int), L = [.inr (.inr (some 37)), .inl s, .inl n, .inl i, .inl j] ∧ st = [] ∧ (0 ≤ i ∧ i < n) ∧ (0 ≤ j ∧ j ≤ σ 37 17) ∧ (∀ x : Nat, (x : Int) < σ 37 17 → h x = ladI (σ 37 17) (gM σ) (indF x) i.toNat s) ∧ (∀ x : Nat, (x : Int) < σ 37 17 → g x = accF (σ 37 17) (gM σ) s i.toNat x j.toNat) ∧ (u = updR (updR σ 59 g) 60 h)) (fun L st u => ((60 - gI L 3).toNat, (101 - gI L 4).toNat, 0)))], 14, ?_, cuts1 ?_ (cuts1 ?_ (cuts1 ?_ (cuts1 ?_ (cuts0))))⟩
  · rw [show entL 5 [.inr (.inr (some 37)), .inl s, .inl n] = [.inr (.inr (some 37)), .inl s, .inl n, .inr (.inr none), .inr (.inr none)] from rfl]
    simp only [↓wpN_go, jmp_e, ↓wp_aload_n0, ↓wp_dup2, ↓wp_getfield, ↓wp_goto, ↓wp_iadd, ↓wp_iaload, ↓wp_iastore, ↓wp_icmp_eq, ↓wp_icmp_ge, ↓wp_icmp_ne, ↓wp_iconst, ↓wp_iinc, ↓wp_iload, ↓wp_iload_n1, ↓wp_iload_n2, ↓wp_iload_n3, ↓wp_istore, ↓wp_istore_n3, ↓wp_return0, wp_nil, ↓ldI_0, ↓ldI_s, ↓ldL_0, ↓ldL_s, ↓ldR_0, ↓ldR_s, sto1_0, sto1_1, sto1_s, sto2_0, sto2_1, sto2_s, isLong_i, isLong_l, isLong_r, ↓popI_c, ↓popL_c, ↓popR_c, ↓popN_0, ↓popN_s, catS_n, catS_c, psh_s, psh_n, fldV_n, fldV_s, ↓tgt_e, sw_n, ↓sw_c, ↓lk1_h, ↓lk1_m, ↓atC_h, ↓atC_m, ↓atC_n, ltO_n, ltO_s, updR_eq, updR_ne, gI_0i, gI_0l, gI_s, ltM_iff, List.cons.injEq, Sum.inl.injEq, Sum.inr.injEq, Option.some.injEq, exists_eq_left, exists_eq_left', exists_eq_right, exists_eq_right', exists_and_left, exists_and_right, exists_eq, exists_const, and_assoc, ↓j_M_reachFrom_0, ↓j_M_reachFrom_2, ↓j_M_reachFrom_24, ↓j_M_reachFrom_25, ↓j_M_reachFrom_32, ↓j_M_reachFrom_34, ↓j_M_reachFrom_42, ↓j_M_reachFrom_79, ↓j_M_reachFrom_82, ↓j_M_reachFrom_124, ↓j_M_reachFrom_157, ↓j_M_reachFrom_163, ↓j_M_reachFrom_169, ↓f_M_160, ↓f_M_54, ↓f_M_57, ↓f_M_82, ↓f_M_85, List.length_cons, List.length_nil, Nat.zero_add, Nat.reduceAdd, Int.reduceAdd, Int.reduceNeg, Int.reduceToNat, Int.reduceLE, Int.reduceLT, true_and, and_true, Nat.reduceLT, reduceIte, Nat.reduceEqDiff, ne_eq, not_false_eq_true, false_implies, true_implies, Bool.false_eq_true, reduceCtorEq, List.cons_append, List.nil_append, Nat.reduceSub, Nat.reduceLeDiff, Fin.isValue, Int.reduceNatCast', Int.zero_add, Int.add_zero, decide_true, decide_false, implies_true, forall_const, true_or, or_true, or_false, false_or, false_and, and_false, Int.toNat_natCast, ↓oF_37_0, ↓oF_37_1, ↓oF_37_2, ↓oF_37_3, ↓aF_38, ↓oF_37_4, ↓aF_39, ↓oF_37_5, ↓oF_37_6, ↓aF_40, ↓oF_37_7, ↓oF_37_8, ↓aF_41, ↓oF_37_9, ↓aF_42, ↓oF_37_10, ↓aF_43, ↓oF_37_11, ↓aF_44, ↓oF_37_12, ↓aF_45, ↓oF_37_13, ↓aF_46, ↓oF_37_14, ↓aF_47, ↓oF_37_15, ↓aF_48, ↓oF_37_16, ↓aF_49, ↓oF_37_17, ↓oF_37_18, ↓aF_50, ↓oF_37_19, ↓aF_51, ↓oF_37_20, ↓aF_52, ↓oF_37_21, ↓aF_53, ↓oF_37_22, ↓aF_54, ↓oF_37_23, ↓aF_55, ↓oF_37_24, ↓aF_56, ↓oF_37_25, ↓aF_57, ↓oF_37_26, ↓oF_37_27, ↓oF_37_28, ↓aF_58, ↓oF_37_29, ↓aF_59, ↓oF_37_30, ↓aF_60, ↓oF_37_31, ↓aF_61, ↓oF_37_32, ↓oF_37_33, ↓oF_37_34, ↓oF_37_35, ↓aF_62, ↓oF_37_36, ↓oF_37_37, ↓aF_63, ↓oF_37_38, ↓oF_37_39, ↓aF_64, ↓oF_37_40, ↓aF_65, ↓oF_37_41, ↓aF_66, oC_0, oC_1, oC_4, oC_11, oC_16, oC_18, oC_20, oC_23, oC_25, oC_26, oC_29, oC_31, oC_33, oC_35, oC_37, isT_29, isT_31, isT_33, isT_35, isL_16, isL_18, isL_26]
    (try simp only [rI_iff, rL_iff] at *)
    repeat' (with_reducible (first | assumption | apply And.intro | intro _))
    all_goals first | omega | with_reducible assumption | exact True.intro | skip
    all_goals exact ⟨σ 59, fun x hx => by omega, σ 60, by rw [updR_self, updR_self]⟩
  · intro L st u hI
    obtain ⟨j, v4, g, h, rfl, rfl, hj, hg, hu⟩ := hI
    simp only [↓wpN_go, jmp_e, ↓wp_aload_n0, ↓wp_dup2, ↓wp_getfield, ↓wp_goto, ↓wp_iadd, ↓wp_iaload, ↓wp_iastore, ↓wp_icmp_eq, ↓wp_icmp_ge, ↓wp_icmp_ne, ↓wp_iconst, ↓wp_iinc, ↓wp_iload, ↓wp_iload_n1, ↓wp_iload_n2, ↓wp_iload_n3, ↓wp_istore, ↓wp_istore_n3, ↓wp_return0, wp_nil, ↓ldI_0, ↓ldI_s, ↓ldL_0, ↓ldL_s, ↓ldR_0, ↓ldR_s, sto1_0, sto1_1, sto1_s, sto2_0, sto2_1, sto2_s, isLong_i, isLong_l, isLong_r, ↓popI_c, ↓popL_c, ↓popR_c, ↓popN_0, ↓popN_s, catS_n, catS_c, psh_s, psh_n, fldV_n, fldV_s, ↓tgt_e, sw_n, ↓sw_c, ↓lk1_h, ↓lk1_m, ↓atC_h, ↓atC_m, ↓atC_n, ltO_n, ltO_s, updR_eq, updR_ne, gI_0i, gI_0l, gI_s, ltM_iff, List.cons.injEq, Sum.inl.injEq, Sum.inr.injEq, Option.some.injEq, exists_eq_left, exists_eq_left', exists_eq_right, exists_eq_right', exists_and_left, exists_and_right, exists_eq, exists_const, and_assoc, ↓j_M_reachFrom_0, ↓j_M_reachFrom_2, ↓j_M_reachFrom_24, ↓j_M_reachFrom_25, ↓j_M_reachFrom_32, ↓j_M_reachFrom_34, ↓j_M_reachFrom_42, ↓j_M_reachFrom_79, ↓j_M_reachFrom_82, ↓j_M_reachFrom_124, ↓j_M_reachFrom_157, ↓j_M_reachFrom_163, ↓j_M_reachFrom_169, ↓f_M_160, ↓f_M_54, ↓f_M_57, ↓f_M_82, ↓f_M_85, List.length_cons, List.length_nil, Nat.zero_add, Nat.reduceAdd, Int.reduceAdd, Int.reduceNeg, Int.reduceToNat, Int.reduceLE, Int.reduceLT, true_and, and_true, Nat.reduceLT, reduceIte, Nat.reduceEqDiff, ne_eq, not_false_eq_true, false_implies, true_implies, Bool.false_eq_true, reduceCtorEq, List.cons_append, List.nil_append, Nat.reduceSub, Nat.reduceLeDiff, Fin.isValue, Int.reduceNatCast', Int.zero_add, Int.add_zero, decide_true, decide_false, implies_true, forall_const, true_or, or_true, or_false, false_or, false_and, and_false, Int.toNat_natCast, ↓oF_37_0, ↓oF_37_1, ↓oF_37_2, ↓oF_37_3, ↓aF_38, ↓oF_37_4, ↓aF_39, ↓oF_37_5, ↓oF_37_6, ↓aF_40, ↓oF_37_7, ↓oF_37_8, ↓aF_41, ↓oF_37_9, ↓aF_42, ↓oF_37_10, ↓aF_43, ↓oF_37_11, ↓aF_44, ↓oF_37_12, ↓aF_45, ↓oF_37_13, ↓aF_46, ↓oF_37_14, ↓aF_47, ↓oF_37_15, ↓aF_48, ↓oF_37_16, ↓aF_49, ↓oF_37_17, ↓oF_37_18, ↓aF_50, ↓oF_37_19, ↓aF_51, ↓oF_37_20, ↓aF_52, ↓oF_37_21, ↓aF_53, ↓oF_37_22, ↓aF_54, ↓oF_37_23, ↓aF_55, ↓oF_37_24, ↓aF_56, ↓oF_37_25, ↓aF_57, ↓oF_37_26, ↓oF_37_27, ↓oF_37_28, ↓aF_58, ↓oF_37_29, ↓aF_59, ↓oF_37_30, ↓aF_60, ↓oF_37_31, ↓aF_61, ↓oF_37_32, ↓oF_37_33, ↓oF_37_34, ↓oF_37_35, ↓aF_62, ↓oF_37_36, ↓oF_37_37, ↓aF_63, ↓oF_37_38, ↓oF_37_39, ↓aF_64, ↓oF_37_40, ↓aF_65, ↓oF_37_41, ↓aF_66, oC_0, oC_1, oC_4, oC_11, oC_16, oC_18, oC_20, oC_23, oC_25, oC_26, oC_29, oC_31, oC_33, oC_35, oC_37, isT_29, isT_31, isT_33, isT_35, isL_16, isL_18, isL_26]
    subst hu
    have e37 : updR (updR σ 59 g) 60 h 37 = σ 37 := by rw [updR_ne _ 60 37 _ (by decide), updR_ne _ 59 37 _ (by decide)]
    have e50 : updR (updR σ 59 g) 60 h 50 = σ 50 := by rw [updR_ne _ 60 50 _ (by decide), updR_ne _ 59 50 _ (by decide)]
    have e51 : updR (updR σ 59 g) 60 h 51 = σ 51 := by rw [updR_ne _ 60 51 _ (by decide), updR_ne _ 59 51 _ (by decide)]
    have e57 : updR (updR σ 59 g) 60 h 57 = σ 57 := by rw [updR_ne _ 60 57 _ (by decide), updR_ne _ 59 57 _ (by decide)]
    have e59 : updR (updR σ 59 g) 60 h 59 = g := by rw [updR_ne _ 60 59 _ (by decide), updR_eq]
    have e60 : updR (updR σ 59 g) 60 h 60 = h := updR_eq _ _ _
    have egM : gM (updR (updR σ 59 g) 60 h) = gM σ := by rw [gM_upd _ _ _ (by decide) (by decide), gM_upd _ _ _ (by decide) (by decide)]
    have et59 : ∀ k, updR (updR (updR σ 59 g) 60 h) 59 k = updR (updR σ 59 k) 60 h := fun k => by rw [updR_swap _ 60 59 _ _ (by decide), updR_twice]
    have et60 : ∀ k, updR (updR (updR σ 59 g) 60 h) 60 k = updR (updR σ 59 g) 60 k := fun k => updR_twice _ _ _ _
    simp only [e37, e59, et59]
    have q1 : σ 37 17 ≤ j → ReachG σ (σ 37 17) s (0 : Int).toNat g := fun h x hx => by
      rw [hg x (by omega)]
      show _ = ladI (σ 37 17) (gM σ) (indF x) 0 s
      rw [ind_at ⟨by omega, hs.2⟩]
      by_cases e : (x : Int) = s
      · rw [if_pos e, if_pos (by omega)]
      · rw [if_neg e, if_neg (by omega)]
    have q2 : ∀ z : Int, (z = if j = s then 1 else 0) → ∀ x : Nat, (x : Int) < j + 1 → up1 g j.toNat z x = if (x : Int) = s then 1 else 0 := fun z hz x hx => by
      rw [up1_app]
      by_cases e : x = j.toNat
      · rw [if_pos e, hz, show (x : Int) = j by omega]
      · rw [if_neg e]; exact hg x (by omega)
    (try simp only [rI_iff, rL_iff] at *)
    repeat' (with_reducible (first | assumption | apply And.intro | intro _))
    all_goals first | omega | with_reducible assumption | exact True.intro | skip
    all_goals first
      | exact ⟨_, q1 (by omega), _, rfl⟩
      | exact ⟨_, q2 1 (by rw [if_pos (by assumption)]), _, rfl⟩
      | exact ⟨_, q2 0 (by rw [if_neg (by assumption)]), _, rfl⟩
      | trace_state
  · intro L st u hI
    obtain ⟨i, v4, g, h, rfl, rfl, hi, hg, hu⟩ := hI
    simp only [↓wpN_go, jmp_e, ↓wp_aload_n0, ↓wp_dup2, ↓wp_getfield, ↓wp_goto, ↓wp_iadd, ↓wp_iaload, ↓wp_iastore, ↓wp_icmp_eq, ↓wp_icmp_ge, ↓wp_icmp_ne, ↓wp_iconst, ↓wp_iinc, ↓wp_iload, ↓wp_iload_n1, ↓wp_iload_n2, ↓wp_iload_n3, ↓wp_istore, ↓wp_istore_n3, ↓wp_return0, wp_nil, ↓ldI_0, ↓ldI_s, ↓ldL_0, ↓ldL_s, ↓ldR_0, ↓ldR_s, sto1_0, sto1_1, sto1_s, sto2_0, sto2_1, sto2_s, isLong_i, isLong_l, isLong_r, ↓popI_c, ↓popL_c, ↓popR_c, ↓popN_0, ↓popN_s, catS_n, catS_c, psh_s, psh_n, fldV_n, fldV_s, ↓tgt_e, sw_n, ↓sw_c, ↓lk1_h, ↓lk1_m, ↓atC_h, ↓atC_m, ↓atC_n, ltO_n, ltO_s, updR_eq, updR_ne, gI_0i, gI_0l, gI_s, ltM_iff, List.cons.injEq, Sum.inl.injEq, Sum.inr.injEq, Option.some.injEq, exists_eq_left, exists_eq_left', exists_eq_right, exists_eq_right', exists_and_left, exists_and_right, exists_eq, exists_const, and_assoc, ↓j_M_reachFrom_0, ↓j_M_reachFrom_2, ↓j_M_reachFrom_24, ↓j_M_reachFrom_25, ↓j_M_reachFrom_32, ↓j_M_reachFrom_34, ↓j_M_reachFrom_42, ↓j_M_reachFrom_79, ↓j_M_reachFrom_82, ↓j_M_reachFrom_124, ↓j_M_reachFrom_157, ↓j_M_reachFrom_163, ↓j_M_reachFrom_169, ↓f_M_160, ↓f_M_54, ↓f_M_57, ↓f_M_82, ↓f_M_85, List.length_cons, List.length_nil, Nat.zero_add, Nat.reduceAdd, Int.reduceAdd, Int.reduceNeg, Int.reduceToNat, Int.reduceLE, Int.reduceLT, true_and, and_true, Nat.reduceLT, reduceIte, Nat.reduceEqDiff, ne_eq, not_false_eq_true, false_implies, true_implies, Bool.false_eq_true, reduceCtorEq, List.cons_append, List.nil_append, Nat.reduceSub, Nat.reduceLeDiff, Fin.isValue, Int.reduceNatCast', Int.zero_add, Int.add_zero, decide_true, decide_false, implies_true, forall_const, true_or, or_true, or_false, false_or, false_and, and_false, Int.toNat_natCast, ↓oF_37_0, ↓oF_37_1, ↓oF_37_2, ↓oF_37_3, ↓aF_38, ↓oF_37_4, ↓aF_39, ↓oF_37_5, ↓oF_37_6, ↓aF_40, ↓oF_37_7, ↓oF_37_8, ↓aF_41, ↓oF_37_9, ↓aF_42, ↓oF_37_10, ↓aF_43, ↓oF_37_11, ↓aF_44, ↓oF_37_12, ↓aF_45, ↓oF_37_13, ↓aF_46, ↓oF_37_14, ↓aF_47, ↓oF_37_15, ↓aF_48, ↓oF_37_16, ↓aF_49, ↓oF_37_17, ↓oF_37_18, ↓aF_50, ↓oF_37_19, ↓aF_51, ↓oF_37_20, ↓aF_52, ↓oF_37_21, ↓aF_53, ↓oF_37_22, ↓aF_54, ↓oF_37_23, ↓aF_55, ↓oF_37_24, ↓aF_56, ↓oF_37_25, ↓aF_57, ↓oF_37_26, ↓oF_37_27, ↓oF_37_28, ↓aF_58, ↓oF_37_29, ↓aF_59, ↓oF_37_30, ↓aF_60, ↓oF_37_31, ↓aF_61, ↓oF_37_32, ↓oF_37_33, ↓oF_37_34, ↓oF_37_35, ↓aF_62, ↓oF_37_36, ↓oF_37_37, ↓aF_63, ↓oF_37_38, ↓oF_37_39, ↓aF_64, ↓oF_37_40, ↓aF_65, ↓oF_37_41, ↓aF_66, oC_0, oC_1, oC_4, oC_11, oC_16, oC_18, oC_20, oC_23, oC_25, oC_26, oC_29, oC_31, oC_33, oC_35, oC_37, isT_29, isT_31, isT_33, isT_35, isL_16, isL_18, isL_26]
    subst hu
    have e37 : updR (updR σ 59 g) 60 h 37 = σ 37 := by rw [updR_ne _ 60 37 _ (by decide), updR_ne _ 59 37 _ (by decide)]
    have e50 : updR (updR σ 59 g) 60 h 50 = σ 50 := by rw [updR_ne _ 60 50 _ (by decide), updR_ne _ 59 50 _ (by decide)]
    have e51 : updR (updR σ 59 g) 60 h 51 = σ 51 := by rw [updR_ne _ 60 51 _ (by decide), updR_ne _ 59 51 _ (by decide)]
    have e57 : updR (updR σ 59 g) 60 h 57 = σ 57 := by rw [updR_ne _ 60 57 _ (by decide), updR_ne _ 59 57 _ (by decide)]
    have e59 : updR (updR σ 59 g) 60 h 59 = g := by rw [updR_ne _ 60 59 _ (by decide), updR_eq]
    have e60 : updR (updR σ 59 g) 60 h 60 = h := updR_eq _ _ _
    have egM : gM (updR (updR σ 59 g) 60 h) = gM σ := by rw [gM_upd _ _ _ (by decide) (by decide), gM_upd _ _ _ (by decide) (by decide)]
    have et59 : ∀ k, updR (updR (updR σ 59 g) 60 h) 59 k = updR (updR σ 59 k) 60 h := fun k => by rw [updR_swap _ 60 59 _ _ (by decide), updR_twice]
    have et60 : ∀ k, updR (updR (updR σ 59 g) 60 h) 60 k = updR (updR σ 59 g) 60 k := fun k => updR_twice _ _ _ _
    try simp only [e37, e59, et59]
    have q1 : n ≤ i → Q none (updR (updR σ 59 g) 60 h) := fun q => hQ g h (by rw [show n.toNat = i.toNat by omega]; exact hg)
    (try simp only [rI_iff, rL_iff] at *)
    repeat' (with_reducible (first | assumption | apply And.intro | intro _))
    all_goals first | omega | with_reducible assumption | exact True.intro | skip
    all_goals first
      | exact q1 (by assumption)
      | exact ⟨_, _, fun x hx => ⟨fun q => by omega, fun _ => hg x hx⟩, rfl⟩
      | trace_state
  · intro L st u hI
    obtain ⟨i, j, g, h, rfl, rfl, hi, hj, hg, hu⟩ := hI
    simp only [↓wpN_go, jmp_e, ↓wp_aload_n0, ↓wp_dup2, ↓wp_getfield, ↓wp_goto, ↓wp_iadd, ↓wp_iaload, ↓wp_iastore, ↓wp_icmp_eq, ↓wp_icmp_ge, ↓wp_icmp_ne, ↓wp_iconst, ↓wp_iinc, ↓wp_iload, ↓wp_iload_n1, ↓wp_iload_n2, ↓wp_iload_n3, ↓wp_istore, ↓wp_istore_n3, ↓wp_return0, wp_nil, ↓ldI_0, ↓ldI_s, ↓ldL_0, ↓ldL_s, ↓ldR_0, ↓ldR_s, sto1_0, sto1_1, sto1_s, sto2_0, sto2_1, sto2_s, isLong_i, isLong_l, isLong_r, ↓popI_c, ↓popL_c, ↓popR_c, ↓popN_0, ↓popN_s, catS_n, catS_c, psh_s, psh_n, fldV_n, fldV_s, ↓tgt_e, sw_n, ↓sw_c, ↓lk1_h, ↓lk1_m, ↓atC_h, ↓atC_m, ↓atC_n, ltO_n, ltO_s, updR_eq, updR_ne, gI_0i, gI_0l, gI_s, ltM_iff, List.cons.injEq, Sum.inl.injEq, Sum.inr.injEq, Option.some.injEq, exists_eq_left, exists_eq_left', exists_eq_right, exists_eq_right', exists_and_left, exists_and_right, exists_eq, exists_const, and_assoc, ↓j_M_reachFrom_0, ↓j_M_reachFrom_2, ↓j_M_reachFrom_24, ↓j_M_reachFrom_25, ↓j_M_reachFrom_32, ↓j_M_reachFrom_34, ↓j_M_reachFrom_42, ↓j_M_reachFrom_79, ↓j_M_reachFrom_82, ↓j_M_reachFrom_124, ↓j_M_reachFrom_157, ↓j_M_reachFrom_163, ↓j_M_reachFrom_169, ↓f_M_160, ↓f_M_54, ↓f_M_57, ↓f_M_82, ↓f_M_85, List.length_cons, List.length_nil, Nat.zero_add, Nat.reduceAdd, Int.reduceAdd, Int.reduceNeg, Int.reduceToNat, Int.reduceLE, Int.reduceLT, true_and, and_true, Nat.reduceLT, reduceIte, Nat.reduceEqDiff, ne_eq, not_false_eq_true, false_implies, true_implies, Bool.false_eq_true, reduceCtorEq, List.cons_append, List.nil_append, Nat.reduceSub, Nat.reduceLeDiff, Fin.isValue, Int.reduceNatCast', Int.zero_add, Int.add_zero, decide_true, decide_false, implies_true, forall_const, true_or, or_true, or_false, false_or, false_and, and_false, Int.toNat_natCast, ↓oF_37_0, ↓oF_37_1, ↓oF_37_2, ↓oF_37_3, ↓aF_38, ↓oF_37_4, ↓aF_39, ↓oF_37_5, ↓oF_37_6, ↓aF_40, ↓oF_37_7, ↓oF_37_8, ↓aF_41, ↓oF_37_9, ↓aF_42, ↓oF_37_10, ↓aF_43, ↓oF_37_11, ↓aF_44, ↓oF_37_12, ↓aF_45, ↓oF_37_13, ↓aF_46, ↓oF_37_14, ↓aF_47, ↓oF_37_15, ↓aF_48, ↓oF_37_16, ↓aF_49, ↓oF_37_17, ↓oF_37_18, ↓aF_50, ↓oF_37_19, ↓aF_51, ↓oF_37_20, ↓aF_52, ↓oF_37_21, ↓aF_53, ↓oF_37_22, ↓aF_54, ↓oF_37_23, ↓aF_55, ↓oF_37_24, ↓aF_56, ↓oF_37_25, ↓aF_57, ↓oF_37_26, ↓oF_37_27, ↓oF_37_28, ↓aF_58, ↓oF_37_29, ↓aF_59, ↓oF_37_30, ↓aF_60, ↓oF_37_31, ↓aF_61, ↓oF_37_32, ↓oF_37_33, ↓oF_37_34, ↓oF_37_35, ↓aF_62, ↓oF_37_36, ↓oF_37_37, ↓aF_63, ↓oF_37_38, ↓oF_37_39, ↓aF_64, ↓oF_37_40, ↓aF_65, ↓oF_37_41, ↓aF_66, oC_0, oC_1, oC_4, oC_11, oC_16, oC_18, oC_20, oC_23, oC_25, oC_26, oC_29, oC_31, oC_33, oC_35, oC_37, isT_29, isT_31, isT_33, isT_35, isL_16, isL_18, isL_26]
    subst hu
    have e37 : updR (updR σ 59 g) 60 h 37 = σ 37 := by rw [updR_ne _ 60 37 _ (by decide), updR_ne _ 59 37 _ (by decide)]
    have e50 : updR (updR σ 59 g) 60 h 50 = σ 50 := by rw [updR_ne _ 60 50 _ (by decide), updR_ne _ 59 50 _ (by decide)]
    have e51 : updR (updR σ 59 g) 60 h 51 = σ 51 := by rw [updR_ne _ 60 51 _ (by decide), updR_ne _ 59 51 _ (by decide)]
    have e57 : updR (updR σ 59 g) 60 h 57 = σ 57 := by rw [updR_ne _ 60 57 _ (by decide), updR_ne _ 59 57 _ (by decide)]
    have e59 : updR (updR σ 59 g) 60 h 59 = g := by rw [updR_ne _ 60 59 _ (by decide), updR_eq]
    have e60 : updR (updR σ 59 g) 60 h 60 = h := updR_eq _ _ _
    have egM : gM (updR (updR σ 59 g) 60 h) = gM σ := by rw [gM_upd _ _ _ (by decide) (by decide), gM_upd _ _ _ (by decide) (by decide)]
    have et59 : ∀ k, updR (updR (updR σ 59 g) 60 h) 59 k = updR (updR σ 59 k) 60 h := fun k => by rw [updR_swap _ 60 59 _ _ (by decide), updR_twice]
    have et60 : ∀ k, updR (updR (updR σ 59 g) 60 h) 60 k = updR (updR σ 59 g) 60 k := fun k => updR_twice _ _ _ _
    have g60 : ∀ k, updR (updR σ 59 g) 60 k 59 = g := fun k => by rw [updR_ne _ 60 59 _ (by decide), updR_eq]
    have t59 : ∀ k m, updR (updR (updR σ 59 g) 60 k) 59 m = updR (updR σ 59 m) 60 k := fun k m => by rw [updR_swap _ 60 59 _ _ (by decide), updR_twice]
    simp only [e37, e59, e60, et59, et60, g60, t59]
    have q1 : σ 37 17 ≤ j → (∀ x : Nat, (x : Int) < σ 37 17 → h x = ladI (σ 37 17) (gM σ) (indF x) i.toNat s) ∧ ∀ x : Nat, (x : Int) < σ 37 17 → g x = accF (σ 37 17) (gM σ) s i.toNat x (0 : Int).toNat := fun q => ⟨fun x hx => ((hg x hx).1 (by omega)).2, fun x hx => ((hg x hx).1 (by omega)).1⟩
    have q2 : j < σ 37 17 → ∀ x : Nat, (x : Int) < σ 37 17 → (x < j + 1 → up1 g j.toNat 0 x = 0 ∧ up1 h j.toNat (g j.toNat) x = ladI (σ 37 17) (gM σ) (indF x) i.toNat s) ∧ (j + 1 ≤ x → up1 g j.toNat 0 x = ladI (σ 37 17) (gM σ) (indF x) i.toNat s) := fun q x hx => by
      by_cases e : x = j.toNat
      · rw [e, up1_eq, up1_eq]
        exact ⟨fun _ => ⟨rfl, (hg j.toNat (by omega)).2 (by omega)⟩, fun _ => by omega⟩
      · rw [up1_ne _ _ _ _ e, up1_ne _ _ _ _ e]
        exact ⟨fun q2 => (hg x hx).1 (by omega), fun q2 => (hg x hx).2 (by omega)⟩
    (try simp only [rI_iff, rL_iff] at *)
    repeat' (with_reducible (first | assumption | apply And.intro | intro _))
    all_goals first | omega | with_reducible assumption | exact True.intro | skip
    all_goals first
      | exact ⟨_, _, (q1 (by assumption)).1, (q1 (by assumption)).2, rfl⟩
      | exact ⟨_, _, q2 (by assumption), rfl⟩
      | trace_state
  · intro L st u hI
    obtain ⟨i, j, g, h, rfl, rfl, hi, hj, hh, hg, hu⟩ := hI
    simp only [↓wpN_go, jmp_e, ↓wp_aload_n0, ↓wp_dup2, ↓wp_getfield, ↓wp_goto, ↓wp_iadd, ↓wp_iaload, ↓wp_iastore, ↓wp_icmp_eq, ↓wp_icmp_ge, ↓wp_icmp_ne, ↓wp_iconst, ↓wp_iinc, ↓wp_iload, ↓wp_iload_n1, ↓wp_iload_n2, ↓wp_iload_n3, ↓wp_istore, ↓wp_istore_n3, ↓wp_return0, wp_nil, ↓ldI_0, ↓ldI_s, ↓ldL_0, ↓ldL_s, ↓ldR_0, ↓ldR_s, sto1_0, sto1_1, sto1_s, sto2_0, sto2_1, sto2_s, isLong_i, isLong_l, isLong_r, ↓popI_c, ↓popL_c, ↓popR_c, ↓popN_0, ↓popN_s, catS_n, catS_c, psh_s, psh_n, fldV_n, fldV_s, ↓tgt_e, sw_n, ↓sw_c, ↓lk1_h, ↓lk1_m, ↓atC_h, ↓atC_m, ↓atC_n, ltO_n, ltO_s, updR_eq, updR_ne, gI_0i, gI_0l, gI_s, ltM_iff, List.cons.injEq, Sum.inl.injEq, Sum.inr.injEq, Option.some.injEq, exists_eq_left, exists_eq_left', exists_eq_right, exists_eq_right', exists_and_left, exists_and_right, exists_eq, exists_const, and_assoc, ↓j_M_reachFrom_0, ↓j_M_reachFrom_2, ↓j_M_reachFrom_24, ↓j_M_reachFrom_25, ↓j_M_reachFrom_32, ↓j_M_reachFrom_34, ↓j_M_reachFrom_42, ↓j_M_reachFrom_79, ↓j_M_reachFrom_82, ↓j_M_reachFrom_124, ↓j_M_reachFrom_157, ↓j_M_reachFrom_163, ↓j_M_reachFrom_169, ↓f_M_160, ↓f_M_54, ↓f_M_57, ↓f_M_82, ↓f_M_85, List.length_cons, List.length_nil, Nat.zero_add, Nat.reduceAdd, Int.reduceAdd, Int.reduceNeg, Int.reduceToNat, Int.reduceLE, Int.reduceLT, true_and, and_true, Nat.reduceLT, reduceIte, Nat.reduceEqDiff, ne_eq, not_false_eq_true, false_implies, true_implies, Bool.false_eq_true, reduceCtorEq, List.cons_append, List.nil_append, Nat.reduceSub, Nat.reduceLeDiff, Fin.isValue, Int.reduceNatCast', Int.zero_add, Int.add_zero, decide_true, decide_false, implies_true, forall_const, true_or, or_true, or_false, false_or, false_and, and_false, Int.toNat_natCast, ↓oF_37_0, ↓oF_37_1, ↓oF_37_2, ↓oF_37_3, ↓aF_38, ↓oF_37_4, ↓aF_39, ↓oF_37_5, ↓oF_37_6, ↓aF_40, ↓oF_37_7, ↓oF_37_8, ↓aF_41, ↓oF_37_9, ↓aF_42, ↓oF_37_10, ↓aF_43, ↓oF_37_11, ↓aF_44, ↓oF_37_12, ↓aF_45, ↓oF_37_13, ↓aF_46, ↓oF_37_14, ↓aF_47, ↓oF_37_15, ↓aF_48, ↓oF_37_16, ↓aF_49, ↓oF_37_17, ↓oF_37_18, ↓aF_50, ↓oF_37_19, ↓aF_51, ↓oF_37_20, ↓aF_52, ↓oF_37_21, ↓aF_53, ↓oF_37_22, ↓aF_54, ↓oF_37_23, ↓aF_55, ↓oF_37_24, ↓aF_56, ↓oF_37_25, ↓aF_57, ↓oF_37_26, ↓oF_37_27, ↓oF_37_28, ↓aF_58, ↓oF_37_29, ↓aF_59, ↓oF_37_30, ↓aF_60, ↓oF_37_31, ↓aF_61, ↓oF_37_32, ↓oF_37_33, ↓oF_37_34, ↓oF_37_35, ↓aF_62, ↓oF_37_36, ↓oF_37_37, ↓aF_63, ↓oF_37_38, ↓oF_37_39, ↓aF_64, ↓oF_37_40, ↓aF_65, ↓oF_37_41, ↓aF_66, oC_0, oC_1, oC_4, oC_11, oC_16, oC_18, oC_20, oC_23, oC_25, oC_26, oC_29, oC_31, oC_33, oC_35, oC_37, isT_29, isT_31, isT_33, isT_35, isL_16, isL_18, isL_26]
    subst hu
    have e37 : updR (updR σ 59 g) 60 h 37 = σ 37 := by rw [updR_ne _ 60 37 _ (by decide), updR_ne _ 59 37 _ (by decide)]
    have e50 : updR (updR σ 59 g) 60 h 50 = σ 50 := by rw [updR_ne _ 60 50 _ (by decide), updR_ne _ 59 50 _ (by decide)]
    have e51 : updR (updR σ 59 g) 60 h 51 = σ 51 := by rw [updR_ne _ 60 51 _ (by decide), updR_ne _ 59 51 _ (by decide)]
    have e57 : updR (updR σ 59 g) 60 h 57 = σ 57 := by rw [updR_ne _ 60 57 _ (by decide), updR_ne _ 59 57 _ (by decide)]
    have e59 : updR (updR σ 59 g) 60 h 59 = g := by rw [updR_ne _ 60 59 _ (by decide), updR_eq]
    have e60 : updR (updR σ 59 g) 60 h 60 = h := updR_eq _ _ _
    have egM : gM (updR (updR σ 59 g) 60 h) = gM σ := by rw [gM_upd _ _ _ (by decide) (by decide), gM_upd _ _ _ (by decide) (by decide)]
    have et59 : ∀ k, updR (updR (updR σ 59 g) 60 h) 59 k = updR (updR σ 59 k) 60 h := fun k => by rw [updR_swap _ 60 59 _ _ (by decide), updR_twice]
    have et60 : ∀ k, updR (updR (updR σ 59 g) 60 h) 60 k = updR (updR σ 59 g) 60 k := fun k => updR_twice _ _ _ _
    simp only [e37, e50, e51, e59, e60, et59]
    have t50 : ∀ m, updR (updR σ 59 m) 60 h 50 = σ 50 := fun m => by rw [updR_ne _ 60 50 _ (by decide), updR_ne _ 59 50 _ (by decide)]
    have t51 : ∀ m, updR (updR σ 59 m) 60 h 51 = σ 51 := fun m => by rw [updR_ne _ 60 51 _ (by decide), updR_ne _ 59 51 _ (by decide)]
    have t59 : ∀ m k, updR (updR (updR σ 59 m) 60 h) 59 k = updR (updR σ 59 k) 60 h := fun m k => by rw [updR_swap _ 60 59 _ _ (by decide), updR_twice]
    have t37 : ∀ m, updR (updR σ 59 m) 60 h 37 = σ 37 := fun m => by rw [updR_ne _ 60 37 _ (by decide), updR_ne _ 59 37 _ (by decide)]
    have r59 : ∀ m, updR (updR σ 59 m) 60 h 59 = m := fun m => by rw [updR_ne _ 60 59 _ (by decide), updR_eq]
    have r60 : ∀ m, updR (updR σ 59 m) 60 h 60 = h := fun m => updR_eq _ _ _
    try simp only [t50, t51, t59, t37, r59, r60]
    have e1 : (i + 1).toNat = i.toNat + 1 := by omega
    have e2 : (j + 1).toNat = j.toNat + 1 := by omega
    have f0 : j < σ 37 17 → -1 ≤ σ 50 j.toNat ∧ σ 50 j.toNat < σ 37 17 := fun q => gM_r0 hf (by omega)
    have f1 : j < σ 37 17 → -1 ≤ σ 51 j.toNat ∧ σ 51 j.toNat < σ 37 17 := fun q => gM_r1 hf (by omega)
    have q1 : σ 37 17 ≤ j → ReachG σ (σ 37 17) s (i.toNat + 1) g := fun q x hx => by
      rw [hg x hx, show j.toNat = (σ 37 17).toNat by omega]
      exact acc_end
    have q2 : ∀ k, j < σ 37 17 → k = rch (rch g (σ 50 j.toNat) (h j.toNat)) (σ 51 j.toNat) (h j.toNat) → ∀ x : Nat, (x : Int) < σ 37 17 → k x = accF (σ 37 17) (gM σ) s i.toNat x (j.toNat + 1) := fun k q hk => by
      rw [hk]
      exact acc_up hf (by omega) (hh j.toNat (by omega)) hg
    unfold rch at q2
    by_cases hc : j < σ 37 17
    · have f0 := f0 hc
      have f1 := f1 hc
      (try simp only [rI_iff, rL_iff] at *)
      repeat' (with_reducible (first | assumption | apply And.intro | intro _))
      all_goals first | omega | with_reducible assumption | exact True.intro | skip
      all_goals first
        | omega
        | exact ⟨_, _, hh, by rw [e2]; exact q2 _ hc (by rw [if_neg (by assumption), if_neg (by assumption)]), rfl⟩
        | exact ⟨_, _, hh, by rw [e2]; exact q2 _ hc (by rw [if_pos (by assumption), if_neg (by assumption)]), rfl⟩
        | exact ⟨_, _, hh, by rw [e2]; exact q2 _ hc (by rw [if_neg (by assumption), if_pos (by assumption)]), rfl⟩
        | exact ⟨_, _, hh, by rw [e2]; exact q2 _ hc (by rw [if_pos (by assumption), if_pos (by assumption)]), rfl⟩
        | trace_state
    · (try simp only [rI_iff, rL_iff] at *)
      repeat' (with_reducible (first | assumption | apply And.intro | intro _))
      all_goals first | omega | with_reducible assumption | exact True.intro | skip
      all_goals first
        | omega
        | exact ⟨_, by rw [e1]; exact q1 (by omega), _, rfl⟩
        | trace_state
def s_M_ways : Spec := fun as σ Q => popR as fun c0 r0 => popI r0 fun i r1 => popI r1 fun j r2 => popI r2 fun n r3 => r3 = [] ∧ c0 = 37 ∧ (0 ≤ σ 37 17 ∧ σ 37 17 ≤ 100) ∧ (Wire (σ 37 17) (gM σ)) ∧ (rI i) ∧ (rI j) ∧ (rI n) ∧ if (0 ≤ i ∧ i < σ 37 17) ∧ (0 ≤ j ∧ j < σ 37 17) ∧ 0 ≤ n ∧ n ≤ 12 then (∀ g h, Q (some (.inl (ladI (σ 37 17) (gM σ) (indF j) n.toNat i))) (updR (updR σ 59 g) 60 h)) else Q (some (.inl (-2))) σ
theorem e_M_ways (i : Int) (j : Int) (n : Int) (σ : St) (Q : Option AV → St → Prop) : s_M_ways [.inr (.inr (some 37)), .inl i, .inl j, .inl n] σ Q = ((0 ≤ σ 37 17 ∧ σ 37 17 ≤ 100) ∧ (Wire (σ 37 17) (gM σ)) ∧ (rI i) ∧ (rI j) ∧ (rI n) ∧ if (0 ≤ i ∧ i < σ 37 17) ∧ (0 ≤ j ∧ j < σ 37 17) ∧ 0 ≤ n ∧ n ≤ 12 then (∀ g h, Q (some (.inl (ladI (σ 37 17) (gM σ) (indF j) n.toNat i))) (updR (updR σ 59 g) 60 h)) else Q (some (.inl (-2))) σ) := by
  show ([] = [] ∧ _) = _
  simp only [true_and]
set_option maxHeartbeats 4000000 in
set_option maxRecDepth 20000 in
theorem S_M_ways {l : Launch} : Sat l y_M_ways b_M_ways 4 (some .int) 2 s_M_ways := by
  refine sat_of (Φ := P_M) (κ := Q_M) (Γ := [(185, 10, 1, s_M_isState), (108, 0, 3, s_M_in), (211, 10, 2, s_M_reachFrom)]) (rt := 1) (by decide +kernel) P_M_ok Q_M_ok (by
    refine List.forall_mem_cons.mpr ⟨?_, List.forall_mem_cons.mpr ⟨?_, List.forall_mem_cons.mpr ⟨?_, fun _ h => absurd h List.not_mem_nil⟩⟩⟩
    · exact m_M_isState S_M_isState (by decide) l_M_185
    · exact m_M_in S_M_in (by decide) l_M_108
    · exact m_M_reachFrom S_M_reachFrom (by decide) l_M_211) (by simp) o_M_ways ?_
  intro as σ Q hh0
  obtain ⟨c0, rr0, rfl, hh1⟩ := popR_inv hh0
  obtain ⟨i, rr1, rfl, hh2⟩ := popI_inv hh1
  obtain ⟨j, rr2, rfl, hh3⟩ := popI_inv hh2
  obtain ⟨n, rr3, rfl, hh4⟩ := popI_inv hh3
  obtain ⟨hrE, rfl, hN, hf, hri, hrj, hrn, hQ⟩ := hh4
  subst hrE
  clear hh0 hh1 hh2 hh3
  refine ⟨Nat.le_of_ble_eq_true rfl, [], 14, ?_, cuts0⟩
  · rw [show entL 4 [.inr (.inr (some 37)), .inl i, .inl j, .inl n] = [.inr (.inr (some 37)), .inl i, .inl j, .inl n] from rfl]
    simp only [↓wpN_go, jmp_e, ↓wp_aload_n0, ↓wp_bipush, ↓wp_getfield, ↓wp_i2l, ↓wp_iaload, ↓wp_if_eq, ↓wp_if_ne, ↓wp_iload_n1, ↓wp_iload_n2, ↓wp_iload_n3, ↓wp_invokestatic, ↓wp_invokevirtual, ↓wp_ireturn1, ↓wp_lconst0, ↓wp_ldc2_w, wp_nil, ↓ldI_0, ↓ldI_s, ↓ldL_0, ↓ldL_s, ↓ldR_0, ↓ldR_s, sto1_0, sto1_1, sto1_s, sto2_0, sto2_1, sto2_s, isLong_i, isLong_l, isLong_r, ↓popI_c, ↓popL_c, ↓popR_c, ↓popN_0, ↓popN_s, catS_n, catS_c, psh_s, psh_n, fldV_n, fldV_s, ↓tgt_e, sw_n, ↓sw_c, ↓lk1_h, ↓lk1_m, ↓atC_h, ↓atC_m, ↓atC_n, ltO_n, ltO_s, updR_eq, updR_ne, gI_0i, gI_0l, gI_s, ltM_iff, List.cons.injEq, Sum.inl.injEq, Sum.inr.injEq, Option.some.injEq, exists_eq_left, exists_eq_left', exists_eq_right, exists_eq_right', exists_and_left, exists_and_right, exists_eq, exists_const, and_assoc, ↓j_M_ways_0, ↓j_M_ways_28, ↓j_M_ways_31, ↓c_M_100209, ↓f_M_82, List.length_cons, List.length_nil, Nat.zero_add, Nat.reduceAdd, Int.reduceAdd, Int.reduceNeg, Int.reduceToNat, Int.reduceLE, Int.reduceLT, true_and, and_true, Nat.reduceLT, reduceIte, Nat.reduceEqDiff, ne_eq, not_false_eq_true, false_implies, true_implies, Bool.false_eq_true, reduceCtorEq, List.cons_append, List.nil_append, Nat.reduceSub, Nat.reduceLeDiff, Fin.isValue, Int.reduceNatCast', Int.zero_add, Int.add_zero, decide_true, decide_false, implies_true, forall_const, true_or, or_true, or_false, false_or, false_and, and_false, Int.toNat_natCast, ↓oF_37_0, ↓oF_37_1, ↓oF_37_2, ↓oF_37_3, ↓aF_38, ↓oF_37_4, ↓aF_39, ↓oF_37_5, ↓oF_37_6, ↓aF_40, ↓oF_37_7, ↓oF_37_8, ↓aF_41, ↓oF_37_9, ↓aF_42, ↓oF_37_10, ↓aF_43, ↓oF_37_11, ↓aF_44, ↓oF_37_12, ↓aF_45, ↓oF_37_13, ↓aF_46, ↓oF_37_14, ↓aF_47, ↓oF_37_15, ↓aF_48, ↓oF_37_16, ↓aF_49, ↓oF_37_17, ↓oF_37_18, ↓aF_50, ↓oF_37_19, ↓aF_51, ↓oF_37_20, ↓aF_52, ↓oF_37_21, ↓aF_53, ↓oF_37_22, ↓aF_54, ↓oF_37_23, ↓aF_55, ↓oF_37_24, ↓aF_56, ↓oF_37_25, ↓aF_57, ↓oF_37_26, ↓oF_37_27, ↓oF_37_28, ↓aF_58, ↓oF_37_29, ↓aF_59, ↓oF_37_30, ↓aF_60, ↓oF_37_31, ↓aF_61, ↓oF_37_32, ↓oF_37_33, ↓oF_37_34, ↓oF_37_35, ↓aF_62, ↓oF_37_36, ↓oF_37_37, ↓aF_63, ↓oF_37_38, ↓oF_37_39, ↓aF_64, ↓oF_37_40, ↓aF_65, ↓oF_37_41, ↓aF_66, oC_0, oC_1, oC_4, oC_11, oC_16, oC_18, oC_20, oC_23, oC_25, oC_26, oC_29, oC_31, oC_33, oC_35, oC_37, isT_29, isT_31, isT_33, isT_35, isL_16, isL_18, isL_26, b2i_0, b2i_1, b2i_01, b2i_r, ↓e_M_isState, ↓e_M_in, ↓e_M_reachFrom]
    have q1 : ∀ g h, ReachG σ (σ 37 17) i n.toNat g → (0 ≤ i ∧ i < σ 37 17) → (0 ≤ j ∧ j < σ 37 17) → 0 ≤ n → n ≤ 12 → Q (some (.inl (g j.toNat))) (updR (updR σ 59 g) 60 h) := fun g h hg h1 h2 h3 h4 => by
      rw [if_pos ⟨h1, h2, h3, h4⟩] at hQ
      have := hg j.toNat (by omega)
      rw [Int.toNat_of_nonneg h2.1] at this
      rw [this]
      exact hQ g h
    have q2 : ¬ ((0 ≤ i ∧ i < σ 37 17) ∧ (0 ≤ j ∧ j < σ 37 17) ∧ 0 ≤ n ∧ n ≤ 12) → Q (some (.inl (-2))) σ := fun h => by rw [if_neg h] at hQ; exact hQ
    clear hQ
    (try simp only [rI_iff, rL_iff] at *)
    repeat' (with_reducible (first | assumption | apply And.intro | intro _))
    all_goals first | omega | with_reducible assumption | exact True.intro | skip
    all_goals first
      | exact q1 _ _ (by assumption) (by omega) (by omega) (by omega) (by omega)
      | exact q2 (by omega)
      | trace_state
