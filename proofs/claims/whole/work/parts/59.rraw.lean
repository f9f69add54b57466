/-! the reference: raw states -/
def bhS (σ : St) (c bit : Int) : Int := bhZ (σ 37 0) (σ 37 1) (σ 37 2) (σ 37 5) (σ 38) (σ 39) c bit
def CdOK (k c : Int) : Prop := 0 ≤ c ∧ c < 11264 ∧ 1 ≤ lastP c ∧ (0 ≤ k → zerP c ≤ k) ∧ (k < 0 → zerP c = 0)
theorem bhZ_ok {d k nw ln c bit : Int} {wb ws : Nat → Int} (hB : BansOK d k nw ln wb ws) (hc : CdOK k c) (hb : bit = 0 ∨ bit = 1) : bhZ d k nw ln wb ws c bit = -1 ∨ CdOK k (bhZ d k nw ln wb ws c bit) := by
  obtain ⟨hk1, hw1, hl1⟩ := hB
  obtain ⟨c1, c2, c3, c4, c5⟩ := hc
  have hlp : lastP c < 64 ∧ 0 ≤ seenP c ∧ seenP c ≤ 1 ∧ 0 ≤ zerP c ∧ zerP c ≤ 8 ∧ -5 ≤ tP c ∧ tP c ≤ 5 := by
    unfold lastP seenP zerP tP
    omega
  have hm := memW_r (k := 0) (by omega) hw1 nw.toNat (by have := hw1.1; omega)
  have hm5 : memW ws 0 nw.toNat ≤ 5 := by
    have key : ∀ n : Nat, (n : Int) ≤ nw → memW ws 0 n ≤ 5 := by
      intro n
      induction n with
      | zero => intro _; rw [memW]; omega
      | succ n ih =>
        intro hn
        have h1 := ih (by omega)
        have h2 := hw1.2.2 n (by omega)
        rw [memW]
        omega
    exact key _ (by have := hw1.1; omega)
  have hs1 := shortZ_1 (g := 2 * lastP c + bit) (mem := memW ws 0 nw.toNat) (by omega) ⟨hm.1, by omega⟩
  have hs2 : shortZ (2 * lastP c + bit) (memW ws 0 nw.toNat) < 64 := by
    have h1 := p2_le (show (memW ws 0 nw.toNat).toNat ≤ 5 by omega)
    have h2 : (2 : Int) ^ 5 = 32 := by decide
    have h3 := Int.emod_lt_of_pos (2 * lastP c + bit) (b := 2 ^ (memW ws 0 nw.toNat).toNat) (p2_pos _)
    unfold shortZ
    split <;> omega
  unfold bhZ
  by_cases hx : (0 ≤ k ∧ ((bit = 0 ∧ zerP c = k) ∨ (bit = 1 ∧ seenP c = 1 ∧ zerP c < d))) ∨ (0 ≤ ln ∧ (tP c + (if bit = 1 then 1 else -1) < -ln ∨ ln < tP c + (if bit = 1 then 1 else -1))) ∨ endW wb ws (2 * lastP c + bit) nw.toNat = true
  · rw [if_pos hx]
    exact Or.inl rfl
  · rw [if_neg hx]
    right
    have x1 : ¬ (0 ≤ k ∧ ((bit = 0 ∧ zerP c = k) ∨ (bit = 1 ∧ seenP c = 1 ∧ zerP c < d))) := fun q => hx (Or.inl q)
    have x2 : ¬ (0 ≤ ln ∧ (tP c + (if bit = 1 then 1 else -1) < -ln ∨ ln < tP c + (if bit = 1 then 1 else -1))) := fun q => hx (Or.inr (Or.inl q))
    clear hx
    generalize shortZ (2 * lastP c + bit) (memW ws 0 nw.toNat) = sh at *
    have hz : 0 ≤ (if 0 ≤ k then (if bit = 0 then zerP c + 1 else 0) else zerP c) ∧ (0 ≤ k → (if 0 ≤ k then (if bit = 0 then zerP c + 1 else 0) else zerP c) ≤ k) ∧ (k < 0 → (if 0 ≤ k then (if bit = 0 then zerP c + 1 else 0) else zerP c) = 0) ∧ (if 0 ≤ k then (if bit = 0 then zerP c + 1 else 0) else zerP c) ≤ 7 := by
      by_cases h1 : 0 ≤ k
      · rw [if_pos h1]
        by_cases h2 : bit = 0
        · rw [if_pos h2]; omega
        · rw [if_neg h2]; omega
      · rw [if_neg h1]; omega
    have hse : 0 ≤ (if 0 ≤ k then (if bit = 1 then 1 else seenP c) else seenP c) ∧ (if 0 ≤ k then (if bit = 1 then 1 else seenP c) else seenP c) ≤ 1 := by
      split
      · split <;> omega
      · omega
    have ht : -5 ≤ (if 0 ≤ ln then tP c + (if bit = 1 then 1 else -1) else tP c) ∧ (if 0 ≤ ln then tP c + (if bit = 1 then 1 else -1) else tP c) ≤ 5 := by
      by_cases h1 : 0 ≤ ln
      · rw [if_pos h1]
        omega
      · rw [if_neg h1]; omega
    generalize (if 0 ≤ k then (if bit = 0 then zerP c + 1 else 0) else zerP c) = z at *
    generalize (if 0 ≤ k then (if bit = 1 then 1 else seenP c) else seenP c) = s at *
    generalize (if 0 ≤ ln then tP c + (if bit = 1 then 1 else -1) else tP c) = t at *
    have hcd := cd_dec (z := z) (s := s) (l := sh) (t := t) hz.1 hse ⟨by omega, hs2⟩ ht
    refine ⟨?_, ?_, by omega, fun h => by have := hz.2.1 h; omega, fun h => by have := hz.2.2.1 h; omega⟩
    · unfold cdF; omega
    · unfold cdF; omega
def RawSt (σ τ : St) (c r : Int) : Prop := (c = -1 ∧ r = -1 ∧ τ = σ) ∨ (c ≠ -1 ∧ σ 40 c.toNat ≠ -1 ∧ r = σ 40 c.toNat ∧ τ = σ) ∨ (c ≠ -1 ∧ σ 40 c.toNat = -1 ∧ r = σ 37 7 ∧ τ = updR (updR (updR σ 40 (up1 (σ 40) c.toNat (σ 37 7))) 41 (up1 (σ 41) (σ 37 7).toNat c)) 37 (up1 (σ 37) 7 (σ 37 7 + 1)))
def s_M_rawOf : Spec := fun as σ Q => popR as fun c0 r0 => popI r0 fun c r1 => r1 = [] ∧ c0 = 37 ∧ (-1 ≤ c ∧ c < 11264) ∧ (0 ≤ σ 37 7 ∧ σ 37 7 ≤ 11264) ∧ (∀ k : Nat, k < 11264 → rI (σ 40 k) ∧ (σ 40 k = -1 → σ 37 7 < 11264)) ∧ ∀ τ r, RawSt σ τ c r → Q (some (.inl r)) τ
theorem e_M_rawOf (c : Int) (σ : St) (Q : Option AV → St → Prop) : s_M_rawOf [.inr (.inr (some 37)), .inl c] σ Q = ((-1 ≤ c ∧ c < 11264) ∧ (0 ≤ σ 37 7 ∧ σ 37 7 ≤ 11264) ∧ (∀ k : Nat, k < 11264 → rI (σ 40 k) ∧ (σ 40 k = -1 → σ 37 7 < 11264)) ∧ ∀ τ r, RawSt σ τ c r → Q (some (.inl r)) τ) := by
  show ([] = [] ∧ _) = _
  simp only [true_and]
set_option maxHeartbeats 4000000 in
set_option maxRecDepth 20000 in
theorem S_M_rawOf {l : Launch} : Sat l y_M_rawOf b_M_rawOf 2 (some .int) 0 s_M_rawOf := by
  refine sat_of (Φ := P_M) (κ := Q_M) (Γ := []) (rt := 1) (by decide +kernel) P_M_ok Q_M_ok (fun g hg => absurd hg List.not_mem_nil) (by simp) o_M_rawOf ?_
  intro as σ Q hh0
  obtain ⟨c0, rr0, rfl, hh1⟩ := popR_inv hh0
  obtain ⟨c, rr1, rfl, hh2⟩ := popI_inv hh1
  obtain ⟨hrE, rfl, hc, hf7, hp, hQ⟩ := hh2
  subst hrE
  clear hh0 hh1
  refine ⟨Nat.le_of_ble_eq_true rfl, [], 14, ?_, cuts0⟩
  · rw [show entL 2 [.inr (.inr (some 37)), .inl c] = [.inr (.inr (some 37)), .inl c] from rfl]
    simp only [↓wpN_go, jmp_e, ↓wp_aload_n0, ↓wp_dup, ↓wp_getfield, ↓wp_iadd, ↓wp_iaload, ↓wp_iastore, ↓wp_icmp_ne, ↓wp_iconst, ↓wp_iload_n1, ↓wp_ireturn1, ↓wp_putfield, wp_nil, ↓ldI_0, ↓ldI_s, ↓ldL_0, ↓ldL_s, ↓ldR_0, ↓ldR_s, sto1_0, sto1_1, sto1_s, sto2_0, sto2_1, sto2_s, isLong_i, isLong_l, isLong_r, ↓popI_c, ↓popL_c, ↓popR_c, ↓popN_0, ↓popN_s, catS_n, catS_c, psh_s, psh_n, fldV_n, fldV_s, ↓tgt_e, sw_n, ↓sw_c, ↓lk1_h, ↓lk1_m, ↓atC_h, ↓atC_m, ↓atC_n, ltO_n, ltO_s, updR_eq, updR_ne, gI_0i, gI_0l, gI_s, ltM_iff, List.cons.injEq, Sum.inl.injEq, Sum.inr.injEq, Option.some.injEq, exists_eq_left, exists_eq_left', exists_eq_right, exists_eq_right', exists_and_left, exists_and_right, exists_eq, exists_const, and_assoc, ↓j_M_rawOf_0, ↓j_M_rawOf_7, ↓j_M_rawOf_47, ↓f_M_140, ↓f_M_23, ↓f_M_26, List.length_cons, List.length_nil, Nat.zero_add, Nat.reduceAdd, Int.reduceAdd, Int.reduceNeg, Int.reduceToNat, Int.reduceLE, Int.reduceLT, true_and, and_true, Nat.reduceLT, reduceIte, Nat.reduceEqDiff, ne_eq, not_false_eq_true, false_implies, true_implies, Bool.false_eq_true, reduceCtorEq, List.cons_append, List.nil_append, Nat.reduceSub, Nat.reduceLeDiff, Fin.isValue, Int.reduceNatCast', Int.zero_add, Int.add_zero, decide_true, decide_false, implies_true, forall_const, true_or, or_true, or_false, false_or, false_and, and_false, Int.toNat_natCast, ↓oF_37_0, ↓oF_37_1, ↓oF_37_2, ↓oF_37_3, ↓aF_38, ↓oF_37_4, ↓aF_39, ↓oF_37_5, ↓oF_37_6, ↓aF_40, ↓oF_37_7, ↓oF_37_8, ↓aF_41, ↓oF_37_9, ↓aF_42, ↓oF_37_10, ↓aF_43, ↓oF_37_11, ↓aF_44, ↓oF_37_12, ↓aF_45, ↓oF_37_13, ↓aF_46, ↓oF_37_14, ↓aF_47, ↓oF_37_15, ↓aF_48, ↓oF_37_16, ↓aF_49, ↓oF_37_17, ↓oF_37_18, ↓aF_50, ↓oF_37_19, ↓aF_51, ↓oF_37_20, ↓aF_52, ↓oF_37_21, ↓aF_53, ↓oF_37_22, ↓aF_54, ↓oF_37_23, ↓aF_55, ↓oF_37_24, ↓aF_56, ↓oF_37_25, ↓aF_57, ↓oF_37_26, ↓oF_37_27, ↓oF_37_28, ↓aF_58, ↓oF_37_29, ↓aF_59, ↓oF_37_30, ↓aF_60, ↓oF_37_31, ↓aF_61, ↓oF_37_32, ↓oF_37_33, ↓oF_37_34, ↓oF_37_35, ↓aF_62, ↓oF_37_36, ↓oF_37_37, ↓aF_63, ↓oF_37_38, ↓oF_37_39, ↓aF_64, ↓oF_37_40, ↓aF_65, ↓oF_37_41, ↓aF_66, oC_0, oC_1, oC_4, oC_11, oC_16, oC_18, oC_20, oC_23, oC_25, oC_26, oC_29, oC_31, oC_33, oC_35, oC_37, isT_29, isT_31, isT_33, isT_35, isL_16, isL_18, isL_26]
    have h9 := fun h => hp c.toNat h
    have q1 : c = -1 → Q (some (.inl (-1))) σ := fun h => hQ _ _ (Or.inl ⟨h, rfl, rfl⟩)
    have q2 : ¬ c = -1 → ¬ σ 40 c.toNat = -1 → Q (some (.inl (σ 40 c.toNat))) σ := fun h h2 => hQ _ _ (Or.inr (Or.inl ⟨h, h2, rfl, rfl⟩))
    have q3 : ¬ c = -1 → σ 40 c.toNat = -1 → Q (some (.inl (σ 37 7))) (updR (updR (updR σ 40 (up1 (σ 40) c.toNat (σ 37 7))) 41 (up1 (σ 41) (σ 37 7).toNat c)) 37 (up1 (σ 37) 7 (σ 37 7 + 1))) := fun h h2 => hQ _ _ (Or.inr (Or.inr ⟨h, h2, rfl, rfl⟩))
    clear hQ hp
    (try simp only [rI_iff, rL_iff] at *)
    repeat' (with_reducible (first | assumption | apply And.intro | intro _))
    all_goals first | omega | with_reducible assumption | exact True.intro | skip
    all_goals first
      | omega
      | exact q1 (by assumption)
      | exact q2 (by assumption) (by assumption)
      | (rw [up1_eq]; exact q3 (by assumption) (by assumption))
      | trace_state
def nxM (u : St) : Nat → Int := fun π => if π % 2 = 0 then u 42 (π / 2) else u 43 (π / 2)
theorem nxM_0 {u : St} {i : Nat} {z : Int} : nxM (updR u 42 (up1 (u 42) i z)) = up1 (nxM u) (2 * i) z := by
  funext π
  unfold nxM
  rw [updR_eq, updR_ne _ 42 43 _ (by decide), up1_app, up1_app]
  by_cases e : π = 2 * i
  · rw [if_pos e, if_pos (by omega), if_pos (by omega)]
  · rw [if_neg e]
    by_cases e2 : π % 2 = 0
    · rw [if_pos e2, if_neg (by omega), if_pos e2]
    · rw [if_neg e2, if_neg e2]
theorem nxM_1 {u : St} {i : Nat} {z : Int} : nxM (updR u 43 (up1 (u 43) i z)) = up1 (nxM u) (2 * i + 1) z := by
  funext π
  unfold nxM
  rw [updR_eq, updR_ne _ 43 42 _ (by decide), up1_app, up1_app]
  by_cases e : π = 2 * i + 1
  · rw [if_pos e, if_neg (by omega), if_pos (by omega)]
  · rw [if_neg e]
    by_cases e2 : π % 2 = 0
    · rw [if_pos e2, if_pos e2]
    · rw [if_neg e2, if_neg (by omega), if_neg e2]
theorem nxM_eq {u v : St} (h0 : v 42 = u 42) (h1 : v 43 = u 43) : nxM v = nxM u := by
  unfold nxM
  rw [h0, h1]
def FrR (σ u : St) : Prop := (∀ k, k ≠ 37 → k ≠ 40 → k ≠ 41 → k ≠ 42 → k ≠ 43 → k ≠ 44 → u k = σ k) ∧ ∀ j, j ≠ 7 → u 37 j = σ 37 j
def RawI (σ u : St) (m a : Int) : Prop := FrR σ u ∧ ExpI (bhS σ) 11264 16 (u 37 7) (u 41) (u 40) (nxM u) m ∧ (∀ i : Nat, (i : Int) < u 37 7 → CdOK (σ 37 1) (u 41 i)) ∧ ∀ i : Nat, (i : Int) < a → u 44 i = 1
theorem raw3 {σ v : St} {c : Int} (h : v = updR (updR (updR σ 40 (up1 (σ 40) c.toNat (σ 37 7))) 41 (up1 (σ 41) (σ 37 7).toNat c)) 37 (up1 (σ 37) 7 (σ 37 7 + 1))) : v 37 = up1 (σ 37) 7 (σ 37 7 + 1) ∧ v 40 = up1 (σ 40) c.toNat (σ 37 7) ∧ v 41 = up1 (σ 41) (σ 37 7).toNat c ∧ ∀ k, k ≠ 37 → k ≠ 40 → k ≠ 41 → v k = σ k := by
  rw [h]
  refine ⟨updR_eq _ _ _, ?_, ?_, fun k k1 k2 k3 => ?_⟩
  · rw [updR_ne _ 37 40 _ (by decide), updR_ne _ 41 40 _ (by decide), updR_eq]
  · rw [updR_ne _ 37 41 _ (by decide), updR_eq]
  · rw [updR_ne _ _ _ _ k1, updR_ne _ _ _ _ k3, updR_ne _ _ _ _ k2]
theorem raw_set {σ u v w : St} {m a r : Int} (hB : BansOK (σ 37 0) (σ 37 1) (σ 37 2) (σ 37 5) (σ 38) (σ 39)) (h : RawI σ u m a) (hm : m < 2 * u 37 7) (hp : RawSt u v (bhS σ (u 41 (m.toNat / 2)) ((m.toNat % 2 : Nat) : Int)) r) (hw : (∀ k, k ≠ 42 → k ≠ 43 → w k = v k) ∧ nxM w = up1 (nxM v) m.toNat r) : RawI σ w (m + 1) a ∧ u 37 7 ≤ w 37 7 ∧ ∀ i : Nat, (i : Int) < u 37 7 → w 41 i = u 41 i := by
  obtain ⟨h1, h4, h5, h6⟩ := h
  obtain ⟨hw1, hw2⟩ := hw
  have hm0 := h4.1.2.1
  have w37 := hw1 37 (by decide) (by decide)
  have w40 := hw1 40 (by decide) (by decide)
  have w41 := hw1 41 (by decide) (by decide)
  have w44 := hw1 44 (by decide) (by decide)
  have hkey := h4.2.2.1 (m.toNat / 2) (by omega)
  have hr := bhZ_ok (bit := ((m.toNat % 2 : Nat) : Int)) hB (h5 (m.toNat / 2) (by omega)) (by omega)
  have hr2 : bhS σ (u 41 (m.toNat / 2)) ((m.toNat % 2 : Nat) : Int) = -1 ∨ CdOK (σ 37 1) (bhS σ (u 41 (m.toNat / 2)) ((m.toNat % 2 : Nat) : Int)) := hr
  clear hr
  generalize hK : bhS σ (u 41 (m.toNat / 2)) ((m.toNat % 2 : Nat) : Int) = key at *
  have hfr : ∀ x : St, x = u → (∀ k, k ≠ 37 → k ≠ 40 → k ≠ 41 → k ≠ 42 → k ≠ 43 → k ≠ 44 → x k = σ k) ∧ ∀ j, j ≠ 7 → x 37 j = σ 37 j := fun x hx => by rw [hx]; exact h1
  unfold RawI FrR
  rw [w37, w40, w41, w44, hw2]
  rcases hp with ⟨a1, a3, hv⟩ | ⟨a1, a2, a3, hv⟩ | ⟨a1, a2, a3, hv⟩
  · subst hv
    refine ⟨⟨⟨fun k k1 k2 k3 k4 k5 k6 => by rw [hw1 k k4 k5]; exact h1.1 k k1 k2 k3 k4 k5 k6, h1.2⟩, ?_, h5, h6⟩, Int.le_refl _, fun _ _ => rfl⟩
    rw [a3]
    exact exp_any h4 (by have := h4.1.1; omega) (fun _ => by omega) (fun q => absurd rfl q) hm
  · subst hv
    have hcd := hr2.resolve_left a1
    have h7 := h4.2.2.2.1 key.toNat (by have := hcd.1; have := hcd.2.1; omega)
    have h8 := h7.resolve_left a2
    refine ⟨⟨⟨fun k k1 k2 k3 k4 k5 k6 => by rw [hw1 k k4 k5]; exact h1.1 k k1 k2 k3 k4 k5 k6, h1.2⟩, ?_, h5, h6⟩, Int.le_refl _, fun _ _ => rfl⟩
    rw [a3]
    refine exp_any h4 ⟨by omega, h8.2.1⟩ (fun q => absurd q a2) (fun _ => ?_) hm
    rw [h8.2.2, hK]
    have := hcd.1
    omega
  · have hcd := hr2.resolve_left a1
    have hk0 := hcd.1
    have hk1 := hcd.2.1
    have hc := exp_lt h4 (k := key.toNat) (by omega) a2
    have hc1 := h4.1.1
    have h8 := exp_new h4 hK.symm ⟨hk0, by omega⟩ a2 hm
    obtain ⟨f37, f40, f41, fr⟩ := raw3 hv
    have f42 := fr 42 (by decide) (by decide) (by decide)
    have f43 := fr 43 (by decide) (by decide) (by decide)
    have f44 := fr 44 (by decide) (by decide) (by decide)
    have fn := nxM_eq f42 f43
    rw [f37, f40, f41, f44, fn, a3, up1_eq]
    refine ⟨⟨⟨fun k k1 k2 k3 k4 k5 k6 => ?_, fun j hj => ?_⟩, h8, fun i hi => ?_, h6⟩, by omega, fun i hi => ?_⟩
    · rw [hw1 k k4 k5, fr k k1 k2 k3]; exact h1.1 k k1 k2 k3 k4 k5 k6
    · rw [up1_ne _ _ _ _ hj]; exact h1.2 j hj
    · by_cases e : i = (u 37 7).toNat
      · rw [e, up1_eq]; exact hcd
      · rw [up1_ne _ _ _ _ e]; exact h5 i (by omega)
    · rw [up1_ne _ _ _ _ (by omega)]
theorem raw_pre {σ u : St} {m a : Int} (h : RawI σ u m a) : (0 < u 37 7 ∧ u 37 7 ≤ 11264) ∧ ∀ k : Nat, k < 11264 → -2147483648 ≤ u 40 k ∧ u 40 k < 2147483648 ∧ (u 40 k = -1 → u 37 7 < 11264) := by
  have h2 := exp_le h.2.1
  have h3 := h.2.1.1.1
  refine ⟨⟨by omega, by omega⟩, fun k hk => ?_⟩
  have h4 := fun h3 => exp_lt h.2.1 hk h3
  rcases h.2.1.2.2.2.1 k hk with e | e
  · exact ⟨by omega, by omega, fun q => by have := h4 q; omega⟩
  · exact ⟨by omega, by omega, fun q => by omega⟩
theorem raw_start {σ u v : St} {r : Int} (hfr : FrR σ u) (h7 : u 37 7 = 0) (h40 : ∀ k : Nat, k < 11264 → u 40 k = -1) (hp : RawSt u v 16 r) : RawI σ v 0 0 ∧ v 37 7 = 1 := by
  rcases hp with ⟨a1, _⟩ | ⟨a1, a2, _⟩ | ⟨a1, a2, a3, hv⟩
  · omega
  · exact absurd (h40 _ (by omega)) a2
  · obtain ⟨f37, f40, f41, fr⟩ := raw3 hv
    rw [h7] at f37 f40 f41
    have f377 : v 37 7 = 1 := by rw [f37, up1_eq]; rfl
    have hcd : CdOK (σ 37 1) 16 := by
      unfold CdOK lastP zerP
      omega
    refine ⟨⟨⟨fun k k1 k2 k3 k4 k5 k6 => ?_, fun j hj => ?_⟩, ?_, fun i hi => ?_, fun i hi => by omega⟩, f377⟩
    · rw [fr k k1 k2 k3]; exact hfr.1 k k1 k2 k3 k4 k5 k6
    · rw [f37, up1_ne _ _ _ _ hj]; exact hfr.2 j hj
    · rw [f377]
      refine exp_0 (by omega) (by rw [f41]; exact up1_eq _ _ _) (by rw [f40]; exact up1_eq _ _ _) (fun k hk hne => ?_)
      rw [f40, up1_ne _ _ _ _ hne]
      exact h40 k hk
    · rw [f377] at hi
      have : i = (0 : Int).toNat := by omega
      rw [this, f41, up1_eq]
      exact hcd
