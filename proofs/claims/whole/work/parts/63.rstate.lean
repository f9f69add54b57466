/-! the reference: states numbered by first rows -/
def StateSt (σ τ : St) (raw fr bit r : Int) : Prop := (caZ σ raw = -1 ∧ r = -1 ∧ τ = σ) ∨ (caZ σ raw ≠ -1 ∧ σ 55 (caZ σ raw).toNat ≠ -1 ∧ r = σ 55 (caZ σ raw).toNat ∧ τ = σ) ∨
  (caZ σ raw ≠ -1 ∧ σ 55 (caZ σ raw).toNat = -1 ∧ r = σ 37 17 ∧ τ = updR (updR (updR (updR (updR (updR σ 55 (up1 (σ 55) (caZ σ raw).toNat (σ 37 17))) 56 (up1 (σ 56) (σ 37 17).toNat raw)) 52 (up1 (σ 52) (σ 37 17).toNat fr)) 53 (up1 (σ 53) (σ 37 17).toNat bit)) 54 (up1 (σ 54) (σ 37 17).toNat (if fr = -1 then 0 else σ 54 fr.toNat + 1))) 37 (up1 (σ 37) 17 (σ 37 17 + 1)))
def s_M_stateOf : Spec := fun as σ Q => popR as fun c0 r0 => popI r0 fun raw r1 => popI r1 fun fr r2 => popI r2 fun bit r3 => r3 = [] ∧ c0 = 37 ∧ (raw = -1 ∨ (0 ≤ raw ∧ raw < 11264 ∧ (σ 44 raw.toNat = 0 ∨ (σ 44 raw.toNat = 1 ∧ 0 ≤ σ 45 raw.toNat ∧ σ 45 raw.toNat ≤ 100)))) ∧ (-1 ≤ fr ∧ fr < 100) ∧ (∀ c : Nat, c ≤ 100 → rI (σ 55 c) ∧ (σ 55 c = -1 → (caZ σ raw = c → 0 ≤ σ 37 17 ∧ σ 37 17 < 100))) ∧ ∀ τ r, StateSt σ τ raw fr bit r → Q (some (.inl r)) τ
theorem e_M_stateOf (raw : Int) (fr : Int) (bit : Int) (σ : St) (Q : Option AV → St → Prop) : s_M_stateOf [.inr (.inr (some 37)), .inl raw, .inl fr, .inl bit] σ Q = ((raw = -1 ∨ (0 ≤ raw ∧ raw < 11264 ∧ (σ 44 raw.toNat = 0 ∨ (σ 44 raw.toNat = 1 ∧ 0 ≤ σ 45 raw.toNat ∧ σ 45 raw.toNat ≤ 100)))) ∧ (-1 ≤ fr ∧ fr < 100) ∧ (∀ c : Nat, c ≤ 100 → rI (σ 55 c) ∧ (σ 55 c = -1 → (caZ σ raw = c → 0 ≤ σ 37 17 ∧ σ 37 17 < 100))) ∧ ∀ τ r, StateSt σ τ raw fr bit r → Q (some (.inl r)) τ) := by
  show ([] = [] ∧ _) = _
  simp only [true_and]
set_option maxHeartbeats 4000000 in
set_option maxRecDepth 20000 in
theorem S_M_stateOf {l : Launch} : Sat l y_M_stateOf b_M_stateOf 5 (some .int) 1 s_M_stateOf := by
  refine sat_of (Φ := P_M) (κ := Q_M) (Γ := [(151, 10, 1, s_M_isAliveAt)]) (rt := 1) (by decide +kernel) P_M_ok Q_M_ok (by
    refine List.forall_mem_cons.mpr ⟨?_, fun _ h => absurd h List.not_mem_nil⟩
    · exact m_M_isAliveAt S_M_isAliveAt (by decide) l_M_151) (by simp) o_M_stateOf ?_
  intro as σ Q hh0
  obtain ⟨c0, rr0, rfl, hh1⟩ := popR_inv hh0
  obtain ⟨raw, rr1, rfl, hh2⟩ := popI_inv hh1
  obtain ⟨fr, rr2, rfl, hh3⟩ := popI_inv hh2
  obtain ⟨bit, rr3, rfl, hh4⟩ := popI_inv hh3
  obtain ⟨hrE, rfl, hraw, hfr, hn, hQ⟩ := hh4
  subst hrE
  clear hh0 hh1 hh2 hh3
  refine ⟨Nat.le_of_ble_eq_true rfl, [], 14, ?_, cuts0⟩
  · rw [show entL 5 [.inr (.inr (some 37)), .inl raw, .inl fr, .inl bit] = [.inr (.inr (some 37)), .inl raw, .inl fr, .inl bit, .inr (.inr none)] from rfl]
    simp only [↓wpN_go, jmp_e, ↓wp_aload_n0, ↓wp_dup, ↓wp_getfield, ↓wp_goto, ↓wp_iadd, ↓wp_iaload, ↓wp_iastore, ↓wp_icmp_ne, ↓wp_iconst, ↓wp_if_ne, ↓wp_iload, ↓wp_iload_n1, ↓wp_iload_n2, ↓wp_iload_n3, ↓wp_invokevirtual, ↓wp_ireturn1, ↓wp_istore, ↓wp_putfield, wp_nil, ↓ldI_0, ↓ldI_s, ↓ldL_0, ↓ldL_s, ↓ldR_0, ↓ldR_s, sto1_0, sto1_1, sto1_s, sto2_0, sto2_1, sto2_s, isLong_i, isLong_l, isLong_r, ↓popI_c, ↓popL_c, ↓popR_c, ↓popN_0, ↓popN_s, catS_n, catS_c, psh_s, psh_n, fldV_n, fldV_s, ↓tgt_e, sw_n, ↓sw_c, ↓lk1_h, ↓lk1_m, ↓atC_h, ↓atC_m, ↓atC_n, ltO_n, ltO_s, updR_eq, updR_ne, gI_0i, gI_0l, gI_s, ltM_iff, List.cons.injEq, Sum.inl.injEq, Sum.inr.injEq, Option.some.injEq, exists_eq_left, exists_eq_left', exists_eq_right, exists_eq_right', exists_and_left, exists_and_right, exists_eq, exists_const, and_assoc, ↓j_M_stateOf_0, ↓j_M_stateOf_10, ↓j_M_stateOf_87, ↓j_M_stateOf_95, ↓j_M_stateOf_106, ↓f_M_160, ↓f_M_39, ↓f_M_60, ↓f_M_63, ↓f_M_66, ↓f_M_69, ↓f_M_72, List.length_cons, List.length_nil, Nat.zero_add, Nat.reduceAdd, Int.reduceAdd, Int.reduceNeg, Int.reduceToNat, Int.reduceLE, Int.reduceLT, true_and, and_true, Nat.reduceLT, reduceIte, Nat.reduceEqDiff, ne_eq, not_false_eq_true, false_implies, true_implies, Bool.false_eq_true, reduceCtorEq, List.cons_append, List.nil_append, Nat.reduceSub, Nat.reduceLeDiff, Fin.isValue, Int.reduceNatCast', Int.zero_add, Int.add_zero, decide_true, decide_false, implies_true, forall_const, true_or, or_true, or_false, false_or, false_and, and_false, Int.toNat_natCast, ↓oF_37_0, ↓oF_37_1, ↓oF_37_2, ↓oF_37_3, ↓aF_38, ↓oF_37_4, ↓aF_39, ↓oF_37_5, ↓oF_37_6, ↓aF_40, ↓oF_37_7, ↓oF_37_8, ↓aF_41, ↓oF_37_9, ↓aF_42, ↓oF_37_10, ↓aF_43, ↓oF_37_11, ↓aF_44, ↓oF_37_12, ↓aF_45, ↓oF_37_13, ↓aF_46, ↓oF_37_14, ↓aF_47, ↓oF_37_15, ↓aF_48, ↓oF_37_16, ↓aF_49, ↓oF_37_17, ↓oF_37_18, ↓aF_50, ↓oF_37_19, ↓aF_51, ↓oF_37_20, ↓aF_52, ↓oF_37_21, ↓aF_53, ↓oF_37_22, ↓aF_54, ↓oF_37_23, ↓aF_55, ↓oF_37_24, ↓aF_56, ↓oF_37_25, ↓aF_57, ↓oF_37_26, ↓oF_37_27, ↓oF_37_28, ↓aF_58, ↓oF_37_29, ↓aF_59, ↓oF_37_30, ↓aF_60, ↓oF_37_31, ↓aF_61, ↓oF_37_32, ↓oF_37_33, ↓oF_37_34, ↓oF_37_35, ↓aF_62, ↓oF_37_36, ↓oF_37_37, ↓aF_63, ↓oF_37_38, ↓oF_37_39, ↓aF_64, ↓oF_37_40, ↓aF_65, ↓oF_37_41, ↓aF_66, oC_0, oC_1, oC_4, oC_11, oC_16, oC_18, oC_20, oC_23, oC_25, oC_26, oC_29, oC_31, oC_33, oC_35, oC_37, isT_29, isT_31, isT_33, isT_35, isL_16, isL_18, isL_26, ↓e_M_isAliveAt]
    have hav : raw = -1 → avZ (σ 44) raw = 0 := fun h => by unfold avZ; rw [if_pos h]
    have hav2 : ¬ raw = -1 → avZ (σ 44) raw = σ 44 raw.toNat := fun h => by unfold avZ; rw [if_neg h]
    have hca : raw = -1 → caZ σ raw = -1 := fun h => by unfold caZ; rw [if_pos h]
    have hca0 : ¬ raw = -1 → σ 44 raw.toNat = 0 → caZ σ raw = -1 := fun h h1 => by unfold caZ gR; rw [if_neg h, if_pos h1]
    have hca1 : ¬ raw = -1 → ¬ σ 44 raw.toNat = 0 → caZ σ raw = σ 45 raw.toNat := fun h h1 => by unfold caZ gR; rw [if_neg h, if_neg h1]
    have q1 : caZ σ raw = -1 → Q (some (.inl (-1))) σ := fun h => hQ _ _ (Or.inl ⟨h, rfl, rfl⟩)
    have q2 : ∀ c, c = caZ σ raw → ¬ c = -1 → ¬ σ 55 c.toNat = -1 → Q (some (.inl (σ 55 c.toNat))) σ := fun c hc h h1 => by
      rw [hc] at h h1 ⊢
      exact hQ _ _ (Or.inr (Or.inl ⟨h, h1, rfl, rfl⟩))
    have q3 : ∀ c, c = caZ σ raw → ¬ c = -1 → σ 55 c.toNat = -1 → Q (some (.inl (σ 37 17))) (updR (updR (updR (updR (updR (updR σ 55 (up1 (σ 55) c.toNat (σ 37 17))) 56 (up1 (σ 56) (σ 37 17).toNat raw)) 52 (up1 (σ 52) (σ 37 17).toNat fr)) 53 (up1 (σ 53) (σ 37 17).toNat bit)) 54 (up1 (σ 54) (σ 37 17).toNat (if fr = -1 then 0 else σ 54 fr.toNat + 1))) 37 (up1 (σ 37) 17 (σ 37 17 + 1))) := fun c hc h h1 => by
      rw [hc] at h h1 ⊢
      exact hQ _ _ (Or.inr (Or.inr ⟨h, h1, rfl, rfl⟩))
    have q3a : ∀ c, c = caZ σ raw → ¬ c = -1 → σ 55 c.toNat = -1 → fr = -1 → Q (some (.inl (σ 37 17))) (updR (updR (updR (updR (updR (updR σ 55 (up1 (σ 55) c.toNat (σ 37 17))) 56 (up1 (σ 56) (σ 37 17).toNat raw)) 52 (up1 (σ 52) (σ 37 17).toNat fr)) 53 (up1 (σ 53) (σ 37 17).toNat bit)) 54 (up1 (σ 54) (σ 37 17).toNat 0)) 37 (up1 (σ 37) 17 (σ 37 17 + 1))) := fun c hc h h1 h2 => by
      have := q3 c hc h h1
      rw [if_pos h2] at this
      exact this
    have q3b : ∀ c, c = caZ σ raw → ¬ c = -1 → σ 55 c.toNat = -1 → ¬ fr = -1 → Q (some (.inl (σ 37 17))) (updR (updR (updR (updR (updR (updR σ 55 (up1 (σ 55) c.toNat (σ 37 17))) 56 (up1 (σ 56) (σ 37 17).toNat raw)) 52 (up1 (σ 52) (σ 37 17).toNat fr)) 53 (up1 (σ 53) (σ 37 17).toNat bit)) 54 (up1 (σ 54) (σ 37 17).toNat (σ 54 fr.toNat + 1))) 37 (up1 (σ 37) 17 (σ 37 17 + 1))) := fun c hc h h1 h2 => by
      have := q3 c hc h h1
      rw [if_neg h2] at this
      exact this
    clear hQ q3
    simp only [up1_eq]
    by_cases hc : raw = -1
    · have hqq := q1 (hca hc)
      have hz : avZ (σ 44) (-1) = 0 := by have := hav hc; rw [hc] at this; exact this
      subst hc
      (try simp only [rI_iff, rL_iff] at *)
      repeat' (with_reducible (first | assumption | apply And.intro | intro _))
      all_goals first | omega | with_reducible assumption | exact True.intro | skip
      all_goals first
        | omega
        | exact hqq
        | exact Or.inl trivial
        | exact Or.inl rfl
        | trace_state
    · have hav2 := hav2 hc
      by_cases h44 : σ 44 raw.toNat = 0
      · have hca0 := hca0 hc h44
        generalize avZ (σ 44) raw = z at *
        (try simp only [rI_iff, rL_iff] at *)
        repeat' (with_reducible (first | assumption | apply And.intro | intro _))
        all_goals first | omega | with_reducible assumption | exact True.intro | skip
        all_goals first
          | omega
          | exact q1 hca0
          | trace_state
      · have hca1 := hca1 hc h44
        have hr2 : 0 ≤ σ 45 raw.toNat ∧ σ 45 raw.toNat ≤ 100 := by omega
        have hn1 := hn (σ 45 raw.toNat).toNat (by omega)
        have hn2 : σ 55 (σ 45 raw.toNat).toNat = -1 → 0 ≤ σ 37 17 ∧ σ 37 17 < 100 := fun h => hn1.2 h (by omega)
        have hn3 := hn1.1
        have q2 := q2 (σ 45 raw.toNat) hca1.symm (by omega)
        have q3a := q3a (σ 45 raw.toNat) hca1.symm (by omega)
        have q3b := q3b (σ 45 raw.toNat) hca1.symm (by omega)
        clear hn hn1
        generalize avZ (σ 44) raw = z at *
        (try simp only [rI_iff, rL_iff] at *)
        repeat' (with_reducible (first | assumption | apply And.intro | intro _))
        all_goals first | omega | with_reducible assumption | exact True.intro | skip
        all_goals first
          | omega
          | exact q2 (by assumption)
          | exact q3a (by assumption) (by assumption)
          | exact q3b (by assumption) (by assumption)
          | (have hs1 := hn2 (by assumption); omega)
          | trace_state
/-- where the class of a raw state goes -/
noncomputable def ksG (cnt : Int) (nx g : Nat → Int) (c b : Int) : Int := @dite Int (∃ i : Nat, (i : Int) < cnt ∧ g i = c ∧ g i ≠ -1) (Classical.propDecidable _) (fun h => gaF nx g (Classical.choose h) b.toNat) (fun _ => -1)
theorem ksG_at {cnt : Int} {nx g : Nat → Int} (hs : StabP cnt nx g) {i b : Nat} (hi : (i : Int) < cnt) (h0 : g i ≠ -1) (hb : b ≤ 1) : ksG cnt nx g (g i) (b : Int) = gaF nx g i b := by
  have h : ∃ j : Nat, (j : Int) < cnt ∧ g j = g i ∧ g j ≠ -1 := ⟨i, hi, rfl, h0⟩
  have h2 := Classical.choose_spec h
  unfold ksG
  rw [dif_pos h, Int.toNat_natCast]
  exact hs _ _ h2.1 hi h2.2.2 h2.2.1 b hb
theorem gM_s0 {u : St} {i : Nat} {z : Int} : gM (updR u 50 (up1 (u 50) i z)) = up1 (gM u) (2 * i) z := by
  funext π
  unfold gM
  rw [updR_eq, updR_ne _ 50 51 _ (by decide), up1_app, up1_app]
  by_cases e : π = 2 * i
  · rw [if_pos e, if_pos (by omega), if_pos (by omega)]
  · rw [if_neg e]
    by_cases e2 : π % 2 = 0
    · rw [if_pos e2, if_neg (by omega), if_pos e2]
    · rw [if_neg e2, if_neg e2]
theorem gM_s1 {u : St} {i : Nat} {z : Int} : gM (updR u 51 (up1 (u 51) i z)) = up1 (gM u) (2 * i + 1) z := by
  funext π
  unfold gM
  rw [updR_eq, updR_ne _ 51 50 _ (by decide), up1_app, up1_app]
  by_cases e : π = 2 * i + 1
  · rw [if_pos e, if_neg (by omega), if_pos (by omega)]
  · rw [if_neg e]
    by_cases e2 : π % 2 = 0
    · rw [if_pos e2, if_pos e2]
    · rw [if_neg e2, if_neg (by omega), if_neg e2]
def FrS (w u : St) : Prop := (∀ k, k ≠ 37 → k ≠ 50 → k ≠ 51 → k ≠ 52 → k ≠ 53 → k ≠ 54 → k ≠ 55 → k ≠ 56 → u k = w k) ∧ ∀ j, j ≠ 17 → u 37 j = w 37 j
def FpI (N : Int) (f par bit dep : Nat → Int) (m : Int) : Prop := dep 0 = 0 ∧ ∀ p : Nat, 0 < p → (p : Int) < N → ∃ π : Nat, (π : Int) < m ∧ π < 2 * p ∧ f π = p ∧ (∀ π' : Nat, π' < π → f π' ≠ p) ∧ par p = ((π / 2 : Nat) : Int) ∧ bit p = ((π % 2 : Nat) : Int) ∧ dep p = dep (π / 2) + 1
/-- what stands when the classes are found: the raw states, alive, their classes -/
def ClsOK (w : St) (G : Int) : Prop := (0 < w 37 7 ∧ w 37 7 ≤ 11264) ∧ Wire (w 37 7) (nxM w) ∧ B01 (w 37 7) (w 44) ∧ NumP (w 37 7) (gR w) G ∧ G ≤ 100 ∧ StabP (w 37 7) (nxM w) (gR w) ∧ ∀ i : Nat, (i : Int) < w 37 7 → w 44 i ≠ 0 → gR w i ≠ -1
def BldI (w u : St) (G m : Int) : Prop := FrS w u ∧ ExpI (ksG (w 37 7) (nxM w) (gR w)) G.toNat (gR w 0) (u 37 17) (fun p => gR w (u 56 p).toNat) (u 55) (gM u) m ∧
  (∀ p : Nat, (p : Int) < u 37 17 → 0 ≤ u 56 p ∧ u 56 p < w 37 7 ∧ gR w (u 56 p).toNat ≠ -1) ∧ FpI (u 37 17) (gM u) (u 52) (u 53) (u 54) m ∧ isBits (u 53)
theorem state3 {σ v : St} {raw fr bit c : Int} (h : v = updR (updR (updR (updR (updR (updR σ 55 (up1 (σ 55) c.toNat (σ 37 17))) 56 (up1 (σ 56) (σ 37 17).toNat raw)) 52 (up1 (σ 52) (σ 37 17).toNat fr)) 53 (up1 (σ 53) (σ 37 17).toNat bit)) 54 (up1 (σ 54) (σ 37 17).toNat (if fr = -1 then 0 else σ 54 fr.toNat + 1))) 37 (up1 (σ 37) 17 (σ 37 17 + 1))) : v 37 = up1 (σ 37) 17 (σ 37 17 + 1) ∧ v 55 = up1 (σ 55) c.toNat (σ 37 17) ∧ v 56 = up1 (σ 56) (σ 37 17).toNat raw ∧ v 52 = up1 (σ 52) (σ 37 17).toNat fr ∧ v 53 = up1 (σ 53) (σ 37 17).toNat bit ∧ v 54 = up1 (σ 54) (σ 37 17).toNat (if fr = -1 then 0 else σ 54 fr.toNat + 1) ∧ ∀ k, k ≠ 37 → k ≠ 52 → k ≠ 53 → k ≠ 54 → k ≠ 55 → k ≠ 56 → v k = σ k := by
  rw [h]
  refine ⟨updR_eq _ _ _, ?_, ?_, ?_, ?_, ?_, fun k k1 k2 k3 k4 k5 k6 => ?_⟩
  · rw [updR_ne _ 37 55 _ (by decide), updR_ne _ 54 55 _ (by decide), updR_ne _ 53 55 _ (by decide), updR_ne _ 52 55 _ (by decide), updR_ne _ 56 55 _ (by decide), updR_eq]
  · rw [updR_ne _ 37 56 _ (by decide), updR_ne _ 54 56 _ (by decide), updR_ne _ 53 56 _ (by decide), updR_ne _ 52 56 _ (by decide), updR_eq]
  · rw [updR_ne _ 37 52 _ (by decide), updR_ne _ 54 52 _ (by decide), updR_ne _ 53 52 _ (by decide), updR_eq]
  · rw [updR_ne _ 37 53 _ (by decide), updR_ne _ 54 53 _ (by decide), updR_eq]
  · rw [updR_ne _ 37 54 _ (by decide), updR_eq]
  · rw [updR_ne _ _ _ _ k1, updR_ne _ _ _ _ k4, updR_ne _ _ _ _ k3, updR_ne _ _ _ _ k2, updR_ne _ _ _ _ k6, updR_ne _ _ _ _ k5]
theorem ca_row {u w : St} (h0 : u 44 = w 44) (h1 : u 45 = w 45) (i : Int) : caZ u i = caZ w i := by
  unfold caZ
  rw [gR_row h0 h1]
theorem FrS.rows {w u : St} (h : FrS w u) : u 44 = w 44 ∧ u 45 = w 45 ∧ u 42 = w 42 ∧ u 43 = w 43 ∧ u 37 7 = w 37 7 := ⟨h.1 44 (by decide) (by decide) (by decide) (by decide) (by decide) (by decide) (by decide) (by decide), h.1 45 (by decide) (by decide) (by decide) (by decide) (by decide) (by decide) (by decide) (by decide), h.1 42 (by decide) (by decide) (by decide) (by decide) (by decide) (by decide) (by decide) (by decide), h.1 43 (by decide) (by decide) (by decide) (by decide) (by decide) (by decide) (by decide) (by decide), h.2 7 (by decide)⟩
theorem bld_set {w u v x : St} {G m r : Int} (hC : ClsOK w G) (h : BldI w u G m) (hm : m < 2 * u 37 17) (hp : StateSt u v (nxM w (2 * (u 56 (m.toNat / 2)).toNat + m.toNat % 2)) ((m.toNat / 2 : Nat) : Int) ((m.toNat % 2 : Nat) : Int) r) (hx : (∀ k, k ≠ 50 → k ≠ 51 → x k = v k) ∧ gM x = up1 (gM v) m.toNat r) : BldI w x G (m + 1) ∧ u 37 17 ≤ x 37 17 ∧ ∀ i : Nat, (i : Int) < u 37 17 → x 56 i = u 56 i := by
  obtain ⟨h1, h2, h3, h4, h5⟩ := h
  obtain ⟨c1, c2, c3, c4, c5, c6, c7⟩ := hC
  obtain ⟨hx1, hx2⟩ := hx
  have hm0 := h2.1.2.1
  obtain ⟨r44, r45, r42, r43, r7⟩ := h1.rows
  have hs := h3 (m.toNat / 2) (by omega)
  have hG0 := mx_0 (gR w) (w 37 7).toNat
  rw [c4.1] at hG0
  -- the class
  have hks : ksG (w 37 7) (nxM w) (gR w) (gR w (u 56 (m.toNat / 2)).toNat) ((m.toNat % 2 : Nat) : Int) = gaF (nxM w) (gR w) (u 56 (m.toNat / 2)).toNat (m.toNat % 2) := ksG_at c6 (by omega) hs.2.2 (by omega)
  have hca : caZ u (nxM w (2 * (u 56 (m.toNat / 2)).toNat + m.toNat % 2)) = gaF (nxM w) (gR w) (u 56 (m.toNat / 2)).toNat (m.toNat % 2) := by
    rw [ca_row r44 r45]
    rfl
  have hwr := c2 (2 * (u 56 (m.toNat / 2)).toNat + m.toNat % 2) (by omega)
  generalize hraw : nxM w (2 * (u 56 (m.toNat / 2)).toNat + m.toNat % 2) = raw at *
  have hcr : caZ u raw = -1 ∨ (0 ≤ caZ u raw ∧ caZ u raw < G ∧ gR w raw.toNat = caZ u raw ∧ 0 ≤ raw ∧ raw < w 37 7) := by
    rw [ca_row r44 r45]
    unfold caZ
    by_cases e : raw = -1
    · rw [if_pos e]; exact Or.inl rfl
    · rw [if_neg e]
      by_cases e2 : gR w raw.toNat = -1
      · exact Or.inl e2
      · have h6 := c4.2 raw.toNat (by omega)
        have h7 := lt_mx (n := (w 37 7).toNat) (i := raw.toNat) (by omega) h6.2
        rw [c4.1] at h7
        exact Or.inr ⟨by omega, h7, rfl, by omega, by omega⟩
  rw [← hks] at hca
  have hfrx : ∀ k, k ≠ 37 → k ≠ 50 → k ≠ 51 → k ≠ 52 → k ≠ 53 → k ≠ 54 → k ≠ 55 → k ≠ 56 → v k = u k → x k = w k := fun k k1 k2 k3 k4 k5 k6 k7 k8 hk => by rw [hx1 k k2 k3, hk]; exact h1.1 k k1 k2 k3 k4 k5 k6 k7 k8
  have x37 := hx1 37 (by decide) (by decide)
  have x52 := hx1 52 (by decide) (by decide)
  have x53 := hx1 53 (by decide) (by decide)
  have x54 := hx1 54 (by decide) (by decide)
  have x55 := hx1 55 (by decide) (by decide)
  have x56 := hx1 56 (by decide) (by decide)
  unfold BldI FrS
  rw [x37, x52, x53, x54, x55, x56, hx2]
  -- old states keep their first rows
  have hfp : ∀ z : Int, -1 ≤ z ∧ z ≤ u 37 17 → (z = u 37 17 → True) → ∀ p : Nat, 0 < p → (p : Int) < u 37 17 → ∃ π : Nat, (π : Int) < m + 1 ∧ π < 2 * p ∧ up1 (gM u) m.toNat z π = p ∧ (∀ π' : Nat, π' < π → up1 (gM u) m.toNat z π' ≠ p) ∧ u 52 p = ((π / 2 : Nat) : Int) ∧ u 53 p = ((π % 2 : Nat) : Int) ∧ u 54 p = u 54 (π / 2) + 1 := fun z _ _ p p0 p1 => by
    obtain ⟨π, a1, a2, a3, a4, a5, a6, a7⟩ := h4.2 p p0 p1
    refine ⟨π, by omega, a2, by rw [up1_ne _ _ _ _ (by omega)]; exact a3, fun π' hπ => ?_, a5, a6, a7⟩
    rw [up1_ne _ _ _ _ (by omega)]
    exact a4 π' hπ
  rcases hp with ⟨a1, a3, hv⟩ | ⟨a1, a2, a3, hv⟩ | ⟨a1, a2, a3, hv⟩
  · rw [hv] at hfrx ⊢
    refine ⟨⟨⟨fun k k1 k2 k3 k4 k5 k6 k7 k8 => hfrx k k1 k2 k3 k4 k5 k6 k7 k8 rfl, h1.2⟩, ?_, h3, ⟨h4.1, hfp r (by omega) (fun _ => trivial)⟩, h5⟩, Int.le_refl _, fun _ _ => rfl⟩
    rw [a3]
    exact exp_any h2 (by have := h2.1.1; omega) (fun _ => by
      show ksG _ _ _ (gR w (u 56 (m.toNat / 2)).toNat) _ = -1
      omega) (fun q => absurd rfl q) hm
  · have hcc := hcr.resolve_left a1
    have h7 := h2.2.2.2.1 (caZ u raw).toNat (by omega)
    have h8 := h7.resolve_left a2
    rw [hv] at hfrx ⊢
    refine ⟨⟨⟨fun k k1 k2 k3 k4 k5 k6 k7 k8 => hfrx k k1 k2 k3 k4 k5 k6 k7 k8 rfl, h1.2⟩, ?_, h3, ⟨h4.1, hfp r (by omega) (fun _ => trivial)⟩, h5⟩, Int.le_refl _, fun _ _ => rfl⟩
    rw [a3]
    refine exp_any h2 ⟨by omega, h8.2.1⟩ (fun q => absurd q a2) (fun _ => ?_) hm
    have h9 : gR w (u 56 (u 55 (caZ u raw).toNat).toNat).toNat = ((caZ u raw).toNat : Int) := h8.2.2
    show gR w (u 56 (u 55 (caZ u raw).toNat).toNat).toNat = _
    rw [h9]
    show ((caZ u raw).toNat : Int) = ksG _ _ _ (gR w (u 56 (m.toNat / 2)).toNat) _
    omega
  · have hcc := hcr.resolve_left a1
    have hlt := exp_lt h2 (k := (caZ u raw).toNat) (by omega) a2
    have hc1 := h2.1.1
    have h8 := exp_new (key := caZ u raw) h2 (by
      show caZ u raw = ksG _ _ _ (gR w (u 56 (m.toNat / 2)).toNat) _
      omega) ⟨by omega, by omega⟩ a2 hm
    obtain ⟨f37, f55, f56, f52, f53, f54, fr⟩ := state3 hv
    have f50 := fr 50 (by decide) (by decide) (by decide) (by decide) (by decide) (by decide)
    have f51 := fr 51 (by decide) (by decide) (by decide) (by decide) (by decide) (by decide)
    have fg : gM v = gM u := gM_row f50 f51
    rw [f37, f55, f56, f52, f53, f54, fg, a3, up1_eq]
    refine ⟨⟨⟨fun k k1 k2 k3 k4 k5 k6 k7 k8 => hfrx k k1 k2 k3 k4 k5 k6 k7 k8 (fr k k1 k4 k5 k6 k7 k8), fun j hj => ?_⟩, ?_, fun p hp => ?_, ⟨?_, fun p p0 p1 => ?_⟩, ?_⟩, by omega, fun i hi => ?_⟩
    · rw [up1_ne _ _ _ _ hj]; exact h1.2 j hj
    · have e : (fun p => gR w (up1 (u 56) (u 37 17).toNat raw p).toNat) = up1 (fun p => gR w (u 56 p).toNat) (u 37 17).toNat (caZ u raw) := by
        funext p
        rw [up1_app, up1_app]
        by_cases e : p = (u 37 17).toNat
        · rw [if_pos e, if_pos e, hcc.2.2.1]
        · rw [if_neg e, if_neg e]
      rw [e]
      exact h8
    · by_cases e : p = (u 37 17).toNat
      · rw [e, up1_eq]
        exact ⟨hcc.2.2.2.1, hcc.2.2.2.2, by rw [hcc.2.2.1]; exact a1⟩
      · rw [up1_ne _ _ _ _ e]; exact h3 p (by omega)
    · rw [up1_ne _ _ _ _ (by omega)]; exact h4.1
    · by_cases e : p = (u 37 17).toNat
      · refine ⟨m.toNat, by omega, by omega, by rw [up1_eq]; omega, fun π' hπ q => ?_, ?_, ?_, ?_⟩
        · rw [up1_ne _ _ _ _ (by omega)] at q
          have := (h2.2.2.2.2.2.1 π' (by omega)).2.1
          omega
        · rw [e, up1_eq]
        · rw [e, up1_eq]
        · rw [e, up1_eq, if_neg (by omega), up1_ne _ _ _ _ (by omega), Int.toNat_natCast]
      · rw [up1_ne (u 52) _ _ _ e, up1_ne (u 53) _ _ _ e, up1_ne (u 54) _ _ _ e]
        obtain ⟨π, b1, b2, b3, b4, b5, b6, b7⟩ := hfp (u 37 17) (by omega) (fun _ => trivial) p p0 (by omega)
        refine ⟨π, b1, b2, b3, b4, b5, b6, ?_⟩
        rw [up1_ne _ _ _ _ (by omega)]
        exact b7
    · intro j
      rw [up1_app]
      split
      · omega
      · exact h5 j
    · rw [up1_ne _ _ _ _ (by omega)]
