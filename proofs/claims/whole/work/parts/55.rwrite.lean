/-! the reference: writing -/
theorem wr_rows {σ u : St} {LD pl f : Nat → Int} (hu : u = updR (updR (updR σ 66 LD) 64 pl) 37 f) : u 37 = f ∧ u 64 = pl ∧ u 62 = σ 62 ∧ u 63 = σ 63 ∧ gM u = gM σ ∧ ∀ pl' f', updR (updR u 64 pl') 37 f' = updR (updR (updR σ 66 LD) 64 pl') 37 f' := by
  rw [hu]
  refine ⟨updR_eq _ _ _, ?_, ?_, ?_, ?_, fun pl' f' => ?_⟩
  · rw [updR_ne _ 37 64 _ (by decide), updR_eq]
  · rw [updR_ne _ 37 62 _ (by decide), updR_ne _ 64 62 _ (by decide), updR_ne _ 66 62 _ (by decide)]
  · rw [updR_ne _ 37 63 _ (by decide), updR_ne _ 64 63 _ (by decide), updR_ne _ 66 63 _ (by decide)]
  · rw [gM_upd _ _ _ (by decide) (by decide), gM_upd _ _ _ (by decide) (by decide), gM_upd _ _ _ (by decide) (by decide)]
  · rw [updR_swap _ 37 64 _ _ (by decide), updR_twice, updR_twice]
def WrOK (σ : St) : Prop := (1 ≤ (σ 37 34) ∧ (σ 37 34) ≤ 12) ∧ (1 ≤ (σ 37 33) ∧ (σ 37 33) ≤ 8) ∧ ClosedC (σ 37 17) (gM σ) (2 ^ (σ 37 33).toNat) (σ 37 34) (σ 62) ∧ (0 ≤ (homeF (σ 62)) ∧ (homeF (σ 62)) < σ 37 17 ∧ σ 62 (homeF (σ 62)).toNat = 1)
def s_M_write : Spec := fun as σ Q => popR as fun c0 r0 => r0 = [] ∧ c0 = 37 ∧ (0 ≤ σ 37 17 ∧ σ 37 17 ≤ 100) ∧ (Wire (σ 37 17) (gM σ)) ∧ (isBits (σ 62)) ∧ (Tree (σ 37 17) (σ 52) (σ 54)) ∧ (0 ≤ σ 37 36 ∧ σ 37 36 ≤ 240) ∧ (∀ t : Nat, (t : Int) < σ 37 36 → σ 63 t = 0 ∨ σ 63 t = 1) ∧ (rI (σ 37 32)) ∧ (σ 37 32 ≠ 0 → WrOK σ) ∧ if σ 37 32 = 0 then Q (some (.inl (-3))) σ else if 600 < (σ 54 (homeF (σ 62)).toNat) + (((σ 37 36) + (σ 37 33) - 1) / (σ 37 33)) * (σ 37 34) then Q (some (.inl (-4))) (updR σ 66 (leadG (σ 52) (σ 53) (σ 54 (homeF (σ 62)).toNat) (homeF (σ 62)) (-1) (σ 66))) else Q (some (.inl ((σ 54 (homeF (σ 62)).toNat) + (((σ 37 36) + (σ 37 33) - 1) / (σ 37 33)) * (σ 37 34)))) (updR (updR (updR σ 66 (leadG (σ 52) (σ 53) (σ 54 (homeF (σ 62)).toNat) (homeF (σ 62)) (-1) (σ 66))) 64 ((EncP (σ 37 17) (gM σ) (σ 62) (σ 37 33) (σ 37 34) (homeF (σ 62)) (σ 63) (σ 37 36) (σ 54 (homeF (σ 62)).toNat) (cpyF (leadG (σ 52) (σ 53) (σ 54 (homeF (σ 62)).toNat) (homeF (σ 62)) (-1) (σ 66)) (σ 64) (σ 54 (homeF (σ 62)).toNat)) (((σ 37 36) + (σ 37 33) - 1) / (σ 37 33)).toNat))) 37 (up1 (σ 37) 38 ((σ 54 (homeF (σ 62)).toNat) + (((σ 37 36) + (σ 37 33) - 1) / (σ 37 33)) * (σ 37 34))))
theorem e_M_write  (σ : St) (Q : Option AV → St → Prop) : s_M_write [.inr (.inr (some 37))] σ Q = ((0 ≤ σ 37 17 ∧ σ 37 17 ≤ 100) ∧ (Wire (σ 37 17) (gM σ)) ∧ (isBits (σ 62)) ∧ (Tree (σ 37 17) (σ 52) (σ 54)) ∧ (0 ≤ σ 37 36 ∧ σ 37 36 ≤ 240) ∧ (∀ t : Nat, (t : Int) < σ 37 36 → σ 63 t = 0 ∨ σ 63 t = 1) ∧ (rI (σ 37 32)) ∧ (σ 37 32 ≠ 0 → WrOK σ) ∧ if σ 37 32 = 0 then Q (some (.inl (-3))) σ else if 600 < (σ 54 (homeF (σ 62)).toNat) + (((σ 37 36) + (σ 37 33) - 1) / (σ 37 33)) * (σ 37 34) then Q (some (.inl (-4))) (updR σ 66 (leadG (σ 52) (σ 53) (σ 54 (homeF (σ 62)).toNat) (homeF (σ 62)) (-1) (σ 66))) else Q (some (.inl ((σ 54 (homeF (σ 62)).toNat) + (((σ 37 36) + (σ 37 33) - 1) / (σ 37 33)) * (σ 37 34)))) (updR (updR (updR σ 66 (leadG (σ 52) (σ 53) (σ 54 (homeF (σ 62)).toNat) (homeF (σ 62)) (-1) (σ 66))) 64 ((EncP (σ 37 17) (gM σ) (σ 62) (σ 37 33) (σ 37 34) (homeF (σ 62)) (σ 63) (σ 37 36) (σ 54 (homeF (σ 62)).toNat) (cpyF (leadG (σ 52) (σ 53) (σ 54 (homeF (σ 62)).toNat) (homeF (σ 62)) (-1) (σ 66)) (σ 64) (σ 54 (homeF (σ 62)).toNat)) (((σ 37 36) + (σ 37 33) - 1) / (σ 37 33)).toNat))) 37 (up1 (σ 37) 38 ((σ 54 (homeF (σ 62)).toNat) + (((σ 37 36) + (σ 37 33) - 1) / (σ 37 33)) * (σ 37 34))))) := by
  show ([] = [] ∧ _) = _
  simp only [true_and]
set_option maxHeartbeats 8000000 in
set_option maxRecDepth 20000 in
theorem S_M_write {l : Launch} : Sat l y_M_write b_M_write 8 (some .int) 3 s_M_write := by
  refine sat_of (Φ := P_M) (κ := Q_M) (Γ := [(256, 10, 0, s_M_tellLead), (253, 10, 0, s_M_home), (244, 10, 2, s_M_wordAt), (197, 10, 3, s_M_walks)]) (rt := 1) (by decide +kernel) P_M_ok Q_M_ok (by
    refine List.forall_mem_cons.mpr ⟨?_, List.forall_mem_cons.mpr ⟨?_, List.forall_mem_cons.mpr ⟨?_, List.forall_mem_cons.mpr ⟨?_, fun _ h => absurd h List.not_mem_nil⟩⟩⟩⟩
    · exact m_M_tellLead S_M_tellLead (by decide) l_M_256
    · exact m_M_home S_M_home (by decide) l_M_253
    · exact m_M_wordAt S_M_wordAt (by decide) l_M_244
    · exact m_M_walks S_M_walks (by decide) l_M_197) (by simp) o_M_write ?_
  intro as σ Q hh0
  obtain ⟨c0, rr0, rfl, hh1⟩ := popR_inv hh0
  obtain ⟨hrE, rfl, hN, hf, hb, hT, h36, hbm, hrz, hC, hQ⟩ := hh1
  subst hrE
  clear hh0
  refine ⟨Nat.le_of_ble_eq_true rfl, [(51, mkC (fun L st u => ∃ (i : Int) (v4 v5 v6 v7 : AV), L = [.inr (.inr (some 37)), .inl ((σ 54 (homeF (σ 62)).toNat)), .inl ((((σ 37 36) + (σ 37 33) - 1) / (σ 37 33))), .inl i, v4, v5, v6, v7] ∧ st = [] ∧ (σ 37 32 ≠ 0) ∧ ((σ 54 (homeF (σ 62)).toNat) + (((σ 37 36) + (σ 37 33) - 1) / (σ 37 33)) * (σ 37 34) ≤ 600) ∧ (0 ≤ i ∧ i ≤ (σ 54 (homeF (σ 62)).toNat)) ∧ (u = updR (updR σ 66 (leadG (σ 52) (σ 53) (σ 54 (homeF (σ 62)).toNat) (homeF (σ 62)) (-1) (σ 66))) 64 (cpyF (leadG (σ 52) (σ 53) (σ 54 (homeF (σ 62)).toNat) (homeF (σ 62)) (-1) (σ 66)) (σ 64) i))) (fun L st u => (1000, (101 - gI L 3).toNat, 0))),
    (87, mkC (fun L st u => ∃ (a p : Int) (v5 v6 v7 : AV), L = [.inr (.inr (some 37)), .inl ((σ 54 (homeF (σ 62)).toNat)), .inl ((((σ 37 36) + (σ 37 33) - 1) / (σ 37 33))), .inl a, .inl p, v5, v6, v7] ∧ st = [] ∧ (σ 37 32 ≠ 0) ∧ ((σ 54 (homeF (σ 62)).toNat) + (((σ 37 36) + (σ 37 33) - 1) / (σ 37 33)) * (σ 37 34) ≤ 600) ∧ (0 ≤ p ∧ p ≤ (((σ 37 36) + (σ 37 33) - 1) / (σ 37 33))) ∧ (a = EncS (σ 37 17) (gM σ) (σ 62) (σ 37 33) (σ 37 34) (homeF (σ 62)) (σ 63) (σ 37 36) p.toNat) ∧ (u = updR (updR (updR σ 66 (leadG (σ 52) (σ 53) (σ 54 (homeF (σ 62)).toNat) (homeF (σ 62)) (-1) (σ 66))) 64 ((EncP (σ 37 17) (gM σ) (σ 62) (σ 37 33) (σ 37 34) (homeF (σ 62)) (σ 63) (σ 37 36) (σ 54 (homeF (σ 62)).toNat) (cpyF (leadG (σ 52) (σ 53) (σ 54 (homeF (σ 62)).toNat) (homeF (σ 62)) (-1) (σ 66)) (σ 64) (σ 54 (homeF (σ 62)).toNat)) p.toNat))) 37 (up1 (σ 37) 38 ((σ 54 (homeF (σ 62)).toNat) + p * (σ 37 34))))) (fun L st u => ((700 - gI L 4).toNat, 300, 0))),
    (99, mkC (fun L st u => ∃ (a p v i : Int) (v7 : AV), L = [.inr (.inr (some 37)), .inl ((σ 54 (homeF (σ 62)).toNat)), .inl ((((σ 37 36) + (σ 37 33) - 1) / (σ 37 33))), .inl a, .inl p, .inl v, .inl i, v7] ∧ st = [] ∧ (σ 37 32 ≠ 0) ∧ ((σ 54 (homeF (σ 62)).toNat) + (((σ 37 36) + (σ 37 33) - 1) / (σ 37 33)) * (σ 37 34) ≤ 600) ∧ (0 ≤ p ∧ p < (((σ 37 36) + (σ 37 33) - 1) / (σ 37 33))) ∧ (a = EncS (σ 37 17) (gM σ) (σ 62) (σ 37 33) (σ 37 34) (homeF (σ 62)) (σ 63) (σ 37 36) p.toNat) ∧ (0 ≤ i ∧ i ≤ (σ 37 33)) ∧ (v = partF (σ 63) (σ 37 36) (p * (σ 37 33)) i.toNat) ∧ (u = updR (updR (updR σ 66 (leadG (σ 52) (σ 53) (σ 54 (homeF (σ 62)).toNat) (homeF (σ 62)) (-1) (σ 66))) 64 ((EncP (σ 37 17) (gM σ) (σ 62) (σ 37 33) (σ 37 34) (homeF (σ 62)) (σ 63) (σ 37 36) (σ 54 (homeF (σ 62)).toNat) (cpyF (leadG (σ 52) (σ 53) (σ 54 (homeF (σ 62)).toNat) (homeF (σ 62)) (-1) (σ 66)) (σ 64) (σ 54 (homeF (σ 62)).toNat)) p.toNat))) 37 (up1 (σ 37) 38 ((σ 54 (homeF (σ 62)).toNat) + p * (σ 37 34))))) (fun L st u => ((700 - gI L 4).toNat, (200 - gI L 6).toNat, 0))),
    (170, mkC (fun L st u => ∃ (a p v w i : Int), L = [.inr (.inr (some 37)), .inl ((σ 54 (homeF (σ 62)).toNat)), .inl ((((σ 37 36) + (σ 37 33) - 1) / (σ 37 33))), .inl a, .inl p, .inl v, .inl w, .inl i] ∧ st = [] ∧ (σ 37 32 ≠ 0) ∧ ((σ 54 (homeF (σ 62)).toNat) + (((σ 37 36) + (σ 37 33) - 1) / (σ 37 33)) * (σ 37 34) ≤ 600) ∧ (0 ≤ p ∧ p < (((σ 37 36) + (σ 37 33) - 1) / (σ 37 33))) ∧ (a = EncS (σ 37 17) (gM σ) (σ 62) (σ 37 33) (σ 37 34) (homeF (σ 62)) (σ 63) (σ 37 36) p.toNat) ∧ (w = EncW (σ 37 17) (gM σ) (σ 62) (σ 37 33) (σ 37 34) (homeF (σ 62)) (σ 63) (σ 37 36) p.toNat) ∧ (-1 ≤ i ∧ i < (σ 37 34)) ∧ (u = updR (updR (updR σ 66 (leadG (σ 52) (σ 53) (σ 54 (homeF (σ 62)).toNat) (homeF (σ 62)) (-1) (σ 66))) 64 (addF (EncP (σ 37 17) (gM σ) (σ 62) (σ 37 33) (σ 37 34) (homeF (σ 62)) (σ 63) (σ 37 36) (σ 54 (homeF (σ 62)).toNat) (cpyF (leadG (σ 52) (σ 53) (σ 54 (homeF (σ 62)).toNat) (homeF (σ 62)) (-1) (σ 66)) (σ 64) (σ 54 (homeF (σ 62)).toNat)) p.toNat) w ((σ 54 (homeF (σ 62)).toNat) + p * (σ 37 34)) (σ 37 34) ((σ 37 34) - 1 - i))) 37 (up1 (σ 37) 38 ((σ 54 (homeF (σ 62)).toNat) + p * (σ 37 34) + ((σ 37 34) - 1 - i))))) (fun L st u => ((700 - gI L 4).toNat, (gI L 7 + 1).toNat, 0)))], 14, ?_, cuts1 ?_ (cuts1 ?_ (cuts1 ?_ (cuts1 ?_ (cuts0))))⟩
  · rw [show entL 8 [.inr (.inr (some 37))] = [.inr (.inr (some 37)), .inr (.inr none), .inr (.inr none), .inr (.inr none), .inr (.inr none), .inr (.inr none), .inr (.inr none), .inr (.inr none)] from rfl]
    simp only [↓wpN_go, jmp_e, ↓wp_aload_n0, ↓wp_bipush, ↓wp_dup, ↓wp_getfield, ↓wp_goto, ↓wp_i2l, ↓wp_iadd, ↓wp_iaload, ↓wp_iand, ↓wp_iastore, ↓wp_icmp_ge, ↓wp_icmp_le, ↓wp_iconst, ↓wp_idiv, ↓wp_if_lt, ↓wp_if_ne, ↓wp_iinc, ↓wp_iload, ↓wp_iload_n1, ↓wp_iload_n2, ↓wp_iload_n3, ↓wp_imul, ↓wp_invokevirtual, ↓wp_ireturn1, ↓wp_ishr, ↓wp_istore, ↓wp_istore_n1, ↓wp_istore_n2, ↓wp_istore_n3, ↓wp_isub, ↓wp_putfield, ↓wp_sipush, wp_nil, ↓ldI_0, ↓ldI_s, ↓ldL_0, ↓ldL_s, ↓ldR_0, ↓ldR_s, sto1_0, sto1_1, sto1_s, sto2_0, sto2_1, sto2_s, isLong_i, isLong_l, isLong_r, ↓popI_c, ↓popL_c, ↓popR_c, ↓popN_0, ↓popN_s, catS_n, catS_c, psh_s, psh_n, fldV_n, fldV_s, ↓tgt_e, sw_n, ↓sw_c, ↓lk1_h, ↓lk1_m, ↓atC_h, ↓atC_m, ↓atC_n, ltO_n, ltO_s, updR_eq, updR_ne, gI_0i, gI_0l, gI_s, ltM_iff, List.cons.injEq, Sum.inl.injEq, Sum.inr.injEq, Option.some.injEq, exists_eq_left, exists_eq_left', exists_eq_right, exists_eq_right', exists_and_left, exists_and_right, exists_eq, exists_const, and_assoc, ↓j_M_write_0, ↓j_M_write_10, ↓j_M_write_49, ↓j_M_write_51, ↓j_M_write_74, ↓j_M_write_87, ↓j_M_write_99, ↓j_M_write_143, ↓j_M_write_144, ↓j_M_write_153, ↓j_M_write_170, ↓j_M_write_207, ↓j_M_write_226, ↓f_M_103, ↓f_M_179, ↓f_M_230, ↓f_M_235, ↓f_M_250, ↓f_M_259, ↓f_M_94, ↓f_M_97, List.length_cons, List.length_nil, Nat.zero_add, Nat.reduceAdd, Int.reduceAdd, Int.reduceNeg, Int.reduceToNat, Int.reduceLE, Int.reduceLT, true_and, and_true, Nat.reduceLT, reduceIte, Nat.reduceEqDiff, ne_eq, not_false_eq_true, false_implies, true_implies, Bool.false_eq_true, reduceCtorEq, List.cons_append, List.nil_append, Nat.reduceSub, Nat.reduceLeDiff, Fin.isValue, Int.reduceNatCast', Int.zero_add, Int.add_zero, decide_true, decide_false, implies_true, forall_const, true_or, or_true, or_false, false_or, false_and, and_false, Int.toNat_natCast, ↓oF_37_0, ↓oF_37_1, ↓oF_37_2, ↓oF_37_3, ↓aF_38, ↓oF_37_4, ↓aF_39, ↓oF_37_5, ↓oF_37_6, ↓aF_40, ↓oF_37_7, ↓oF_37_8, ↓aF_41, ↓oF_37_9, ↓aF_42, ↓oF_37_10, ↓aF_43, ↓oF_37_11, ↓aF_44, ↓oF_37_12, ↓aF_45, ↓oF_37_13, ↓aF_46, ↓oF_37_14, ↓aF_47, ↓oF_37_15, ↓aF_48, ↓oF_37_16, ↓aF_49, ↓oF_37_17, ↓oF_37_18, ↓aF_50, ↓oF_37_19, ↓aF_51, ↓oF_37_20, ↓aF_52, ↓oF_37_21, ↓aF_53, ↓oF_37_22, ↓aF_54, ↓oF_37_23, ↓aF_55, ↓oF_37_24, ↓aF_56, ↓oF_37_25, ↓aF_57, ↓oF_37_26, ↓oF_37_27, ↓oF_37_28, ↓aF_58, ↓oF_37_29, ↓aF_59, ↓oF_37_30, ↓aF_60, ↓oF_37_31, ↓aF_61, ↓oF_37_32, ↓oF_37_33, ↓oF_37_34, ↓oF_37_35, ↓aF_62, ↓oF_37_36, ↓oF_37_37, ↓aF_63, ↓oF_37_38, ↓oF_37_39, ↓aF_64, ↓oF_37_40, ↓aF_65, ↓oF_37_41, ↓aF_66, oC_0, oC_1, oC_4, oC_11, oC_16, oC_18, oC_20, oC_23, oC_25, oC_26, oC_29, oC_31, oC_33, oC_35, oC_37, isT_29, isT_31, isT_33, isT_35, isL_16, isL_18, isL_26, b2i_0, b2i_1, b2i_01, b2i_r, iandZ_1, ↓e_M_tellLead, ↓e_M_home, ↓e_M_wordAt, ↓e_M_walks]
    by_cases hne : σ 37 32 = 0
    · rw [if_pos hne] at hQ
      (try simp only [rI_iff, rL_iff] at *)
      repeat' (with_reducible (first | assumption | apply And.intro | intro _))
      all_goals first | omega | with_reducible assumption | exact True.intro | skip
      all_goals first
        | exact hQ
        | exact absurd hne (by assumption)
        | trace_state
    · rw [if_neg hne] at hQ
      obtain ⟨hn, hm, hcl, hh⟩ := hC hne
      have hd := hT.at ⟨hh.1, hh.2.1⟩
      have hP0 : 0 ≤ (((σ 37 36) + (σ 37 33) - 1) / (σ 37 33)) := Int.ediv_nonneg (by omega) (by omega)
      have hP1 := Int.ediv_mul_le ((σ 37 36) + (σ 37 33) - 1) (b := (σ 37 33)) (by omega)
      have hP2 : (((σ 37 36) + (σ 37 33) - 1) / (σ 37 33)) ≤ 247 := by
        have := Int.mul_le_mul_of_nonneg_left (show (1 : Int) ≤ (σ 37 33) by omega) hP0
        omega
      have hP3 : 0 ≤ (((σ 37 36) + (σ 37 33) - 1) / (σ 37 33)) * (σ 37 34) := Int.mul_nonneg hP0 (by omega)
      have hP4 : (((σ 37 36) + (σ 37 33) - 1) / (σ 37 33)) * (σ 37 34) ≤ 247 * 12 := Int.mul_le_mul hP2 hn.2 (by omega) (by omega)
      have q1 : 600 < (σ 54 (homeF (σ 62)).toNat) + (((σ 37 36) + (σ 37 33) - 1) / (σ 37 33)) * (σ 37 34) → Q (some (.inl (-4))) (updR σ 66 (leadG (σ 52) (σ 53) (σ 54 (homeF (σ 62)).toNat) (homeF (σ 62)) (-1) (σ 66))) := fun h => by rw [if_pos h] at hQ; exact hQ
      have q2 : updR σ 66 (leadG (σ 52) (σ 53) (σ 54 (homeF (σ 62)).toNat) (homeF (σ 62)) (-1) (σ 66)) = updR (updR σ 66 (leadG (σ 52) (σ 53) (σ 54 (homeF (σ 62)).toNat) (homeF (σ 62)) (-1) (σ 66))) 64 (cpyF (leadG (σ 52) (σ 53) (σ 54 (homeF (σ 62)).toNat) (homeF (σ 62)) (-1) (σ 66)) (σ 64) 0) := by
        rw [cpyF_0]
        have := updR_self (updR σ 66 (leadG (σ 52) (σ 53) (σ 54 (homeF (σ 62)).toNat) (homeF (σ 62)) (-1) (σ 66))) 64
        rw [updR_ne _ 66 64 _ (by decide)] at this
        exact this.symm
      clear hQ hC
      (try simp only [rI_iff, rL_iff] at *)
      repeat' (with_reducible (first | assumption | apply And.intro | intro _))
      all_goals first | omega | with_reducible assumption | exact True.intro | skip
      all_goals first
        | omega
        | exact q1 (by omega)
        | exact q2
        | exact ⟨homeF (σ 62) |>.toNat, by omega, hh.2.2⟩
        | trace_state
  · intro L st u hI
    obtain ⟨i, v4, v5, v6, v7, rfl, rfl, hne, hfit, hi, hu⟩ := hI
    simp only [↓wpN_go, jmp_e, ↓wp_aload_n0, ↓wp_bipush, ↓wp_dup, ↓wp_getfield, ↓wp_goto, ↓wp_i2l, ↓wp_iadd, ↓wp_iaload, ↓wp_iand, ↓wp_iastore, ↓wp_icmp_ge, ↓wp_icmp_le, ↓wp_iconst, ↓wp_idiv, ↓wp_if_lt, ↓wp_if_ne, ↓wp_iinc, ↓wp_iload, ↓wp_iload_n1, ↓wp_iload_n2, ↓wp_iload_n3, ↓wp_imul, ↓wp_invokevirtual, ↓wp_ireturn1, ↓wp_ishr, ↓wp_istore, ↓wp_istore_n1, ↓wp_istore_n2, ↓wp_istore_n3, ↓wp_isub, ↓wp_putfield, ↓wp_sipush, wp_nil, ↓ldI_0, ↓ldI_s, ↓ldL_0, ↓ldL_s, ↓ldR_0, ↓ldR_s, sto1_0, sto1_1, sto1_s, sto2_0, sto2_1, sto2_s, isLong_i, isLong_l, isLong_r, ↓popI_c, ↓popL_c, ↓popR_c, ↓popN_0, ↓popN_s, catS_n, catS_c, psh_s, psh_n, fldV_n, fldV_s, ↓tgt_e, sw_n, ↓sw_c, ↓lk1_h, ↓lk1_m, ↓atC_h, ↓atC_m, ↓atC_n, ltO_n, ltO_s, updR_eq, updR_ne, gI_0i, gI_0l, gI_s, ltM_iff, List.cons.injEq, Sum.inl.injEq, Sum.inr.injEq, Option.some.injEq, exists_eq_left, exists_eq_left', exists_eq_right, exists_eq_right', exists_and_left, exists_and_right, exists_eq, exists_const, and_assoc, ↓j_M_write_0, ↓j_M_write_10, ↓j_M_write_49, ↓j_M_write_51, ↓j_M_write_74, ↓j_M_write_87, ↓j_M_write_99, ↓j_M_write_143, ↓j_M_write_144, ↓j_M_write_153, ↓j_M_write_170, ↓j_M_write_207, ↓j_M_write_226, ↓f_M_103, ↓f_M_179, ↓f_M_230, ↓f_M_235, ↓f_M_250, ↓f_M_259, ↓f_M_94, ↓f_M_97, List.length_cons, List.length_nil, Nat.zero_add, Nat.reduceAdd, Int.reduceAdd, Int.reduceNeg, Int.reduceToNat, Int.reduceLE, Int.reduceLT, true_and, and_true, Nat.reduceLT, reduceIte, Nat.reduceEqDiff, ne_eq, not_false_eq_true, false_implies, true_implies, Bool.false_eq_true, reduceCtorEq, List.cons_append, List.nil_append, Nat.reduceSub, Nat.reduceLeDiff, Fin.isValue, Int.reduceNatCast', Int.zero_add, Int.add_zero, decide_true, decide_false, implies_true, forall_const, true_or, or_true, or_false, false_or, false_and, and_false, Int.toNat_natCast, ↓oF_37_0, ↓oF_37_1, ↓oF_37_2, ↓oF_37_3, ↓aF_38, ↓oF_37_4, ↓aF_39, ↓oF_37_5, ↓oF_37_6, ↓aF_40, ↓oF_37_7, ↓oF_37_8, ↓aF_41, ↓oF_37_9, ↓aF_42, ↓oF_37_10, ↓aF_43, ↓oF_37_11, ↓aF_44, ↓oF_37_12, ↓aF_45, ↓oF_37_13, ↓aF_46, ↓oF_37_14, ↓aF_47, ↓oF_37_15, ↓aF_48, ↓oF_37_16, ↓aF_49, ↓oF_37_17, ↓oF_37_18, ↓aF_50, ↓oF_37_19, ↓aF_51, ↓oF_37_20, ↓aF_52, ↓oF_37_21, ↓aF_53, ↓oF_37_22, ↓aF_54, ↓oF_37_23, ↓aF_55, ↓oF_37_24, ↓aF_56, ↓oF_37_25, ↓aF_57, ↓oF_37_26, ↓oF_37_27, ↓oF_37_28, ↓aF_58, ↓oF_37_29, ↓aF_59, ↓oF_37_30, ↓aF_60, ↓oF_37_31, ↓aF_61, ↓oF_37_32, ↓oF_37_33, ↓oF_37_34, ↓oF_37_35, ↓aF_62, ↓oF_37_36, ↓oF_37_37, ↓aF_63, ↓oF_37_38, ↓oF_37_39, ↓aF_64, ↓oF_37_40, ↓aF_65, ↓oF_37_41, ↓aF_66, oC_0, oC_1, oC_4, oC_11, oC_16, oC_18, oC_20, oC_23, oC_25, oC_26, oC_29, oC_31, oC_33, oC_35, oC_37, isT_29, isT_31, isT_33, isT_35, isL_16, isL_18, isL_26, b2i_0, b2i_1, b2i_01, b2i_r, iandZ_1, ↓e_M_tellLead, ↓e_M_home, ↓e_M_wordAt, ↓e_M_walks]
    subst hu
    obtain ⟨hn, hm, hcl, hh⟩ := hC hne
    rw [if_neg hne, if_neg (by omega)] at hQ
    have hd := hT.at ⟨hh.1, hh.2.1⟩
    have e37 : ∀ f, updR (updR σ 66 (leadG (σ 52) (σ 53) (σ 54 (homeF (σ 62)).toNat) (homeF (σ 62)) (-1) (σ 66))) 64 f 37 = σ 37 := fun f => by rw [updR_ne _ 64 37 _ (by decide), updR_ne _ 66 37 _ (by decide)]
    have e62 : ∀ f, updR (updR σ 66 (leadG (σ 52) (σ 53) (σ 54 (homeF (σ 62)).toNat) (homeF (σ 62)) (-1) (σ 66))) 64 f 62 = σ 62 := fun f => by rw [updR_ne _ 64 62 _ (by decide), updR_ne _ 66 62 _ (by decide)]
    have e66 : ∀ f, updR (updR σ 66 (leadG (σ 52) (σ 53) (σ 54 (homeF (σ 62)).toNat) (homeF (σ 62)) (-1) (σ 66))) 64 f 66 = (leadG (σ 52) (σ 53) (σ 54 (homeF (σ 62)).toNat) (homeF (σ 62)) (-1) (σ 66)) := fun f => by rw [updR_ne _ 64 66 _ (by decide), updR_eq]
    have e64 : ∀ f, updR (updR σ 66 (leadG (σ 52) (σ 53) (σ 54 (homeF (σ 62)).toNat) (homeF (σ 62)) (-1) (σ 66))) 64 f 64 = f := fun f => updR_eq _ _ _
    simp only [e37, e62, e66, e64, updR_twice]
    have hP0 : 0 ≤ (((σ 37 36) + (σ 37 33) - 1) / (σ 37 33)) := Int.ediv_nonneg (by omega) (by omega)
    have ez : (σ 54 (homeF (σ 62)).toNat) + 0 * (σ 37 34) = (σ 54 (homeF (σ 62)).toNat) := by rw [Int.zero_mul, Int.add_zero]
    have q1 : 0 ≤ i → up1 (cpyF (leadG (σ 52) (σ 53) (σ 54 (homeF (σ 62)).toNat) (homeF (σ 62)) (-1) (σ 66)) (σ 64) i) i.toNat ((leadG (σ 52) (σ 53) (σ 54 (homeF (σ 62)).toNat) (homeF (σ 62)) (-1) (σ 66)) i.toNat) = cpyF (leadG (σ 52) (σ 53) (σ 54 (homeF (σ 62)).toNat) (homeF (σ 62)) (-1) (σ 66)) (σ 64) (i + 1) := fun h => cpyF_up h
    have q2 : (σ 54 (homeF (σ 62)).toNat) ≤ i → updR (updR (updR σ 66 (leadG (σ 52) (σ 53) (σ 54 (homeF (σ 62)).toNat) (homeF (σ 62)) (-1) (σ 66))) 64 (cpyF (leadG (σ 52) (σ 53) (σ 54 (homeF (σ 62)).toNat) (homeF (σ 62)) (-1) (σ 66)) (σ 64) i)) 37 (up1 (σ 37) 38 (σ 54 (homeF (σ 62)).toNat)) = updR (updR (updR σ 66 (leadG (σ 52) (σ 53) (σ 54 (homeF (σ 62)).toNat) (homeF (σ 62)) (-1) (σ 66))) 64 ((EncP (σ 37 17) (gM σ) (σ 62) (σ 37 33) (σ 37 34) (homeF (σ 62)) (σ 63) (σ 37 36) (σ 54 (homeF (σ 62)).toNat) (cpyF (leadG (σ 52) (σ 53) (σ 54 (homeF (σ 62)).toNat) (homeF (σ 62)) (-1) (σ 66)) (σ 64) (σ 54 (homeF (σ 62)).toNat)) (0 : Int).toNat))) 37 (up1 (σ 37) 38 ((σ 54 (homeF (σ 62)).toNat) + 0 * (σ 37 34))) := fun h => by
      rw [ez, show i = (σ 54 (homeF (σ 62)).toNat) by omega]
      rfl
    rw [q1 hi.1]
    clear hQ q1
    generalize (leadG (σ 52) (σ 53) (σ 54 (homeF (σ 62)).toNat) (homeF (σ 62)) (-1) (σ 66)) = LDz at *
    generalize hdz : (σ 54 (homeF (σ 62)).toNat) = dz at *
    (try simp only [rI_iff, rL_iff] at *)
    repeat' (with_reducible (first | assumption | apply And.intro | intro _))
    all_goals first | omega | with_reducible assumption | exact True.intro | skip
    all_goals first
      | omega
      | exact ⟨homeF (σ 62) |>.toNat, by omega, hh.2.2⟩
      | exact ⟨_, _, rfl, rfl, by omega, by omega, rfl, q2 (by omega)⟩
      | rfl
      | exact q2 (by omega)
      | trace_state
  · intro L st u hI
    obtain ⟨a, p, v5, v6, v7, rfl, rfl, hne, hfit, hp, ha, hu⟩ := hI
    simp only [↓wpN_go, jmp_e, ↓wp_aload_n0, ↓wp_bipush, ↓wp_dup, ↓wp_getfield, ↓wp_goto, ↓wp_i2l, ↓wp_iadd, ↓wp_iaload, ↓wp_iand, ↓wp_iastore, ↓wp_icmp_ge, ↓wp_icmp_le, ↓wp_iconst, ↓wp_idiv, ↓wp_if_lt, ↓wp_if_ne, ↓wp_iinc, ↓wp_iload, ↓wp_iload_n1, ↓wp_iload_n2, ↓wp_iload_n3, ↓wp_imul, ↓wp_invokevirtual, ↓wp_ireturn1, ↓wp_ishr, ↓wp_istore, ↓wp_istore_n1, ↓wp_istore_n2, ↓wp_istore_n3, ↓wp_isub, ↓wp_putfield, ↓wp_sipush, wp_nil, ↓ldI_0, ↓ldI_s, ↓ldL_0, ↓ldL_s, ↓ldR_0, ↓ldR_s, sto1_0, sto1_1, sto1_s, sto2_0, sto2_1, sto2_s, isLong_i, isLong_l, isLong_r, ↓popI_c, ↓popL_c, ↓popR_c, ↓popN_0, ↓popN_s, catS_n, catS_c, psh_s, psh_n, fldV_n, fldV_s, ↓tgt_e, sw_n, ↓sw_c, ↓lk1_h, ↓lk1_m, ↓atC_h, ↓atC_m, ↓atC_n, ltO_n, ltO_s, updR_eq, updR_ne, gI_0i, gI_0l, gI_s, ltM_iff, List.cons.injEq, Sum.inl.injEq, Sum.inr.injEq, Option.some.injEq, exists_eq_left, exists_eq_left', exists_eq_right, exists_eq_right', exists_and_left, exists_and_right, exists_eq, exists_const, and_assoc, ↓j_M_write_0, ↓j_M_write_10, ↓j_M_write_49, ↓j_M_write_51, ↓j_M_write_74, ↓j_M_write_87, ↓j_M_write_99, ↓j_M_write_143, ↓j_M_write_144, ↓j_M_write_153, ↓j_M_write_170, ↓j_M_write_207, ↓j_M_write_226, ↓f_M_103, ↓f_M_179, ↓f_M_230, ↓f_M_235, ↓f_M_250, ↓f_M_259, ↓f_M_94, ↓f_M_97, List.length_cons, List.length_nil, Nat.zero_add, Nat.reduceAdd, Int.reduceAdd, Int.reduceNeg, Int.reduceToNat, Int.reduceLE, Int.reduceLT, true_and, and_true, Nat.reduceLT, reduceIte, Nat.reduceEqDiff, ne_eq, not_false_eq_true, false_implies, true_implies, Bool.false_eq_true, reduceCtorEq, List.cons_append, List.nil_append, Nat.reduceSub, Nat.reduceLeDiff, Fin.isValue, Int.reduceNatCast', Int.zero_add, Int.add_zero, decide_true, decide_false, implies_true, forall_const, true_or, or_true, or_false, false_or, false_and, and_false, Int.toNat_natCast, ↓oF_37_0, ↓oF_37_1, ↓oF_37_2, ↓oF_37_3, ↓aF_38, ↓oF_37_4, ↓aF_39, ↓oF_37_5, ↓oF_37_6, ↓aF_40, ↓oF_37_7, ↓oF_37_8, ↓aF_41, ↓oF_37_9, ↓aF_42, ↓oF_37_10, ↓aF_43, ↓oF_37_11, ↓aF_44, ↓oF_37_12, ↓aF_45, ↓oF_37_13, ↓aF_46, ↓oF_37_14, ↓aF_47, ↓oF_37_15, ↓aF_48, ↓oF_37_16, ↓aF_49, ↓oF_37_17, ↓oF_37_18, ↓aF_50, ↓oF_37_19, ↓aF_51, ↓oF_37_20, ↓aF_52, ↓oF_37_21, ↓aF_53, ↓oF_37_22, ↓aF_54, ↓oF_37_23, ↓aF_55, ↓oF_37_24, ↓aF_56, ↓oF_37_25, ↓aF_57, ↓oF_37_26, ↓oF_37_27, ↓oF_37_28, ↓aF_58, ↓oF_37_29, ↓aF_59, ↓oF_37_30, ↓aF_60, ↓oF_37_31, ↓aF_61, ↓oF_37_32, ↓oF_37_33, ↓oF_37_34, ↓oF_37_35, ↓aF_62, ↓oF_37_36, ↓oF_37_37, ↓aF_63, ↓oF_37_38, ↓oF_37_39, ↓aF_64, ↓oF_37_40, ↓aF_65, ↓oF_37_41, ↓aF_66, oC_0, oC_1, oC_4, oC_11, oC_16, oC_18, oC_20, oC_23, oC_25, oC_26, oC_29, oC_31, oC_33, oC_35, oC_37, isT_29, isT_31, isT_33, isT_35, isL_16, isL_18, isL_26, b2i_0, b2i_1, b2i_01, b2i_r, iandZ_1, ↓e_M_tellLead, ↓e_M_home, ↓e_M_wordAt, ↓e_M_walks]
    obtain ⟨hn, hm, hcl, hh⟩ := hC hne
    rw [if_neg hne, if_neg (by omega)] at hQ
    have hd := hT.at ⟨hh.1, hh.2.1⟩
    obtain ⟨e37, e64, e62, e63, egM, eST⟩ := wr_rows hu
    simp only [e37, e64, e62, e63, egM, eST, up1_eq, up1_ne _ 38 17 _ (by decide), up1_ne _ 38 33 _ (by decide), up1_ne _ 38 34 _ (by decide), up1_ne _ 38 36 _ (by decide)]
    obtain ⟨p0, rfl⟩ := Int.eq_ofNat_of_zero_le hp.1
    simp only [Int.toNat_natCast] at *
    have hP0 : 0 ≤ (((σ 37 36) + (σ 37 33) - 1) / (σ 37 33)) := Int.ediv_nonneg (by omega) (by omega)
    have hP1 := Int.ediv_mul_le ((σ 37 36) + (σ 37 33) - 1) (b := (σ 37 33)) (by omega)
    have hP2 : (((σ 37 36) + (σ 37 33) - 1) / (σ 37 33)) ≤ 247 := by
      have := Int.mul_le_mul_of_nonneg_left (show (1 : Int) ≤ (σ 37 33) by omega) hP0
      omega
    have hen := enc_in (sz := (σ 37 36)) (msg := σ 63) hb hcl hh p0
    have hew := encW_r (sz := (σ 37 36)) (msg := σ 63) hb hcl hh p0
    have hp12 := p2_le (show (σ 37 34).toNat ≤ 12 by omega)
    have e12 : (2 : Int) ^ 12 = 4096 := by decide
    have hp8 := pow8 (m := (σ 37 33)) ⟨by omega, by omega⟩
    have hpn : (p0 : Int) * (σ 37 34) ≤ (((σ 37 36) + (σ 37 33) - 1) / (σ 37 33)) * (σ 37 34) := Int.mul_le_mul_of_nonneg_right (by omega) (by omega)
    have hpn0 : 0 ≤ (p0 : Int) * (σ 37 34) := Int.mul_nonneg (by omega) (by omega)
    have hpm0 : 0 ≤ (p0 : Int) * (σ 37 33) := Int.mul_nonneg (by omega) (by omega)
    have hpm : (p0 : Int) * (σ 37 33) ≤ (((σ 37 36) + (σ 37 33) - 1) / (σ 37 33)) * (σ 37 33) := Int.mul_le_mul_of_nonneg_right (by omega) (by omega)
    have hp1n : ((p0 : Int) + 1) * (σ 37 34) = (p0 : Int) * (σ 37 34) + (σ 37 34) := by rw [Int.add_mul, Int.one_mul]
    have hpn1 : (p0 : Int) < (((σ 37 36) + (σ 37 33) - 1) / (σ 37 33)) → ((p0 : Int) + 1) * (σ 37 34) ≤ (((σ 37 36) + (σ 37 33) - 1) / (σ 37 33)) * (σ 37 34) := fun h => Int.mul_le_mul_of_nonneg_right (by omega) (by omega)
    have ep1 : ((p0 : Int) + 1).toNat = p0 + 1 := by omega
    have q1 : (((σ 37 36) + (σ 37 33) - 1) / (σ 37 33)) ≤ (p0 : Int) → Q (some (.inl ((σ 54 (homeF (σ 62)).toNat) + (p0 : Int) * (σ 37 34)))) u := fun h => by
      have e : (((σ 37 36) + (σ 37 33) - 1) / (σ 37 33)) = (p0 : Int) := by omega
      rw [hu]
      rw [e, Int.toNat_natCast] at hQ
      exact hQ
    have hv0 : (0 : Int) = partF (σ 63) (σ 37 36) ((p0 : Int) * (σ 37 33)) 0 := rfl
    clear hQ hC
    (try simp only [rI_iff, rL_iff] at *)
    repeat' (with_reducible (first | assumption | apply And.intro | intro _))
    all_goals first | omega | with_reducible assumption | exact True.intro | skip
    all_goals first
      | omega
      | exact q1 (by assumption)
      | exact ha
      | exact hv0
      | exact hu
      | trace_state
  · intro L st u hI
    obtain ⟨a, p, v, i, v7, rfl, rfl, hne, hfit, hp, ha, hi, hv, hu⟩ := hI
    simp only [↓wpN_go, jmp_e, ↓wp_aload_n0, ↓wp_bipush, ↓wp_dup, ↓wp_getfield, ↓wp_goto, ↓wp_i2l, ↓wp_iadd, ↓wp_iaload, ↓wp_iand, ↓wp_iastore, ↓wp_icmp_ge, ↓wp_icmp_le, ↓wp_iconst, ↓wp_idiv, ↓wp_if_lt, ↓wp_if_ne, ↓wp_iinc, ↓wp_iload, ↓wp_iload_n1, ↓wp_iload_n2, ↓wp_iload_n3, ↓wp_imul, ↓wp_invokevirtual, ↓wp_ireturn1, ↓wp_ishr, ↓wp_istore, ↓wp_istore_n1, ↓wp_istore_n2, ↓wp_istore_n3, ↓wp_isub, ↓wp_putfield, ↓wp_sipush, wp_nil, ↓ldI_0, ↓ldI_s, ↓ldL_0, ↓ldL_s, ↓ldR_0, ↓ldR_s, sto1_0, sto1_1, sto1_s, sto2_0, sto2_1, sto2_s, isLong_i, isLong_l, isLong_r, ↓popI_c, ↓popL_c, ↓popR_c, ↓popN_0, ↓popN_s, catS_n, catS_c, psh_s, psh_n, fldV_n, fldV_s, ↓tgt_e, sw_n, ↓sw_c, ↓lk1_h, ↓lk1_m, ↓atC_h, ↓atC_m, ↓atC_n, ltO_n, ltO_s, updR_eq, updR_ne, gI_0i, gI_0l, gI_s, ltM_iff, List.cons.injEq, Sum.inl.injEq, Sum.inr.injEq, Option.some.injEq, exists_eq_left, exists_eq_left', exists_eq_right, exists_eq_right', exists_and_left, exists_and_right, exists_eq, exists_const, and_assoc, ↓j_M_write_0, ↓j_M_write_10, ↓j_M_write_49, ↓j_M_write_51, ↓j_M_write_74, ↓j_M_write_87, ↓j_M_write_99, ↓j_M_write_143, ↓j_M_write_144, ↓j_M_write_153, ↓j_M_write_170, ↓j_M_write_207, ↓j_M_write_226, ↓f_M_103, ↓f_M_179, ↓f_M_230, ↓f_M_235, ↓f_M_250, ↓f_M_259, ↓f_M_94, ↓f_M_97, List.length_cons, List.length_nil, Nat.zero_add, Nat.reduceAdd, Int.reduceAdd, Int.reduceNeg, Int.reduceToNat, Int.reduceLE, Int.reduceLT, true_and, and_true, Nat.reduceLT, reduceIte, Nat.reduceEqDiff, ne_eq, not_false_eq_true, false_implies, true_implies, Bool.false_eq_true, reduceCtorEq, List.cons_append, List.nil_append, Nat.reduceSub, Nat.reduceLeDiff, Fin.isValue, Int.reduceNatCast', Int.zero_add, Int.add_zero, decide_true, decide_false, implies_true, forall_const, true_or, or_true, or_false, false_or, false_and, and_false, Int.toNat_natCast, ↓oF_37_0, ↓oF_37_1, ↓oF_37_2, ↓oF_37_3, ↓aF_38, ↓oF_37_4, ↓aF_39, ↓oF_37_5, ↓oF_37_6, ↓aF_40, ↓oF_37_7, ↓oF_37_8, ↓aF_41, ↓oF_37_9, ↓aF_42, ↓oF_37_10, ↓aF_43, ↓oF_37_11, ↓aF_44, ↓oF_37_12, ↓aF_45, ↓oF_37_13, ↓aF_46, ↓oF_37_14, ↓aF_47, ↓oF_37_15, ↓aF_48, ↓oF_37_16, ↓aF_49, ↓oF_37_17, ↓oF_37_18, ↓aF_50, ↓oF_37_19, ↓aF_51, ↓oF_37_20, ↓aF_52, ↓oF_37_21, ↓aF_53, ↓oF_37_22, ↓aF_54, ↓oF_37_23, ↓aF_55, ↓oF_37_24, ↓aF_56, ↓oF_37_25, ↓aF_57, ↓oF_37_26, ↓oF_37_27, ↓oF_37_28, ↓aF_58, ↓oF_37_29, ↓aF_59, ↓oF_37_30, ↓aF_60, ↓oF_37_31, ↓aF_61, ↓oF_37_32, ↓oF_37_33, ↓oF_37_34, ↓oF_37_35, ↓aF_62, ↓oF_37_36, ↓oF_37_37, ↓aF_63, ↓oF_37_38, ↓oF_37_39, ↓aF_64, ↓oF_37_40, ↓aF_65, ↓oF_37_41, ↓aF_66, oC_0, oC_1, oC_4, oC_11, oC_16, oC_18, oC_20, oC_23, oC_25, oC_26, oC_29, oC_31, oC_33, oC_35, oC_37, isT_29, isT_31, isT_33, isT_35, isL_16, isL_18, isL_26, b2i_0, b2i_1, b2i_01, b2i_r, iandZ_1, ↓e_M_tellLead, ↓e_M_home, ↓e_M_wordAt, ↓e_M_walks]
    obtain ⟨hn, hm, hcl, hh⟩ := hC hne
    rw [if_neg hne, if_neg (by omega)] at hQ
    have hd := hT.at ⟨hh.1, hh.2.1⟩
    obtain ⟨e37, e64, e62, e63, egM, eST⟩ := wr_rows hu
    simp only [e37, e64, e62, e63, egM, eST, up1_eq, up1_ne _ 38 17 _ (by decide), up1_ne _ 38 33 _ (by decide), up1_ne _ 38 34 _ (by decide), up1_ne _ 38 36 _ (by decide)]
    obtain ⟨p0, rfl⟩ := Int.eq_ofNat_of_zero_le hp.1
    simp only [Int.toNat_natCast] at *
    have hP0 : 0 ≤ (((σ 37 36) + (σ 37 33) - 1) / (σ 37 33)) := Int.ediv_nonneg (by omega) (by omega)
    have hP1 := Int.ediv_mul_le ((σ 37 36) + (σ 37 33) - 1) (b := (σ 37 33)) (by omega)
    have hP2 : (((σ 37 36) + (σ 37 33) - 1) / (σ 37 33)) ≤ 247 := by
      have := Int.mul_le_mul_of_nonneg_left (show (1 : Int) ≤ (σ 37 33) by omega) hP0
      omega
    have hen := enc_in (sz := (σ 37 36)) (msg := σ 63) hb hcl hh p0
    have hew := encW_r (sz := (σ 37 36)) (msg := σ 63) hb hcl hh p0
    have hp12 := p2_le (show (σ 37 34).toNat ≤ 12 by omega)
    have e12 : (2 : Int) ^ 12 = 4096 := by decide
    have hp8 := pow8 (m := (σ 37 33)) ⟨by omega, by omega⟩
    have hpn : (p0 : Int) * (σ 37 34) ≤ (((σ 37 36) + (σ 37 33) - 1) / (σ 37 33)) * (σ 37 34) := Int.mul_le_mul_of_nonneg_right (by omega) (by omega)
    have hpn0 : 0 ≤ (p0 : Int) * (σ 37 34) := Int.mul_nonneg (by omega) (by omega)
    have hpm0 : 0 ≤ (p0 : Int) * (σ 37 33) := Int.mul_nonneg (by omega) (by omega)
    have hpm : (p0 : Int) * (σ 37 33) ≤ (((σ 37 36) + (σ 37 33) - 1) / (σ 37 33)) * (σ 37 33) := Int.mul_le_mul_of_nonneg_right (by omega) (by omega)
    have hp1n : ((p0 : Int) + 1) * (σ 37 34) = (p0 : Int) * (σ 37 34) + (σ 37 34) := by rw [Int.add_mul, Int.one_mul]
    have hpn1 : (p0 : Int) < (((σ 37 36) + (σ 37 33) - 1) / (σ 37 33)) → ((p0 : Int) + 1) * (σ 37 34) ≤ (((σ 37 36) + (σ 37 33) - 1) / (σ 37 33)) * (σ 37 34) := fun h => Int.mul_le_mul_of_nonneg_right (by omega) (by omega)
    have ep1 : ((p0 : Int) + 1).toNat = p0 + 1 := by omega
    have e1 : (i + 1).toNat = i.toNat + 1 := by omega
    have hbi := hbm ((p0 : Int) * (σ 37 33) + i).toNat
    have hps := partF_s (f := σ 63) (sz := (σ 37 36)) (b := (p0 : Int) * (σ 37 33)) (n := i.toNat) (fun h => hbm _ (by omega))
    rw [Int.toNat_of_nonneg hi.1] at hps
    have hpr := partF_r (f := σ 63) (sz := (σ 37 36)) (b := (p0 : Int) * (σ 37 33)) (σ 37 33).toNat
    have hci := hcl _ (by omega) hen.2.2
    rw [Int.toNat_of_nonneg hen.1] at hci
    have hew2 : (σ 37 33) ≤ i → pckZ (σ 37 17) (gM σ) (σ 62) (σ 37 34).toNat (EncS (σ 37 17) (gM σ) (σ 62) (σ 37 33) (σ 37 34) (homeF (σ 62)) (σ 63) (σ 37 36) p0) (partF (σ 63) (σ 37 36) ((p0 : Int) * (σ 37 33)) (σ 37 33).toNat) = EncW (σ 37 17) (gM σ) (σ 62) (σ 37 33) (σ 37 34) (homeF (σ 62)) (σ 63) (σ 37 36) p0 := fun h => by
      unfold EncW wordZ
      rw [if_neg (by omega)]
    have hvm : (σ 37 33) ≤ i → partF (σ 63) (σ 37 36) ((p0 : Int) * (σ 37 33)) i.toNat = partF (σ 63) (σ 37 36) ((p0 : Int) * (σ 37 33)) (σ 37 33).toNat := fun h => by
      rw [show i = (σ 37 33) by omega]
    have ew0 : u = updR (updR (updR σ 66 (leadG (σ 52) (σ 53) (σ 54 (homeF (σ 62)).toNat) (homeF (σ 62)) (-1) (σ 66))) 64 (addF (EncP (σ 37 17) (gM σ) (σ 62) (σ 37 33) (σ 37 34) (homeF (σ 62)) (σ 63) (σ 37 36) (σ 54 (homeF (σ 62)).toNat) (cpyF (leadG (σ 52) (σ 53) (σ 54 (homeF (σ 62)).toNat) (homeF (σ 62)) (-1) (σ 66)) (σ 64) (σ 54 (homeF (σ 62)).toNat)) p0) (EncW (σ 37 17) (gM σ) (σ 62) (σ 37 33) (σ 37 34) (homeF (σ 62)) (σ 63) (σ 37 36) p0) ((σ 54 (homeF (σ 62)).toNat) + (p0 : Int) * (σ 37 34)) (σ 37 34) ((σ 37 34) - 1 - ((σ 37 34) - 1)))) 37 (up1 (σ 37) 38 ((σ 54 (homeF (σ 62)).toNat) + (p0 : Int) * (σ 37 34) + ((σ 37 34) - 1 - ((σ 37 34) - 1)))) := by
      rw [show (σ 37 34) - 1 - ((σ 37 34) - 1) = 0 by omega, addF_0, Int.add_zero]
      exact hu
    subst ha hv
    clear hQ hC
    by_cases hc : i < (σ 37 33)
    · (try simp only [rI_iff, rL_iff] at *)
      repeat' (with_reducible (first | assumption | apply And.intro | intro _))
      all_goals first | omega | with_reducible assumption | exact True.intro | skip
      all_goals first
        | omega
        | exact ⟨rfl, by rw [e1, hps, if_pos (by omega)], hu⟩
        | (rw [e1, hps, if_pos (by omega)])
        | (rw [e1, hps, if_neg (by omega), Int.add_zero])
        | exact hu
        | trace_state
    · rw [hvm (by omega), hew2 (by omega)]
      (try simp only [rI_iff, rL_iff] at *)
      repeat' (with_reducible (first | assumption | apply And.intro | intro _))
      all_goals first | omega | with_reducible assumption | exact True.intro | skip
      all_goals first
        | omega
        | rfl
        | exact ew0
        | trace_state
  · intro L st u hI
    obtain ⟨a, p, v, w, i, rfl, rfl, hne, hfit, hp, ha, hw, hi, hu⟩ := hI
    simp only [↓wpN_go, jmp_e, ↓wp_aload_n0, ↓wp_bipush, ↓wp_dup, ↓wp_getfield, ↓wp_goto, ↓wp_i2l, ↓wp_iadd, ↓wp_iaload, ↓wp_iand, ↓wp_iastore, ↓wp_icmp_ge, ↓wp_icmp_le, ↓wp_iconst, ↓wp_idiv, ↓wp_if_lt, ↓wp_if_ne, ↓wp_iinc, ↓wp_iload, ↓wp_iload_n1, ↓wp_iload_n2, ↓wp_iload_n3, ↓wp_imul, ↓wp_invokevirtual, ↓wp_ireturn1, ↓wp_ishr, ↓wp_istore, ↓wp_istore_n1, ↓wp_istore_n2, ↓wp_istore_n3, ↓wp_isub, ↓wp_putfield, ↓wp_sipush, wp_nil, ↓ldI_0, ↓ldI_s, ↓ldL_0, ↓ldL_s, ↓ldR_0, ↓ldR_s, sto1_0, sto1_1, sto1_s, sto2_0, sto2_1, sto2_s, isLong_i, isLong_l, isLong_r, ↓popI_c, ↓popL_c, ↓popR_c, ↓popN_0, ↓popN_s, catS_n, catS_c, psh_s, psh_n, fldV_n, fldV_s, ↓tgt_e, sw_n, ↓sw_c, ↓lk1_h, ↓lk1_m, ↓atC_h, ↓atC_m, ↓atC_n, ltO_n, ltO_s, updR_eq, updR_ne, gI_0i, gI_0l, gI_s, ltM_iff, List.cons.injEq, Sum.inl.injEq, Sum.inr.injEq, Option.some.injEq, exists_eq_left, exists_eq_left', exists_eq_right, exists_eq_right', exists_and_left, exists_and_right, exists_eq, exists_const, and_assoc, ↓j_M_write_0, ↓j_M_write_10, ↓j_M_write_49, ↓j_M_write_51, ↓j_M_write_74, ↓j_M_write_87, ↓j_M_write_99, ↓j_M_write_143, ↓j_M_write_144, ↓j_M_write_153, ↓j_M_write_170, ↓j_M_write_207, ↓j_M_write_226, ↓f_M_103, ↓f_M_179, ↓f_M_230, ↓f_M_235, ↓f_M_250, ↓f_M_259, ↓f_M_94, ↓f_M_97, List.length_cons, List.length_nil, Nat.zero_add, Nat.reduceAdd, Int.reduceAdd, Int.reduceNeg, Int.reduceToNat, Int.reduceLE, Int.reduceLT, true_and, and_true, Nat.reduceLT, reduceIte, Nat.reduceEqDiff, ne_eq, not_false_eq_true, false_implies, true_implies, Bool.false_eq_true, reduceCtorEq, List.cons_append, List.nil_append, Nat.reduceSub, Nat.reduceLeDiff, Fin.isValue, Int.reduceNatCast', Int.zero_add, Int.add_zero, decide_true, decide_false, implies_true, forall_const, true_or, or_true, or_false, false_or, false_and, and_false, Int.toNat_natCast, ↓oF_37_0, ↓oF_37_1, ↓oF_37_2, ↓oF_37_3, ↓aF_38, ↓oF_37_4, ↓aF_39, ↓oF_37_5, ↓oF_37_6, ↓aF_40, ↓oF_37_7, ↓oF_37_8, ↓aF_41, ↓oF_37_9, ↓aF_42, ↓oF_37_10, ↓aF_43, ↓oF_37_11, ↓aF_44, ↓oF_37_12, ↓aF_45, ↓oF_37_13, ↓aF_46, ↓oF_37_14, ↓aF_47, ↓oF_37_15, ↓aF_48, ↓oF_37_16, ↓aF_49, ↓oF_37_17, ↓oF_37_18, ↓aF_50, ↓oF_37_19, ↓aF_51, ↓oF_37_20, ↓aF_52, ↓oF_37_21, ↓aF_53, ↓oF_37_22, ↓aF_54, ↓oF_37_23, ↓aF_55, ↓oF_37_24, ↓aF_56, ↓oF_37_25, ↓aF_57, ↓oF_37_26, ↓oF_37_27, ↓oF_37_28, ↓aF_58, ↓oF_37_29, ↓aF_59, ↓oF_37_30, ↓aF_60, ↓oF_37_31, ↓aF_61, ↓oF_37_32, ↓oF_37_33, ↓oF_37_34, ↓oF_37_35, ↓aF_62, ↓oF_37_36, ↓oF_37_37, ↓aF_63, ↓oF_37_38, ↓oF_37_39, ↓aF_64, ↓oF_37_40, ↓aF_65, ↓oF_37_41, ↓aF_66, oC_0, oC_1, oC_4, oC_11, oC_16, oC_18, oC_20, oC_23, oC_25, oC_26, oC_29, oC_31, oC_33, oC_35, oC_37, isT_29, isT_31, isT_33, isT_35, isL_16, isL_18, isL_26, b2i_0, b2i_1, b2i_01, b2i_r, iandZ_1, ↓e_M_tellLead, ↓e_M_home, ↓e_M_wordAt, ↓e_M_walks]
    obtain ⟨hn, hm, hcl, hh⟩ := hC hne
    rw [if_neg hne, if_neg (by omega)] at hQ
    have hd := hT.at ⟨hh.1, hh.2.1⟩
    obtain ⟨e37, e64, e62, e63, egM, eST⟩ := wr_rows hu
    simp only [e37, e64, e62, e63, egM, eST, up1_eq, up1_ne _ 38 17 _ (by decide), up1_ne _ 38 33 _ (by decide), up1_ne _ 38 34 _ (by decide), up1_ne _ 38 36 _ (by decide)]
    obtain ⟨p0, rfl⟩ := Int.eq_ofNat_of_zero_le hp.1
    simp only [Int.toNat_natCast] at *
    have hP0 : 0 ≤ (((σ 37 36) + (σ 37 33) - 1) / (σ 37 33)) := Int.ediv_nonneg (by omega) (by omega)
    have hP1 := Int.ediv_mul_le ((σ 37 36) + (σ 37 33) - 1) (b := (σ 37 33)) (by omega)
    have hP2 : (((σ 37 36) + (σ 37 33) - 1) / (σ 37 33)) ≤ 247 := by
      have := Int.mul_le_mul_of_nonneg_left (show (1 : Int) ≤ (σ 37 33) by omega) hP0
      omega
    have hen := enc_in (sz := (σ 37 36)) (msg := σ 63) hb hcl hh p0
    have hew := encW_r (sz := (σ 37 36)) (msg := σ 63) hb hcl hh p0
    have hp12 := p2_le (show (σ 37 34).toNat ≤ 12 by omega)
    have e12 : (2 : Int) ^ 12 = 4096 := by decide
    have hp8 := pow8 (m := (σ 37 33)) ⟨by omega, by omega⟩
    have hpn : (p0 : Int) * (σ 37 34) ≤ (((σ 37 36) + (σ 37 33) - 1) / (σ 37 33)) * (σ 37 34) := Int.mul_le_mul_of_nonneg_right (by omega) (by omega)
    have hpn0 : 0 ≤ (p0 : Int) * (σ 37 34) := Int.mul_nonneg (by omega) (by omega)
    have hpm0 : 0 ≤ (p0 : Int) * (σ 37 33) := Int.mul_nonneg (by omega) (by omega)
    have hpm : (p0 : Int) * (σ 37 33) ≤ (((σ 37 36) + (σ 37 33) - 1) / (σ 37 33)) * (σ 37 33) := Int.mul_le_mul_of_nonneg_right (by omega) (by omega)
    have hp1n : ((p0 : Int) + 1) * (σ 37 34) = (p0 : Int) * (σ 37 34) + (σ 37 34) := by rw [Int.add_mul, Int.one_mul]
    have hpn1 : (p0 : Int) < (((σ 37 36) + (σ 37 33) - 1) / (σ 37 33)) → ((p0 : Int) + 1) * (σ 37 34) ≤ (((σ 37 36) + (σ 37 33) - 1) / (σ 37 33)) * (σ 37 34) := fun h => Int.mul_le_mul_of_nonneg_right (by omega) (by omega)
    have ep1 : ((p0 : Int) + 1).toNat = p0 + 1 := by omega
    have hbz : bitZ w i.toNat = w / 2 ^ i.toNat % 2 := rfl
    have q1 : 0 ≤ i → updR (updR (updR σ 66 (leadG (σ 52) (σ 53) (σ 54 (homeF (σ 62)).toNat) (homeF (σ 62)) (-1) (σ 66))) 64 (up1 (addF (EncP (σ 37 17) (gM σ) (σ 62) (σ 37 33) (σ 37 34) (homeF (σ 62)) (σ 63) (σ 37 36) (σ 54 (homeF (σ 62)).toNat) (cpyF (leadG (σ 52) (σ 53) (σ 54 (homeF (σ 62)).toNat) (homeF (σ 62)) (-1) (σ 66)) (σ 64) (σ 54 (homeF (σ 62)).toNat)) p0) w ((σ 54 (homeF (σ 62)).toNat) + (p0 : Int) * (σ 37 34)) (σ 37 34) ((σ 37 34) - 1 - i)) ((σ 54 (homeF (σ 62)).toNat) + (p0 : Int) * (σ 37 34) + ((σ 37 34) - 1 - i)).toNat (w / 2 ^ i.toNat % 2))) 37 (up1 (up1 (σ 37) 38 ((σ 54 (homeF (σ 62)).toNat) + (p0 : Int) * (σ 37 34) + ((σ 37 34) - 1 - i))) 38 ((σ 54 (homeF (σ 62)).toNat) + (p0 : Int) * (σ 37 34) + ((σ 37 34) - 1 - i) + 1)) = updR (updR (updR σ 66 (leadG (σ 52) (σ 53) (σ 54 (homeF (σ 62)).toNat) (homeF (σ 62)) (-1) (σ 66))) 64 (addF (EncP (σ 37 17) (gM σ) (σ 62) (σ 37 33) (σ 37 34) (homeF (σ 62)) (σ 63) (σ 37 36) (σ 54 (homeF (σ 62)).toNat) (cpyF (leadG (σ 52) (σ 53) (σ 54 (homeF (σ 62)).toNat) (homeF (σ 62)) (-1) (σ 66)) (σ 64) (σ 54 (homeF (σ 62)).toNat)) p0) w ((σ 54 (homeF (σ 62)).toNat) + (p0 : Int) * (σ 37 34)) (σ 37 34) ((σ 37 34) - 1 - (i + -1)))) 37 (up1 (σ 37) 38 ((σ 54 (homeF (σ 62)).toNat) + (p0 : Int) * (σ 37 34) + ((σ 37 34) - 1 - (i + -1)))) := fun h => by
      have h2 := hpn1 hp.2
      rw [show (σ 37 34) - 1 - (i + -1) = (σ 37 34) - 1 - i + 1 by omega, addF_s (by omega) (by omega) (by omega), show (σ 37 34) - 1 - ((σ 37 34) - 1 - i) = i by omega, hbz, up1_twice, Int.add_assoc ((σ 54 (homeF (σ 62)).toNat) + (p0 : Int) * (σ 37 34))]
    have q2 : i < 0 → u = updR (updR (updR σ 66 (leadG (σ 52) (σ 53) (σ 54 (homeF (σ 62)).toNat) (homeF (σ 62)) (-1) (σ 66))) 64 ((EncP (σ 37 17) (gM σ) (σ 62) (σ 37 33) (σ 37 34) (homeF (σ 62)) (σ 63) (σ 37 36) (σ 54 (homeF (σ 62)).toNat) (cpyF (leadG (σ 52) (σ 53) (σ 54 (homeF (σ 62)).toNat) (homeF (σ 62)) (-1) (σ 66)) (σ 64) (σ 54 (homeF (σ 62)).toNat)) (p0 + 1)))) 37 (up1 (σ 37) 38 ((σ 54 (homeF (σ 62)).toNat) + ((p0 : Int) + 1) * (σ 37 34))) := fun h => by
      rw [hu, show (σ 37 34) - 1 - i = (σ 37 34) by omega, hw, hp1n, ← Int.add_assoc]
      rfl
    have q3 : i < 0 → folZ (σ 37 17) (gM σ) w (σ 37 34).toNat a = EncS (σ 37 17) (gM σ) (σ 62) (σ 37 33) (σ 37 34) (homeF (σ 62)) (σ 63) (σ 37 36) (p0 + 1) := fun h => by
      rw [ha, hw]
      rfl
    have ha2 : a = -1 ∨ (0 ≤ a ∧ a < σ 37 17) := by rw [ha]; omega
    have hwr : 0 ≤ w ∧ w ≤ 4096 := by rw [hw]; omega
    clear hQ hC
    (try simp only [rI_iff, rL_iff] at *)
    repeat' (with_reducible (first | assumption | apply And.intro | intro _))
    all_goals first | omega | with_reducible assumption | exact True.intro | skip
    all_goals first
      | omega
      | exact hw
      | exact ha
      | exact q1 (by omega)
      | exact q3 (by omega)
      | (rw [ep1]; exact q3 (by omega))
      | exact q2 (by omega)
      | (have hs1 := hpn1 hp.2; omega)
      | trace_state
