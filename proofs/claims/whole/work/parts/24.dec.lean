/-! codes: reading a plate -/
theorem up1_twice (f : Nat → Int) (k : Nat) (x y : Int) : up1 (up1 f k x) k y = up1 f k y := by
  funext j
  grind [up1_app]
theorem updR_4 {σ : St} {a b : Nat} {f g f2 g2 : Nat → Int} (h : a ≠ b) : updR (updR (updR (updR σ a f) b g) a f2) b g2 = updR (updR σ a f2) b g2 := by
  refine st_ext fun k j => ?_
  grind [updR_app]
theorem unlikeF_r (f g : Nat → Int) (gs : Int) : ∀ n : Nat, -1 ≤ unlikeF f g gs n ∧ unlikeF f g gs n < n + 1
  | 0 => by simp [unlikeF]
  | n + 1 => by
    have := unlikeF_r f g gs n
    rw [unlikeF]
    split
    · split <;> omega
    · omega
def s_C_decode : Spec := fun as σ Q => popR as fun c0 r0 => popR r0 fun c1 r1 => popR r1 fun c2 r2 => popR r2 fun c3 r3 => r3 = [] ∧ c0 = 25 ∧ c1 = 11 ∧ c2 = 33 ∧ c3 = 35 ∧ (0 ≤ σ 11 4 ∧ σ 11 4 ≤ 100) ∧ (Wire (σ 11 4) (σ 12)) ∧ (isBits (σ 28)) ∧ (Climbed (σ 11 4) (σ 12) (σ 28) (σ 25 5) (σ 27)) ∧ (1 ≤ σ 25 5 ∧ σ 25 5 ≤ 12) ∧ (1 ≤ σ 25 4 ∧ σ 25 4 ≤ 8) ∧ (0 ≤ σ 25 6 ∧ σ 25 6 < σ 11 4) ∧ (0 ≤ σ 29 1 ∧ σ 29 1 ≤ 600) ∧ (0 ≤ σ 33 1 ∧ σ 33 1 ≤ 600) ∧ (0 ≤ σ 35 1 ∧ σ 35 1 ≤ 600) ∧ (isBits (σ 30)) ∧ (isBits (σ 34)) ∧ (unlikeF (σ 30) (σ 34) (σ 33 1) (σ 29 1).toNat ≠ -1 → Q (some (.inl (unlikeF (σ 30) (σ 34) (σ 33 1) (σ 29 1).toNat))) (updR σ 35 (up1 (σ 35) 1 0))) ∧ (unlikeF (σ 30) (σ 34) (σ 33 1) (σ 29 1).toNat = -1 → ∀ (P : Nat) (r : Int), (∀ q : Nat, q < P → DecGo (σ 11 4) (σ 12) (σ 28) (σ 25 4) (σ 25 5) (σ 25 6) (σ 34) (σ 33 1) (σ 29 1) q) → DecR (σ 11 4) (σ 12) (σ 28) (σ 25 4) (σ 25 5) (σ 25 6) (σ 34) (σ 33 1) (σ 29 1) P r → Q (some (.inl r)) (updR (updR σ 36 (DecD (σ 11 4) (σ 12) (σ 28) (σ 25 4) (σ 25 5) (σ 25 6) (σ 34) (σ 33 1) (σ 29 1) (σ 36) P)) 35 (up1 (σ 35) 1 (min 600 (P * σ 25 4)))))
theorem e_C_decode  (σ : St) (Q : Option AV → St → Prop) : s_C_decode [.inr (.inr (some 25)), .inr (.inr (some 11)), .inr (.inr (some 33)), .inr (.inr (some 35))] σ Q = ((0 ≤ σ 11 4 ∧ σ 11 4 ≤ 100) ∧ (Wire (σ 11 4) (σ 12)) ∧ (isBits (σ 28)) ∧ (Climbed (σ 11 4) (σ 12) (σ 28) (σ 25 5) (σ 27)) ∧ (1 ≤ σ 25 5 ∧ σ 25 5 ≤ 12) ∧ (1 ≤ σ 25 4 ∧ σ 25 4 ≤ 8) ∧ (0 ≤ σ 25 6 ∧ σ 25 6 < σ 11 4) ∧ (0 ≤ σ 29 1 ∧ σ 29 1 ≤ 600) ∧ (0 ≤ σ 33 1 ∧ σ 33 1 ≤ 600) ∧ (0 ≤ σ 35 1 ∧ σ 35 1 ≤ 600) ∧ (isBits (σ 30)) ∧ (isBits (σ 34)) ∧ (unlikeF (σ 30) (σ 34) (σ 33 1) (σ 29 1).toNat ≠ -1 → Q (some (.inl (unlikeF (σ 30) (σ 34) (σ 33 1) (σ 29 1).toNat))) (updR σ 35 (up1 (σ 35) 1 0))) ∧ (unlikeF (σ 30) (σ 34) (σ 33 1) (σ 29 1).toNat = -1 → ∀ (P : Nat) (r : Int), (∀ q : Nat, q < P → DecGo (σ 11 4) (σ 12) (σ 28) (σ 25 4) (σ 25 5) (σ 25 6) (σ 34) (σ 33 1) (σ 29 1) q) → DecR (σ 11 4) (σ 12) (σ 28) (σ 25 4) (σ 25 5) (σ 25 6) (σ 34) (σ 33 1) (σ 29 1) P r → Q (some (.inl r)) (updR (updR σ 36 (DecD (σ 11 4) (σ 12) (σ 28) (σ 25 4) (σ 25 5) (σ 25 6) (σ 34) (σ 33 1) (σ 29 1) (σ 36) P)) 35 (up1 (σ 35) 1 (min 600 (P * σ 25 4)))))) := by
  show ([] = [] ∧ _) = _
  simp only [true_and]
set_option maxHeartbeats 4000000 in
set_option maxRecDepth 20000 in
theorem S_C_decode {l : Launch} : Sat l y_C_decode b_C_decode 10 (some .int) 4 s_C_decode := by
  refine sat_of (Φ := P_C) (κ := Q_C) (Γ := [(48, 2, 1, s_T_keep), (115, 2, 1, s_T_firstUnlike), (90, 2, 0, s_T_size), (99, 2, 2, s_T_part), (118, 3, 3, s_C_pieceFor), (107, 2, 2, s_T_add), (111, 8, 3, s_W_follow)]) (rt := 1) (by decide +kernel) P_C_ok Q_C_ok (by
    refine List.forall_mem_cons.mpr ⟨?_, List.forall_mem_cons.mpr ⟨?_, List.forall_mem_cons.mpr ⟨?_, List.forall_mem_cons.mpr ⟨?_, List.forall_mem_cons.mpr ⟨?_, List.forall_mem_cons.mpr ⟨?_, List.forall_mem_cons.mpr ⟨?_, fun _ h => absurd h List.not_mem_nil⟩⟩⟩⟩⟩⟩⟩
    · exact m_T_keep S_T_keep (by decide) l_C_48
    · exact m_T_firstUnlike S_T_firstUnlike (by decide) l_C_115
    · exact m_T_size S_T_size (by decide) l_C_90
    · exact m_T_part S_T_part (by decide) l_C_99
    · exact m_C_pieceFor S_C_pieceFor (by decide) l_C_118
    · exact m_T_add S_T_add (by decide) l_C_107
    · exact m_W_follow S_W_follow (by decide) l_C_111) (by simp) o_C_decode ?_
  intro as σ Q hh0
  obtain ⟨c0, rr0, rfl, hh1⟩ := popR_inv hh0
  obtain ⟨c1, rr1, rfl, hh2⟩ := popR_inv hh1
  obtain ⟨c2, rr2, rfl, hh3⟩ := popR_inv hh2
  obtain ⟨c3, rr3, rfl, hh4⟩ := popR_inv hh3
  obtain ⟨hrE, rfl, rfl, rfl, rfl, hN, hf, hb, hl, hn, hm, hh, hs29, hs33, hs35, hb30, hb34, hQ⟩ := hh4
  subst hrE
  clear hh0 hh1 hh2 hh3
  refine ⟨Nat.le_of_ble_eq_true rfl, [(34, mkC (fun L st u => ∃ (a p : Int) (v5 v7 v8 v9 : AV), L = [.inr (.inr (some 25)), .inr (.inr (some 11)), .inr (.inr (some 33)), .inr (.inr (some 35)), .inl a, v5, .inl p, v7, v8, v9] ∧ st = [] ∧ (0 ≤ p ∧ p ≤ 600) ∧ (unlikeF (σ 30) (σ 34) (σ 33 1) (σ 29 1).toNat = -1) ∧ (∀ q : Nat, q < p.toNat → DecGo (σ 11 4) (σ 12) (σ 28) (σ 25 4) (σ 25 5) (σ 25 6) (σ 34) (σ 33 1) (σ 29 1) q) ∧ (p * σ 25 5 ≤ 600) ∧ (a = DecS (σ 11 4) (σ 12) (σ 28) (σ 25 4) (σ 25 5) (σ 25 6) (σ 34) (σ 33 1) (σ 29 1) p.toNat) ∧ (u = updR (updR σ 36 (DecD (σ 11 4) (σ 12) (σ 28) (σ 25 4) (σ 25 5) (σ 25 6) (σ 34) (σ 33 1) (σ 29 1) (σ 36) p.toNat)) 35 (up1 (σ 35) 1 (min 600 (p * σ 25 4))))) (fun L st u => ((601 - gI L 6).toNat, 0, 0)))], 14, ?_, cuts1 ?_ (cuts0)⟩
  · rw [show entL 10 [.inr (.inr (some 25)), .inr (.inr (some 11)), .inr (.inr (some 33)), .inr (.inr (some 35))] = [.inr (.inr (some 25)), .inr (.inr (some 11)), .inr (.inr (some 33)), .inr (.inr (some 35)), .inr (.inr none), .inr (.inr none), .inr (.inr none), .inr (.inr none), .inr (.inr none), .inr (.inr none)] from rfl]
    simp only [↓wpN_go, jmp_e, ↓wp_aload_n0, ↓wp_aload_n1, ↓wp_aload_n2, ↓wp_aload_n3, ↓wp_getfield, ↓wp_goto, ↓wp_i2l, ↓wp_iadd, ↓wp_icmp_eq, ↓wp_icmp_ge, ↓wp_icmp_le, ↓wp_icmp_lt, ↓wp_icmp_ne, ↓wp_iconst, ↓wp_iinc, ↓wp_iload, ↓wp_imul, ↓wp_invokevirtual, ↓wp_ireturn1, ↓wp_istore, ↓wp_pop, ↓wp_sipush, wp_nil, ↓ldI_0, ↓ldI_s, ↓ldL_0, ↓ldL_s, ↓ldR_0, ↓ldR_s, sto1_0, sto1_1, sto1_s, sto2_0, sto2_1, sto2_s, isLong_i, isLong_l, isLong_r, ↓popI_c, ↓popL_c, ↓popR_c, ↓popN_0, ↓popN_s, catS_n, catS_c, psh_s, psh_n, fldV_n, fldV_s, ↓tgt_e, sw_n, ↓sw_c, ↓lk1_h, ↓lk1_m, ↓atC_h, ↓atC_m, ↓atC_n, ltO_n, ltO_s, updR_eq, updR_ne, gI_0i, gI_0l, gI_s, ltM_iff, List.cons.injEq, Sum.inl.injEq, Sum.inr.injEq, Option.some.injEq, exists_eq_left, exists_eq_left', exists_eq_right, exists_eq_right', exists_and_left, exists_and_right, exists_eq, exists_const, and_assoc, ↓j_C_decode_0, ↓j_C_decode_31, ↓j_C_decode_34, ↓j_C_decode_70, ↓j_C_decode_87, ↓j_C_decode_119, ↓j_C_decode_151, ↓f_C_25, ↓f_C_33, ↓f_C_36, ↓f_C_39, List.length_cons, List.length_nil, Nat.zero_add, Nat.reduceAdd, Int.reduceAdd, Int.reduceNeg, Int.reduceToNat, Int.reduceLE, Int.reduceLT, true_and, and_true, Nat.reduceLT, reduceIte, Nat.reduceEqDiff, ne_eq, not_false_eq_true, false_implies, true_implies, Bool.false_eq_true, reduceCtorEq, List.cons_append, List.nil_append, Nat.reduceSub, Nat.reduceLeDiff, Fin.isValue, Int.reduceNatCast', Int.zero_add, Int.add_zero, decide_true, decide_false, implies_true, forall_const, true_or, or_true, or_false, false_or, false_and, and_false, Int.toNat_natCast, ↓oF_25_0, ↓oF_25_1, ↓aF_28, ↓oF_25_2, ↓oF_25_3, ↓oF_25_4, ↓oF_25_5, ↓oF_25_6, oC_0, oC_1, oC_4, oC_11, oC_16, oC_18, oC_20, oC_23, oC_25, oC_26, oC_29, oC_31, oC_33, oC_35, oC_37, isT_29, isT_31, isT_33, isT_35, isL_16, isL_18, isL_26, ↓e_T_keep, ↓e_T_firstUnlike, ↓e_T_size, ↓e_T_part, ↓e_C_pieceFor, ↓e_T_add, ↓e_W_follow]
    have he0 : max 0 (min (σ 35 1) 0) = 0 := by omega
    simp only [he0]
    have hur := unlikeF_r (σ 30) (σ 34) (σ 33 1) (σ 29 1).toNat
    (try simp only [rI_iff, rL_iff] at *)
    repeat' (first | with_reducible assumption | apply And.intro | intro _)
    all_goals first | omega | with_reducible assumption | exact True.intro | skip
    · rfl
    · rw [Int.zero_mul]
      refine st_ext fun k j => ?_
      have : DecD (σ 11 4) (σ 12) (σ 28) (σ 25 4) (σ 25 5) (σ 25 6) (σ 34) (σ 33 1) (σ 29 1) (σ 36) 0 = σ 36 := rfl
      rw [this]
      grind [updR_app, up1_app]
    · rename_i h1
      exact hQ.1 h1
  · intro L st u hI
    obtain ⟨a, p, v5, v7, v8, v9, rfl, rfl, hp, hun, hgo, hpn, ha, hu⟩ := hI
    simp only [↓wpN_go, jmp_e, ↓wp_aload_n0, ↓wp_aload_n1, ↓wp_aload_n2, ↓wp_aload_n3, ↓wp_getfield, ↓wp_goto, ↓wp_i2l, ↓wp_iadd, ↓wp_icmp_eq, ↓wp_icmp_ge, ↓wp_icmp_le, ↓wp_icmp_lt, ↓wp_icmp_ne, ↓wp_iconst, ↓wp_iinc, ↓wp_iload, ↓wp_imul, ↓wp_invokevirtual, ↓wp_ireturn1, ↓wp_istore, ↓wp_pop, ↓wp_sipush, wp_nil, ↓ldI_0, ↓ldI_s, ↓ldL_0, ↓ldL_s, ↓ldR_0, ↓ldR_s, sto1_0, sto1_1, sto1_s, sto2_0, sto2_1, sto2_s, isLong_i, isLong_l, isLong_r, ↓popI_c, ↓popL_c, ↓popR_c, ↓popN_0, ↓popN_s, catS_n, catS_c, psh_s, psh_n, fldV_n, fldV_s, ↓tgt_e, sw_n, ↓sw_c, ↓lk1_h, ↓lk1_m, ↓atC_h, ↓atC_m, ↓atC_n, ltO_n, ltO_s, updR_eq, updR_ne, gI_0i, gI_0l, gI_s, ltM_iff, List.cons.injEq, Sum.inl.injEq, Sum.inr.injEq, Option.some.injEq, exists_eq_left, exists_eq_left', exists_eq_right, exists_eq_right', exists_and_left, exists_and_right, exists_eq, exists_const, and_assoc, ↓j_C_decode_0, ↓j_C_decode_31, ↓j_C_decode_34, ↓j_C_decode_70, ↓j_C_decode_87, ↓j_C_decode_119, ↓j_C_decode_151, ↓f_C_25, ↓f_C_33, ↓f_C_36, ↓f_C_39, List.length_cons, List.length_nil, Nat.zero_add, Nat.reduceAdd, Int.reduceAdd, Int.reduceNeg, Int.reduceToNat, Int.reduceLE, Int.reduceLT, true_and, and_true, Nat.reduceLT, reduceIte, Nat.reduceEqDiff, ne_eq, not_false_eq_true, false_implies, true_implies, Bool.false_eq_true, reduceCtorEq, List.cons_append, List.nil_append, Nat.reduceSub, Nat.reduceLeDiff, Fin.isValue, Int.reduceNatCast', Int.zero_add, Int.add_zero, decide_true, decide_false, implies_true, forall_const, true_or, or_true, or_false, false_or, false_and, and_false, Int.toNat_natCast, ↓oF_25_0, ↓oF_25_1, ↓aF_28, ↓oF_25_2, ↓oF_25_3, ↓oF_25_4, ↓oF_25_5, ↓oF_25_6, oC_0, oC_1, oC_4, oC_11, oC_16, oC_18, oC_20, oC_23, oC_25, oC_26, oC_29, oC_31, oC_33, oC_35, oC_37, isT_29, isT_31, isT_33, isT_35, isL_16, isL_18, isL_26, ↓e_T_keep, ↓e_T_firstUnlike, ↓e_T_size, ↓e_T_part, ↓e_C_pieceFor, ↓e_T_add, ↓e_W_follow]
    subst hu ha
    obtain ⟨p0, rfl⟩ := Int.eq_ofNat_of_zero_le hp.1
    have hp1 : ((p0 : Int) + 1).toNat = p0 + 1 := by omega
    simp only [updR_ne, updR_eq, up1_eq, ne_eq, Nat.reduceEqDiff, not_false_eq_true, Nat.succ_ne_self, Int.toNat_natCast, hp1] at *
    have h1 := dec_in (m := σ 25 4) (n := σ 25 5) (pl := σ 34) (sz := σ 33 1) (lead := σ 29 1) hh p0 hgo
    have h2 := partF_r (f := σ 34) (sz := σ 33 1) (b := σ 29 1 + (p0 : Int) * σ 25 5) (σ 25 5).toNat
    have h3 := pow8 (m := σ 25 4) ⟨by omega, by omega⟩
    have h12 := pow12 hn.2
    have h8 : 0 ≤ (p0 : Int) * σ 25 4 := Int.mul_nonneg hp.1 (by omega)
    have h9 : 0 ≤ (p0 : Int) * σ 25 5 := Int.mul_nonneg hp.1 (by omega)
    have h7 : ((p0 : Int) + 1) * σ 25 5 = p0 * σ 25 5 + σ 25 5 := by rw [Int.add_mul, Int.one_mul]
    have h6 : ((p0 : Int) + 1) * σ 25 4 = p0 * σ 25 4 + σ 25 4 := by rw [Int.add_mul, Int.one_mul]
    have h13 := readZ_r (N := σ 11 4) (f := σ 12) (m := σ 25 4) (n := σ 25 5) (s := DecS (σ 11 4) (σ 12) (σ 28) (σ 25 4) (σ 25 5) (σ 25 6) (σ 34) (σ 33 1) (σ 29 1) p0) (row := partF (σ 34) (σ 33 1) (σ 29 1 + p0 * σ 25 5) (σ 25 5).toNat) hb
    have hfV : readZ (σ 11 4) (σ 12) (σ 28) (σ 25 4) (σ 25 5) (DecS (σ 11 4) (σ 12) (σ 28) (σ 25 4) (σ 25 5) (σ 25 6) (σ 34) (σ 33 1) (σ 29 1) p0) (partF (σ 34) (σ 33 1) (σ 29 1 + p0 * σ 25 5) (σ 25 5).toNat) = DecV (σ 11 4) (σ 12) (σ 28) (σ 25 4) (σ 25 5) (σ 25 6) (σ 34) (σ 33 1) (σ 29 1) p0 := rfl
    rw [hfV] at h13
    rw [hfV]
    clear hfV
    have hR := hQ.2 hun p0
    clear hQ
    have hgo2 : σ 29 1 + ↑p0 * σ 25 5 < σ 33 1 → σ 29 1 + ↑p0 * σ 25 5 + σ 25 5 ≤ σ 33 1 → ¬ DecV (σ 11 4) (σ 12) (σ 28) (σ 25 4) (σ 25 5) (σ 25 6) (σ 34) (σ 33 1) (σ 29 1) p0 = -1 → ∀ q : Nat, q < p0 + 1 → DecGo (σ 11 4) (σ 12) (σ 28) (σ 25 4) (σ 25 5) (σ 25 6) (σ 34) (σ 33 1) (σ 29 1) q := fun g1 g2 g3 q hq => by
      by_cases e : q < p0
      · exact hgo q e
      · have : q = p0 := by omega
        subst this
        exact ⟨g1, g2, g3⟩
    have hRe : σ 33 1 ≤ σ 29 1 + (p0 : Int) * σ 25 5 → Q (some (Sum.inl (-1))) (updR (updR σ 36 (DecD (σ 11 4) (σ 12) (σ 28) (σ 25 4) (σ 25 5) (σ 25 6) (σ 34) (σ 33 1) (σ 29 1) (σ 36) p0)) 35 (up1 (σ 35) 1 (min 600 (↑p0 * σ 25 4)))) := fun g1 => hR _ hgo (Or.inl ⟨g1, rfl⟩)
    have hRf : σ 29 1 + (p0 : Int) * σ 25 5 < σ 33 1 → (σ 33 1 < σ 29 1 + p0 * σ 25 5 + σ 25 5 ∨ DecV (σ 11 4) (σ 12) (σ 28) (σ 25 4) (σ 25 5) (σ 25 6) (σ 34) (σ 33 1) (σ 29 1) p0 = -1) → Q (some (Sum.inl (σ 29 1 + (p0 : Int) * σ 25 5))) (updR (updR σ 36 (DecD (σ 11 4) (σ 12) (σ 28) (σ 25 4) (σ 25 5) (σ 25 6) (σ 34) (σ 33 1) (σ 29 1) (σ 36) p0)) 35 (up1 (σ 35) 1 (min 600 (↑p0 * σ 25 4)))) := fun g1 g2 => hR _ hgo (Or.inr ⟨g1, rfl, g2⟩)
    clear hR
    have hst : updR (updR (updR (updR σ 36 (DecD (σ 11 4) (σ 12) (σ 28) (σ 25 4) (σ 25 5) (σ 25 6) (σ 34) (σ 33 1) (σ 29 1) (σ 36) p0)) 35 (up1 (σ 35) 1 (min 600 (↑p0 * σ 25 4)))) 36 (addF (DecD (σ 11 4) (σ 12) (σ 28) (σ 25 4) (σ 25 5) (σ 25 6) (σ 34) (σ 33 1) (σ 29 1) (σ 36) p0) (DecV (σ 11 4) (σ 12) (σ 28) (σ 25 4) (σ 25 5) (σ 25 6) (σ 34) (σ 33 1) (σ 29 1) p0) (min 600 (↑p0 * σ 25 4)) (σ 25 4) (σ 25 4))) 35 (up1 (up1 (σ 35) 1 (min 600 (↑p0 * σ 25 4))) 1 (min 600 (min 600 (↑p0 * σ 25 4) + σ 25 4))) = updR (updR σ 36 (DecD (σ 11 4) (σ 12) (σ 28) (σ 25 4) (σ 25 5) (σ 25 6) (σ 34) (σ 33 1) (σ 29 1) (σ 36) (p0 + 1))) 35 (up1 (σ 35) 1 (min 600 ((↑p0 + 1) * σ 25 4))) := by
      have e1 : min 600 (min 600 ((p0 : Int) * σ 25 4) + σ 25 4) = min 600 (((p0 : Int) + 1) * σ 25 4) := by omega
      have e2 : DecD (σ 11 4) (σ 12) (σ 28) (σ 25 4) (σ 25 5) (σ 25 6) (σ 34) (σ 33 1) (σ 29 1) (σ 36) (p0 + 1) = addF (DecD (σ 11 4) (σ 12) (σ 28) (σ 25 4) (σ 25 5) (σ 25 6) (σ 34) (σ 33 1) (σ 29 1) (σ 36) p0) (DecV (σ 11 4) (σ 12) (σ 28) (σ 25 4) (σ 25 5) (σ 25 6) (σ 34) (σ 33 1) (σ 29 1) p0) (min 600 (p0 * σ 25 4)) (σ 25 4) (σ 25 4) := rfl
      rw [e1, e2, updR_4 (by decide), up1_twice]
    rw [hst]
    clear hst
    have hlead : (600 : Int) ≤ p0 → 600 ≤ (p0 : Int) * σ 25 5 := fun g => by
      have := Int.mul_le_mul_of_nonneg_left (show (1 : Int) ≤ σ 25 5 by omega) (show 0 ≤ (p0 : Int) by omega)
      omega
    (try simp only [rI_iff, rL_iff] at *)
    repeat' (first | with_reducible assumption | apply And.intro | intro _)
    all_goals first | omega | with_reducible assumption | exact True.intro | skip
    · exact hRe (by omega)
    · exact (hgo2 (by assumption) (by assumption) (by assumption) _ (by assumption)).1
    · exact (hgo2 (by assumption) (by assumption) (by assumption) _ (by assumption)).2.1
    · rename_i q1 q2 q3 q4 q5 q6
      exact (hgo2 (by assumption) (by assumption) (by assumption) _ q5).2.2 q6
    · rfl
    · exact hRf (by assumption) (Or.inr (by assumption))
    · exact hRf (by assumption) (Or.inl (by assumption))
