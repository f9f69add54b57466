/-! the reference: reading -/
def TellM (σ τ : St) (r : Int) : Prop := (∀ k, k ≠ 63 → k ≠ 65 → k ≠ 66 → k ≠ 37 → τ k = σ k) ∧ (∀ j, j ≠ 36 → τ 37 j = σ 37 j) ∧
  (((unlikeF (leadG (σ 52) (σ 53) (σ 54 (homeF (σ 62)).toNat) (homeF (σ 62)) (-1) (σ 66)) (σ 64) (σ 37 38) (σ 54 (homeF (σ 62)).toNat).toNat) ≠ -1 ∧ r = -100 - (unlikeF (leadG (σ 52) (σ 53) (σ 54 (homeF (σ 62)).toNat) (homeF (σ 62)) (-1) (σ 66)) (σ 64) (σ 37 38) (σ 54 (homeF (σ 62)).toNat).toNat) ∧ τ 63 = σ 63 ∧ τ 37 36 = σ 37 36) ∨ ((unlikeF (leadG (σ 52) (σ 53) (σ 54 (homeF (σ 62)).toNat) (homeF (σ 62)) (-1) (σ 66)) (σ 64) (σ 37 38) (σ 54 (homeF (σ 62)).toNat).toNat) = -1 ∧ ∃ (P : Nat) (z : Int), (∀ q : Nat, q < P → DecGo (σ 37 17) (gM σ) (σ 62) (σ 37 33) (σ 37 34) (homeF (σ 62)) (σ 64) (σ 37 38) (σ 54 (homeF (σ 62)).toNat) q) ∧ DecR (σ 37 17) (gM σ) (σ 62) (σ 37 33) (σ 37 34) (homeF (σ 62)) (σ 64) (σ 37 38) (σ 54 (homeF (σ 62)).toNat) P z ∧
    ((z ≠ -1 ∧ r = -100 - z ∧ τ 63 = σ 63 ∧ τ 37 36 = σ 37 36) ∨ (z = -1 ∧ 240 < P * (σ 37 33) ∧ r = -4 ∧ τ 63 = σ 63 ∧ τ 37 36 = σ 37 36) ∨ (z = -1 ∧ P * (σ 37 33) ≤ 240 ∧ r = P * (σ 37 33) ∧ τ 37 36 = P * (σ 37 33) ∧ ∀ j : Nat, (j : Int) < P * (σ 37 33) → τ 63 j = (DecD (σ 37 17) (gM σ) (σ 62) (σ 37 33) (σ 37 34) (homeF (σ 62)) (σ 64) (σ 37 38) (σ 54 (homeF (σ 62)).toNat) (σ 65) P) j))))
theorem tl_rows {σ u : St} {LD pl : Nat → Int} (hu : u = updR (updR σ 66 LD) 65 pl) : u 37 = σ 37 ∧ u 65 = pl ∧ u 62 = σ 62 ∧ u 63 = σ 63 ∧ u 64 = σ 64 ∧ gM u = gM σ ∧ (∀ k, k ≠ 65 → k ≠ 66 → u k = σ k) ∧ ∀ pl', updR u 65 pl' = updR (updR σ 66 LD) 65 pl' := by
  rw [hu]
  refine ⟨?_, updR_eq _ _ _, ?_, ?_, ?_, ?_, fun k k1 k2 => ?_, fun pl' => ?_⟩
  · rw [updR_ne _ 65 37 _ (by decide), updR_ne _ 66 37 _ (by decide)]
  · rw [updR_ne _ 65 62 _ (by decide), updR_ne _ 66 62 _ (by decide)]
  · rw [updR_ne _ 65 63 _ (by decide), updR_ne _ 66 63 _ (by decide)]
  · rw [updR_ne _ 65 64 _ (by decide), updR_ne _ 66 64 _ (by decide)]
  · rw [gM_upd _ _ _ (by decide) (by decide), gM_upd _ _ _ (by decide) (by decide)]
  · rw [updR_ne _ _ _ _ k1, updR_ne _ _ _ _ k2]
  · rw [updR_twice]
theorem tl_post {σ u : St} {r : Int} (h : ∀ k, k ≠ 65 → k ≠ 66 → u k = σ k) (hp : ((unlikeF (leadG (σ 52) (σ 53) (σ 54 (homeF (σ 62)).toNat) (homeF (σ 62)) (-1) (σ 66)) (σ 64) (σ 37 38) (σ 54 (homeF (σ 62)).toNat).toNat) ≠ -1 ∧ r = -100 - (unlikeF (leadG (σ 52) (σ 53) (σ 54 (homeF (σ 62)).toNat) (homeF (σ 62)) (-1) (σ 66)) (σ 64) (σ 37 38) (σ 54 (homeF (σ 62)).toNat).toNat)) ∨ ((unlikeF (leadG (σ 52) (σ 53) (σ 54 (homeF (σ 62)).toNat) (homeF (σ 62)) (-1) (σ 66)) (σ 64) (σ 37 38) (σ 54 (homeF (σ 62)).toNat).toNat) = -1 ∧ ∃ (P : Nat) (z : Int), (∀ q : Nat, q < P → DecGo (σ 37 17) (gM σ) (σ 62) (σ 37 33) (σ 37 34) (homeF (σ 62)) (σ 64) (σ 37 38) (σ 54 (homeF (σ 62)).toNat) q) ∧ DecR (σ 37 17) (gM σ) (σ 62) (σ 37 33) (σ 37 34) (homeF (σ 62)) (σ 64) (σ 37 38) (σ 54 (homeF (σ 62)).toNat) P z ∧ ((z ≠ -1 ∧ r = -100 - z) ∨ (z = -1 ∧ 240 < P * (σ 37 33) ∧ r = -4)))) : TellM σ u r := by
  have e63 := h 63 (by decide) (by decide)
  have e37 := h 37 (by decide) (by decide)
  refine ⟨fun k k1 k2 k3 k4 => h k k2 k3, fun j _ => by rw [e37], ?_⟩
  rcases hp with ⟨a, b⟩ | ⟨a, P, z, b, c, e⟩
  · exact Or.inl ⟨a, b, e63, by rw [e37]⟩
  · refine Or.inr ⟨a, P, z, b, c, ?_⟩
    rcases e with ⟨e, f⟩ | ⟨e, f, g⟩
    · exact Or.inl ⟨e, f, e63, by rw [e37]⟩
    · exact Or.inr (Or.inl ⟨e, f, g, e63, by rw [e37]⟩)
def DrOK (σ : St) : Prop := (1 ≤ (σ 37 34) ∧ (σ 37 34) ≤ 12) ∧ (1 ≤ (σ 37 33) ∧ (σ 37 33) ≤ 8) ∧ (0 ≤ (homeF (σ 62)) ∧ (homeF (σ 62)) < σ 37 17 ∧ σ 62 (homeF (σ 62)).toNat = 1)
def s_M_tell : Spec := fun as σ Q => popR as fun c0 r0 => r0 = [] ∧ c0 = 37 ∧ (0 ≤ σ 37 17 ∧ σ 37 17 ≤ 100) ∧ (Wire (σ 37 17) (gM σ)) ∧ (isBits (σ 62)) ∧ (Tree (σ 37 17) (σ 52) (σ 54)) ∧ (isBits (σ 53)) ∧ (0 ≤ σ 37 38 ∧ σ 37 38 ≤ 600) ∧ (∀ t : Nat, (t : Int) < σ 37 38 → σ 64 t = 0 ∨ σ 64 t = 1) ∧ (rI (σ 37 32)) ∧ (σ 37 32 ≠ 0 → DrOK σ) ∧ if σ 37 32 = 0 then Q (some (.inl (-3))) σ else ∀ τ r, TellM σ τ r → Q (some (.inl r)) τ
theorem e_M_tell  (σ : St) (Q : Option AV → St → Prop) : s_M_tell [.inr (.inr (some 37))] σ Q = ((0 ≤ σ 37 17 ∧ σ 37 17 ≤ 100) ∧ (Wire (σ 37 17) (gM σ)) ∧ (isBits (σ 62)) ∧ (Tree (σ 37 17) (σ 52) (σ 54)) ∧ (isBits (σ 53)) ∧ (0 ≤ σ 37 38 ∧ σ 37 38 ≤ 600) ∧ (∀ t : Nat, (t : Int) < σ 37 38 → σ 64 t = 0 ∨ σ 64 t = 1) ∧ (rI (σ 37 32)) ∧ (σ 37 32 ≠ 0 → DrOK σ) ∧ if σ 37 32 = 0 then Q (some (.inl (-3))) σ else ∀ τ r, TellM σ τ r → Q (some (.inl r)) τ) := by
  show ([] = [] ∧ _) = _
  simp only [true_and]
set_option maxHeartbeats 8000000 in
set_option maxRecDepth 20000 in
theorem S_M_tell {l : Launch} : Sat l y_M_tell b_M_tell 8 (some .int) 3 s_M_tell := by
  refine sat_of (Φ := P_M) (κ := Q_M) (Γ := [(256, 10, 0, s_M_tellLead), (253, 10, 0, s_M_home), (247, 10, 2, s_M_readAt), (197, 10, 3, s_M_walks)]) (rt := 1) (by decide +kernel) P_M_ok Q_M_ok (by
    refine List.forall_mem_cons.mpr ⟨?_, List.forall_mem_cons.mpr ⟨?_, List.forall_mem_cons.mpr ⟨?_, List.forall_mem_cons.mpr ⟨?_, fun _ h => absurd h List.not_mem_nil⟩⟩⟩⟩
    · exact m_M_tellLead S_M_tellLead (by decide) l_M_256
    · exact m_M_home S_M_home (by decide) l_M_253
    · exact m_M_readAt S_M_readAt (by decide) l_M_247
    · exact m_M_walks S_M_walks (by decide) l_M_197) (by simp) o_M_tell ?_
  intro as σ Q hh0
  obtain ⟨c0, rr0, rfl, hh1⟩ := popR_inv hh0
  obtain ⟨hrE, rfl, hN, hf, hb, hT, hb53, h38, hbp, hrz, hC, hQ⟩ := hh1
  subst hrE
  clear hh0
  refine ⟨Nat.le_of_ble_eq_true rfl, [(17, mkC (fun L st u => ∃ (i : Int) (v3 v4 v5 v6 v7 : AV), L = [.inr (.inr (some 37)), .inl ((σ 54 (homeF (σ 62)).toNat)), .inl i, v3, v4, v5, v6, v7] ∧ st = [] ∧ (σ 37 32 ≠ 0) ∧ (0 ≤ i ∧ i ≤ (σ 54 (homeF (σ 62)).toNat)) ∧ (unlikeF (leadG (σ 52) (σ 53) (σ 54 (homeF (σ 62)).toNat) (homeF (σ 62)) (-1) (σ 66)) (σ 64) (σ 37 38) i.toNat = -1) ∧ (u = updR σ 66 (leadG (σ 52) (σ 53) (σ 54 (homeF (σ 62)).toNat) (homeF (σ 62)) (-1) (σ 66)))) (fun L st u => (1000, (101 - gI L 2).toNat, 0))),
    (66, mkC (fun L st u => ∃ (P : Nat) (v5 v6 v7 : AV), L = [.inr (.inr (some 37)), .inl ((σ 54 (homeF (σ 62)).toNat)), .inl ((DecS (σ 37 17) (gM σ) (σ 62) (σ 37 33) (σ 37 34) (homeF (σ 62)) (σ 64) (σ 37 38) (σ 54 (homeF (σ 62)).toNat) P)), .inl ((P * (σ 37 33))), .inl (((σ 54 (homeF (σ 62)).toNat) + P * (σ 37 34))), v5, v6, v7] ∧ st = [] ∧ (σ 37 32 ≠ 0) ∧ ((unlikeF (leadG (σ 52) (σ 53) (σ 54 (homeF (σ 62)).toNat) (homeF (σ 62)) (-1) (σ 66)) (σ 64) (σ 37 38) (σ 54 (homeF (σ 62)).toNat).toNat) = -1) ∧ (∀ q : Nat, q < P → DecGo (σ 37 17) (gM σ) (σ 62) (σ 37 33) (σ 37 34) (homeF (σ 62)) (σ 64) (σ 37 38) (σ 54 (homeF (σ 62)).toNat) q) ∧ ((σ 54 (homeF (σ 62)).toNat) + P * (σ 37 34) ≤ 600) ∧ (u = updR (updR σ 66 (leadG (σ 52) (σ 53) (σ 54 (homeF (σ 62)).toNat) (homeF (σ 62)) (-1) (σ 66))) 65 ((DecD (σ 37 17) (gM σ) (σ 62) (σ 37 33) (σ 37 34) (homeF (σ 62)) (σ 64) (σ 37 38) (σ 54 (homeF (σ 62)).toNat) (σ 65) P)))) (fun L st u => ((700 - gI L 4).toNat, 300, 0))),
    (81, mkC (fun L st u => ∃ (P : Nat) (v i : Int) (v7 : AV), L = [.inr (.inr (some 37)), .inl ((σ 54 (homeF (σ 62)).toNat)), .inl ((DecS (σ 37 17) (gM σ) (σ 62) (σ 37 33) (σ 37 34) (homeF (σ 62)) (σ 64) (σ 37 38) (σ 54 (homeF (σ 62)).toNat) P)), .inl ((P * (σ 37 33))), .inl (((σ 54 (homeF (σ 62)).toNat) + P * (σ 37 34))), .inl v, .inl i, v7] ∧ st = [] ∧ (σ 37 32 ≠ 0) ∧ ((unlikeF (leadG (σ 52) (σ 53) (σ 54 (homeF (σ 62)).toNat) (homeF (σ 62)) (-1) (σ 66)) (σ 64) (σ 37 38) (σ 54 (homeF (σ 62)).toNat).toNat) = -1) ∧ (∀ q : Nat, q < P → DecGo (σ 37 17) (gM σ) (σ 62) (σ 37 33) (σ 37 34) (homeF (σ 62)) (σ 64) (σ 37 38) (σ 54 (homeF (σ 62)).toNat) q) ∧ ((σ 54 (homeF (σ 62)).toNat) + P * (σ 37 34) ≤ 600) ∧ ((σ 54 (homeF (σ 62)).toNat) + P * (σ 37 34) < (σ 37 38)) ∧ (0 ≤ i ∧ i ≤ (σ 37 34)) ∧ (v = partF (σ 64) (σ 37 38) ((σ 54 (homeF (σ 62)).toNat) + P * (σ 37 34)) i.toNat) ∧ (u = updR (updR σ 66 (leadG (σ 52) (σ 53) (σ 54 (homeF (σ 62)).toNat) (homeF (σ 62)) (-1) (σ 66))) 65 ((DecD (σ 37 17) (gM σ) (σ 62) (σ 37 33) (σ 37 34) (homeF (σ 62)) (σ 64) (σ 37 38) (σ 54 (homeF (σ 62)).toNat) (σ 65) P)))) (fun L st u => ((700 - gI L 4).toNat, (200 - gI L 6).toNat, 0))),
    (176, mkC (fun L st u => ∃ (P : Nat) (w v i : Int), L = [.inr (.inr (some 37)), .inl ((σ 54 (homeF (σ 62)).toNat)), .inl ((DecS (σ 37 17) (gM σ) (σ 62) (σ 37 33) (σ 37 34) (homeF (σ 62)) (σ 64) (σ 37 38) (σ 54 (homeF (σ 62)).toNat) P)), .inl ((P * (σ 37 33) + ((σ 37 33) - 1 - i))), .inl (((σ 54 (homeF (σ 62)).toNat) + P * (σ 37 34))), .inl w, .inl v, .inl i] ∧ st = [] ∧ (σ 37 32 ≠ 0) ∧ ((unlikeF (leadG (σ 52) (σ 53) (σ 54 (homeF (σ 62)).toNat) (homeF (σ 62)) (-1) (σ 66)) (σ 64) (σ 37 38) (σ 54 (homeF (σ 62)).toNat).toNat) = -1) ∧ (∀ q : Nat, q < P → DecGo (σ 37 17) (gM σ) (σ 62) (σ 37 33) (σ 37 34) (homeF (σ 62)) (σ 64) (σ 37 38) (σ 54 (homeF (σ 62)).toNat) q) ∧ ((σ 54 (homeF (σ 62)).toNat) + P * (σ 37 34) ≤ 600) ∧ ((σ 54 (homeF (σ 62)).toNat) + P * (σ 37 34) < (σ 37 38)) ∧ ((σ 54 (homeF (σ 62)).toNat) + P * (σ 37 34) + (σ 37 34) ≤ (σ 37 38)) ∧ (w = partF (σ 64) (σ 37 38) ((σ 54 (homeF (σ 62)).toNat) + P * (σ 37 34)) (σ 37 34).toNat) ∧ (v = DecV (σ 37 17) (gM σ) (σ 62) (σ 37 33) (σ 37 34) (homeF (σ 62)) (σ 64) (σ 37 38) (σ 54 (homeF (σ 62)).toNat) P) ∧ (DecV (σ 37 17) (gM σ) (σ 62) (σ 37 33) (σ 37 34) (homeF (σ 62)) (σ 64) (σ 37 38) (σ 54 (homeF (σ 62)).toNat) P ≠ -1) ∧ (-1 ≤ i ∧ i < (σ 37 33)) ∧ (u = updR (updR σ 66 (leadG (σ 52) (σ 53) (σ 54 (homeF (σ 62)).toNat) (homeF (σ 62)) (-1) (σ 66))) 65 (addF (DecD (σ 37 17) (gM σ) (σ 62) (σ 37 33) (σ 37 34) (homeF (σ 62)) (σ 64) (σ 37 38) (σ 54 (homeF (σ 62)).toNat) (σ 65) P) (DecV (σ 37 17) (gM σ) (σ 62) (σ 37 33) (σ 37 34) (homeF (σ 62)) (σ 64) (σ 37 38) (σ 54 (homeF (σ 62)).toNat) P) (min 600 (P * (σ 37 33))) (σ 37 33) ((σ 37 33) - 1 - i)))) (fun L st u => ((700 - gI L 4).toNat, (gI L 7 + 1).toNat, 0))),
    (248, mkC (fun L st u => ∃ (P : Nat) (a pl i : Int) (v6 v7 : AV), L = [.inr (.inr (some 37)), .inl ((σ 54 (homeF (σ 62)).toNat)), .inl a, .inl ((P * (σ 37 33))), .inl pl, .inl i, v6, v7] ∧ st = [] ∧ (σ 37 32 ≠ 0) ∧ ((unlikeF (leadG (σ 52) (σ 53) (σ 54 (homeF (σ 62)).toNat) (homeF (σ 62)) (-1) (σ 66)) (σ 64) (σ 37 38) (σ 54 (homeF (σ 62)).toNat).toNat) = -1) ∧ (∀ q : Nat, q < P → DecGo (σ 37 17) (gM σ) (σ 62) (σ 37 33) (σ 37 34) (homeF (σ 62)) (σ 64) (σ 37 38) (σ 54 (homeF (σ 62)).toNat) q) ∧ ((σ 37 38) ≤ (σ 54 (homeF (σ 62)).toNat) + P * (σ 37 34)) ∧ (P * (σ 37 33) ≤ 240) ∧ (0 ≤ i ∧ i ≤ P * (σ 37 33)) ∧ (u = updR (updR (updR σ 66 (leadG (σ 52) (σ 53) (σ 54 (homeF (σ 62)).toNat) (homeF (σ 62)) (-1) (σ 66))) 65 ((DecD (σ 37 17) (gM σ) (σ 62) (σ 37 33) (σ 37 34) (homeF (σ 62)) (σ 64) (σ 37 38) (σ 54 (homeF (σ 62)).toNat) (σ 65) P))) 63 (cpyF (DecD (σ 37 17) (gM σ) (σ 62) (σ 37 33) (σ 37 34) (homeF (σ 62)) (σ 64) (σ 37 38) (σ 54 (homeF (σ 62)).toNat) (σ 65) P) (σ 63) i))) (fun L st u => (50, (300 - gI L 5).toNat, 0)))], 14, ?_, cuts1 ?_ (cuts1 ?_ (cuts1 ?_ (cuts1 ?_ (cuts1 ?_ (cuts0)))))⟩
  · rw [show entL 8 [.inr (.inr (some 37))] = [.inr (.inr (some 37)), .inr (.inr none), .inr (.inr none), .inr (.inr none), .inr (.inr none), .inr (.inr none), .inr (.inr none), .inr (.inr none)] from rfl]
    simp only [↓wpN_go, jmp_e, ↓wp_aload_n0, ↓wp_bipush, ↓wp_getfield, ↓wp_goto, ↓wp_i2l, ↓wp_iadd, ↓wp_iaload, ↓wp_iand, ↓wp_iastore, ↓wp_icmp_eq, ↓wp_icmp_ge, ↓wp_icmp_le, ↓wp_icmp_ne, ↓wp_iconst, ↓wp_if_lt, ↓wp_if_ne, ↓wp_iinc, ↓wp_iload, ↓wp_iload_n1, ↓wp_iload_n2, ↓wp_iload_n3, ↓wp_imul, ↓wp_invokevirtual, ↓wp_ireturn1, ↓wp_ishr, ↓wp_istore, ↓wp_istore_n1, ↓wp_istore_n2, ↓wp_istore_n3, ↓wp_isub, ↓wp_putfield, ↓wp_sipush, wp_nil, ↓ldI_0, ↓ldI_s, ↓ldL_0, ↓ldL_s, ↓ldR_0, ↓ldR_s, sto1_0, sto1_1, sto1_s, sto2_0, sto2_1, sto2_s, isLong_i, isLong_l, isLong_r, ↓popI_c, ↓popL_c, ↓popR_c, ↓popN_0, ↓popN_s, catS_n, catS_c, psh_s, psh_n, fldV_n, fldV_s, ↓tgt_e, sw_n, ↓sw_c, ↓lk1_h, ↓lk1_m, ↓atC_h, ↓atC_m, ↓atC_n, ltO_n, ltO_s, updR_eq, updR_ne, gI_0i, gI_0l, gI_s, ltM_iff, List.cons.injEq, Sum.inl.injEq, Sum.inr.injEq, Option.some.injEq, exists_eq_left, exists_eq_left', exists_eq_right, exists_eq_right', exists_and_left, exists_and_right, exists_eq, exists_const, and_assoc, ↓j_M_tell_0, ↓j_M_tell_10, ↓j_M_tell_17, ↓j_M_tell_45, ↓j_M_tell_50, ↓j_M_tell_56, ↓j_M_tell_66, ↓j_M_tell_81, ↓j_M_tell_119, ↓j_M_tell_120, ↓j_M_tell_129, ↓j_M_tell_147, ↓j_M_tell_154, ↓j_M_tell_168, ↓j_M_tell_176, ↓j_M_tell_201, ↓j_M_tell_210, ↓j_M_tell_235, ↓j_M_tell_245, ↓j_M_tell_248, ↓j_M_tell_274, ↓f_M_100, ↓f_M_103, ↓f_M_179, ↓f_M_230, ↓f_M_235, ↓f_M_250, ↓f_M_259, ↓f_M_94, ↓f_M_97, List.length_cons, List.length_nil, Nat.zero_add, Nat.reduceAdd, Int.reduceAdd, Int.reduceNeg, Int.reduceToNat, Int.reduceLE, Int.reduceLT, true_and, and_true, Nat.reduceLT, reduceIte, Nat.reduceEqDiff, ne_eq, not_false_eq_true, false_implies, true_implies, Bool.false_eq_true, reduceCtorEq, List.cons_append, List.nil_append, Nat.reduceSub, Nat.reduceLeDiff, Fin.isValue, Int.reduceNatCast', Int.zero_add, Int.add_zero, decide_true, decide_false, implies_true, forall_const, true_or, or_true, or_false, false_or, false_and, and_false, Int.toNat_natCast, ↓oF_37_0, ↓oF_37_1, ↓oF_37_2, ↓oF_37_3, ↓aF_38, ↓oF_37_4, ↓aF_39, ↓oF_37_5, ↓oF_37_6, ↓aF_40, ↓oF_37_7, ↓oF_37_8, ↓aF_41, ↓oF_37_9, ↓aF_42, ↓oF_37_10, ↓aF_43, ↓oF_37_11, ↓aF_44, ↓oF_37_12, ↓aF_45, ↓oF_37_13, ↓aF_46, ↓oF_37_14, ↓aF_47, ↓oF_37_15, ↓aF_48, ↓oF_37_16, ↓aF_49, ↓oF_37_17, ↓oF_37_18, ↓aF_50, ↓oF_37_19, ↓aF_51, ↓oF_37_20, ↓aF_52, ↓oF_37_21, ↓aF_53, ↓oF_37_22, ↓aF_54, ↓oF_37_23, ↓aF_55, ↓oF_37_24, ↓aF_56, ↓oF_37_25, ↓aF_57, ↓oF_37_26, ↓oF_37_27, ↓oF_37_28, ↓aF_58, ↓oF_37_29, ↓aF_59, ↓oF_37_30, ↓aF_60, ↓oF_37_31, ↓aF_61, ↓oF_37_32, ↓oF_37_33, ↓oF_37_34, ↓oF_37_35, ↓aF_62, ↓oF_37_36, ↓oF_37_37, ↓aF_63, ↓oF_37_38, ↓oF_37_39, ↓aF_64, ↓oF_37_40, ↓aF_65, ↓oF_37_41, ↓aF_66, oC_0, oC_1, oC_4, oC_11, oC_16, oC_18, oC_20, oC_23, oC_25, oC_26, oC_29, oC_31, oC_33, oC_35, oC_37, isT_29, isT_31, isT_33, isT_35, isL_16, isL_18, isL_26, b2i_0, b2i_1, b2i_01, b2i_r, iandZ_1, ↓e_M_tellLead, ↓e_M_home, ↓e_M_readAt, ↓e_M_walks]
    by_cases hne : σ 37 32 = 0
    · rw [if_pos hne] at hQ
      (try simp only [rI_iff, rL_iff] at *)
      repeat' (with_reducible (first | assumption | apply And.intro | intro _))
      all_goals first | omega | with_reducible assumption | exact True.intro | skip
      all_goals first
        | exact hQ
        | exact absurd hne (by assumption)
        | trace_state
    · rw [if_neg hne] at hQ
      obtain ⟨hn, hm, hh⟩ := hC hne
      have hd := hT.at ⟨hh.1, hh.2.1⟩
      have h0 : unlikeF (leadG (σ 52) (σ 53) (σ 54 (homeF (σ 62)).toNat) (homeF (σ 62)) (-1) (σ 66)) (σ 64) (σ 37 38) (0 : Int).toNat = -1 := rfl
      clear hQ hC
      (try simp only [rI_iff, rL_iff] at *)
      repeat' (with_reducible (first | assumption | apply And.intro | intro _))
      all_goals first | omega | with_reducible assumption | exact True.intro | skip
      all_goals first
        | omega
        | exact h0
        | exact ⟨homeF (σ 62) |>.toNat, by omega, hh.2.2⟩
        | trace_state
  · intro L st u hI
    obtain ⟨i, v3, v4, v5, v6, v7, rfl, rfl, hne, hi, hx, hu⟩ := hI
    simp only [↓wpN_go, jmp_e, ↓wp_aload_n0, ↓wp_bipush, ↓wp_getfield, ↓wp_goto, ↓wp_i2l, ↓wp_iadd, ↓wp_iaload, ↓wp_iand, ↓wp_iastore, ↓wp_icmp_eq, ↓wp_icmp_ge, ↓wp_icmp_le, ↓wp_icmp_ne, ↓wp_iconst, ↓wp_if_lt, ↓wp_if_ne, ↓wp_iinc, ↓wp_iload, ↓wp_iload_n1, ↓wp_iload_n2, ↓wp_iload_n3, ↓wp_imul, ↓wp_invokevirtual, ↓wp_ireturn1, ↓wp_ishr, ↓wp_istore, ↓wp_istore_n1, ↓wp_istore_n2, ↓wp_istore_n3, ↓wp_isub, ↓wp_putfield, ↓wp_sipush, wp_nil, ↓ldI_0, ↓ldI_s, ↓ldL_0, ↓ldL_s, ↓ldR_0, ↓ldR_s, sto1_0, sto1_1, sto1_s, sto2_0, sto2_1, sto2_s, isLong_i, isLong_l, isLong_r, ↓popI_c, ↓popL_c, ↓popR_c, ↓popN_0, ↓popN_s, catS_n, catS_c, psh_s, psh_n, fldV_n, fldV_s, ↓tgt_e, sw_n, ↓sw_c, ↓lk1_h, ↓lk1_m, ↓atC_h, ↓atC_m, ↓atC_n, ltO_n, ltO_s, updR_eq, updR_ne, gI_0i, gI_0l, gI_s, ltM_iff, List.cons.injEq, Sum.inl.injEq, Sum.inr.injEq, Option.some.injEq, exists_eq_left, exists_eq_left', exists_eq_right, exists_eq_right', exists_and_left, exists_and_right, exists_eq, exists_const, and_assoc, ↓j_M_tell_0, ↓j_M_tell_10, ↓j_M_tell_17, ↓j_M_tell_45, ↓j_M_tell_50, ↓j_M_tell_56, ↓j_M_tell_66, ↓j_M_tell_81, ↓j_M_tell_119, ↓j_M_tell_120, ↓j_M_tell_129, ↓j_M_tell_147, ↓j_M_tell_154, ↓j_M_tell_168, ↓j_M_tell_176, ↓j_M_tell_201, ↓j_M_tell_210, ↓j_M_tell_235, ↓j_M_tell_245, ↓j_M_tell_248, ↓j_M_tell_274, ↓f_M_100, ↓f_M_103, ↓f_M_179, ↓f_M_230, ↓f_M_235, ↓f_M_250, ↓f_M_259, ↓f_M_94, ↓f_M_97, List.length_cons, List.length_nil, Nat.zero_add, Nat.reduceAdd, Int.reduceAdd, Int.reduceNeg, Int.reduceToNat, Int.reduceLE, Int.reduceLT, true_and, and_true, Nat.reduceLT, reduceIte, Nat.reduceEqDiff, ne_eq, not_false_eq_true, false_implies, true_implies, Bool.false_eq_true, reduceCtorEq, List.cons_append, List.nil_append, Nat.reduceSub, Nat.reduceLeDiff, Fin.isValue, Int.reduceNatCast', Int.zero_add, Int.add_zero, decide_true, decide_false, implies_true, forall_const, true_or, or_true, or_false, false_or, false_and, and_false, Int.toNat_natCast, ↓oF_37_0, ↓oF_37_1, ↓oF_37_2, ↓oF_37_3, ↓aF_38, ↓oF_37_4, ↓aF_39, ↓oF_37_5, ↓oF_37_6, ↓aF_40, ↓oF_37_7, ↓oF_37_8, ↓aF_41, ↓oF_37_9, ↓aF_42, ↓oF_37_10, ↓aF_43, ↓oF_37_11, ↓aF_44, ↓oF_37_12, ↓aF_45, ↓oF_37_13, ↓aF_46, ↓oF_37_14, ↓aF_47, ↓oF_37_15, ↓aF_48, ↓oF_37_16, ↓aF_49, ↓oF_37_17, ↓oF_37_18, ↓aF_50, ↓oF_37_19, ↓aF_51, ↓oF_37_20, ↓aF_52, ↓oF_37_21, ↓aF_53, ↓oF_37_22, ↓aF_54, ↓oF_37_23, ↓aF_55, ↓oF_37_24, ↓aF_56, ↓oF_37_25, ↓aF_57, ↓oF_37_26, ↓oF_37_27, ↓oF_37_28, ↓aF_58, ↓oF_37_29, ↓aF_59, ↓oF_37_30, ↓aF_60, ↓oF_37_31, ↓aF_61, ↓oF_37_32, ↓oF_37_33, ↓oF_37_34, ↓oF_37_35, ↓aF_62, ↓oF_37_36, ↓oF_37_37, ↓aF_63, ↓oF_37_38, ↓oF_37_39, ↓aF_64, ↓oF_37_40, ↓aF_65, ↓oF_37_41, ↓aF_66, oC_0, oC_1, oC_4, oC_11, oC_16, oC_18, oC_20, oC_23, oC_25, oC_26, oC_29, oC_31, oC_33, oC_35, oC_37, isT_29, isT_31, isT_33, isT_35, isL_16, isL_18, isL_26, b2i_0, b2i_1, b2i_01, b2i_r, iandZ_1, ↓e_M_tellLead, ↓e_M_home, ↓e_M_readAt, ↓e_M_walks]
    obtain ⟨hn, hm, hh⟩ := hC hne
    rw [if_neg hne] at hQ
    have hd := hT.at ⟨hh.1, hh.2.1⟩
    have e37 : u 37 = σ 37 := by rw [hu, updR_ne _ 66 37 _ (by decide)]
    have e64 : u 64 = σ 64 := by rw [hu, updR_ne _ 66 64 _ (by decide)]
    have e62 : u 62 = σ 62 := by rw [hu, updR_ne _ 66 62 _ (by decide)]
    have e66 : u 66 = (leadG (σ 52) (σ 53) (σ 54 (homeF (σ 62)).toNat) (homeF (σ 62)) (-1) (σ 66)) := by rw [hu, updR_eq]
    simp only [e37, e64, e62, e66]
    have e1 : (i + 1).toNat = i.toNat + 1 := by omega
    have hfr : ∀ k, k ≠ 65 → k ≠ 66 → u k = σ k := fun k _ k2 => by rw [hu, updR_ne _ _ _ _ k2]
    have hus : unlikeF (leadG (σ 52) (σ 53) (σ 54 (homeF (σ 62)).toNat) (homeF (σ 62)) (-1) (σ 66)) (σ 64) (σ 37 38) (i.toNat + 1) = if ((i.toNat : Nat) : Int) < (σ 37 38) ∧ σ 64 i.toNat = (leadG (σ 52) (σ 53) (σ 54 (homeF (σ 62)).toNat) (homeF (σ 62)) (-1) (σ 66)) i.toNat then -1 else (i.toNat : Int) := by rw [unlikeF, if_pos hx]
    have hon := fun h => unlikeF_on (leadG (σ 52) (σ 53) (σ 54 (homeF (σ 62)).toNat) (homeF (σ 62)) (-1) (σ 66)) (σ 64) (σ 37 38) (i.toNat + 1) h (σ 54 (homeF (σ 62)).toNat).toNat
    have hbp1 := hbp i.toNat
    have hbl : (leadG (σ 52) (σ 53) (σ 54 (homeF (σ 62)).toNat) (homeF (σ 62)) (-1) (σ 66)) i.toNat = 0 ∨ (leadG (σ 52) (σ 53) (σ 54 (homeF (σ 62)).toNat) (homeF (σ 62)) (-1) (σ 66)) i.toNat = 1 ∨ i ≥ (σ 54 (homeF (σ 62)).toNat) := by
      rw [leadG_app]
      by_cases e : i < (σ 54 (homeF (σ 62)).toNat)
      · rw [if_pos (by omega)]
        have := hb53 (ancF (σ 52) ((σ 54 (homeF (σ 62)).toNat) - 1 - ((i.toNat : Nat) : Int)).toNat (homeF (σ 62))).toNat
        omega
      · omega
    have q1 : i < (σ 54 (homeF (σ 62)).toNat) → ¬ (i < (σ 37 38) ∧ σ 64 i.toNat = (leadG (σ 52) (σ 53) (σ 54 (homeF (σ 62)).toNat) (homeF (σ 62)) (-1) (σ 66)) i.toNat) → Q (some (.inl (-100 - i))) u := fun h h1 => by
      rw [if_neg (by omega)] at hus
      have h2 := hon (by rw [hus]; omega) (by omega)
      rw [hus, Int.toNat_of_nonneg hi.1] at h2
      exact hQ _ _ (tl_post hfr (Or.inl ⟨by rw [h2]; omega, by rw [h2]⟩))
    have q2 : i < (σ 37 38) → σ 64 i.toNat = (leadG (σ 52) (σ 53) (σ 54 (homeF (σ 62)).toNat) (homeF (σ 62)) (-1) (σ 66)) i.toNat → unlikeF (leadG (σ 52) (σ 53) (σ 54 (homeF (σ 62)).toNat) (homeF (σ 62)) (-1) (σ 66)) (σ 64) (σ 37 38) (i.toNat + 1) = -1 := fun h h1 => by
      rw [hus, if_pos ⟨by omega, h1⟩]
    have q3 : (σ 54 (homeF (σ 62)).toNat) ≤ i → (unlikeF (leadG (σ 52) (σ 53) (σ 54 (homeF (σ 62)).toNat) (homeF (σ 62)) (-1) (σ 66)) (σ 64) (σ 37 38) (σ 54 (homeF (σ 62)).toNat).toNat) = -1 := fun h => by rw [show (σ 54 (homeF (σ 62)).toNat).toNat = i.toNat by omega]; exact hx
    have q4 : u = updR (updR σ 66 (leadG (σ 52) (σ 53) (σ 54 (homeF (σ 62)).toNat) (homeF (σ 62)) (-1) (σ 66))) 65 (DecD (σ 37 17) (gM σ) (σ 62) (σ 37 33) (σ 37 34) (homeF (σ 62)) (σ 64) (σ 37 38) (σ 54 (homeF (σ 62)).toNat) (σ 65) 0) := by
      have := updR_self (updR σ 66 (leadG (σ 52) (σ 53) (σ 54 (homeF (σ 62)).toNat) (homeF (σ 62)) (-1) (σ 66))) 65
      rw [updR_ne _ 66 65 _ (by decide)] at this
      rw [hu]
      exact this.symm
    clear hQ hC hon
    generalize hLz : (leadG (σ 52) (σ 53) (σ 54 (homeF (σ 62)).toNat) (homeF (σ 62)) (-1) (σ 66)) i.toNat = lz at *
    (try simp only [rI_iff, rL_iff] at *)
    repeat' (with_reducible (first | assumption | apply And.intro | intro _))
    all_goals first | omega | with_reducible assumption | exact True.intro | skip
    all_goals first
      | omega
      | exact q1 (by omega) (by omega)
      | (rw [e1]; exact q2 (by omega) (by omega))
      | exact ⟨homeF (σ 62) |>.toNat, by omega, hh.2.2⟩
      | exact ⟨0, rfl, by omega, by omega, hne, q3 (by omega), fun q hq1 => absurd hq1 (Nat.not_lt_zero _), by omega, q4⟩
      | exact hu
      | trace_state
  · intro L st u hI
    obtain ⟨P, v5, v6, v7, rfl, rfl, hne, hul, hgo, hpl, hu⟩ := hI
    simp only [↓wpN_go, jmp_e, ↓wp_aload_n0, ↓wp_bipush, ↓wp_getfield, ↓wp_goto, ↓wp_i2l, ↓wp_iadd, ↓wp_iaload, ↓wp_iand, ↓wp_iastore, ↓wp_icmp_eq, ↓wp_icmp_ge, ↓wp_icmp_le, ↓wp_icmp_ne, ↓wp_iconst, ↓wp_if_lt, ↓wp_if_ne, ↓wp_iinc, ↓wp_iload, ↓wp_iload_n1, ↓wp_iload_n2, ↓wp_iload_n3, ↓wp_imul, ↓wp_invokevirtual, ↓wp_ireturn1, ↓wp_ishr, ↓wp_istore, ↓wp_istore_n1, ↓wp_istore_n2, ↓wp_istore_n3, ↓wp_isub, ↓wp_putfield, ↓wp_sipush, wp_nil, ↓ldI_0, ↓ldI_s, ↓ldL_0, ↓ldL_s, ↓ldR_0, ↓ldR_s, sto1_0, sto1_1, sto1_s, sto2_0, sto2_1, sto2_s, isLong_i, isLong_l, isLong_r, ↓popI_c, ↓popL_c, ↓popR_c, ↓popN_0, ↓popN_s, catS_n, catS_c, psh_s, psh_n, fldV_n, fldV_s, ↓tgt_e, sw_n, ↓sw_c, ↓lk1_h, ↓lk1_m, ↓atC_h, ↓atC_m, ↓atC_n, ltO_n, ltO_s, updR_eq, updR_ne, gI_0i, gI_0l, gI_s, ltM_iff, List.cons.injEq, Sum.inl.injEq, Sum.inr.injEq, Option.some.injEq, exists_eq_left, exists_eq_left', exists_eq_right, exists_eq_right', exists_and_left, exists_and_right, exists_eq, exists_const, and_assoc, ↓j_M_tell_0, ↓j_M_tell_10, ↓j_M_tell_17, ↓j_M_tell_45, ↓j_M_tell_50, ↓j_M_tell_56, ↓j_M_tell_66, ↓j_M_tell_81, ↓j_M_tell_119, ↓j_M_tell_120, ↓j_M_tell_129, ↓j_M_tell_147, ↓j_M_tell_154, ↓j_M_tell_168, ↓j_M_tell_176, ↓j_M_tell_201, ↓j_M_tell_210, ↓j_M_tell_235, ↓j_M_tell_245, ↓j_M_tell_248, ↓j_M_tell_274, ↓f_M_100, ↓f_M_103, ↓f_M_179, ↓f_M_230, ↓f_M_235, ↓f_M_250, ↓f_M_259, ↓f_M_94, ↓f_M_97, List.length_cons, List.length_nil, Nat.zero_add, Nat.reduceAdd, Int.reduceAdd, Int.reduceNeg, Int.reduceToNat, Int.reduceLE, Int.reduceLT, true_and, and_true, Nat.reduceLT, reduceIte, Nat.reduceEqDiff, ne_eq, not_false_eq_true, false_implies, true_implies, Bool.false_eq_true, reduceCtorEq, List.cons_append, List.nil_append, Nat.reduceSub, Nat.reduceLeDiff, Fin.isValue, Int.reduceNatCast', Int.zero_add, Int.add_zero, decide_true, decide_false, implies_true, forall_const, true_or, or_true, or_false, false_or, false_and, and_false, Int.toNat_natCast, ↓oF_37_0, ↓oF_37_1, ↓oF_37_2, ↓oF_37_3, ↓aF_38, ↓oF_37_4, ↓aF_39, ↓oF_37_5, ↓oF_37_6, ↓aF_40, ↓oF_37_7, ↓oF_37_8, ↓aF_41, ↓oF_37_9, ↓aF_42, ↓oF_37_10, ↓aF_43, ↓oF_37_11, ↓aF_44, ↓oF_37_12, ↓aF_45, ↓oF_37_13, ↓aF_46, ↓oF_37_14, ↓aF_47, ↓oF_37_15, ↓aF_48, ↓oF_37_16, ↓aF_49, ↓oF_37_17, ↓oF_37_18, ↓aF_50, ↓oF_37_19, ↓aF_51, ↓oF_37_20, ↓aF_52, ↓oF_37_21, ↓aF_53, ↓oF_37_22, ↓aF_54, ↓oF_37_23, ↓aF_55, ↓oF_37_24, ↓aF_56, ↓oF_37_25, ↓aF_57, ↓oF_37_26, ↓oF_37_27, ↓oF_37_28, ↓aF_58, ↓oF_37_29, ↓aF_59, ↓oF_37_30, ↓aF_60, ↓oF_37_31, ↓aF_61, ↓oF_37_32, ↓oF_37_33, ↓oF_37_34, ↓oF_37_35, ↓aF_62, ↓oF_37_36, ↓oF_37_37, ↓aF_63, ↓oF_37_38, ↓oF_37_39, ↓aF_64, ↓oF_37_40, ↓aF_65, ↓oF_37_41, ↓aF_66, oC_0, oC_1, oC_4, oC_11, oC_16, oC_18, oC_20, oC_23, oC_25, oC_26, oC_29, oC_31, oC_33, oC_35, oC_37, isT_29, isT_31, isT_33, isT_35, isL_16, isL_18, isL_26, b2i_0, b2i_1, b2i_01, b2i_r, iandZ_1, ↓e_M_tellLead, ↓e_M_home, ↓e_M_readAt, ↓e_M_walks]
    obtain ⟨hn, hm, hh⟩ := hC hne
    rw [if_neg hne] at hQ
    have hd := hT.at ⟨hh.1, hh.2.1⟩
    obtain ⟨e37, e65, e62, e63, e64, egM, eFR, eST⟩ := tl_rows hu
    simp only [e37, e65, e62, e63, e64, egM, eST]
    have hin := dec_in (n := (σ 37 34)) (m := (σ 37 33)) (pl := σ 64) (sz := (σ 37 38)) (lead := (σ 54 (homeF (σ 62)).toNat)) (f := gM σ) (w := σ 62) ⟨hh.1, hh.2.1⟩ P hgo
    have hpn0 : 0 ≤ (P : Int) * (σ 37 34) := Int.mul_nonneg (by omega) (by omega)
    have hpm0 : 0 ≤ (P : Int) * (σ 37 33) := Int.mul_nonneg (by omega) (by omega)
    have hpp : (P : Int) ≤ P * (σ 37 34) := by
      have := Int.mul_le_mul_of_nonneg_left (show (1 : Int) ≤ (σ 37 34) by omega) (show (0 : Int) ≤ P by omega)
      omega
    have hpm1 : (P : Int) * (σ 37 33) ≤ 600 * 8 := Int.mul_le_mul (by omega) hm.2 (by omega) (by omega)
    have hp12 := p2_le (show (σ 37 34).toNat ≤ 12 by omega)
    have e12 : (2 : Int) ^ 12 = 4096 := by decide
    have hp8 := pow8 (m := (σ 37 33)) ⟨by omega, by omega⟩
    have q1 : (σ 37 38) ≤ (σ 54 (homeF (σ 62)).toNat) + P * (σ 37 34) → 240 < P * (σ 37 33) → Q (some (.inl (-4))) u := fun h h1 => hQ _ _ (tl_post eFR (Or.inr ⟨hul, P, -1, hgo, Or.inl ⟨h, rfl⟩, Or.inr ⟨rfl, h1, rfl⟩⟩))
    have hp0 : (0 : Int) = partF (σ 64) (σ 37 38) ((σ 54 (homeF (σ 62)).toNat) + P * (σ 37 34)) 0 := rfl
    have q2 : u = updR (updR (updR σ 66 (leadG (σ 52) (σ 53) (σ 54 (homeF (σ 62)).toNat) (homeF (σ 62)) (-1) (σ 66))) 65 (DecD (σ 37 17) (gM σ) (σ 62) (σ 37 33) (σ 37 34) (homeF (σ 62)) (σ 64) (σ 37 38) (σ 54 (homeF (σ 62)).toNat) (σ 65) P)) 63 (cpyF (DecD (σ 37 17) (gM σ) (σ 62) (σ 37 33) (σ 37 34) (homeF (σ 62)) (σ 64) (σ 37 38) (σ 54 (homeF (σ 62)).toNat) (σ 65) P) (σ 63) 0) := by
      rw [cpyF_0]
      have := updR_self u 63
      rw [e63, hu] at this
      rw [hu]
      exact this.symm
    clear hQ hC
    (try simp only [rI_iff, rL_iff] at *)
    repeat' (with_reducible (first | assumption | apply And.intro | intro _))
    all_goals first | omega | with_reducible assumption | exact True.intro | skip
    all_goals first
      | omega
      | exact q1 (by omega) (by omega)
      | exact hgo
      | exact hgo _ (by assumption)
      | exact hu
      | (refine ⟨P, ?_⟩
         repeat' (with_reducible (first | assumption | apply And.intro | intro _))
         all_goals first
           | omega
           | rfl
           | exact hne
           | exact hul
           | exact hgo
           | exact hp0
           | exact hu
           | exact q2
         done)
      | trace_state
  · intro L st u hI
    obtain ⟨P, v, i, v7, rfl, rfl, hne, hul, hgo, hpl, hlt, hi, hv, hu⟩ := hI
    simp only [↓wpN_go, jmp_e, ↓wp_aload_n0, ↓wp_bipush, ↓wp_getfield, ↓wp_goto, ↓wp_i2l, ↓wp_iadd, ↓wp_iaload, ↓wp_iand, ↓wp_iastore, ↓wp_icmp_eq, ↓wp_icmp_ge, ↓wp_icmp_le, ↓wp_icmp_ne, ↓wp_iconst, ↓wp_if_lt, ↓wp_if_ne, ↓wp_iinc, ↓wp_iload, ↓wp_iload_n1, ↓wp_iload_n2, ↓wp_iload_n3, ↓wp_imul, ↓wp_invokevirtual, ↓wp_ireturn1, ↓wp_ishr, ↓wp_istore, ↓wp_istore_n1, ↓wp_istore_n2, ↓wp_istore_n3, ↓wp_isub, ↓wp_putfield, ↓wp_sipush, wp_nil, ↓ldI_0, ↓ldI_s, ↓ldL_0, ↓ldL_s, ↓ldR_0, ↓ldR_s, sto1_0, sto1_1, sto1_s, sto2_0, sto2_1, sto2_s, isLong_i, isLong_l, isLong_r, ↓popI_c, ↓popL_c, ↓popR_c, ↓popN_0, ↓popN_s, catS_n, catS_c, psh_s, psh_n, fldV_n, fldV_s, ↓tgt_e, sw_n, ↓sw_c, ↓lk1_h, ↓lk1_m, ↓atC_h, ↓atC_m, ↓atC_n, ltO_n, ltO_s, updR_eq, updR_ne, gI_0i, gI_0l, gI_s, ltM_iff, List.cons.injEq, Sum.inl.injEq, Sum.inr.injEq, Option.some.injEq, exists_eq_left, exists_eq_left', exists_eq_right, exists_eq_right', exists_and_left, exists_and_right, exists_eq, exists_const, and_assoc, ↓j_M_tell_0, ↓j_M_tell_10, ↓j_M_tell_17, ↓j_M_tell_45, ↓j_M_tell_50, ↓j_M_tell_56, ↓j_M_tell_66, ↓j_M_tell_81, ↓j_M_tell_119, ↓j_M_tell_120, ↓j_M_tell_129, ↓j_M_tell_147, ↓j_M_tell_154, ↓j_M_tell_168, ↓j_M_tell_176, ↓j_M_tell_201, ↓j_M_tell_210, ↓j_M_tell_235, ↓j_M_tell_245, ↓j_M_tell_248, ↓j_M_tell_274, ↓f_M_100, ↓f_M_103, ↓f_M_179, ↓f_M_230, ↓f_M_235, ↓f_M_250, ↓f_M_259, ↓f_M_94, ↓f_M_97, List.length_cons, List.length_nil, Nat.zero_add, Nat.reduceAdd, Int.reduceAdd, Int.reduceNeg, Int.reduceToNat, Int.reduceLE, Int.reduceLT, true_and, and_true, Nat.reduceLT, reduceIte, Nat.reduceEqDiff, ne_eq, not_false_eq_true, false_implies, true_implies, Bool.false_eq_true, reduceCtorEq, List.cons_append, List.nil_append, Nat.reduceSub, Nat.reduceLeDiff, Fin.isValue, Int.reduceNatCast', Int.zero_add, Int.add_zero, decide_true, decide_false, implies_true, forall_const, true_or, or_true, or_false, false_or, false_and, and_false, Int.toNat_natCast, ↓oF_37_0, ↓oF_37_1, ↓oF_37_2, ↓oF_37_3, ↓aF_38, ↓oF_37_4, ↓aF_39, ↓oF_37_5, ↓oF_37_6, ↓aF_40, ↓oF_37_7, ↓oF_37_8, ↓aF_41, ↓oF_37_9, ↓aF_42, ↓oF_37_10, ↓aF_43, ↓oF_37_11, ↓aF_44, ↓oF_37_12, ↓aF_45, ↓oF_37_13, ↓aF_46, ↓oF_37_14, ↓aF_47, ↓oF_37_15, ↓aF_48, ↓oF_37_16, ↓aF_49, ↓oF_37_17, ↓oF_37_18, ↓aF_50, ↓oF_37_19, ↓aF_51, ↓oF_37_20, ↓aF_52, ↓oF_37_21, ↓aF_53, ↓oF_37_22, ↓aF_54, ↓oF_37_23, ↓aF_55, ↓oF_37_24, ↓aF_56, ↓oF_37_25, ↓aF_57, ↓oF_37_26, ↓oF_37_27, ↓oF_37_28, ↓aF_58, ↓oF_37_29, ↓aF_59, ↓oF_37_30, ↓aF_60, ↓oF_37_31, ↓aF_61, ↓oF_37_32, ↓oF_37_33, ↓oF_37_34, ↓oF_37_35, ↓aF_62, ↓oF_37_36, ↓oF_37_37, ↓aF_63, ↓oF_37_38, ↓oF_37_39, ↓aF_64, ↓oF_37_40, ↓aF_65, ↓oF_37_41, ↓aF_66, oC_0, oC_1, oC_4, oC_11, oC_16, oC_18, oC_20, oC_23, oC_25, oC_26, oC_29, oC_31, oC_33, oC_35, oC_37, isT_29, isT_31, isT_33, isT_35, isL_16, isL_18, isL_26, b2i_0, b2i_1, b2i_01, b2i_r, iandZ_1, ↓e_M_tellLead, ↓e_M_home, ↓e_M_readAt, ↓e_M_walks]
    obtain ⟨hn, hm, hh⟩ := hC hne
    rw [if_neg hne] at hQ
    have hd := hT.at ⟨hh.1, hh.2.1⟩
    obtain ⟨e37, e65, e62, e63, e64, egM, eFR, eST⟩ := tl_rows hu
    simp only [e37, e65, e62, e63, e64, egM, eST]
    have hin := dec_in (n := (σ 37 34)) (m := (σ 37 33)) (pl := σ 64) (sz := (σ 37 38)) (lead := (σ 54 (homeF (σ 62)).toNat)) (f := gM σ) (w := σ 62) ⟨hh.1, hh.2.1⟩ P hgo
    have hpn0 : 0 ≤ (P : Int) * (σ 37 34) := Int.mul_nonneg (by omega) (by omega)
    have hpm0 : 0 ≤ (P : Int) * (σ 37 33) := Int.mul_nonneg (by omega) (by omega)
    have hpp : (P : Int) ≤ P * (σ 37 34) := by
      have := Int.mul_le_mul_of_nonneg_left (show (1 : Int) ≤ (σ 37 34) by omega) (show (0 : Int) ≤ P by omega)
      omega
    have hpm1 : (P : Int) * (σ 37 33) ≤ 600 * 8 := Int.mul_le_mul (by omega) hm.2 (by omega) (by omega)
    have hp12 := p2_le (show (σ 37 34).toNat ≤ 12 by omega)
    have e12 : (2 : Int) ^ 12 = 4096 := by decide
    have hp8 := pow8 (m := (σ 37 33)) ⟨by omega, by omega⟩
    have e1 : (i + 1).toNat = i.toNat + 1 := by omega
    have hbi := hbp ((σ 54 (homeF (σ 62)).toNat) + P * (σ 37 34) + i).toNat
    have hps := partF_s (f := σ 64) (sz := (σ 37 38)) (b := (σ 54 (homeF (σ 62)).toNat) + P * (σ 37 34)) (n := i.toNat) (fun h => hbp _ (by omega))
    rw [Int.toNat_of_nonneg hi.1] at hps
    have hpr := partF_r (f := σ 64) (sz := (σ 37 38)) (b := (σ 54 (homeF (σ 62)).toNat) + P * (σ 37 34)) (σ 37 34).toNat
    have hdv : readZ (σ 37 17) (gM σ) (σ 62) (σ 37 33) (σ 37 34) (DecS (σ 37 17) (gM σ) (σ 62) (σ 37 33) (σ 37 34) (homeF (σ 62)) (σ 64) (σ 37 38) (σ 54 (homeF (σ 62)).toNat) P) (partF (σ 64) (σ 37 38) ((σ 54 (homeF (σ 62)).toNat) + P * (σ 37 34)) (σ 37 34).toNat) = DecV (σ 37 17) (gM σ) (σ 62) (σ 37 33) (σ 37 34) (homeF (σ 62)) (σ 64) (σ 37 38) (σ 54 (homeF (σ 62)).toNat) P := rfl
    have hdr := readZ_r (N := σ 37 17) (f := gM σ) (m := (σ 37 33)) (n := (σ 37 34)) (s := DecS (σ 37 17) (gM σ) (σ 62) (σ 37 33) (σ 37 34) (homeF (σ 62)) (σ 64) (σ 37 38) (σ 54 (homeF (σ 62)).toNat) P) (row := partF (σ 64) (σ 37 38) ((σ 54 (homeF (σ 62)).toNat) + P * (σ 37 34)) (σ 37 34).toNat) hb
    rw [hdv] at hdr
    have hvm : (σ 37 34) ≤ i → partF (σ 64) (σ 37 38) ((σ 54 (homeF (σ 62)).toNat) + P * (σ 37 34)) i.toNat = partF (σ 64) (σ 37 38) ((σ 54 (homeF (σ 62)).toNat) + P * (σ 37 34)) (σ 37 34).toNat := fun h => by
      rw [show i = (σ 37 34) by omega]
    have q1 : (σ 37 38) < (σ 54 (homeF (σ 62)).toNat) + P * (σ 37 34) + (σ 37 34) ∨ DecV (σ 37 17) (gM σ) (σ 62) (σ 37 33) (σ 37 34) (homeF (σ 62)) (σ 64) (σ 37 38) (σ 54 (homeF (σ 62)).toNat) P = -1 → Q (some (.inl (-100 - ((σ 54 (homeF (σ 62)).toNat) + P * (σ 37 34))))) u := fun h => hQ _ _ (tl_post eFR (Or.inr ⟨hul, P, (σ 54 (homeF (σ 62)).toNat) + P * (σ 37 34), hgo, Or.inr ⟨hlt, rfl, h⟩, Or.inl ⟨by omega, rfl⟩⟩))
    have q2 : u = updR (updR σ 66 (leadG (σ 52) (σ 53) (σ 54 (homeF (σ 62)).toNat) (homeF (σ 62)) (-1) (σ 66))) 65 (addF (DecD (σ 37 17) (gM σ) (σ 62) (σ 37 33) (σ 37 34) (homeF (σ 62)) (σ 64) (σ 37 38) (σ 54 (homeF (σ 62)).toNat) (σ 65) P) (DecV (σ 37 17) (gM σ) (σ 62) (σ 37 33) (σ 37 34) (homeF (σ 62)) (σ 64) (σ 37 38) (σ 54 (homeF (σ 62)).toNat) P) (min 600 (P * (σ 37 33))) (σ 37 33) ((σ 37 33) - 1 - ((σ 37 33) - 1))) := by
      rw [show (σ 37 33) - 1 - ((σ 37 33) - 1) = 0 by omega, addF_0]
      exact hu
    subst hv
    clear hQ hC
    by_cases hc : i < (σ 37 34)
    · (try simp only [rI_iff, rL_iff] at *)
      repeat' (with_reducible (first | assumption | apply And.intro | intro _))
      all_goals first | omega | with_reducible assumption | exact True.intro | skip
      all_goals first
        | omega
        | (rw [e1, hps, if_pos (by omega)])
        | (rw [e1, hps, if_neg (by omega), Int.add_zero])
        | exact hgo
        | exact hu
        | (refine ⟨P, ?_⟩
           repeat' (with_reducible (first | assumption | apply And.intro | intro _))
           all_goals first
             | omega
             | rfl
             | exact hne
             | exact hul
             | exact hgo
             | exact hu
             | (rw [e1, hps, if_pos (by omega)])
             | (rw [e1, hps, if_neg (by omega), Int.add_zero])
           done)
        | trace_state
    · rw [hvm (by omega), hdv]
      (try simp only [rI_iff, rL_iff] at *)
      repeat' (with_reducible (first | assumption | apply And.intro | intro _))
      all_goals first | omega | with_reducible assumption | exact True.intro | skip
      all_goals first
        | omega
        | exact q1 (by omega)
        | rfl
        | exact q2
        | exact hgo
        | (exfalso; apply absurd trivial; assumption)
        | (refine ⟨P, rfl, partF (σ 64) (σ 37 38) ((σ 54 (homeF (σ 62)).toNat) + P * (σ 37 34)) (σ 37 34).toNat, DecV (σ 37 17) (gM σ) (σ 62) (σ 37 33) (σ 37 34) (homeF (σ 62)) (σ 64) (σ 37 38) (σ 54 (homeF (σ 62)).toNat) P, (σ 37 33) - 1, ?_⟩
           repeat' (with_reducible (first | assumption | apply And.intro | intro _))
           all_goals first
             | omega
             | rfl
             | exact hne
             | exact hul
             | exact hgo
             | exact q2
           done)
        | trace_state
  · intro L st u hI
    obtain ⟨P, w, v, i, rfl, rfl, hne, hul, hgo, hpl, hlt, hle, hw, hv, hvn, hi, hu⟩ := hI
    simp only [↓wpN_go, jmp_e, ↓wp_aload_n0, ↓wp_bipush, ↓wp_getfield, ↓wp_goto, ↓wp_i2l, ↓wp_iadd, ↓wp_iaload, ↓wp_iand, ↓wp_iastore, ↓wp_icmp_eq, ↓wp_icmp_ge, ↓wp_icmp_le, ↓wp_icmp_ne, ↓wp_iconst, ↓wp_if_lt, ↓wp_if_ne, ↓wp_iinc, ↓wp_iload, ↓wp_iload_n1, ↓wp_iload_n2, ↓wp_iload_n3, ↓wp_imul, ↓wp_invokevirtual, ↓wp_ireturn1, ↓wp_ishr, ↓wp_istore, ↓wp_istore_n1, ↓wp_istore_n2, ↓wp_istore_n3, ↓wp_isub, ↓wp_putfield, ↓wp_sipush, wp_nil, ↓ldI_0, ↓ldI_s, ↓ldL_0, ↓ldL_s, ↓ldR_0, ↓ldR_s, sto1_0, sto1_1, sto1_s, sto2_0, sto2_1, sto2_s, isLong_i, isLong_l, isLong_r, ↓popI_c, ↓popL_c, ↓popR_c, ↓popN_0, ↓popN_s, catS_n, catS_c, psh_s, psh_n, fldV_n, fldV_s, ↓tgt_e, sw_n, ↓sw_c, ↓lk1_h, ↓lk1_m, ↓atC_h, ↓atC_m, ↓atC_n, ltO_n, ltO_s, updR_eq, updR_ne, gI_0i, gI_0l, gI_s, ltM_iff, List.cons.injEq, Sum.inl.injEq, Sum.inr.injEq, Option.some.injEq, exists_eq_left, exists_eq_left', exists_eq_right, exists_eq_right', exists_and_left, exists_and_right, exists_eq, exists_const, and_assoc, ↓j_M_tell_0, ↓j_M_tell_10, ↓j_M_tell_17, ↓j_M_tell_45, ↓j_M_tell_50, ↓j_M_tell_56, ↓j_M_tell_66, ↓j_M_tell_81, ↓j_M_tell_119, ↓j_M_tell_120, ↓j_M_tell_129, ↓j_M_tell_147, ↓j_M_tell_154, ↓j_M_tell_168, ↓j_M_tell_176, ↓j_M_tell_201, ↓j_M_tell_210, ↓j_M_tell_235, ↓j_M_tell_245, ↓j_M_tell_248, ↓j_M_tell_274, ↓f_M_100, ↓f_M_103, ↓f_M_179, ↓f_M_230, ↓f_M_235, ↓f_M_250, ↓f_M_259, ↓f_M_94, ↓f_M_97, List.length_cons, List.length_nil, Nat.zero_add, Nat.reduceAdd, Int.reduceAdd, Int.reduceNeg, Int.reduceToNat, Int.reduceLE, Int.reduceLT, true_and, and_true, Nat.reduceLT, reduceIte, Nat.reduceEqDiff, ne_eq, not_false_eq_true, false_implies, true_implies, Bool.false_eq_true, reduceCtorEq, List.cons_append, List.nil_append, Nat.reduceSub, Nat.reduceLeDiff, Fin.isValue, Int.reduceNatCast', Int.zero_add, Int.add_zero, decide_true, decide_false, implies_true, forall_const, true_or, or_true, or_false, false_or, false_and, and_false, Int.toNat_natCast, ↓oF_37_0, ↓oF_37_1, ↓oF_37_2, ↓oF_37_3, ↓aF_38, ↓oF_37_4, ↓aF_39, ↓oF_37_5, ↓oF_37_6, ↓aF_40, ↓oF_37_7, ↓oF_37_8, ↓aF_41, ↓oF_37_9, ↓aF_42, ↓oF_37_10, ↓aF_43, ↓oF_37_11, ↓aF_44, ↓oF_37_12, ↓aF_45, ↓oF_37_13, ↓aF_46, ↓oF_37_14, ↓aF_47, ↓oF_37_15, ↓aF_48, ↓oF_37_16, ↓aF_49, ↓oF_37_17, ↓oF_37_18, ↓aF_50, ↓oF_37_19, ↓aF_51, ↓oF_37_20, ↓aF_52, ↓oF_37_21, ↓aF_53, ↓oF_37_22, ↓aF_54, ↓oF_37_23, ↓aF_55, ↓oF_37_24, ↓aF_56, ↓oF_37_25, ↓aF_57, ↓oF_37_26, ↓oF_37_27, ↓oF_37_28, ↓aF_58, ↓oF_37_29, ↓aF_59, ↓oF_37_30, ↓aF_60, ↓oF_37_31, ↓aF_61, ↓oF_37_32, ↓oF_37_33, ↓oF_37_34, ↓oF_37_35, ↓aF_62, ↓oF_37_36, ↓oF_37_37, ↓aF_63, ↓oF_37_38, ↓oF_37_39, ↓aF_64, ↓oF_37_40, ↓aF_65, ↓oF_37_41, ↓aF_66, oC_0, oC_1, oC_4, oC_11, oC_16, oC_18, oC_20, oC_23, oC_25, oC_26, oC_29, oC_31, oC_33, oC_35, oC_37, isT_29, isT_31, isT_33, isT_35, isL_16, isL_18, isL_26, b2i_0, b2i_1, b2i_01, b2i_r, iandZ_1, ↓e_M_tellLead, ↓e_M_home, ↓e_M_readAt, ↓e_M_walks]
    obtain ⟨hn, hm, hh⟩ := hC hne
    rw [if_neg hne] at hQ
    have hd := hT.at ⟨hh.1, hh.2.1⟩
    obtain ⟨e37, e65, e62, e63, e64, egM, eFR, eST⟩ := tl_rows hu
    simp only [e37, e65, e62, e63, e64, egM, eST]
    have hin := dec_in (n := (σ 37 34)) (m := (σ 37 33)) (pl := σ 64) (sz := (σ 37 38)) (lead := (σ 54 (homeF (σ 62)).toNat)) (f := gM σ) (w := σ 62) ⟨hh.1, hh.2.1⟩ P hgo
    have hpn0 : 0 ≤ (P : Int) * (σ 37 34) := Int.mul_nonneg (by omega) (by omega)
    have hpm0 : 0 ≤ (P : Int) * (σ 37 33) := Int.mul_nonneg (by omega) (by omega)
    have hpp : (P : Int) ≤ P * (σ 37 34) := by
      have := Int.mul_le_mul_of_nonneg_left (show (1 : Int) ≤ (σ 37 34) by omega) (show (0 : Int) ≤ P by omega)
      omega
    have hpm1 : (P : Int) * (σ 37 33) ≤ 600 * 8 := Int.mul_le_mul (by omega) hm.2 (by omega) (by omega)
    have hp12 := p2_le (show (σ 37 34).toNat ≤ 12 by omega)
    have e12 : (2 : Int) ^ 12 = 4096 := by decide
    have hp8 := pow8 (m := (σ 37 33)) ⟨by omega, by omega⟩
    have hp1n : ((P : Int) + 1) * (σ 37 34) = (P : Int) * (σ 37 34) + (σ 37 34) := by rw [Int.add_mul, Int.one_mul]
    have hp1m : ((P : Int) + 1) * (σ 37 33) = (P : Int) * (σ 37 33) + (σ 37 33) := by rw [Int.add_mul, Int.one_mul]
    have epc : (((P + 1 : Nat)) : Int) = (P : Int) + 1 := by omega
    have hbz : bitZ (DecV (σ 37 17) (gM σ) (σ 62) (σ 37 33) (σ 37 34) (homeF (σ 62)) (σ 64) (σ 37 38) (σ 54 (homeF (σ 62)).toNat) P) i.toNat = DecV (σ 37 17) (gM σ) (σ 62) (σ 37 33) (σ 37 34) (homeF (σ 62)) (σ 64) (σ 37 38) (σ 54 (homeF (σ 62)).toNat) P / 2 ^ i.toNat % 2 := rfl
    have hdr := readZ_r (N := σ 37 17) (f := gM σ) (m := (σ 37 33)) (n := (σ 37 34)) (s := DecS (σ 37 17) (gM σ) (σ 62) (σ 37 33) (σ 37 34) (homeF (σ 62)) (σ 64) (σ 37 38) (σ 54 (homeF (σ 62)).toNat) P) (row := partF (σ 64) (σ 37 38) ((σ 54 (homeF (σ 62)).toNat) + P * (σ 37 34)) (σ 37 34).toNat) hb
    have hdv : readZ (σ 37 17) (gM σ) (σ 62) (σ 37 33) (σ 37 34) (DecS (σ 37 17) (gM σ) (σ 62) (σ 37 33) (σ 37 34) (homeF (σ 62)) (σ 64) (σ 37 38) (σ 54 (homeF (σ 62)).toNat) P) (partF (σ 64) (σ 37 38) ((σ 54 (homeF (σ 62)).toNat) + P * (σ 37 34)) (σ 37 34).toNat) = DecV (σ 37 17) (gM σ) (σ 62) (σ 37 33) (σ 37 34) (homeF (σ 62)) (σ 64) (σ 37 38) (σ 54 (homeF (σ 62)).toNat) P := rfl
    rw [hdv] at hdr
    have hpr := partF_r (f := σ 64) (sz := (σ 37 38)) (b := (σ 54 (homeF (σ 62)).toNat) + P * (σ 37 34)) (σ 37 34).toNat
    have q1 : 0 ≤ i → P * (σ 37 33) + ((σ 37 33) - 1 - i) < 600 → updR (updR σ 66 (leadG (σ 52) (σ 53) (σ 54 (homeF (σ 62)).toNat) (homeF (σ 62)) (-1) (σ 66))) 65 (up1 (addF (DecD (σ 37 17) (gM σ) (σ 62) (σ 37 33) (σ 37 34) (homeF (σ 62)) (σ 64) (σ 37 38) (σ 54 (homeF (σ 62)).toNat) (σ 65) P) (DecV (σ 37 17) (gM σ) (σ 62) (σ 37 33) (σ 37 34) (homeF (σ 62)) (σ 64) (σ 37 38) (σ 54 (homeF (σ 62)).toNat) P) (min 600 (P * (σ 37 33))) (σ 37 33) ((σ 37 33) - 1 - i)) (P * (σ 37 33) + ((σ 37 33) - 1 - i)).toNat (DecV (σ 37 17) (gM σ) (σ 62) (σ 37 33) (σ 37 34) (homeF (σ 62)) (σ 64) (σ 37 38) (σ 54 (homeF (σ 62)).toNat) P / 2 ^ i.toNat % 2)) = updR (updR σ 66 (leadG (σ 52) (σ 53) (σ 54 (homeF (σ 62)).toNat) (homeF (σ 62)) (-1) (σ 66))) 65 (addF (DecD (σ 37 17) (gM σ) (σ 62) (σ 37 33) (σ 37 34) (homeF (σ 62)) (σ 64) (σ 37 38) (σ 54 (homeF (σ 62)).toNat) (σ 65) P) (DecV (σ 37 17) (gM σ) (σ 62) (σ 37 33) (σ 37 34) (homeF (σ 62)) (σ 64) (σ 37 38) (σ 54 (homeF (σ 62)).toNat) P) (min 600 (P * (σ 37 33))) (σ 37 33) ((σ 37 33) - 1 - (i + -1))) := fun h h1 => by
      rw [show (σ 37 33) - 1 - (i + -1) = (σ 37 33) - 1 - i + 1 by omega, addF_s (by omega) (by omega) (by omega), show (σ 37 33) - 1 - ((σ 37 33) - 1 - i) = i by omega, hbz, show min 600 ((P : Int) * (σ 37 33)) + ((σ 37 33) - 1 - i) = P * (σ 37 33) + ((σ 37 33) - 1 - i) by omega]
    have q2 : 0 ≤ i → 600 ≤ P * (σ 37 33) + ((σ 37 33) - 1 - i) → u = updR (updR σ 66 (leadG (σ 52) (σ 53) (σ 54 (homeF (σ 62)).toNat) (homeF (σ 62)) (-1) (σ 66))) 65 (addF (DecD (σ 37 17) (gM σ) (σ 62) (σ 37 33) (σ 37 34) (homeF (σ 62)) (σ 64) (σ 37 38) (σ 54 (homeF (σ 62)).toNat) (σ 65) P) (DecV (σ 37 17) (gM σ) (σ 62) (σ 37 33) (σ 37 34) (homeF (σ 62)) (σ 64) (σ 37 38) (σ 54 (homeF (σ 62)).toNat) P) (min 600 (P * (σ 37 33))) (σ 37 33) ((σ 37 33) - 1 - (i + -1))) := fun h h1 => by
      rw [show (σ 37 33) - 1 - (i + -1) = (σ 37 33) - 1 - i + 1 by omega, addF_out (by omega)]
      exact hu
    have q3 : i < 0 → u = updR (updR σ 66 (leadG (σ 52) (σ 53) (σ 54 (homeF (σ 62)).toNat) (homeF (σ 62)) (-1) (σ 66))) 65 (DecD (σ 37 17) (gM σ) (σ 62) (σ 37 33) (σ 37 34) (homeF (σ 62)) (σ 64) (σ 37 38) (σ 54 (homeF (σ 62)).toNat) (σ 65) (P + 1)) := fun h => by
      rw [hu, show (σ 37 33) - 1 - i = (σ 37 33) by omega]
      rfl
    have q4 : ∀ q : Nat, q < P + 1 → DecGo (σ 37 17) (gM σ) (σ 62) (σ 37 33) (σ 37 34) (homeF (σ 62)) (σ 64) (σ 37 38) (σ 54 (homeF (σ 62)).toNat) q := fun q hq1 => by
      by_cases e : q = P
      · rw [e]; exact ⟨hlt, hle, hvn⟩
      · exact hgo q (by omega)
    have q5 : folZ (σ 37 17) (gM σ) (partF (σ 64) (σ 37 38) ((σ 54 (homeF (σ 62)).toNat) + P * (σ 37 34)) (σ 37 34).toNat) (σ 37 34).toNat (DecS (σ 37 17) (gM σ) (σ 62) (σ 37 33) (σ 37 34) (homeF (σ 62)) (σ 64) (σ 37 38) (σ 54 (homeF (σ 62)).toNat) P) = DecS (σ 37 17) (gM σ) (σ 62) (σ 37 33) (σ 37 34) (homeF (σ 62)) (σ 64) (σ 37 38) (σ 54 (homeF (σ 62)).toNat) (P + 1) := rfl
    subst hw hv
    clear hQ hC
    (try simp only [rI_iff, rL_iff] at *)
    repeat' (with_reducible (first | assumption | apply And.intro | intro _))
    all_goals first | omega | with_reducible assumption | exact True.intro | skip
    all_goals first
      | omega
      | exact q1 (by omega) (by omega)
      | exact q2 (by omega) (by omega)
      | exact hgo
      | exact hgo _ (by assumption)
      | exact ⟨P + 1, q5, by rw [epc, hp1m]; omega, by rw [epc, hp1n]; omega, hne, hul, q4, by rw [epc, hp1n]; omega, q3 (by omega)⟩
      | (refine ⟨P, rfl, partF (σ 64) (σ 37 38) ((σ 54 (homeF (σ 62)).toNat) + P * (σ 37 34)) (σ 37 34).toNat, DecV (σ 37 17) (gM σ) (σ 62) (σ 37 33) (σ 37 34) (homeF (σ 62)) (σ 64) (σ 37 38) (σ 54 (homeF (σ 62)).toNat) P, i + -1, ?_⟩
         repeat' (with_reducible (first | assumption | apply And.intro | intro _))
         all_goals first
           | omega
           | rfl
           | exact hne
           | exact hul
           | exact hgo
           | exact hvn
           | exact q1 (by omega) (by omega)
           | exact q2 (by omega) (by omega)
         done)
      | trace_state
  · intro L st u hI
    obtain ⟨P, a, pl, i, v6, v7, rfl, rfl, hne, hul, hgo, hse, h240, hi, hu⟩ := hI
    simp only [↓wpN_go, jmp_e, ↓wp_aload_n0, ↓wp_bipush, ↓wp_getfield, ↓wp_goto, ↓wp_i2l, ↓wp_iadd, ↓wp_iaload, ↓wp_iand, ↓wp_iastore, ↓wp_icmp_eq, ↓wp_icmp_ge, ↓wp_icmp_le, ↓wp_icmp_ne, ↓wp_iconst, ↓wp_if_lt, ↓wp_if_ne, ↓wp_iinc, ↓wp_iload, ↓wp_iload_n1, ↓wp_iload_n2, ↓wp_iload_n3, ↓wp_imul, ↓wp_invokevirtual, ↓wp_ireturn1, ↓wp_ishr, ↓wp_istore, ↓wp_istore_n1, ↓wp_istore_n2, ↓wp_istore_n3, ↓wp_isub, ↓wp_putfield, ↓wp_sipush, wp_nil, ↓ldI_0, ↓ldI_s, ↓ldL_0, ↓ldL_s, ↓ldR_0, ↓ldR_s, sto1_0, sto1_1, sto1_s, sto2_0, sto2_1, sto2_s, isLong_i, isLong_l, isLong_r, ↓popI_c, ↓popL_c, ↓popR_c, ↓popN_0, ↓popN_s, catS_n, catS_c, psh_s, psh_n, fldV_n, fldV_s, ↓tgt_e, sw_n, ↓sw_c, ↓lk1_h, ↓lk1_m, ↓atC_h, ↓atC_m, ↓atC_n, ltO_n, ltO_s, updR_eq, updR_ne, gI_0i, gI_0l, gI_s, ltM_iff, List.cons.injEq, Sum.inl.injEq, Sum.inr.injEq, Option.some.injEq, exists_eq_left, exists_eq_left', exists_eq_right, exists_eq_right', exists_and_left, exists_and_right, exists_eq, exists_const, and_assoc, ↓j_M_tell_0, ↓j_M_tell_10, ↓j_M_tell_17, ↓j_M_tell_45, ↓j_M_tell_50, ↓j_M_tell_56, ↓j_M_tell_66, ↓j_M_tell_81, ↓j_M_tell_119, ↓j_M_tell_120, ↓j_M_tell_129, ↓j_M_tell_147, ↓j_M_tell_154, ↓j_M_tell_168, ↓j_M_tell_176, ↓j_M_tell_201, ↓j_M_tell_210, ↓j_M_tell_235, ↓j_M_tell_245, ↓j_M_tell_248, ↓j_M_tell_274, ↓f_M_100, ↓f_M_103, ↓f_M_179, ↓f_M_230, ↓f_M_235, ↓f_M_250, ↓f_M_259, ↓f_M_94, ↓f_M_97, List.length_cons, List.length_nil, Nat.zero_add, Nat.reduceAdd, Int.reduceAdd, Int.reduceNeg, Int.reduceToNat, Int.reduceLE, Int.reduceLT, true_and, and_true, Nat.reduceLT, reduceIte, Nat.reduceEqDiff, ne_eq, not_false_eq_true, false_implies, true_implies, Bool.false_eq_true, reduceCtorEq, List.cons_append, List.nil_append, Nat.reduceSub, Nat.reduceLeDiff, Fin.isValue, Int.reduceNatCast', Int.zero_add, Int.add_zero, decide_true, decide_false, implies_true, forall_const, true_or, or_true, or_false, false_or, false_and, and_false, Int.toNat_natCast, ↓oF_37_0, ↓oF_37_1, ↓oF_37_2, ↓oF_37_3, ↓aF_38, ↓oF_37_4, ↓aF_39, ↓oF_37_5, ↓oF_37_6, ↓aF_40, ↓oF_37_7, ↓oF_37_8, ↓aF_41, ↓oF_37_9, ↓aF_42, ↓oF_37_10, ↓aF_43, ↓oF_37_11, ↓aF_44, ↓oF_37_12, ↓aF_45, ↓oF_37_13, ↓aF_46, ↓oF_37_14, ↓aF_47, ↓oF_37_15, ↓aF_48, ↓oF_37_16, ↓aF_49, ↓oF_37_17, ↓oF_37_18, ↓aF_50, ↓oF_37_19, ↓aF_51, ↓oF_37_20, ↓aF_52, ↓oF_37_21, ↓aF_53, ↓oF_37_22, ↓aF_54, ↓oF_37_23, ↓aF_55, ↓oF_37_24, ↓aF_56, ↓oF_37_25, ↓aF_57, ↓oF_37_26, ↓oF_37_27, ↓oF_37_28, ↓aF_58, ↓oF_37_29, ↓aF_59, ↓oF_37_30, ↓aF_60, ↓oF_37_31, ↓aF_61, ↓oF_37_32, ↓oF_37_33, ↓oF_37_34, ↓oF_37_35, ↓aF_62, ↓oF_37_36, ↓oF_37_37, ↓aF_63, ↓oF_37_38, ↓oF_37_39, ↓aF_64, ↓oF_37_40, ↓aF_65, ↓oF_37_41, ↓aF_66, oC_0, oC_1, oC_4, oC_11, oC_16, oC_18, oC_20, oC_23, oC_25, oC_26, oC_29, oC_31, oC_33, oC_35, oC_37, isT_29, isT_31, isT_33, isT_35, isL_16, isL_18, isL_26, b2i_0, b2i_1, b2i_01, b2i_r, iandZ_1, ↓e_M_tellLead, ↓e_M_home, ↓e_M_readAt, ↓e_M_walks]
    obtain ⟨hn, hm, hh⟩ := hC hne
    rw [if_neg hne] at hQ
    have hd := hT.at ⟨hh.1, hh.2.1⟩
    have e37 : u 37 = σ 37 := by rw [hu, updR_ne _ 63 37 _ (by decide), updR_ne _ 65 37 _ (by decide), updR_ne _ 66 37 _ (by decide)]
    have e65 : u 65 = (DecD (σ 37 17) (gM σ) (σ 62) (σ 37 33) (σ 37 34) (homeF (σ 62)) (σ 64) (σ 37 38) (σ 54 (homeF (σ 62)).toNat) (σ 65) P) := by rw [hu, updR_ne _ 63 65 _ (by decide), updR_eq]
    have e63 : u 63 = cpyF (DecD (σ 37 17) (gM σ) (σ 62) (σ 37 33) (σ 37 34) (homeF (σ 62)) (σ 64) (σ 37 38) (σ 54 (homeF (σ 62)).toNat) (σ 65) P) (σ 63) i := by rw [hu, updR_eq]
    simp only [e37, e65, e63, up1_eq]
    have hpm0 : 0 ≤ (P : Int) * (σ 37 33) := Int.mul_nonneg (by omega) (by omega)
    have q1 : i < P * (σ 37 33) → updR u 63 (up1 (cpyF (DecD (σ 37 17) (gM σ) (σ 62) (σ 37 33) (σ 37 34) (homeF (σ 62)) (σ 64) (σ 37 38) (σ 54 (homeF (σ 62)).toNat) (σ 65) P) (σ 63) i) i.toNat ((DecD (σ 37 17) (gM σ) (σ 62) (σ 37 33) (σ 37 34) (homeF (σ 62)) (σ 64) (σ 37 38) (σ 54 (homeF (σ 62)).toNat) (σ 65) P) i.toNat)) = updR (updR (updR σ 66 (leadG (σ 52) (σ 53) (σ 54 (homeF (σ 62)).toNat) (homeF (σ 62)) (-1) (σ 66))) 65 (DecD (σ 37 17) (gM σ) (σ 62) (σ 37 33) (σ 37 34) (homeF (σ 62)) (σ 64) (σ 37 38) (σ 54 (homeF (σ 62)).toNat) (σ 65) P)) 63 (cpyF (DecD (σ 37 17) (gM σ) (σ 62) (σ 37 33) (σ 37 34) (homeF (σ 62)) (σ 64) (σ 37 38) (σ 54 (homeF (σ 62)).toNat) (σ 65) P) (σ 63) (i + 1)) := fun h => by
      rw [cpyF_up hi.1, hu, updR_twice]
    have q2 : P * (σ 37 33) ≤ i → Q (some (.inl (P * (σ 37 33)))) (updR u 37 (up1 (σ 37) 36 (P * (σ 37 33)))) := fun h => by
      refine hQ _ _ ⟨fun k k1 k2 k3 k4 => ?_, fun j hj => ?_, Or.inr ⟨hul, P, -1, hgo, Or.inl ⟨hse, rfl⟩, Or.inr (Or.inr ⟨rfl, h240, rfl, ?_, fun j hj => ?_⟩)⟩⟩
      · rw [updR_ne _ _ _ _ k4, hu, updR_ne _ _ _ _ k1, updR_ne _ _ _ _ k2, updR_ne _ _ _ _ k3]
      · rw [updR_eq, up1_ne _ _ _ _ hj]
      · rw [updR_eq, up1_eq]
      · rw [updR_ne _ 37 63 _ (by decide), e63, cpyF_app, if_pos (by omega)]
    clear hQ hC
    (try simp only [rI_iff, rL_iff] at *)
    repeat' (with_reducible (first | assumption | apply And.intro | intro _))
    all_goals first | omega | with_reducible assumption | exact True.intro | skip
    all_goals first
      | omega
      | exact q2 (by omega)
      | exact q1 (by omega)
      | exact hgo
      | exact hgo _ (by assumption)
      | (refine ⟨P, ?_⟩
         repeat' (with_reducible (first | assumption | apply And.intro | intro _))
         all_goals first
           | omega
           | rfl
           | exact hne
           | exact hul
           | exact hgo
           | exact q1 (by omega)
         done)
      | trace_state
