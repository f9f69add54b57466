/-! the reference: a build -/
def EndC (σ u : St) : Prop := isBits (u 53) ∧ ((u 37 17 = 0 ∧ ∀ q, ¬ LgC σ q) ∨ ((0 < u 37 17 ∧ u 37 17 ≤ 100) ∧ Canon (u 37 17) (gM u) ∧ (∀ q, LgC σ q ↔ runB (gM u) 0 q ≠ -1) ∧ FirstP (u 37 17) (gM u) (u 52) (u 53) (u 54)))
def BuildM (σ τ : St) (r : Int) : Prop := (σ 37 26 = 40 ∧ r = -4 ∧ τ = σ) ∨ (σ 37 26 ≠ 40 ∧ τ 37 26 = σ 37 26 + 1 ∧ AllI (τ 45) 11264 ∧ AllI (τ 46) 11264 ∧ (∀ c : Nat, c < 101 → rI (τ 47 c) ∧ rI (τ 48 c) ∧ rI (τ 49 c)) ∧
  ((r = -4 ∧ ManyL (LgC σ) ∧ Fr [40, 41, 42, 43, 44, 45, 46, 47, 48, 49] [7, 26] σ τ) ∨ (r = τ 37 17 ∧ Fr [40, 41, 42, 43, 44, 45, 46, 47, 48, 49, 50, 51, 52, 53, 54, 55, 56, 57] [7, 17, 26, 27, 32] σ τ ∧ τ 37 27 = 0 ∧ τ 37 32 = 0 ∧ (∀ s : Nat, s < 100 → τ 57 s = 0) ∧ EndC σ τ)))
theorem pre_b {σ τ : St} {g : Nat → Int} (h : RawI (updR σ 37 (up1 (σ 37) 26 (σ 37 26 + 1))) τ (2 * τ 37 7) (τ 37 7)) (h45 : AllI (σ 45) 11264) (h46 : AllI (σ 46) 11264) (hsg : ∀ c : Nat, c < 101 → rI (σ 47 c) ∧ rI (σ 48 c) ∧ rI (σ 49 c)) (hg : PruneOK τ g) : PreB σ (updR τ 44 g) := by
  obtain ⟨a1, a2, a3, a4, a5⟩ := raw_ends h
  obtain ⟨⟨f1, f2⟩, -⟩ := h
  have e37 : updR τ 44 g 37 = τ 37 := updR_ne _ 44 37 _ (by decide)
  have g5 : ∀ k, k ≠ 37 → k ≠ 40 → k ≠ 41 → k ≠ 42 → k ≠ 43 → k ≠ 44 → τ k = σ k := fun k k1 k2 k3 k4 k5 k6 => by
    rw [f1 k k1 k2 k3 k4 k5 k6, updR_ne _ _ _ _ k1]
  have enx : nxM (updR τ 44 g) = nxM τ := nxM_eq (updR_ne _ 44 42 _ (by decide)) (updR_ne _ 44 43 _ (by decide))
  have e45 := g5 45 (by decide) (by decide) (by decide) (by decide) (by decide) (by decide)
  have e46 := g5 46 (by decide) (by decide) (by decide) (by decide) (by decide) (by decide)
  have e47 := g5 47 (by decide) (by decide) (by decide) (by decide) (by decide) (by decide)
  have e48 := g5 48 (by decide) (by decide) (by decide) (by decide) (by decide) (by decide)
  have e49 := g5 49 (by decide) (by decide) (by decide) (by decide) (by decide) (by decide)
  refine ⟨⟨fun k k1 k2 => ?_, fun j hj => ?_⟩, ?_, ?_, ?_, ?_, ?_, ?_, ?_, ?_, ?_⟩
  · simp only [List.mem_cons, List.not_mem_nil, or_false, not_or] at k2
    rw [updR_ne _ _ _ _ (by omega)]
    exact g5 k k1 (by omega) (by omega) (by omega) (by omega) (by omega)
  · simp only [List.mem_cons, List.not_mem_nil, or_false, not_or] at hj
    rw [e37, f2 j (by omega), updR_eq, up1_ne _ _ _ _ (by omega)]
  · rw [e37, f2 26 (by decide), updR_eq, up1_eq]
  · rw [updR_ne _ 44 45 _ (by decide), e45]; exact h45
  · rw [updR_ne _ 44 46 _ (by decide), e46]; exact h46
  · rw [updR_ne _ 44 47 _ (by decide), updR_ne _ 44 48 _ (by decide), updR_ne _ 44 49 _ (by decide), e47, e48, e49]; exact hsg
  · rw [e37]; exact a1
  · rw [e37, enx]; exact a2
  · rw [e37, enx]; exact a3
  · unfold PruneOK
    rw [e37, enx, updR_eq]
    exact hg
  · rw [enx]
    intro q
    rw [a5 q]
    unfold LgC bhS
    rw [updR_eq, up1_ne _ _ _ _ (by decide), up1_ne _ _ _ _ (by decide), up1_ne _ _ _ _ (by decide), up1_ne _ _ _ _ (by decide), updR_ne _ 37 38 _ (by decide), updR_ne _ 37 39 _ (by decide)]
theorem pre_ref {σ w τ : St} {r : Int} (h : PreB σ w) (h0 : w 44 0 ≠ 0) (hr : RefM w τ r) : PreB σ τ ∧ (r ≤ 100 → PreE σ τ) ∧ (100 < r → ManyL (LgC σ)) := by
  have hmany := fun g G => pre_many (g := g) (G := G) h h0
  obtain ⟨r1, r2, r3, r4, r5⟩ := hr
  obtain ⟨f37, f44, fnx⟩ := r1.at
  have hB : PreB σ τ := by
    obtain ⟨⟨b1, b1'⟩, b2, b3, b4, b5, b6, b7, b8, b9, b10⟩ := h
    refine ⟨⟨fun k k1 k2 => ?_, fun j hj => ?_⟩, ?_, r2, r3, r4, ?_, ?_, ?_, ?_, ?_⟩
    · have k3 := b1 k k1 k2
      simp only [List.mem_cons, List.not_mem_nil, or_false, not_or] at k2
      rw [r1 k (by omega) (by omega) (by omega) (by omega) (by omega)]
      exact k3
    · rw [f37]; exact b1' j hj
    · rw [f37]; exact b2
    · rw [f37]; exact b6
    · rw [f37, fnx]; exact b7
    · rw [f37, fnx]; exact b8
    · unfold PruneOK
      rw [f37, fnx, f44]
      exact b9
    · rw [fnx]; exact b10
  have eA : gA τ = gA w := by unfold gA; rw [f44]
  refine ⟨hB, fun hle => ⟨hB, Or.inr ⟨by rw [f44]; exact h0, r, ?_, ?_⟩⟩, fun hgt => ?_⟩
  · rcases r5 with ⟨-, a2, a3⟩ | ⟨a1, -⟩
    · rw [f37, fnx, eA]; exact a2
    · omega
  · rcases r5 with ⟨-, a2, a3⟩ | ⟨a1, -⟩
    · rw [f37, fnx]; exact a3
    · omega
  · rcases r5 with ⟨a1, -⟩ | ⟨a1, -, g, G, a2, a3⟩
    · omega
    · exact hmany g G a2 a3
def NumI (σ u : St) (i : Int) : Prop := ∃ w, PreE σ w ∧ FrS w u ∧ u 37 17 = 0 ∧ isBits (u 53) ∧ ∀ c : Nat, (c : Int) < i → u 55 c = -1
def BfsI (σ u : St) (i : Int) : Prop := ∃ w, PreB σ w ∧ FrS w u ∧ ((w 44 0 = 0 ∧ u 37 17 = 0 ∧ i = 0 ∧ isBits (u 53)) ∨ (w 44 0 ≠ 0 ∧ i ≤ u 37 17 ∧ (∀ c : Nat, c < 101 → rI (u 55 c)) ∧ ∃ G, PartB w G ∧ BldI w u G (2 * i)))
def WtI (σ u : St) (i : Int) : Prop := ∃ w u0 f, PreB σ w ∧ FrS w u0 ∧ EndC σ u0 ∧ u = updR u0 57 f ∧ ∀ s : Nat, (s : Int) < i → f s = 0
theorem bfs_end {σ u : St} {i : Int} (hi : u 37 17 ≤ i) (h : BfsI σ u i) : WtI σ u 0 := by
  obtain ⟨w, h1, h2, h3⟩ := h
  refine ⟨w, u, u 57, h1, h2, ?_, (updR_self u 57).symm, fun s hs => by omega⟩
  rcases h3 with ⟨a1, a2, a3, a4⟩ | ⟨a1, a2, a3, G, a4, a5⟩
  · exact ⟨a4, Or.inl ⟨a2, pre_none h1 a1⟩⟩
  · rw [show i = u 37 17 by omega] at a5
    exact ⟨a5.2.2.2.2, Or.inr (bld_end h1 a4 a5 a1)⟩
theorem bfs_start {σ u v : St} {r : Int} (h : NumI σ u 101) (hp : StateSt u v 0 (-1) 0 r) : BfsI σ v 0 := by
  obtain ⟨w, h1, h2, h3, h4, h5⟩ := h
  have h5 : ∀ c : Nat, c < 101 → u 55 c = -1 := fun c hc => h5 c (by omega)
  rcases h1.2 with h0 | ⟨h0, G, hp2⟩
  · obtain ⟨r44, r45, r42, r43, r7⟩ := h2.rows
    have hca : caZ u 0 = -1 := by
      rw [ca_row r44 r45]
      unfold caZ gR
      rw [if_neg (by decide)]
      exact if_pos h0
    have hv : v = u := by
      rcases hp with ⟨-, -, hv⟩ | ⟨a1, -⟩ | ⟨a1, -⟩
      · exact hv
      · exact absurd hca a1
      · exact absurd hca a1
    rw [hv]
    exact ⟨w, h1.1, h2, Or.inl ⟨h0, h3, rfl, h4⟩⟩
  · have h6 := bld_start (part_cls h1.1 hp2) h0 h2 h3 h5 h4 hp
    refine ⟨w, h1.1, h6.1.1, Or.inr ⟨h0, by omega, ?_, G, hp2, h6.1⟩⟩
    exact state_ri hp (by rw [h3]; unfold rI; omega) (fun c hc => by rw [h5 c hc]; unfold rI; omega)
theorem num_pre {σ u : St} (h : NumI σ u 101) : (u 44 0 = 0 ∨ (u 44 0 = 1 ∧ 0 ≤ u 45 0 ∧ u 45 0 ≤ 100)) ∧ u 37 17 = 0 ∧ ∀ c : Nat, c ≤ 100 → u 55 c = -1 := by
  obtain ⟨w, h1, h2, h3, h4, h5⟩ := h
  obtain ⟨r44, r45, r42, r43, r7⟩ := h2.rows
  refine ⟨?_, h3, fun c hc => h5 c (by omega)⟩
  rw [r44, r45]
  rcases h1.2 with h0 | ⟨h0, G, hp2⟩
  · exact Or.inl h0
  · have hC := part_cls h1.1 hp2
    have hG := hC.2.2.2.2.1
    have h6 := (cls_r (i := 0) hC (by have := hC.1; omega)).resolve_left h0
    exact Or.inr ⟨h6.1, h6.2.1, by omega⟩
theorem wt_r {σ u : St} {i j : Int} (_ : 0 ≤ j ∧ j ≤ 100) (h : WtI σ u i) : 0 ≤ u 37 17 ∧ u 37 17 ≤ 100 := by
  obtain ⟨w, u0, f, h1, h2, h3, h4, h5⟩ := h
  have e37 : u 37 = u0 37 := by rw [h4, updR_ne _ 57 37 _ (by decide)]
  rw [e37]
  rcases h3.2 with ⟨a, -⟩ | ⟨a, -⟩
  · omega
  · omega
theorem wt_end {σ u τ : St} {i : Int} (hb : σ 37 26 ≠ 40) (hi : 100 ≤ i) (h : WtI σ u i) (hτ : τ = updR (updR u 37 (up1 (u 37) 32 0)) 37 (up1 (up1 (u 37) 32 0) 27 0)) : BuildM σ τ (u 37 17) ∧ τ 37 17 = u 37 17 := by
  obtain ⟨w, u0, f, h1, h2, h3, h4, h5⟩ := h
  obtain ⟨⟨b1, b1'⟩, b2, b3, b4, b5, -⟩ := h1
  have e37 : u 37 = u0 37 := by rw [h4, updR_ne _ 57 37 _ (by decide)]
  have et : τ 37 = up1 (up1 (u0 37) 32 0) 27 0 := by rw [hτ, updR_eq, e37]
  have t37 : ∀ j, j ≠ 27 → j ≠ 32 → τ 37 j = u0 37 j := fun j j1 j2 => by rw [et, up1_ne _ _ _ _ j1, up1_ne _ _ _ _ j2]
  have tk : ∀ k, k ≠ 37 → k ≠ 57 → τ k = u0 k := fun k k1 k2 => by rw [hτ, updR_ne _ _ _ _ k1, updR_ne _ _ _ _ k1, h4, updR_ne _ _ _ _ k2]
  have t57 : τ 57 = f := by rw [hτ, updR_ne _ 37 57 _ (by decide), updR_ne _ 37 57 _ (by decide), h4, updR_eq]
  have eg : gM τ = gM u0 := gM_row (tk 50 (by decide) (by decide)) (tk 51 (by decide) (by decide))
  have w45 := h2.1 45 (by decide) (by decide) (by decide) (by decide) (by decide) (by decide) (by decide) (by decide)
  have w46 := h2.1 46 (by decide) (by decide) (by decide) (by decide) (by decide) (by decide) (by decide) (by decide)
  have w47 := h2.1 47 (by decide) (by decide) (by decide) (by decide) (by decide) (by decide) (by decide) (by decide)
  have w48 := h2.1 48 (by decide) (by decide) (by decide) (by decide) (by decide) (by decide) (by decide) (by decide)
  have w49 := h2.1 49 (by decide) (by decide) (by decide) (by decide) (by decide) (by decide) (by decide) (by decide)
  refine ⟨Or.inr ⟨hb, ?_, ?_, ?_, ?_, Or.inr ⟨?_, ⟨fun k k1 k2 => ?_, fun j hj => ?_⟩, ?_, ?_, fun s hs => ?_, ?_⟩⟩, ?_⟩
  · rw [t37 26 (by decide) (by decide), h2.2 26 (by decide), b2]
  · rw [tk 45 (by decide) (by decide), w45]; exact b3
  · rw [tk 46 (by decide) (by decide), w46]; exact b4
  · rw [tk 47 (by decide) (by decide), tk 48 (by decide) (by decide), tk 49 (by decide) (by decide), w47, w48, w49]; exact b5
  · rw [t37 17 (by decide) (by decide), e37]
  · simp only [List.mem_cons, List.not_mem_nil, or_false, not_or] at k2
    rw [tk k k1 (by omega), h2.1 k k1 (by omega) (by omega) (by omega) (by omega) (by omega) (by omega) (by omega)]
    refine b1 k k1 ?_
    simp only [List.mem_cons, List.not_mem_nil, or_false, not_or]
    omega
  · simp only [List.mem_cons, List.not_mem_nil, or_false, not_or] at hj
    rw [t37 j (by omega) (by omega), h2.2 j (by omega)]
    refine b1' j ?_
    simp only [List.mem_cons, List.not_mem_nil, or_false, not_or]
    omega
  · rw [et, up1_eq]
  · rw [et, up1_ne _ _ _ _ (by decide), up1_eq]
  · rw [t57]; exact h5 s (by omega)
  · unfold EndC
    rw [tk 52 (by decide) (by decide), tk 53 (by decide) (by decide), tk 54 (by decide) (by decide), eg, t37 17 (by decide) (by decide)]
    exact h3
  · rw [t37 17 (by decide) (by decide), e37]
def s_M_build : Spec := fun as σ Q => popR as fun c0 r0 => r0 = [] ∧ c0 = 37 ∧ (BansOK (σ 37 0) (σ 37 1) (σ 37 2) (σ 37 5) (σ 38) (σ 39)) ∧ (0 ≤ σ 37 26 ∧ σ 37 26 ≤ 40) ∧ (AllI (σ 45) 11264) ∧ (AllI (σ 46) 11264) ∧ (∀ c : Nat, c < 101 → rI (σ 47 c) ∧ rI (σ 48 c) ∧ rI (σ 49 c)) ∧ (isBits (σ 53)) ∧ ∀ τ r, BuildM σ τ r → Q (some (.inl r)) τ
theorem e_M_build  (σ : St) (Q : Option AV → St → Prop) : s_M_build [.inr (.inr (some 37))] σ Q = ((BansOK (σ 37 0) (σ 37 1) (σ 37 2) (σ 37 5) (σ 38) (σ 39)) ∧ (0 ≤ σ 37 26 ∧ σ 37 26 ≤ 40) ∧ (AllI (σ 45) 11264) ∧ (AllI (σ 46) 11264) ∧ (∀ c : Nat, c < 101 → rI (σ 47 c) ∧ rI (σ 48 c) ∧ rI (σ 49 c)) ∧ (isBits (σ 53)) ∧ ∀ τ r, BuildM σ τ r → Q (some (.inl r)) τ) := by
  show ([] = [] ∧ _) = _
  simp only [true_and]
set_option maxHeartbeats 4000000 in
set_option maxRecDepth 20000 in
theorem S_M_build {l : Launch} : Sat l y_M_build b_M_build 3 (some .int) 4 s_M_build := by
  refine sat_of (Φ := P_M) (κ := Q_M) (Γ := [(166, 10, 0, s_M_findRaws), (169, 10, 0, s_M_prune), (172, 10, 0, s_M_refine), (175, 10, 3, s_M_stateOf)]) (rt := 1) (by decide +kernel) P_M_ok Q_M_ok (by
    refine List.forall_mem_cons.mpr ⟨?_, List.forall_mem_cons.mpr ⟨?_, List.forall_mem_cons.mpr ⟨?_, List.forall_mem_cons.mpr ⟨?_, fun _ h => absurd h List.not_mem_nil⟩⟩⟩⟩
    · exact m_M_findRaws S_M_findRaws (by decide) l_M_166
    · exact m_M_prune S_M_prune (by decide) l_M_169
    · exact m_M_refine S_M_refine (by decide) l_M_172
    · exact m_M_stateOf S_M_stateOf (by decide) l_M_175) (by simp) o_M_build ?_
  intro as σ Q hh0
  obtain ⟨c0, rr0, rfl, hh1⟩ := popR_inv hh0
  obtain ⟨hrE, rfl, hB, hb, h45, h46, hsg, h53, hQ⟩ := hh1
  subst hrE
  clear hh0
  refine ⟨Nat.le_of_ble_eq_true rfl, [(51, mkC (fun L st u => ∃ (v1 v2 : AV), L = [.inr (.inr (some 37)), v1, v2] ∧ st = [] ∧ (σ 37 26 ≠ 40) ∧ (PreE σ u)) (fun L st u => (5000, 0, 0))),
    (58, mkC (fun L st u => ∃ (c : Int) (v2 : AV), L = [.inr (.inr (some 37)), .inl c, v2] ∧ st = [] ∧ (σ 37 26 ≠ 40) ∧ (0 ≤ c ∧ c ≤ 101) ∧ (NumI σ u c)) (fun L st u => (4000, (102 - gI L 1).toNat, 0))),
    (87, mkC (fun L st u => ∃ (v1 : AV) (i : Int), L = [.inr (.inr (some 37)), v1, .inl i] ∧ st = [] ∧ (σ 37 26 ≠ 40) ∧ (0 ≤ i ∧ i ≤ 100) ∧ (BfsI σ u i)) (fun L st u => (3000, (101 - gI L 2).toNat, 0))),
    (149, mkC (fun L st u => ∃ (v1 : AV) (i : Int), L = [.inr (.inr (some 37)), v1, .inl i] ∧ st = [] ∧ (σ 37 26 ≠ 40) ∧ (0 ≤ i ∧ i ≤ 100) ∧ (WtI σ u i)) (fun L st u => (2000, (101 - gI L 2).toNat, 0)))], 14, ?_, cuts1 ?_ (cuts1 ?_ (cuts1 ?_ (cuts1 ?_ (cuts0))))⟩
  · rw [show entL 3 [.inr (.inr (some 37))] = [.inr (.inr (some 37)), .inr (.inr none), .inr (.inr none)] from rfl]
    simp only [↓wpN_go, jmp_e, ↓wp_aload_n0, ↓wp_baload, ↓wp_bipush, ↓wp_dup, ↓wp_getfield, ↓wp_goto, ↓wp_iadd, ↓wp_iaload, ↓wp_iastore, ↓wp_icmp_ge, ↓wp_icmp_le, ↓wp_icmp_ne, ↓wp_iconst, ↓wp_if_eq, ↓wp_iinc, ↓wp_iload_n1, ↓wp_iload_n2, ↓wp_invokevirtual, ↓wp_ireturn1, ↓wp_istore_n1, ↓wp_istore_n2, ↓wp_putfield, wp_nil, ↓ldI_0, ↓ldI_s, ↓ldL_0, ↓ldL_s, ↓ldR_0, ↓ldR_s, sto1_0, sto1_1, sto1_s, sto2_0, sto2_1, sto2_s, isLong_i, isLong_l, isLong_r, ↓popI_c, ↓popL_c, ↓popR_c, ↓popN_0, ↓popN_s, catS_n, catS_c, psh_s, psh_n, fldV_n, fldV_s, ↓tgt_e, sw_n, ↓sw_c, ↓lk1_h, ↓lk1_m, ↓atC_h, ↓atC_m, ↓atC_n, ltO_n, ltO_s, updR_eq, updR_ne, gI_0i, gI_0l, gI_s, ltM_iff, List.cons.injEq, Sum.inl.injEq, Sum.inr.injEq, Option.some.injEq, exists_eq_left, exists_eq_left', exists_eq_right, exists_eq_right', exists_and_left, exists_and_right, exists_eq, exists_const, and_assoc, ↓j_M_build_0, ↓j_M_build_12, ↓j_M_build_51, ↓j_M_build_58, ↓j_M_build_77, ↓j_M_build_87, ↓j_M_build_147, ↓j_M_build_149, ↓j_M_build_168, ↓f_M_160, ↓f_M_163, ↓f_M_179, ↓f_M_182, ↓f_M_29, ↓f_M_32, ↓f_M_35, ↓f_M_54, ↓f_M_57, ↓f_M_69, ↓f_M_72, ↓f_M_75, List.length_cons, List.length_nil, Nat.zero_add, Nat.reduceAdd, Int.reduceAdd, Int.reduceNeg, Int.reduceToNat, Int.reduceLE, Int.reduceLT, true_and, and_true, Nat.reduceLT, reduceIte, Nat.reduceEqDiff, ne_eq, not_false_eq_true, false_implies, true_implies, Bool.false_eq_true, reduceCtorEq, List.cons_append, List.nil_append, Nat.reduceSub, Nat.reduceLeDiff, Fin.isValue, Int.reduceNatCast', Int.zero_add, Int.add_zero, decide_true, decide_false, implies_true, forall_const, true_or, or_true, or_false, false_or, false_and, and_false, Int.toNat_natCast, ↓oF_37_0, ↓oF_37_1, ↓oF_37_2, ↓oF_37_3, ↓aF_38, ↓oF_37_4, ↓aF_39, ↓oF_37_5, ↓oF_37_6, ↓aF_40, ↓oF_37_7, ↓oF_37_8, ↓aF_41, ↓oF_37_9, ↓aF_42, ↓oF_37_10, ↓aF_43, ↓oF_37_11, ↓aF_44, ↓oF_37_12, ↓aF_45, ↓oF_37_13, ↓aF_46, ↓oF_37_14, ↓aF_47, ↓oF_37_15, ↓aF_48, ↓oF_37_16, ↓aF_49, ↓oF_37_17, ↓oF_37_18, ↓aF_50, ↓oF_37_19, ↓aF_51, ↓oF_37_20, ↓aF_52, ↓oF_37_21, ↓aF_53, ↓oF_37_22, ↓aF_54, ↓oF_37_23, ↓aF_55, ↓oF_37_24, ↓aF_56, ↓oF_37_25, ↓aF_57, ↓oF_37_26, ↓oF_37_27, ↓oF_37_28, ↓aF_58, ↓oF_37_29, ↓aF_59, ↓oF_37_30, ↓aF_60, ↓oF_37_31, ↓aF_61, ↓oF_37_32, ↓oF_37_33, ↓oF_37_34, ↓oF_37_35, ↓aF_62, ↓oF_37_36, ↓oF_37_37, ↓aF_63, ↓oF_37_38, ↓oF_37_39, ↓aF_64, ↓oF_37_40, ↓aF_65, ↓oF_37_41, ↓aF_66, oC_0, oC_1, oC_4, oC_11, oC_16, oC_18, oC_20, oC_23, oC_25, oC_26, oC_29, oC_31, oC_33, oC_35, oC_37, isT_29, isT_31, isT_33, isT_35, isL_16, isL_18, isL_26, ↓e_M_findRaws, ↓e_M_prune, ↓e_M_refine, ↓e_M_stateOf]
    have q1 : σ 37 26 = 40 → Q (some (.inl (-4))) σ := fun h => hQ _ _ (Or.inl ⟨h, rfl, rfl⟩)
    have hB2 : BansOK (updR σ 37 (up1 (σ 37) 26 (σ 37 26 + 1)) 37 0) (updR σ 37 (up1 (σ 37) 26 (σ 37 26 + 1)) 37 1) (updR σ 37 (up1 (σ 37) 26 (σ 37 26 + 1)) 37 2) (updR σ 37 (up1 (σ 37) 26 (σ 37 26 + 1)) 37 5) (updR σ 37 (up1 (σ 37) 26 (σ 37 26 + 1)) 38) (updR σ 37 (up1 (σ 37) 26 (σ 37 26 + 1)) 39) := hB
    have hB3 : BansOK (up1 (σ 37) 26 (σ 37 26 + 1) 0) (up1 (σ 37) 26 (σ 37 26 + 1) 1) (up1 (σ 37) 26 (σ 37 26 + 1) 2) (up1 (σ 37) 26 (σ 37 26 + 1) 5) (σ 38) (σ 39) := hB
    have st0 : ∀ τ, RawI (updR σ 37 (up1 (σ 37) 26 (σ 37 26 + 1))) τ (2 * τ 37 7) (τ 37 7) → (0 < τ 37 7 ∧ τ 37 7 ≤ 11264) ∧ Wire (τ 37 7) (nxM τ) ∧ (∀ i : Nat, (i : Int) < τ 37 7 → τ 44 i = 1) := fun τ h => by
      obtain ⟨a1, a2, a3, a4, a5⟩ := raw_ends h
      exact ⟨a1, a2, a4⟩
    have st1 : ∀ τ g, RawI (updR σ 37 (up1 (σ 37) 26 (σ 37 26 + 1))) τ (2 * τ 37 7) (τ 37 7) → PruneOK τ g → PreB σ (updR τ 44 g) := fun τ g h h2 => pre_b h h45 h46 hsg h2
    have st2 : ∀ τ g, RawI (updR σ 37 (up1 (σ 37) 26 (σ 37 26 + 1))) τ (2 * τ 37 7) (τ 37 7) → PruneOK τ g → g 0 = 0 → PreE σ (updR τ 44 g) := fun τ g h h2 h3 => ⟨st1 τ g h h2, Or.inl h3⟩
    have st3 : ∀ τ g, RawI (updR σ 37 (up1 (σ 37) 26 (σ 37 26 + 1))) τ (2 * τ 37 7) (τ 37 7) → PruneOK τ g → B01 (τ 37 7) g ∧ Wire (τ 37 7) (nxM (updR τ 44 g)) ∧ AllI (τ 45) 11264 ∧ AllI (τ 46) 11264 ∧ (∀ c : Nat, c < 101 → rI (τ 47 c) ∧ rI (τ 48 c) ∧ rI (τ 49 c)) := fun τ g h h2 => by
      have h3 := st1 τ g h h2
      exact ⟨h2.1, (st0 τ h).2.1, h3.2.2.1, h3.2.2.2.1, h3.2.2.2.2.1⟩
    have st4 : ∀ τ g v r, RawI (updR σ 37 (up1 (σ 37) 26 (σ 37 26 + 1))) τ (2 * τ 37 7) (τ 37 7) → PruneOK τ g → ¬ g 0 = 0 → RefM (updR τ 44 g) v r → r ≤ 100 → PreE σ v := fun τ g v r h h2 h3 h4 => (pre_ref (st1 τ g h h2) h3 h4).2.1
    have st5 : ∀ τ g v r, ¬ σ 37 26 = 40 → RawI (updR σ 37 (up1 (σ 37) 26 (σ 37 26 + 1))) τ (2 * τ 37 7) (τ 37 7) → PruneOK τ g → ¬ g 0 = 0 → RefM (updR τ 44 g) v r → 100 < r → Q (some (.inl (-4))) v := fun τ g v r hn h h2 h3 h4 h5 => by
      have h6 := pre_ref (st1 τ g h h2) h3 h4
      have h7 := h6.1
      exact hQ _ _ (Or.inr ⟨hn, h7.2.1, h7.2.2.1, h7.2.2.2.1, h7.2.2.2.2.1, Or.inl ⟨rfl, h6.2.2 h5, h7.1⟩⟩)
    have st6 : ∀ v r, ∀ w : St, RefM w v r → 0 ≤ r ∧ r ≤ 101 := fun v r w h => by
      rcases h.2.2.2.2 with ⟨a1, a2, -⟩ | ⟨a1, a2, -⟩
      · have := a2.1.1
        have := mx_0 (gR v) (w 37 7).toNat
        omega
      · omega
    have st7 : ∀ τ g, RawI (updR σ 37 (up1 (σ 37) 26 (σ 37 26 + 1))) τ (2 * τ 37 7) (τ 37 7) → PruneOK τ g → g 0 = 0 ∨ g 0 = 1 := fun τ g h h2 => h2.1 0 (by have := (st0 τ h).1; omega)
    clear hQ
    (try simp only [rI_iff, rL_iff] at *)
    repeat' (with_reducible (first | assumption | apply And.intro | intro _))
    all_goals first | omega | with_reducible assumption | exact True.intro | skip
    all_goals first
      | omega
      | exact q1 (by assumption)
      | exact hB3
      | exact (st0 _ (by assumption)).2.1
      | exact (st0 _ (by assumption)).1.1
      | exact (st0 _ (by assumption)).1.2
      | exact (st0 _ (by assumption)).2.2 _ (by assumption)
      | exact st2 _ _ (by assumption) (by assumption) (by assumption)
      | exact (st3 _ _ (by assumption) (by assumption)).1
      | exact (st3 _ _ (by assumption) (by assumption)).2.1
      | exact (st3 _ _ (by assumption) (by assumption)).2.2.1
      | exact (st3 _ _ (by assumption) (by assumption)).2.2.2.1
      | exact (st3 _ _ (by assumption) (by assumption)).2.2.2.2
      | exact ((st3 _ _ (by assumption) (by assumption)).2.2.2.2 _ (by assumption)).1
      | exact ((st3 _ _ (by assumption) (by assumption)).2.2.2.2 _ (by assumption)).1.1
      | exact ((st3 _ _ (by assumption) (by assumption)).2.2.2.2 _ (by assumption)).1.2
      | exact ((st3 _ _ (by assumption) (by assumption)).2.2.2.2 _ (by assumption)).2.1
      | exact ((st3 _ _ (by assumption) (by assumption)).2.2.2.2 _ (by assumption)).2.1.1
      | exact ((st3 _ _ (by assumption) (by assumption)).2.2.2.2 _ (by assumption)).2.1.2
      | exact ((st3 _ _ (by assumption) (by assumption)).2.2.2.2 _ (by assumption)).2.2
      | exact ((st3 _ _ (by assumption) (by assumption)).2.2.2.2 _ (by assumption)).2.2.1
      | exact ((st3 _ _ (by assumption) (by assumption)).2.2.2.2 _ (by assumption)).2.2.2
      | exact st4 _ _ _ _ (by assumption) (by assumption) (by assumption) (by assumption) (by omega)
      | exact st5 _ _ _ _ (by assumption) (by assumption) (by assumption) (by assumption) (by assumption) (by omega)
      | (have hs1 := st6 _ _ _ (by assumption); omega)
      | (have hs1 := st7 _ _ (by assumption) (by assumption); omega)
      | exact ⟨_, rfl⟩
      | exact ⟨_, _, rfl⟩
      | trace_state
  · intro L st u hI
    obtain ⟨v1, v2, rfl, rfl, hbn, hu⟩ := hI
    simp only [↓wpN_go, jmp_e, ↓wp_aload_n0, ↓wp_baload, ↓wp_bipush, ↓wp_dup, ↓wp_getfield, ↓wp_goto, ↓wp_iadd, ↓wp_iaload, ↓wp_iastore, ↓wp_icmp_ge, ↓wp_icmp_le, ↓wp_icmp_ne, ↓wp_iconst, ↓wp_if_eq, ↓wp_iinc, ↓wp_iload_n1, ↓wp_iload_n2, ↓wp_invokevirtual, ↓wp_ireturn1, ↓wp_istore_n1, ↓wp_istore_n2, ↓wp_putfield, wp_nil, ↓ldI_0, ↓ldI_s, ↓ldL_0, ↓ldL_s, ↓ldR_0, ↓ldR_s, sto1_0, sto1_1, sto1_s, sto2_0, sto2_1, sto2_s, isLong_i, isLong_l, isLong_r, ↓popI_c, ↓popL_c, ↓popR_c, ↓popN_0, ↓popN_s, catS_n, catS_c, psh_s, psh_n, fldV_n, fldV_s, ↓tgt_e, sw_n, ↓sw_c, ↓lk1_h, ↓lk1_m, ↓atC_h, ↓atC_m, ↓atC_n, ltO_n, ltO_s, updR_eq, updR_ne, gI_0i, gI_0l, gI_s, ltM_iff, List.cons.injEq, Sum.inl.injEq, Sum.inr.injEq, Option.some.injEq, exists_eq_left, exists_eq_left', exists_eq_right, exists_eq_right', exists_and_left, exists_and_right, exists_eq, exists_const, and_assoc, ↓j_M_build_0, ↓j_M_build_12, ↓j_M_build_51, ↓j_M_build_58, ↓j_M_build_77, ↓j_M_build_87, ↓j_M_build_147, ↓j_M_build_149, ↓j_M_build_168, ↓f_M_160, ↓f_M_163, ↓f_M_179, ↓f_M_182, ↓f_M_29, ↓f_M_32, ↓f_M_35, ↓f_M_54, ↓f_M_57, ↓f_M_69, ↓f_M_72, ↓f_M_75, List.length_cons, List.length_nil, Nat.zero_add, Nat.reduceAdd, Int.reduceAdd, Int.reduceNeg, Int.reduceToNat, Int.reduceLE, Int.reduceLT, true_and, and_true, Nat.reduceLT, reduceIte, Nat.reduceEqDiff, ne_eq, not_false_eq_true, false_implies, true_implies, Bool.false_eq_true, reduceCtorEq, List.cons_append, List.nil_append, Nat.reduceSub, Nat.reduceLeDiff, Fin.isValue, Int.reduceNatCast', Int.zero_add, Int.add_zero, decide_true, decide_false, implies_true, forall_const, true_or, or_true, or_false, false_or, false_and, and_false, Int.toNat_natCast, ↓oF_37_0, ↓oF_37_1, ↓oF_37_2, ↓oF_37_3, ↓aF_38, ↓oF_37_4, ↓aF_39, ↓oF_37_5, ↓oF_37_6, ↓aF_40, ↓oF_37_7, ↓oF_37_8, ↓aF_41, ↓oF_37_9, ↓aF_42, ↓oF_37_10, ↓aF_43, ↓oF_37_11, ↓aF_44, ↓oF_37_12, ↓aF_45, ↓oF_37_13, ↓aF_46, ↓oF_37_14, ↓aF_47, ↓oF_37_15, ↓aF_48, ↓oF_37_16, ↓aF_49, ↓oF_37_17, ↓oF_37_18, ↓aF_50, ↓oF_37_19, ↓aF_51, ↓oF_37_20, ↓aF_52, ↓oF_37_21, ↓aF_53, ↓oF_37_22, ↓aF_54, ↓oF_37_23, ↓aF_55, ↓oF_37_24, ↓aF_56, ↓oF_37_25, ↓aF_57, ↓oF_37_26, ↓oF_37_27, ↓oF_37_28, ↓aF_58, ↓oF_37_29, ↓aF_59, ↓oF_37_30, ↓aF_60, ↓oF_37_31, ↓aF_61, ↓oF_37_32, ↓oF_37_33, ↓oF_37_34, ↓oF_37_35, ↓aF_62, ↓oF_37_36, ↓oF_37_37, ↓aF_63, ↓oF_37_38, ↓oF_37_39, ↓aF_64, ↓oF_37_40, ↓aF_65, ↓oF_37_41, ↓aF_66, oC_0, oC_1, oC_4, oC_11, oC_16, oC_18, oC_20, oC_23, oC_25, oC_26, oC_29, oC_31, oC_33, oC_35, oC_37, isT_29, isT_31, isT_33, isT_35, isL_16, isL_18, isL_26, ↓e_M_findRaws, ↓e_M_prune, ↓e_M_refine, ↓e_M_stateOf]
    have hI : NumI σ (updR u 37 (up1 (u 37) 17 0)) 0 := by
      refine ⟨u, hu, ⟨fun k k1 _ _ _ _ _ _ _ => updR_ne _ _ _ _ k1, fun j hj => by rw [updR_eq, up1_ne _ _ _ _ hj]⟩, by rw [updR_eq, up1_eq], ?_, fun c hc => by omega⟩
      have e53 : u 53 = σ 53 := hu.1.1.1 53 (by decide) (by decide)
      rw [updR_ne _ 37 53 _ (by decide), e53]
      exact h53
    clear hQ
    (try simp only [rI_iff, rL_iff] at *)
    repeat' (with_reducible (first | assumption | apply And.intro | intro _))
    all_goals first | omega | with_reducible assumption | exact True.intro | skip
    all_goals first
      | omega
      | exact hI
      | exact ⟨_, rfl⟩
      | exact ⟨_, _, rfl⟩
      | trace_state
  · intro L st u hI
    obtain ⟨c, v2, rfl, rfl, hbn, hi, hu⟩ := hI
    simp only [↓wpN_go, jmp_e, ↓wp_aload_n0, ↓wp_baload, ↓wp_bipush, ↓wp_dup, ↓wp_getfield, ↓wp_goto, ↓wp_iadd, ↓wp_iaload, ↓wp_iastore, ↓wp_icmp_ge, ↓wp_icmp_le, ↓wp_icmp_ne, ↓wp_iconst, ↓wp_if_eq, ↓wp_iinc, ↓wp_iload_n1, ↓wp_iload_n2, ↓wp_invokevirtual, ↓wp_ireturn1, ↓wp_istore_n1, ↓wp_istore_n2, ↓wp_putfield, wp_nil, ↓ldI_0, ↓ldI_s, ↓ldL_0, ↓ldL_s, ↓ldR_0, ↓ldR_s, sto1_0, sto1_1, sto1_s, sto2_0, sto2_1, sto2_s, isLong_i, isLong_l, isLong_r, ↓popI_c, ↓popL_c, ↓popR_c, ↓popN_0, ↓popN_s, catS_n, catS_c, psh_s, psh_n, fldV_n, fldV_s, ↓tgt_e, sw_n, ↓sw_c, ↓lk1_h, ↓lk1_m, ↓atC_h, ↓atC_m, ↓atC_n, ltO_n, ltO_s, updR_eq, updR_ne, gI_0i, gI_0l, gI_s, ltM_iff, List.cons.injEq, Sum.inl.injEq, Sum.inr.injEq, Option.some.injEq, exists_eq_left, exists_eq_left', exists_eq_right, exists_eq_right', exists_and_left, exists_and_right, exists_eq, exists_const, and_assoc, ↓j_M_build_0, ↓j_M_build_12, ↓j_M_build_51, ↓j_M_build_58, ↓j_M_build_77, ↓j_M_build_87, ↓j_M_build_147, ↓j_M_build_149, ↓j_M_build_168, ↓f_M_160, ↓f_M_163, ↓f_M_179, ↓f_M_182, ↓f_M_29, ↓f_M_32, ↓f_M_35, ↓f_M_54, ↓f_M_57, ↓f_M_69, ↓f_M_72, ↓f_M_75, List.length_cons, List.length_nil, Nat.zero_add, Nat.reduceAdd, Int.reduceAdd, Int.reduceNeg, Int.reduceToNat, Int.reduceLE, Int.reduceLT, true_and, and_true, Nat.reduceLT, reduceIte, Nat.reduceEqDiff, ne_eq, not_false_eq_true, false_implies, true_implies, Bool.false_eq_true, reduceCtorEq, List.cons_append, List.nil_append, Nat.reduceSub, Nat.reduceLeDiff, Fin.isValue, Int.reduceNatCast', Int.zero_add, Int.add_zero, decide_true, decide_false, implies_true, forall_const, true_or, or_true, or_false, false_or, false_and, and_false, Int.toNat_natCast, ↓oF_37_0, ↓oF_37_1, ↓oF_37_2, ↓oF_37_3, ↓aF_38, ↓oF_37_4, ↓aF_39, ↓oF_37_5, ↓oF_37_6, ↓aF_40, ↓oF_37_7, ↓oF_37_8, ↓aF_41, ↓oF_37_9, ↓aF_42, ↓oF_37_10, ↓aF_43, ↓oF_37_11, ↓aF_44, ↓oF_37_12, ↓aF_45, ↓oF_37_13, ↓aF_46, ↓oF_37_14, ↓aF_47, ↓oF_37_15, ↓aF_48, ↓oF_37_16, ↓aF_49, ↓oF_37_17, ↓oF_37_18, ↓aF_50, ↓oF_37_19, ↓aF_51, ↓oF_37_20, ↓aF_52, ↓oF_37_21, ↓aF_53, ↓oF_37_22, ↓aF_54, ↓oF_37_23, ↓aF_55, ↓oF_37_24, ↓aF_56, ↓oF_37_25, ↓aF_57, ↓oF_37_26, ↓oF_37_27, ↓oF_37_28, ↓aF_58, ↓oF_37_29, ↓aF_59, ↓oF_37_30, ↓aF_60, ↓oF_37_31, ↓aF_61, ↓oF_37_32, ↓oF_37_33, ↓oF_37_34, ↓oF_37_35, ↓aF_62, ↓oF_37_36, ↓oF_37_37, ↓aF_63, ↓oF_37_38, ↓oF_37_39, ↓aF_64, ↓oF_37_40, ↓aF_65, ↓oF_37_41, ↓aF_66, oC_0, oC_1, oC_4, oC_11, oC_16, oC_18, oC_20, oC_23, oC_25, oC_26, oC_29, oC_31, oC_33, oC_35, oC_37, isT_29, isT_31, isT_33, isT_35, isL_16, isL_18, isL_26, ↓e_M_findRaws, ↓e_M_prune, ↓e_M_refine, ↓e_M_stateOf]
    have q1 : c < 101 → NumI σ (updR u 55 (up1 (u 55) c.toNat (-1))) (c + 1) := fun h => by
      obtain ⟨w, h1, h2, h3, h4, h5⟩ := hu
      refine ⟨w, h1, ⟨fun k k1 k2 k3 k4 k5 k6 k7 k8 => by rw [updR_ne _ _ _ _ k7]; exact h2.1 k k1 k2 k3 k4 k5 k6 k7 k8, fun j hj => by rw [updR_ne _ 55 37 _ (by decide)]; exact h2.2 j hj⟩, by rw [updR_ne _ 55 37 _ (by decide)]; exact h3, by rw [updR_ne _ 55 53 _ (by decide)]; exact h4, fun t ht => ?_⟩
      rw [updR_eq, up1_app]
      split
      · rfl
      · exact h5 t (by omega)
    have q2 : 101 ≤ c → NumI σ u 101 := fun h => by rw [show (101 : Int) = c by omega]; exact hu
    have q3 : 101 ≤ c → u 44 0 = 0 ∨ (u 44 0 = 1 ∧ 0 ≤ u 45 0 ∧ u 45 0 ≤ 100) := fun h => (num_pre (q2 h)).1
    have q4 : 101 ≤ c → u 37 17 = 0 := fun h => (num_pre (q2 h)).2.1
    have q5 : 101 ≤ c → ∀ t : Nat, t ≤ 100 → -2147483648 ≤ u 55 t ∧ u 55 t < 2147483648 := fun h t ht => by rw [(num_pre (q2 h)).2.2 t ht]; omega
    have q6 : 101 ≤ c → ∀ v r, StateSt u v 0 (-1) 0 r → BfsI σ v 0 := fun h v r hp => bfs_start (q2 h) hp
    clear hQ
    (try simp only [rI_iff, rL_iff] at *)
    repeat' (with_reducible (first | assumption | apply And.intro | intro _))
    all_goals first | omega | with_reducible assumption | exact True.intro | skip
    all_goals first
      | omega
      | exact q1 (by assumption)
      | exact Or.inr (q3 (by omega))
      | exact q3 (by omega)
      | exact (q5 (by omega) _ (by assumption)).1
      | exact (q5 (by omega) _ (by assumption)).2
      | (have hs1 := q4 (by omega); omega)
      | exact q6 (by omega) _ _ (by assumption)
      | exact ⟨_, rfl⟩
      | exact ⟨_, _, rfl⟩
      | trace_state
  · intro L st u hI
    obtain ⟨v1, i, rfl, rfl, hbn, hi, hu⟩ := hI
    simp only [↓wpN_go, jmp_e, ↓wp_aload_n0, ↓wp_baload, ↓wp_bipush, ↓wp_dup, ↓wp_getfield, ↓wp_goto, ↓wp_iadd, ↓wp_iaload, ↓wp_iastore, ↓wp_icmp_ge, ↓wp_icmp_le, ↓wp_icmp_ne, ↓wp_iconst, ↓wp_if_eq, ↓wp_iinc, ↓wp_iload_n1, ↓wp_iload_n2, ↓wp_invokevirtual, ↓wp_ireturn1, ↓wp_istore_n1, ↓wp_istore_n2, ↓wp_putfield, wp_nil, ↓ldI_0, ↓ldI_s, ↓ldL_0, ↓ldL_s, ↓ldR_0, ↓ldR_s, sto1_0, sto1_1, sto1_s, sto2_0, sto2_1, sto2_s, isLong_i, isLong_l, isLong_r, ↓popI_c, ↓popL_c, ↓popR_c, ↓popN_0, ↓popN_s, catS_n, catS_c, psh_s, psh_n, fldV_n, fldV_s, ↓tgt_e, sw_n, ↓sw_c, ↓lk1_h, ↓lk1_m, ↓atC_h, ↓atC_m, ↓atC_n, ltO_n, ltO_s, updR_eq, updR_ne, gI_0i, gI_0l, gI_s, ltM_iff, List.cons.injEq, Sum.inl.injEq, Sum.inr.injEq, Option.some.injEq, exists_eq_left, exists_eq_left', exists_eq_right, exists_eq_right', exists_and_left, exists_and_right, exists_eq, exists_const, and_assoc, ↓j_M_build_0, ↓j_M_build_12, ↓j_M_build_51, ↓j_M_build_58, ↓j_M_build_77, ↓j_M_build_87, ↓j_M_build_147, ↓j_M_build_149, ↓j_M_build_168, ↓f_M_160, ↓f_M_163, ↓f_M_179, ↓f_M_182, ↓f_M_29, ↓f_M_32, ↓f_M_35, ↓f_M_54, ↓f_M_57, ↓f_M_69, ↓f_M_72, ↓f_M_75, List.length_cons, List.length_nil, Nat.zero_add, Nat.reduceAdd, Int.reduceAdd, Int.reduceNeg, Int.reduceToNat, Int.reduceLE, Int.reduceLT, true_and, and_true, Nat.reduceLT, reduceIte, Nat.reduceEqDiff, ne_eq, not_false_eq_true, false_implies, true_implies, Bool.false_eq_true, reduceCtorEq, List.cons_append, List.nil_append, Nat.reduceSub, Nat.reduceLeDiff, Fin.isValue, Int.reduceNatCast', Int.zero_add, Int.add_zero, decide_true, decide_false, implies_true, forall_const, true_or, or_true, or_false, false_or, false_and, and_false, Int.toNat_natCast, ↓oF_37_0, ↓oF_37_1, ↓oF_37_2, ↓oF_37_3, ↓aF_38, ↓oF_37_4, ↓aF_39, ↓oF_37_5, ↓oF_37_6, ↓aF_40, ↓oF_37_7, ↓oF_37_8, ↓aF_41, ↓oF_37_9, ↓aF_42, ↓oF_37_10, ↓aF_43, ↓oF_37_11, ↓aF_44, ↓oF_37_12, ↓aF_45, ↓oF_37_13, ↓aF_46, ↓oF_37_14, ↓aF_47, ↓oF_37_15, ↓aF_48, ↓oF_37_16, ↓aF_49, ↓oF_37_17, ↓oF_37_18, ↓aF_50, ↓oF_37_19, ↓aF_51, ↓oF_37_20, ↓aF_52, ↓oF_37_21, ↓aF_53, ↓oF_37_22, ↓aF_54, ↓oF_37_23, ↓aF_55, ↓oF_37_24, ↓aF_56, ↓oF_37_25, ↓aF_57, ↓oF_37_26, ↓oF_37_27, ↓oF_37_28, ↓aF_58, ↓oF_37_29, ↓aF_59, ↓oF_37_30, ↓aF_60, ↓oF_37_31, ↓aF_61, ↓oF_37_32, ↓oF_37_33, ↓oF_37_34, ↓oF_37_35, ↓aF_62, ↓oF_37_36, ↓oF_37_37, ↓aF_63, ↓oF_37_38, ↓oF_37_39, ↓aF_64, ↓oF_37_40, ↓aF_65, ↓oF_37_41, ↓aF_66, oC_0, oC_1, oC_4, oC_11, oC_16, oC_18, oC_20, oC_23, oC_25, oC_26, oC_29, oC_31, oC_33, oC_35, oC_37, isT_29, isT_31, isT_33, isT_35, isL_16, isL_18, isL_26, ↓e_M_findRaws, ↓e_M_prune, ↓e_M_refine, ↓e_M_stateOf]
    have q9 : u 37 17 ≤ i → WtI σ u 0 := fun h => bfs_end h hu
    by_cases hc : i < u 37 17
    · obtain ⟨w, hP, hF, hK⟩ := hu
      obtain ⟨k1, k2, k3, G, k4, k5⟩ := hK.resolve_left (fun q => by omega)
      have hC := part_cls hP k4
      obtain ⟨r44, r45, r42, r43, r7⟩ := hF.rows
      have ew0 : u 42 (u 56 i.toNat).toNat = nxM w (2 * (u 56 ((2 * i).toNat / 2)).toNat + (2 * i).toNat % 2) := by
        unfold nxM
        rw [if_pos (by omega), r42]
        congr 1
        rw [show (2 * i).toNat / 2 = i.toNat by omega]
        omega
      have p0 := bld_pre hC k5 (by omega) ew0
      rw [show (2 * i).toNat / 2 = i.toNat by omega] at p0
      obtain ⟨p1, p2, p3, p4⟩ := p0
      have st0 : ∀ v r, StateSt u v (u 42 (u 56 i.toNat).toNat) i 0 r → BldI w (updR v 50 (up1 (v 50) i.toNat r)) G (2 * i + 1) ∧ u 37 17 ≤ v 37 17 ∧ v 56 i.toNat = u 56 i.toNat := fun v r hp => by
        have h1 := bld_set (m := 2 * i) (x := updR v 50 (up1 (v 50) i.toNat r)) hC k5 (by omega) (by
          rw [← ew0, show (2 * i).toNat / 2 = i.toNat by omega, show (((2 * i).toNat % 2 : Nat) : Int) = 0 by omega, show ((i.toNat : Nat) : Int) = i by omega]
          exact hp) ⟨fun k k1 k2 => updR_ne _ _ _ _ k1, by rw [gM_s0]; congr 1; omega⟩
        have h2 := h1.2.2 i.toNat (by omega)
        rw [updR_ne _ 50 56 _ (by decide)] at h2
        have h3 := h1.2.1
        rw [updR_ne _ 50 37 _ (by decide)] at h3
        exact ⟨h1.1, h3, h2⟩
      have ew1 : ∀ v r, StateSt u v (u 42 (u 56 i.toNat).toNat) i 0 r → v 43 (v 56 i.toNat).toNat = nxM w (2 * (updR v 50 (up1 (v 50) i.toNat r) 56 ((2 * i + 1).toNat / 2)).toNat + (2 * i + 1).toNat % 2) := fun v r hp => by
        obtain ⟨h1, h2, h3⟩ := st0 v r hp
        have x43 : updR v 50 (up1 (v 50) i.toNat r) 43 = v 43 := updR_ne _ 50 43 _ (by decide)
        unfold nxM
        rw [if_neg (by omega), ← h1.1.rows.2.2.2.1, x43, updR_ne _ 50 56 _ (by decide)]
        congr 1
        rw [show (2 * i + 1).toNat / 2 = i.toNat by omega]
        omega
      have st0b : ∀ v r, StateSt u v (u 42 (u 56 i.toNat).toNat) i 0 r → (v 43 (v 56 i.toNat).toNat = -1 ∨ (0 ≤ v 43 (v 56 i.toNat).toNat ∧ v 43 (v 56 i.toNat).toNat < 11264 ∧ (v 44 (v 43 (v 56 i.toNat).toNat).toNat = 0 ∨ (v 44 (v 43 (v 56 i.toNat).toNat).toNat = 1 ∧ 0 ≤ v 45 (v 43 (v 56 i.toNat).toNat).toNat ∧ v 45 (v 43 (v 56 i.toNat).toNat).toNat ≤ 100)))) ∧ (0 < v 37 17 ∧ v 37 17 ≤ 100) ∧ (∀ c : Nat, v 55 c = -1 → caZ (updR v 50 (up1 (v 50) i.toNat r)) (v 43 (v 56 i.toNat).toNat) = c → 0 ≤ v 37 17 ∧ v 37 17 < 100) ∧ (0 ≤ v 56 i.toNat ∧ v 56 i.toNat < 11264) ∧ (∀ c : Nat, c < 101 → rI (v 55 c)) := fun v r hp => by
        obtain ⟨h1, h2, h3⟩ := st0 v r hp
        have x37 : updR v 50 (up1 (v 50) i.toNat r) 37 = v 37 := updR_ne _ 50 37 _ (by decide)
        have x44 : updR v 50 (up1 (v 50) i.toNat r) 44 = v 44 := updR_ne _ 50 44 _ (by decide)
        have x45 : updR v 50 (up1 (v 50) i.toNat r) 45 = v 45 := updR_ne _ 50 45 _ (by decide)
        have x55 : updR v 50 (up1 (v 50) i.toNat r) 55 = v 55 := updR_ne _ 50 55 _ (by decide)
        have x56 : updR v 50 (up1 (v 50) i.toNat r) 56 = v 56 := updR_ne _ 50 56 _ (by decide)
        have h4 := bld_pre hC h1 (by rw [x37]; omega) (ew1 v r hp)
        rw [x37, x44, x45, x55, x56, show (2 * i + 1).toNat / 2 = i.toNat by omega] at h4
        exact ⟨h4.1, h4.2.1, h4.2.2.1, h4.2.2.2, state_ri hp (by unfold rI; omega) k3⟩
      have st1 : ∀ v r v2 r2, StateSt u v (u 42 (u 56 i.toNat).toNat) i 0 r → StateSt (updR v 50 (up1 (v 50) i.toNat r)) v2 (v 43 (v 56 i.toNat).toNat) i 1 r2 → BfsI σ (updR v2 51 (up1 (v2 51) i.toNat r2)) (i + 1) := fun v r v2 r2 hp hp2 => by
        obtain ⟨h1, h2, h3⟩ := st0 v r hp
        have h5 := st0b v r hp
        have x37 : updR v 50 (up1 (v 50) i.toNat r) 37 = v 37 := updR_ne _ 50 37 _ (by decide)
        have x55 : updR v 50 (up1 (v 50) i.toNat r) 55 = v 55 := updR_ne _ 50 55 _ (by decide)
        have h4 := bld_set (m := 2 * i + 1) (x := updR v2 51 (up1 (v2 51) i.toNat r2)) hC h1 (by rw [x37]; omega) (by
          rw [← ew1 v r hp, show (2 * i + 1).toNat / 2 = i.toNat by omega, show (((2 * i + 1).toNat % 2 : Nat) : Int) = 1 by omega, show ((i.toNat : Nat) : Int) = i by omega]
          exact hp2) ⟨fun k k1 k2 => updR_ne _ _ _ _ k2, by rw [gM_s1]; congr 1; omega⟩
        have h6 := h4.2.1
        rw [x37] at h6
        refine ⟨w, hP, h4.1.1, Or.inr ⟨k1, by omega, ?_, G, k4, by rw [show 2 * (i + 1) = 2 * i + 1 + 1 by omega]; exact h4.1⟩⟩
        rw [updR_ne _ 51 55 _ (by decide)]
        exact state_ri hp2 (by rw [x37]; unfold rI; omega) (by rw [x55]; exact h5.2.2.2.2)
      have k3' : ∀ c : Nat, c ≤ 100 → -2147483648 ≤ u 55 c ∧ u 55 c < 2147483648 := fun c hc => k3 c (by omega)
      have st0c : ∀ v r, StateSt u v (u 42 (u 56 i.toNat).toNat) i 0 r → ∀ c : Nat, c ≤ 100 → -2147483648 ≤ v 55 c ∧ v 55 c < 2147483648 := fun v r h c hc => (st0b v r h).2.2.2.2 c (by omega)
      clear hQ q9 hK ew0 ew1 k3
      (try simp only [rI_iff, rL_iff] at *)
      repeat' (with_reducible (first | assumption | apply And.intro | intro _))
      all_goals first | omega | with_reducible assumption | exact True.intro | skip
      all_goals first
        | omega
        | exact (k3' _ (by assumption)).1
        | exact (k3' _ (by assumption)).2
        | exact (p3 _ (by assumption) (by assumption)).1
        | exact (p3 _ (by assumption) (by assumption)).2
        | (have hs1 := (st0b _ _ (by assumption)).2.2.2.1; omega)
        | exact (st0c _ _ (by assumption) _ (by assumption)).1
        | exact (st0c _ _ (by assumption) _ (by assumption)).2
        | exact ((st0b _ _ (by assumption)).2.2.1 _ (by assumption) (by assumption)).1
        | exact ((st0b _ _ (by assumption)).2.2.1 _ (by assumption) (by assumption)).2
        | exact (st0b _ _ (by assumption)).1
        | (have hs1 := (st0b _ _ (by assumption)).2.1; omega)
        | exact st1 _ _ _ _ (by assumption) (by assumption)
        | exact ⟨_, rfl⟩
        | exact ⟨_, _, rfl⟩
        | trace_state
    · have q9 := q9 (by omega)
      have q10 := wt_r hi q9
      clear hQ hu
      (try simp only [rI_iff, rL_iff] at *)
      repeat' (with_reducible (first | assumption | apply And.intro | intro _))
      all_goals first | omega | with_reducible assumption | exact True.intro | skip
      all_goals first
        | omega
        | exact q9
        | exact ⟨_, rfl⟩
        | exact ⟨_, _, rfl⟩
        | trace_state
  · intro L st u hI
    obtain ⟨v1, i, rfl, rfl, hbn, hi, hu⟩ := hI
    simp only [↓wpN_go, jmp_e, ↓wp_aload_n0, ↓wp_baload, ↓wp_bipush, ↓wp_dup, ↓wp_getfield, ↓wp_goto, ↓wp_iadd, ↓wp_iaload, ↓wp_iastore, ↓wp_icmp_ge, ↓wp_icmp_le, ↓wp_icmp_ne, ↓wp_iconst, ↓wp_if_eq, ↓wp_iinc, ↓wp_iload_n1, ↓wp_iload_n2, ↓wp_invokevirtual, ↓wp_ireturn1, ↓wp_istore_n1, ↓wp_istore_n2, ↓wp_putfield, wp_nil, ↓ldI_0, ↓ldI_s, ↓ldL_0, ↓ldL_s, ↓ldR_0, ↓ldR_s, sto1_0, sto1_1, sto1_s, sto2_0, sto2_1, sto2_s, isLong_i, isLong_l, isLong_r, ↓popI_c, ↓popL_c, ↓popR_c, ↓popN_0, ↓popN_s, catS_n, catS_c, psh_s, psh_n, fldV_n, fldV_s, ↓tgt_e, sw_n, ↓sw_c, ↓lk1_h, ↓lk1_m, ↓atC_h, ↓atC_m, ↓atC_n, ltO_n, ltO_s, updR_eq, updR_ne, gI_0i, gI_0l, gI_s, ltM_iff, List.cons.injEq, Sum.inl.injEq, Sum.inr.injEq, Option.some.injEq, exists_eq_left, exists_eq_left', exists_eq_right, exists_eq_right', exists_and_left, exists_and_right, exists_eq, exists_const, and_assoc, ↓j_M_build_0, ↓j_M_build_12, ↓j_M_build_51, ↓j_M_build_58, ↓j_M_build_77, ↓j_M_build_87, ↓j_M_build_147, ↓j_M_build_149, ↓j_M_build_168, ↓f_M_160, ↓f_M_163, ↓f_M_179, ↓f_M_182, ↓f_M_29, ↓f_M_32, ↓f_M_35, ↓f_M_54, ↓f_M_57, ↓f_M_69, ↓f_M_72, ↓f_M_75, List.length_cons, List.length_nil, Nat.zero_add, Nat.reduceAdd, Int.reduceAdd, Int.reduceNeg, Int.reduceToNat, Int.reduceLE, Int.reduceLT, true_and, and_true, Nat.reduceLT, reduceIte, Nat.reduceEqDiff, ne_eq, not_false_eq_true, false_implies, true_implies, Bool.false_eq_true, reduceCtorEq, List.cons_append, List.nil_append, Nat.reduceSub, Nat.reduceLeDiff, Fin.isValue, Int.reduceNatCast', Int.zero_add, Int.add_zero, decide_true, decide_false, implies_true, forall_const, true_or, or_true, or_false, false_or, false_and, and_false, Int.toNat_natCast, ↓oF_37_0, ↓oF_37_1, ↓oF_37_2, ↓oF_37_3, ↓aF_38, ↓oF_37_4, ↓aF_39, ↓oF_37_5, ↓oF_37_6, ↓aF_40, ↓oF_37_7, ↓oF_37_8, ↓aF_41, ↓oF_37_9, ↓aF_42, ↓oF_37_10, ↓aF_43, ↓oF_37_11, ↓aF_44, ↓oF_37_12, ↓aF_45, ↓oF_37_13, ↓aF_46, ↓oF_37_14, ↓aF_47, ↓oF_37_15, ↓aF_48, ↓oF_37_16, ↓aF_49, ↓oF_37_17, ↓oF_37_18, ↓aF_50, ↓oF_37_19, ↓aF_51, ↓oF_37_20, ↓aF_52, ↓oF_37_21, ↓aF_53, ↓oF_37_22, ↓aF_54, ↓oF_37_23, ↓aF_55, ↓oF_37_24, ↓aF_56, ↓oF_37_25, ↓aF_57, ↓oF_37_26, ↓oF_37_27, ↓oF_37_28, ↓aF_58, ↓oF_37_29, ↓aF_59, ↓oF_37_30, ↓aF_60, ↓oF_37_31, ↓aF_61, ↓oF_37_32, ↓oF_37_33, ↓oF_37_34, ↓oF_37_35, ↓aF_62, ↓oF_37_36, ↓oF_37_37, ↓aF_63, ↓oF_37_38, ↓oF_37_39, ↓aF_64, ↓oF_37_40, ↓aF_65, ↓oF_37_41, ↓aF_66, oC_0, oC_1, oC_4, oC_11, oC_16, oC_18, oC_20, oC_23, oC_25, oC_26, oC_29, oC_31, oC_33, oC_35, oC_37, isT_29, isT_31, isT_33, isT_35, isL_16, isL_18, isL_26, ↓e_M_findRaws, ↓e_M_prune, ↓e_M_refine, ↓e_M_stateOf]
    have q1 : i < 100 → WtI σ (updR u 57 (up1 (u 57) i.toNat 0)) (i + 1) := fun h => by
      obtain ⟨w, u0, f, h1, h2, h3, h4, h5⟩ := hu
      refine ⟨w, u0, up1 f i.toNat 0, h1, h2, h3, by rw [h4, updR_twice, updR_eq], fun s hs => ?_⟩
      rw [up1_app]
      split
      · rfl
      · exact h5 s (by omega)
    have q10 := wt_r hi hu
    have q2 : 100 ≤ i → Q (some (.inl (u 37 17))) (updR (updR u 37 (up1 (u 37) 32 0)) 37 (up1 (up1 (u 37) 32 0) 27 0)) := fun h => hQ _ _ (wt_end hbn h hu rfl).1
    clear hQ
    (try simp only [rI_iff, rL_iff] at *)
    repeat' (with_reducible (first | assumption | apply And.intro | intro _))
    all_goals first | omega | with_reducible assumption | exact True.intro | skip
    all_goals first
      | omega
      | exact q1 (by assumption)
      | exact q2 (by omega)
      | (simp only [up1_ne _ _ _ _ (show (17 : Nat) ≠ 27 by decide), up1_ne _ _ _ _ (show (17 : Nat) ≠ 32 by decide)]; exact q2 (by omega))
      | exact ⟨_, rfl⟩
      | exact ⟨_, _, rfl⟩
      | trace_state
