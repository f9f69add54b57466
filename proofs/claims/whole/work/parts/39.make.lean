/-! the maker: its groups are the states of the language of the bans -/
def dOf (ks : Int → Int → Int) : Int → Bool → Int := fun s b => ks s (b.toNat : Int)
theorem exp_wire {ks : Int → Int → Int} {C : Nat} {K0 cnt : Int} {keyA plc nx : Nat → Int} (h : ExpI ks C K0 cnt keyA plc nx (2 * cnt)) : Wire cnt nx ∧ OrdW cnt nx := by
  refine ⟨fun π hπ => ?_, fun p hp hc => ?_⟩
  · have := h.2.2.2.2.2.1 π hπ
    exact ⟨this.1, this.2.1⟩
  · obtain ⟨π, h1, h2, h3, h4⟩ := h.2.2.2.2.2.2 p hp hc
    exact ⟨π, h2, h3, h4⟩
theorem exp_bis {ks : Int → Int → Int} {C : Nat} {K0 cnt : Int} {keyA plc nx : Nat → Int} (h : ExpI ks C K0 cnt keyA plc nx (2 * cnt)) (w : List Bool) : LgD (nxB nx) 0 w ↔ LgD (dOf ks) K0 w := by
  refine lg_bis (R := fun s t => (s = -1 ∧ t = -1) ∨ ∃ i : Nat, (i : Int) < cnt ∧ s = i ∧ t = keyA i) (fun s t hr => ?_) w 0 K0 (Or.inr ⟨0, by have := h.1.1; omega, rfl, h.2.1.symm⟩)
  rcases hr with hr | ⟨i, hi, rfl, rfl⟩
  · exact Or.inl hr
  · have hk := h.2.2.1 i hi
    refine Or.inr ⟨by omega, by omega, fun b => ?_⟩
    have hb : b.toNat ≤ 1 := by cases b <;> decide
    obtain ⟨a1, a2, a3, a4⟩ := h.2.2.2.2.2.1 (2 * i + b.toNat) (by omega)
    rw [show (2 * i + b.toNat) / 2 = i by omega, show (2 * i + b.toNat) % 2 = b.toNat by omega] at a3 a4
    rw [nxB_nat]
    by_cases e : nx (2 * i + b.toNat) = -1
    · exact Or.inl ⟨e, a3 e⟩
    · refine Or.inr ⟨(nx (2 * i + b.toNat)).toNat, by omega, by omega, ?_⟩
      show ks (keyA i) _ = _
      rw [a4 e]
/-- what the groups tell: nothing is good; a wire; too many states -/
def MadeOK (L : List Bool → Prop) (cnt G : Int) (nx g : Nat → Int) : Prop := NumS cnt g ∧ 0 ≤ G ∧ G ≤ 100 ∧ (∀ F, QuoW cnt nx g F → Wire G F ∧ OrdW G F) ∧ ((G = 0 ∧ ∀ w, ¬ L w) ∨ (0 < G ∧ ∀ F, QuoW cnt nx g F → Canon G F ∧ ∀ w, L w ↔ runB F 0 w ≠ -1))
theorem made_0 {L : List Bool → Prop} {cnt : Int} {nx g : Nat → Int} (h0 : 0 < cnt) (hw : Wire cnt nx) (hL : ∀ w, LgD (nxB nx) 0 w ↔ L w) (hD : DropOK cnt nx g) (hg : g 0 = -1) : MadeOK L cnt 0 nx g := by
  have hmx : ∀ n : Nat, (n : Int) ≤ cnt → mxF g n ≤ 1 := by
    intro n
    induction n with
    | zero => intro _; rw [mxF]; omega
    | succ n ih =>
      intro hn
      have h1 := ih (by omega)
      have h2 := hD.1 n (by omega)
      rw [mxF]
      split <;> omega
  refine ⟨⟨fun i hi => ?_, ?_⟩, by omega, by omega, fun F _ => ⟨fun π hπ => by omega, fun p hp hc => by omega⟩, Or.inl ⟨rfl, fun w q => ?_⟩⟩
  · have := hD.1 i hi
    have := mx_0 g i
    omega
  · have := hmx cnt.toNat (by omega)
    omega
  · have h1 := (hL w).mpr q
    have h2 := (alive_good (i := 0) hw hD.2 (by omega)).mpr h1.good
    exact alZ_t.mp h2 hg
theorem run_L {L : List Bool → Prop} {cnt : Int} {nx g : Nat → Int} (h0 : 0 < cnt) (hw : Wire cnt nx) (hL : ∀ w, LgD (nxB nx) 0 w ↔ L w) (hA : AliveOK cnt nx (alZ (-1) g)) (hg : g 0 ≠ -1) (w : List Bool) : L w ↔ runB (alN (alZ (-1) g) nx) 0 w ≠ -1 := by
  rw [← hL w]
  exact lg_run hw hA w 0 (by omega) (alZ_t.mpr hg)
theorem made_1 {L : List Bool → Prop} {cnt G : Int} {nx g0 g : Nat → Int} (h0 : 0 < cnt) (hw : Wire cnt nx) (ho : OrdW cnt nx) (hL : ∀ w, LgD (nxB nx) 0 w ↔ L w) (hD : DropOK cnt nx g0) (hg : g0 0 ≠ -1) (hp : PartG cnt nx g0 g G) (hs : StabP cnt nx g) : MadeOK L cnt G nx g := by
  have hF : ∀ F, QuoW cnt nx g F → 0 < G ∧ Canon G F ∧ ∀ w, runB F 0 w = -1 ↔ runB (alN (alZ (-1) g0) nx) 0 w = -1 := fun F hq => quo_canon h0 hw ho hD.2 hp.2.2.1 hp.1 hs hp.2.2.2 hq (alZ_t.mpr hg)
  have hm := mx_0 g cnt.toNat
  have h1 := hp.1.1
  have h2 := hp.2.1
  have hG : 0 < G := by
    have h3 := mx_mono g (show 1 ≤ cnt.toNat by omega)
    have h4 := hp.1.2 0 (by omega)
    have h5 := (hp.2.2.1 0 (by omega)).mpr (alZ_t.mpr hg)
    rw [mxF] at h4
    rw [mxF, mxF, if_pos (by omega)] at h3
    omega
  refine ⟨⟨hp.1.2, by omega⟩, by omega, h2, fun F hq => ⟨(hF F hq).2.1.1, (hF F hq).2.1.2.1⟩, Or.inr ⟨hG, fun F hq => ⟨(hF F hq).2.1, fun w => ?_⟩⟩⟩
  rw [run_L h0 hw hL hD.2 hg w]
  exact not_congr ((hF F hq).2.2 w).symm
theorem made_many {L : List Bool → Prop} {cnt G : Int} {nx g0 g : Nat → Int} {b : Nat} (h0 : 0 < cnt) (hw : Wire cnt nx) (ho : OrdW cnt nx) (hL : ∀ w, LgD (nxB nx) 0 w ↔ L w) (hD : DropOK cnt nx g0) (hg : g0 0 ≠ -1) (hp : PartG cnt nx g0 g G) (hb : b ≤ 1) (hm : Many1 cnt nx g b) : ManyL L := by
  obtain ⟨v, h1, h2⟩ := hm
  exact many_yes hw ho hD.2 hp.2.2.1 hp.2.2.2 h1 h2 hb (run_L h0 hw hL hD.2 hg)
/-- the language of the bans, by keys -/
def LgK (σ : St) : List Bool → Prop := LgD (dOf (kS σ)) 1281
def MakeSt (σ τ : St) (r : Int) : Prop := (∀ k, k < 4 ∨ 10 < k → τ k = σ k) ∧ σ 4 6 ≤ τ 4 6 ∧ τ 4 6 ≤ σ 4 6 + 20402 ∧ (∀ c : Nat, c < 10201 → 0 ≤ τ 10 c ∧ τ 10 c < τ 4 6 + 101) ∧
  ((r = 1 ∧ 0 ≤ τ 4 7 ∧ τ 4 7 ≤ 2816 ∧ Wire (τ 4 7) (τ 7) ∧ MadeOK (LgK σ) (τ 4 7) (τ 4 8) (τ 7) (τ 8)) ∨ (r = 0 ∧ ManyL (LgK σ)))
def TabOK (σ : St) : Prop := ∀ c : Nat, c < 10201 → 0 ≤ σ 10 c ∧ σ 10 c < σ 4 6 + 101
theorem make_exp {σ u : St} (hT : TabOK σ) (h : ExpS σ u (2 * u 4 7)) : (0 < u 4 7 ∧ u 4 7 ≤ 2816) ∧ Wire (u 4 7) (u 7) ∧ OrdW (u 4 7) (u 7) ∧ (∀ i : Nat, (i : Int) < u 4 7 → u 8 i = 0) ∧ u 4 6 = σ 4 6 ∧ (∀ c : Nat, c < 10201 → 0 ≤ u 10 c ∧ u 10 c < u 4 6 + 101) ∧ (∀ w, LgD (nxB (u 7)) 0 w ↔ LgK σ w) ∧ ∀ k, k < 4 ∨ 10 < k → u k = σ k := by
  obtain ⟨h1, h2, h3, h4, h5, h6⟩ := h
  have h7 := exp_wire h4
  have h8 := exp_le h4
  have h9 := h4.1.1
  refine ⟨⟨by omega, by omega⟩, h7.1, h7.2, h5, h2, fun c hc => ?_, exp_bis h4, fun k hk => h1 k (by omega) (by omega) (by omega) (by omega) (by omega)⟩
  rw [h1 10 (by decide) (by decide) (by decide) (by decide) (by decide), h2]
  exact hT c hc
theorem make_dead {σ u : St} {g : Nat → Int} (hT : TabOK σ) (h : ExpS σ u (2 * u 4 7)) (hD : DropOK (u 4 7) (u 7) g) (hg : g 0 = -1) : MakeSt σ (updR (updR u 8 g) 4 (up1 (u 4) 8 0)) 1 := by
  obtain ⟨h1, h2, h3, h4, h5, h6, h7, h8⟩ := make_exp hT h
  have e4 : updR (updR u 8 g) 4 (up1 (u 4) 8 0) 4 = up1 (u 4) 8 0 := updR_eq _ _ _
  have e7 : updR (updR u 8 g) 4 (up1 (u 4) 8 0) 7 = u 7 := by rw [updR_ne _ 4 7 _ (by decide), updR_ne _ 8 7 _ (by decide)]
  have e8 : updR (updR u 8 g) 4 (up1 (u 4) 8 0) 8 = g := by rw [updR_ne _ 4 8 _ (by decide), updR_eq]
  have e10 : updR (updR u 8 g) 4 (up1 (u 4) 8 0) 10 = u 10 := by rw [updR_ne _ 4 10 _ (by decide), updR_ne _ 8 10 _ (by decide)]
  have f6 : up1 (u 4) 8 0 6 = u 4 6 := up1_ne _ _ _ _ (by decide)
  have f7 : up1 (u 4) 8 0 7 = u 4 7 := up1_ne _ _ _ _ (by decide)
  have f8 : up1 (u 4) 8 0 8 = 0 := up1_eq _ _ _
  unfold MakeSt
  rw [e4, e7, e8, e10, f6, f7, f8]
  refine ⟨fun k hk => ?_, by omega, by omega, h6, Or.inl ⟨rfl, by omega, by omega, h2, made_0 h1.1 h2 h7 hD hg⟩⟩
  rw [updR_ne _ _ _ _ (by omega), updR_ne _ _ _ _ (by omega)]
  exact h8 k hk
theorem make_ref {σ u τ : St} {g : Nat → Int} {r : Int} (hT : TabOK σ) (h : ExpS σ u (2 * u 4 7)) (hD : DropOK (u 4 7) (u 7) g) (hg : ¬ g 0 = -1) (hr : RefPost (updR (updR u 8 g) 4 (up1 (u 4) 8 1)) τ r) : MakeSt σ τ r := by
  obtain ⟨h1, h2, h3, h4, h5, h6, h7, h8⟩ := make_exp hT h
  have e4 : updR (updR u 8 g) 4 (up1 (u 4) 8 1) 4 = up1 (u 4) 8 1 := updR_eq _ _ _
  have e7 : updR (updR u 8 g) 4 (up1 (u 4) 8 1) 7 = u 7 := by rw [updR_ne _ 4 7 _ (by decide), updR_ne _ 8 7 _ (by decide)]
  have e8 : updR (updR u 8 g) 4 (up1 (u 4) 8 1) 8 = g := by rw [updR_ne _ 4 8 _ (by decide), updR_eq]
  have f6 : up1 (u 4) 8 1 6 = u 4 6 := up1_ne _ _ _ _ (by decide)
  have f7 : up1 (u 4) 8 1 7 = u 4 7 := up1_ne _ _ _ _ (by decide)
  obtain ⟨r1, r2, r3, r4, r5, r6⟩ := hr
  rw [e4] at r2 r3 r4 r6
  rw [e7, e8, f7] at r6
  rw [f6] at r3 r4
  have g7 : τ 4 7 = u 4 7 := by rw [r2 7 (by decide) (by decide), f7]
  have g77 : τ 7 = u 7 := by rw [r1 7 (by decide) (by decide) (by decide) (by decide), e7]
  refine ⟨fun k hk => ?_, by omega, by omega, r5, ?_⟩
  · rw [r1 k (by omega) (by omega) (by omega) (by omega), updR_ne _ _ _ _ (by omega), updR_ne _ _ _ _ (by omega)]
    exact h8 k hk
  · rw [g7, g77]
    rcases r6 with ⟨rfl, a1, a2⟩ | ⟨rfl, g', G, b, a1, a2, a3⟩
    · exact Or.inl ⟨rfl, by omega, by omega, h2, made_1 h1.1 h2 h3 h7 hD hg a1 a2⟩
    · exact Or.inr ⟨rfl, made_many h1.1 h2 h3 h7 hD hg a1 a2 a3⟩
def s_K_make : Spec := fun as σ Q => popR as fun c0 r0 => popR r0 fun c1 r1 => r1 = [] ∧ c0 = 4 ∧ c1 = 1 ∧ (BansOK (σ 1 3) (σ 1 4) (σ 1 2) (σ 1 5) (σ 2) (σ 3)) ∧ (0 ≤ σ 4 6 ∧ σ 4 6 ≤ 900000) ∧ (TabOK σ) ∧ ∀ τ r, MakeSt σ τ r → Q (some (.inl r)) τ
theorem e_K_make  (σ : St) (Q : Option AV → St → Prop) : s_K_make [.inr (.inr (some 4)), .inr (.inr (some 1))] σ Q = ((BansOK (σ 1 3) (σ 1 4) (σ 1 2) (σ 1 5) (σ 2) (σ 3)) ∧ (0 ≤ σ 4 6 ∧ σ 4 6 ≤ 900000) ∧ (TabOK σ) ∧ ∀ τ r, MakeSt σ τ r → Q (some (.inl r)) τ) := by
  show ([] = [] ∧ _) = _
  simp only [true_and]
set_option maxHeartbeats 4000000 in
set_option maxRecDepth 20000 in
theorem S_K_make {l : Launch} : Sat l y_K_make b_K_make 2 (some .boolean) 4 s_K_make := by
  refine sat_of (Φ := P_K) (κ := Q_K) (Γ := [(42, 5, 1, s_K_explore), (46, 5, 0, s_K_dropDead), (49, 5, 0, s_K_refine)]) (rt := 3) (by decide +kernel) P_K_ok Q_K_ok (by
    refine List.forall_mem_cons.mpr ⟨?_, List.forall_mem_cons.mpr ⟨?_, List.forall_mem_cons.mpr ⟨?_, fun _ h => absurd h List.not_mem_nil⟩⟩⟩
    · exact m_K_explore S_K_explore (by decide) l_K_42
    · exact m_K_dropDead S_K_dropDead (by decide) l_K_46
    · exact m_K_refine S_K_refine (by decide) l_K_49) (by simp) o_K_make ?_
  intro as σ Q hh0
  obtain ⟨c0, rr0, rfl, hh1⟩ := popR_inv hh0
  obtain ⟨c1, rr1, rfl, hh2⟩ := popR_inv hh1
  obtain ⟨hrE, rfl, rfl, hd, hB, hT, hQ⟩ := hh2
  subst hrE
  clear hh0 hh1
  refine ⟨Nat.le_of_ble_eq_true rfl, [], 14, ?_, cuts0⟩
  · rw [show entL 2 [.inr (.inr (some 4)), .inr (.inr (some 1))] = [.inr (.inr (some 4)), .inr (.inr (some 1))] from rfl]
    simp only [↓wpN_go, jmp_e, ↓wp_aload_n0, ↓wp_aload_n1, ↓wp_getfield, ↓wp_iaload, ↓wp_icmp_ne, ↓wp_iconst, ↓wp_invokevirtual, ↓wp_ireturn3, ↓wp_putfield, wp_nil, ↓ldI_0, ↓ldI_s, ↓ldL_0, ↓ldL_s, ↓ldR_0, ↓ldR_s, sto1_0, sto1_1, sto1_s, sto2_0, sto2_1, sto2_s, isLong_i, isLong_l, isLong_r, ↓popI_c, ↓popL_c, ↓popR_c, ↓popN_0, ↓popN_s, catS_n, catS_c, psh_s, psh_n, fldV_n, fldV_s, ↓tgt_e, sw_n, ↓sw_c, ↓lk1_h, ↓lk1_m, ↓atC_h, ↓atC_m, ↓atC_n, ltO_n, ltO_s, updR_eq, updR_ne, gI_0i, gI_0l, gI_s, ltM_iff, List.cons.injEq, Sum.inl.injEq, Sum.inr.injEq, Option.some.injEq, exists_eq_left, exists_eq_left', exists_eq_right, exists_eq_right', exists_and_left, exists_and_right, exists_eq, exists_const, and_assoc, ↓j_K_make_0, ↓j_K_make_26, ↓f_K_23, ↓f_K_39, List.length_cons, List.length_nil, Nat.zero_add, Nat.reduceAdd, Int.reduceAdd, Int.reduceNeg, Int.reduceToNat, Int.reduceLE, Int.reduceLT, true_and, and_true, Nat.reduceLT, reduceIte, Nat.reduceEqDiff, ne_eq, not_false_eq_true, false_implies, true_implies, Bool.false_eq_true, reduceCtorEq, List.cons_append, List.nil_append, Nat.reduceSub, Nat.reduceLeDiff, Fin.isValue, Int.reduceNatCast', Int.zero_add, Int.add_zero, decide_true, decide_false, implies_true, forall_const, true_or, or_true, or_false, false_or, false_and, and_false, Int.toNat_natCast, ↓oF_4_0, ↓aF_5, ↓oF_4_1, ↓aF_6, ↓oF_4_2, ↓aF_7, ↓oF_4_3, ↓aF_8, ↓oF_4_4, ↓aF_9, ↓oF_4_5, ↓aF_10, ↓oF_4_6, ↓oF_4_7, ↓oF_4_8, oC_0, oC_1, oC_4, oC_11, oC_16, oC_18, oC_20, oC_23, oC_25, oC_26, oC_29, oC_31, oC_33, oC_35, oC_37, isT_29, isT_31, isT_33, isT_35, isL_16, isL_18, isL_26, ↓e_K_explore, ↓e_K_dropDead, ↓e_K_refine]
    have q1 : ∀ u, ExpS σ u (2 * u 4 7) → (0 < u 4 7 ∧ u 4 7 ≤ 2816) ∧ Wire (u 4 7) (u 7) ∧ (∀ i : Nat, (i : Int) < u 4 7 → u 8 i = 0) ∧ u 4 6 = σ 4 6 ∧ (∀ c : Nat, c < 10201 → 0 ≤ u 10 c ∧ u 10 c < u 4 6 + 101) := fun u h => by
      obtain ⟨h1, h2, h3, h4, h5, h6, h7, h8⟩ := make_exp hT h
      exact ⟨h1, h2, h4, h5, h6⟩
    have q2 : ∀ u g, ExpS σ u (2 * u 4 7) → DropOK (u 4 7) (u 7) g → g 0 = -1 → Q (some (.inl 1)) (updR (updR u 8 g) 4 (up1 (u 4) 8 0)) := fun u g h hD hg => hQ _ _ (make_dead hT h hD hg)
    have q3 : ∀ u g, ExpS σ u (2 * u 4 7) → DropOK (u 4 7) (u 7) g → Is01 (u 4 7) g ∧ (g 0 = 0 ∨ g 0 = -1) := fun u g h hD => ⟨hD.1, hD.1 0 (by have := (q1 u h).1; omega)⟩
    have q4 : ∀ u g τ r, ExpS σ u (2 * u 4 7) → DropOK (u 4 7) (u 7) g → ¬ g 0 = -1 → RefPost (updR (updR u 8 g) 4 (up1 (u 4) 8 1)) τ r → Q (some (.inl r)) τ := fun u g τ r h hD hg hr => hQ _ _ (make_ref hT h hD hg hr)
    have q5 : ∀ w τ r, RefPost w τ r → r = 0 ∨ r = 1 := fun w τ r h => by
      rcases h.2.2.2.2.2 with h | h
      · exact Or.inr h.1
      · exact Or.inl h.1
    clear hQ
    simp only [show (0 : Int).toNat = 0 from rfl, up1_eq, up1_ne _ 8 7 _ (by decide), up1_ne _ 8 6 _ (by decide)]
    (try simp only [rI_iff, rL_iff] at *)
    repeat' (with_reducible (first | assumption | apply And.intro | intro _))
    all_goals first | omega | with_reducible assumption | exact True.intro | skip
    all_goals first
      | (have hs1 := (q1 _ (by assumption)).1; omega)
      | (have hs1 := (q1 _ (by assumption)).2.2.2.1; omega)
      | (have hs1 := (q3 _ _ (by assumption) (by assumption)).2; omega)
      | (have hs1 := q5 _ _ _ (by assumption); omega)
      | exact (q1 _ (by assumption)).2.1
      | exact (q1 _ (by assumption)).2.2.1
      | exact (q1 _ (by assumption)).2.2.1 _ (by assumption)
      | exact ((q1 _ (by assumption)).2.2.2.2 _ (by assumption)).1
      | exact ((q1 _ (by assumption)).2.2.2.2 _ (by assumption)).2
      | exact q2 _ _ (by assumption) (by assumption) (by assumption)
      | exact (q3 _ _ (by assumption) (by assumption)).1
      | exact q4 _ _ _ _ (by assumption) (by assumption) (by assumption) (by assumption)
