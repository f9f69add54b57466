/-! places that can't go on are dropped -/
theorem sv_down {d : Int → Bool → Int} : ∀ (n : Nat) (s : Int), SvD d (n + 1) s → SvD d n s
  | 0, _, h => h.1
  | n + 1, _, h => ⟨h.1, h.2.imp (sv_down n _) (sv_down n _)⟩
theorem sv_le {d : Int → Bool → Int} {n m : Nat} {s : Int} (h : n ≤ m) (hm : SvD d m s) : SvD d n s := by
  obtain ⟨k, rfl⟩ := Nat.le.dest h
  induction k with
  | zero => exact hm
  | succ k ih => exact ih (by omega) (sv_down (n + k) s hm)
def alZ (z : Int) (g : Nat → Int) (i : Nat) : Bool := decide (g i ≠ z)
theorem alZ_t {z : Int} {g : Nat → Int} {i : Nat} : alZ z g i = true ↔ g i ≠ z := by unfold alZ; exact decide_eq_true_iff
theorem alZ_f {z : Int} {g : Nat → Int} {i : Nat} : alZ z g i = false ↔ g i = z := by
  unfold alZ
  rw [decide_eq_false_iff_not]
  exact Classical.not_not
def DeadZ (z cnt : Int) (nx g : Nat → Int) : Prop := ∀ i : Nat, (i : Int) < cnt → g i = z → ∃ n, ¬ SvD (nxB nx) n i
def acZ (z : Int) (g : Nat → Int) (n : Nat) : Int := sumF (fun i => if g i = z then 0 else 1) n
theorem acZ_r (z : Int) (g : Nat → Int) (n : Nat) : 0 ≤ acZ z g n ∧ acZ z g n ≤ n := by
  have := sumF_bound (w := fun i => if g i = z then 0 else 1) (B := 1) (n := n) (fun s _ => by show 0 ≤ (if g s = z then (0 : Int) else 1) ∧ (if g s = z then (0 : Int) else 1) ≤ 1; split <;> omega)
  unfold acZ
  omega
theorem acZ_set {z : Int} {g : Nat → Int} {n i : Nat} (hi : i < n) (h : g i ≠ z) : acZ z (up1 g i z) n = acZ z g n - 1 := by
  unfold acZ
  have e : (fun k => if up1 g i z k = z then (0 : Int) else 1) = up1 (fun k => if g k = z then (0 : Int) else 1) i 0 := by
    funext k
    rw [up1_app, up1_app]
    by_cases e : k = i
    · rw [if_pos e, if_pos e, if_pos rfl]
    · rw [if_neg e, if_neg e]
  rw [e, sumF_up hi]
  show sumF _ n - (if g i = z then 0 else 1) + 0 = _
  rw [if_neg h]
  omega
theorem dead_one {z cnt : Int} {nx g : Nat → Int} {i : Nat} (hw : Wire cnt nx) (hi : (i : Int) < cnt) (h : DeadZ z cnt nx g) (hs : ∀ b : Bool, nx (2 * i + b.toNat) = -1 ∨ g (nx (2 * i + b.toNat)).toNat = z) : ∃ n, ¬ SvD (nxB nx) n i := by
  have key : ∀ b : Bool, ∃ n, ¬ SvD (nxB nx) n (nxB nx i b) := fun b => by
    have hb : b.toNat ≤ 1 := by cases b <;> decide
    have h1 := hw (2 * i + b.toNat) (by omega)
    rw [nxB_nat]
    by_cases e : nx (2 * i + b.toNat) = -1
    · exact ⟨0, fun q => q e⟩
    · have h2 := (hs b).resolve_left e
      have h3 := h (nx (2 * i + b.toNat)).toNat (by omega) h2
      rw [Int.toNat_of_nonneg (by omega)] at h3
      exact h3
  obtain ⟨n0, h0⟩ := key false
  obtain ⟨n1, h1⟩ := key true
  refine ⟨n0 + n1 + 1, fun q => ?_⟩
  rcases q.2 with q | q
  · exact h0 (sv_le (by omega) q)
  · exact h1 (sv_le (by omega) q)
theorem dead_set {z cnt : Int} {nx g : Nat → Int} {i : Nat} (hw : Wire cnt nx) (hi : (i : Int) < cnt) (h : DeadZ z cnt nx g) (hs : ∀ b : Bool, nx (2 * i + b.toNat) = -1 ∨ g (nx (2 * i + b.toNat)).toNat = z) : DeadZ z cnt nx (up1 g i z) := by
  intro j hj e
  by_cases e2 : j = i
  · subst e2
    exact dead_one hw hi h hs
  · rw [up1_ne _ _ _ _ e2] at e
    exact h j hj e
theorem alive_of {z cnt : Int} {nx g : Nat → Int} (h : DeadZ z cnt nx g) (h2 : ∀ i : Nat, (i : Int) < cnt → g i ≠ z → ∃ b : Bool, nx (2 * i + b.toNat) ≠ -1 ∧ g (nx (2 * i + b.toNat)).toNat ≠ z) : AliveOK cnt nx (alZ z g) := by
  refine ⟨fun i hi ha => ?_, fun i hi ha => h i hi (alZ_f.mp ha)⟩
  obtain ⟨b, h3, h4⟩ := h2 i hi (alZ_t.mp ha)
  exact ⟨b, h3, alZ_t.mpr h4⟩
def Is01 (cnt : Int) (g : Nat → Int) : Prop := ∀ i : Nat, (i : Int) < cnt → g i = 0 ∨ g i = -1
theorem ga_none {nx g : Nat → Int} {i b : Nat} (h : gaF nx g i b = -1) : nx (2 * i + b) = -1 ∨ g (nx (2 * i + b)).toNat = -1 := by
  unfold gaF at h
  split at h
  · next e => exact Or.inl e
  · exact Or.inr h
theorem ga_some {nx g : Nat → Int} {i b : Nat} (h : gaF nx g i b ≠ -1) : nx (2 * i + b) ≠ -1 ∧ g (nx (2 * i + b)).toNat ≠ -1 := by
  unfold gaF at h
  split at h
  · exact absurd rfl h
  · next e => exact ⟨e, h⟩
def s_K_groupAfter : Spec := fun as σ Q => popR as fun c0 r0 => popI r0 fun a r1 => popI r1 fun b r2 => r2 = [] ∧ c0 = 4 ∧ (0 ≤ σ 4 7 ∧ σ 4 7 ≤ 2816) ∧ (Wire (σ 4 7) (σ 7)) ∧ (0 ≤ a ∧ a < σ 4 7) ∧ (0 ≤ b ∧ b ≤ 1) ∧ Q (some (.inl (gaF (σ 7) (σ 8) a.toNat b.toNat))) σ
theorem e_K_groupAfter (a : Int) (b : Int) (σ : St) (Q : Option AV → St → Prop) : s_K_groupAfter [.inr (.inr (some 4)), .inl a, .inl b] σ Q = ((0 ≤ σ 4 7 ∧ σ 4 7 ≤ 2816) ∧ (Wire (σ 4 7) (σ 7)) ∧ (0 ≤ a ∧ a < σ 4 7) ∧ (0 ≤ b ∧ b ≤ 1) ∧ Q (some (.inl (gaF (σ 7) (σ 8) a.toNat b.toNat))) σ) := by
  show ([] = [] ∧ _) = _
  simp only [true_and]
set_option maxHeartbeats 4000000 in
set_option maxRecDepth 20000 in
theorem S_K_groupAfter {l : Launch} : Sat l y_K_groupAfter b_K_groupAfter 4 (some .int) 0 s_K_groupAfter := by
  refine sat_of (Φ := P_K) (κ := Q_K) (Γ := []) (rt := 1) (by decide +kernel) P_K_ok Q_K_ok (fun g hg => absurd hg List.not_mem_nil) (by simp) o_K_groupAfter ?_
  intro as σ Q hh0
  obtain ⟨c0, rr0, rfl, hh1⟩ := popR_inv hh0
  obtain ⟨a, rr1, rfl, hh2⟩ := popI_inv hh1
  obtain ⟨b, rr2, rfl, hh3⟩ := popI_inv hh2
  obtain ⟨hrE, rfl, hf, hw, ha, hb, hQ⟩ := hh3
  subst hrE
  clear hh0 hh1 hh2
  refine ⟨Nat.le_of_ble_eq_true rfl, [], 14, ?_, cuts0⟩
  · rw [show entL 4 [.inr (.inr (some 4)), .inl a, .inl b] = [.inr (.inr (some 4)), .inl a, .inl b, .inr (.inr none)] from rfl]
    simp only [↓wpN_go, jmp_e, ↓wp_aload_n0, ↓wp_getfield, ↓wp_goto, ↓wp_iadd, ↓wp_iaload, ↓wp_icmp_lt, ↓wp_iconst, ↓wp_if_lt, ↓wp_iload_n1, ↓wp_iload_n2, ↓wp_iload_n3, ↓wp_imul, ↓wp_ireturn1, ↓wp_istore_n3, wp_nil, ↓ldI_0, ↓ldI_s, ↓ldL_0, ↓ldL_s, ↓ldR_0, ↓ldR_s, sto1_0, sto1_1, sto1_s, sto2_0, sto2_1, sto2_s, isLong_i, isLong_l, isLong_r, ↓popI_c, ↓popL_c, ↓popR_c, ↓popN_0, ↓popN_s, catS_n, catS_c, psh_s, psh_n, fldV_n, fldV_s, ↓tgt_e, sw_n, ↓sw_c, ↓lk1_h, ↓lk1_m, ↓atC_h, ↓atC_m, ↓atC_n, ltO_n, ltO_s, updR_eq, updR_ne, gI_0i, gI_0l, gI_s, ltM_iff, List.cons.injEq, Sum.inl.injEq, Sum.inr.injEq, Option.some.injEq, exists_eq_left, exists_eq_left', exists_eq_right, exists_eq_right', exists_and_left, exists_and_right, exists_eq, exists_const, and_assoc, ↓j_K_groupAfter_0, ↓j_K_groupAfter_23, ↓j_K_groupAfter_27, ↓j_K_groupAfter_33, ↓f_K_20, ↓f_K_23, ↓f_K_36, List.length_cons, List.length_nil, Nat.zero_add, Nat.reduceAdd, Int.reduceAdd, Int.reduceNeg, Int.reduceToNat, Int.reduceLE, Int.reduceLT, true_and, and_true, Nat.reduceLT, reduceIte, Nat.reduceEqDiff, ne_eq, not_false_eq_true, false_implies, true_implies, Bool.false_eq_true, reduceCtorEq, List.cons_append, List.nil_append, Nat.reduceSub, Nat.reduceLeDiff, Fin.isValue, Int.reduceNatCast', Int.zero_add, Int.add_zero, decide_true, decide_false, implies_true, forall_const, true_or, or_true, or_false, false_or, false_and, and_false, Int.toNat_natCast, ↓oF_4_0, ↓aF_5, ↓oF_4_1, ↓aF_6, ↓oF_4_2, ↓aF_7, ↓oF_4_3, ↓aF_8, ↓oF_4_4, ↓aF_9, ↓oF_4_5, ↓aF_10, ↓oF_4_6, ↓oF_4_7, ↓oF_4_8, oC_0, oC_1, oC_4, oC_11, oC_16, oC_18, oC_20, oC_23, oC_25, oC_26, oC_29, oC_31, oC_33, oC_35, oC_37, isT_29, isT_31, isT_33, isT_35, isL_16, isL_18, isL_26]
    have h1 := hw (2 * a.toNat + b.toNat) (by omega)
    have e1 : (2 * a + b).toNat = 2 * a.toNat + b.toNat := by omega
    unfold gaF at hQ
    simp only [e1]
    generalize σ 7 (2 * a.toNat + b.toNat) = t at *
    (try simp only [rI_iff, rL_iff] at *)
    repeat' (with_reducible (first | assumption | apply And.intro | intro _))
    all_goals first | omega | with_reducible assumption | exact True.intro | skip
    all_goals first
      | (rw [if_pos (by omega)] at hQ; exact hQ)
      | (rw [if_neg (by omega)] at hQ; exact hQ)
def s_K_made : Spec := fun as σ Q => popR as fun c0 r0 => r0 = [] ∧ c0 = 4 ∧ Q (some (.inl (σ 4 8))) σ
theorem e_K_made  (σ : St) (Q : Option AV → St → Prop) : s_K_made [.inr (.inr (some 4))] σ Q = (Q (some (.inl (σ 4 8))) σ) := by
  show ([] = [] ∧ _) = _
  simp only [true_and]
set_option maxHeartbeats 4000000 in
set_option maxRecDepth 20000 in
theorem S_K_made {l : Launch} : Sat l y_K_made b_K_made 1 (some .int) 0 s_K_made := by
  refine sat_of (Φ := P_K) (κ := Q_K) (Γ := []) (rt := 1) (by decide +kernel) P_K_ok Q_K_ok (fun g hg => absurd hg List.not_mem_nil) (by simp) o_K_made ?_
  intro as σ Q hh0
  obtain ⟨c0, rr0, rfl, hh1⟩ := popR_inv hh0
  obtain ⟨hrE, rfl, hQ⟩ := hh1
  subst hrE
  clear hh0
  refine ⟨Nat.le_of_ble_eq_true rfl, [], 14, ?_, cuts0⟩
  · rw [show entL 1 [.inr (.inr (some 4))] = [.inr (.inr (some 4))] from rfl]
    simp only [↓wpN_go, jmp_e, ↓wp_aload_n0, ↓wp_getfield, ↓wp_ireturn1, wp_nil, ↓ldI_0, ↓ldI_s, ↓ldL_0, ↓ldL_s, ↓ldR_0, ↓ldR_s, sto1_0, sto1_1, sto1_s, sto2_0, sto2_1, sto2_s, isLong_i, isLong_l, isLong_r, ↓popI_c, ↓popL_c, ↓popR_c, ↓popN_0, ↓popN_s, catS_n, catS_c, psh_s, psh_n, fldV_n, fldV_s, ↓tgt_e, sw_n, ↓sw_c, ↓lk1_h, ↓lk1_m, ↓atC_h, ↓atC_m, ↓atC_n, ltO_n, ltO_s, updR_eq, updR_ne, gI_0i, gI_0l, gI_s, ltM_iff, List.cons.injEq, Sum.inl.injEq, Sum.inr.injEq, Option.some.injEq, exists_eq_left, exists_eq_left', exists_eq_right, exists_eq_right', exists_and_left, exists_and_right, exists_eq, exists_const, and_assoc, ↓j_K_made_0, ↓f_K_39, List.length_cons, List.length_nil, Nat.zero_add, Nat.reduceAdd, Int.reduceAdd, Int.reduceNeg, Int.reduceToNat, Int.reduceLE, Int.reduceLT, true_and, and_true, Nat.reduceLT, reduceIte, Nat.reduceEqDiff, ne_eq, not_false_eq_true, false_implies, true_implies, Bool.false_eq_true, reduceCtorEq, List.cons_append, List.nil_append, Nat.reduceSub, Nat.reduceLeDiff, Fin.isValue, Int.reduceNatCast', Int.zero_add, Int.add_zero, decide_true, decide_false, implies_true, forall_const, true_or, or_true, or_false, false_or, false_and, and_false, Int.toNat_natCast, ↓oF_4_0, ↓aF_5, ↓oF_4_1, ↓aF_6, ↓oF_4_2, ↓aF_7, ↓oF_4_3, ↓aF_8, ↓oF_4_4, ↓aF_9, ↓oF_4_5, ↓aF_10, ↓oF_4_6, ↓oF_4_7, ↓oF_4_8, oC_0, oC_1, oC_4, oC_11, oC_16, oC_18, oC_20, oC_23, oC_25, oC_26, oC_29, oC_31, oC_33, oC_35, oC_37, isT_29, isT_31, isT_33, isT_35, isL_16, isL_18, isL_26]
    (try simp only [rI_iff, rL_iff] at *)
    repeat' (first | assumption | apply And.intro | intro _)
    all_goals first
      | omega
      | (refine st_ext fun k j => ?_; grind [updR_app, up1_app])
      | (refine Q_eq hQ ?_ ?_ <;> first | rfl | (refine st_ext fun k j => ?_; grind [updR_app, up1_app]) | grind [updR_app, up1_app])
      | grind [updR_app, up1_app]
def DropSt (cnt : Int) (nx g0 g : Nat → Int) (r : Int) : Prop := Is01 cnt g ∧ DeadZ (-1) cnt nx g ∧ ((r = 0 ∧ g = g0 ∧ ∀ i : Nat, (i : Int) < cnt → g0 i ≠ -1 → gaF nx g0 i 0 ≠ -1 ∨ gaF nx g0 i 1 ≠ -1) ∨ (r = 1 ∧ acZ (-1) g cnt.toNat < acZ (-1) g0 cnt.toNat))
def DropI (cnt : Int) (nx g0 g : Nat → Int) (r x : Int) : Prop := Is01 cnt g ∧ DeadZ (-1) cnt nx g ∧ ((r = 0 ∧ g = g0 ∧ ∀ i : Nat, (i : Int) < cnt → x < i → g0 i ≠ -1 → gaF nx g0 i 0 ≠ -1 ∨ gaF nx g0 i 1 ≠ -1) ∨ (r = 1 ∧ acZ (-1) g cnt.toNat < acZ (-1) g0 cnt.toNat))
theorem dropI_skip {cnt r x : Int} {nx g0 g : Nat → Int} (hx : 0 ≤ x ∧ x < cnt) (h : DropI cnt nx g0 g r x) (h2 : g x.toNat ≠ -1 → gaF nx g x.toNat 0 ≠ -1 ∨ gaF nx g x.toNat 1 ≠ -1) : DropI cnt nx g0 g r (x - 1) := by
  obtain ⟨h3, h4, h5⟩ := h
  refine ⟨h3, h4, ?_⟩
  rcases h5 with ⟨h5, rfl, h6⟩ | h5
  · refine Or.inl ⟨h5, rfl, fun i hi hx2 hg => ?_⟩
    by_cases e : x < i
    · exact h6 i hi e hg
    · have : i = x.toNat := by omega
      subst this
      exact h2 hg
  · exact Or.inr h5
theorem dropI_set {cnt r x : Int} {nx g0 g : Nat → Int} (hw : Wire cnt nx) (hx : 0 ≤ x ∧ x < cnt) (h : DropI cnt nx g0 g r x) (hg : g x.toNat ≠ -1) (h0 : gaF nx g x.toNat 0 = -1) (h1 : gaF nx g x.toNat 1 = -1) : DropI cnt nx g0 (up1 g x.toNat (-1)) 1 (x - 1) := by
  obtain ⟨h3, h4, h5⟩ := h
  have h6 := acZ_set (z := -1) (g := g) (n := cnt.toNat) (i := x.toNat) (by omega) hg
  refine ⟨fun i hi => ?_, dead_set hw (by omega) h4 (fun b => ?_), Or.inr ⟨rfl, ?_⟩⟩
  · by_cases e : i = x.toNat
    · rw [e, up1_eq]; exact Or.inr rfl
    · rw [up1_ne _ _ _ _ e]; exact h3 i hi
  · cases b with
    | false => exact ga_none h0
    | true => exact ga_none h1
  · rw [h6]
    rcases h5 with ⟨-, rfl, -⟩ | h5
    · omega
    · omega
theorem dropI_end {cnt r x : Int} {nx g0 g : Nat → Int} (hx : x < 0) (h : DropI cnt nx g0 g r x) : DropSt cnt nx g0 g r := by
  obtain ⟨h3, h4, h5⟩ := h
  refine ⟨h3, h4, ?_⟩
  rcases h5 with ⟨h5, h6, h7⟩ | h5
  · exact Or.inl ⟨h5, h6, fun i hi hg => h7 i hi (by omega) hg⟩
  · exact Or.inr h5
theorem DropI.r01 {cnt r x : Int} {nx g0 g : Nat → Int} (h : DropI cnt nx g0 g r x) : r = 0 ∨ r = 1 := by
  rcases h.2.2 with h | h
  · exact Or.inl h.1
  · exact Or.inr h.1
theorem DropSt.r01 {cnt r : Int} {nx g0 g : Nat → Int} (h : DropSt cnt nx g0 g r) : r = 0 ∨ r = 1 := by
  rcases h.2.2 with h | h
  · exact Or.inl h.1
  · exact Or.inr h.1
def s_K_dropDeadOnce : Spec := fun as σ Q => popR as fun c0 r0 => r0 = [] ∧ c0 = 4 ∧ (0 ≤ σ 4 7 ∧ σ 4 7 ≤ 2816) ∧ (Wire (σ 4 7) (σ 7)) ∧ (Is01 (σ 4 7) (σ 8)) ∧ (DeadZ (-1) (σ 4 7) (σ 7) (σ 8)) ∧ ∀ g r, DropSt (σ 4 7) (σ 7) (σ 8) g r → Q (some (.inl r)) (updR σ 8 g)
theorem e_K_dropDeadOnce  (σ : St) (Q : Option AV → St → Prop) : s_K_dropDeadOnce [.inr (.inr (some 4))] σ Q = ((0 ≤ σ 4 7 ∧ σ 4 7 ≤ 2816) ∧ (Wire (σ 4 7) (σ 7)) ∧ (Is01 (σ 4 7) (σ 8)) ∧ (DeadZ (-1) (σ 4 7) (σ 7) (σ 8)) ∧ ∀ g r, DropSt (σ 4 7) (σ 7) (σ 8) g r → Q (some (.inl r)) (updR σ 8 g)) := by
  show ([] = [] ∧ _) = _
  simp only [true_and]
set_option maxHeartbeats 4000000 in
set_option maxRecDepth 20000 in
theorem S_K_dropDeadOnce {l : Launch} : Sat l y_K_dropDeadOnce b_K_dropDeadOnce 3 (some .boolean) 1 s_K_dropDeadOnce := by
  refine sat_of (Φ := P_K) (κ := Q_K) (Γ := [(77, 5, 2, s_K_groupAfter)]) (rt := 3) (by decide +kernel) P_K_ok Q_K_ok (by
    refine List.forall_mem_cons.mpr ⟨?_, fun _ h => absurd h List.not_mem_nil⟩
    · exact m_K_groupAfter S_K_groupAfter (by decide) l_K_77) (by simp) o_K_dropDeadOnce ?_
  intro as σ Q hh0
  obtain ⟨c0, rr0, rfl, hh1⟩ := popR_inv hh0
  obtain ⟨hrE, rfl, hf, hw, hg, hD, hQ⟩ := hh1
  subst hrE
  clear hh0
  refine ⟨Nat.le_of_ble_eq_true rfl, [(9, mkC (fun L st u => ∃ (r x : Int) (g : Nat → Int), L = [.inr (.inr (some 4)), .inl r, .inl x] ∧ st = [] ∧ (-1 ≤ x ∧ x < σ 4 7) ∧ (DropI (σ 4 7) (σ 7) (σ 8) g r x) ∧ (u = updR σ 8 g)) (fun L st u => ((gI L 2 + 1).toNat, 0, 0)))], 14, ?_, cuts1 ?_ (cuts0)⟩
  · rw [show entL 3 [.inr (.inr (some 4))] = [.inr (.inr (some 4)), .inr (.inr none), .inr (.inr none)] from rfl]
    simp only [↓wpN_go, jmp_e, ↓wp_aload_n0, ↓wp_getfield, ↓wp_goto, ↓wp_iaload, ↓wp_iastore, ↓wp_icmp_eq, ↓wp_icmp_ne, ↓wp_iconst, ↓wp_if_lt, ↓wp_iinc, ↓wp_iload_n1, ↓wp_iload_n2, ↓wp_invokevirtual, ↓wp_ireturn3, ↓wp_istore_n1, ↓wp_istore_n2, ↓wp_isub, wp_nil, ↓ldI_0, ↓ldI_s, ↓ldL_0, ↓ldL_s, ↓ldR_0, ↓ldR_s, sto1_0, sto1_1, sto1_s, sto2_0, sto2_1, sto2_s, isLong_i, isLong_l, isLong_r, ↓popI_c, ↓popL_c, ↓popR_c, ↓popN_0, ↓popN_s, catS_n, catS_c, psh_s, psh_n, fldV_n, fldV_s, ↓tgt_e, sw_n, ↓sw_c, ↓lk1_h, ↓lk1_m, ↓atC_h, ↓atC_m, ↓atC_n, ltO_n, ltO_s, updR_eq, updR_ne, gI_0i, gI_0l, gI_s, ltM_iff, List.cons.injEq, Sum.inl.injEq, Sum.inr.injEq, Option.some.injEq, exists_eq_left, exists_eq_left', exists_eq_right, exists_eq_right', exists_and_left, exists_and_right, exists_eq, exists_const, and_assoc, ↓j_K_dropDeadOnce_0, ↓j_K_dropDeadOnce_9, ↓j_K_dropDeadOnce_52, ↓j_K_dropDeadOnce_58, ↓f_K_23, ↓f_K_36, List.length_cons, List.length_nil, Nat.zero_add, Nat.reduceAdd, Int.reduceAdd, Int.reduceNeg, Int.reduceToNat, Int.reduceLE, Int.reduceLT, true_and, and_true, Nat.reduceLT, reduceIte, Nat.reduceEqDiff, ne_eq, not_false_eq_true, false_implies, true_implies, Bool.false_eq_true, reduceCtorEq, List.cons_append, List.nil_append, Nat.reduceSub, Nat.reduceLeDiff, Fin.isValue, Int.reduceNatCast', Int.zero_add, Int.add_zero, decide_true, decide_false, implies_true, forall_const, true_or, or_true, or_false, false_or, false_and, and_false, Int.toNat_natCast, ↓oF_4_0, ↓aF_5, ↓oF_4_1, ↓aF_6, ↓oF_4_2, ↓aF_7, ↓oF_4_3, ↓aF_8, ↓oF_4_4, ↓aF_9, ↓oF_4_5, ↓aF_10, ↓oF_4_6, ↓oF_4_7, ↓oF_4_8, oC_0, oC_1, oC_4, oC_11, oC_16, oC_18, oC_20, oC_23, oC_25, oC_26, oC_29, oC_31, oC_33, oC_35, oC_37, isT_29, isT_31, isT_33, isT_35, isL_16, isL_18, isL_26, ↓e_K_groupAfter]
    have hI : DropI (σ 4 7) (σ 7) (σ 8) (σ 8) 0 (σ 4 7 - 1) := ⟨hg, hD, Or.inl ⟨rfl, rfl, fun i h1 h2 => by omega⟩⟩
    (try simp only [rI_iff, rL_iff] at *)
    repeat' (with_reducible (first | assumption | apply And.intro | intro _))
    all_goals first | omega | with_reducible assumption | exact True.intro | skip
    · exact ⟨_, hI, (updR_self σ 8).symm⟩
  · intro L st u hI
    obtain ⟨r, x, g, rfl, rfl, hi, hI, hu⟩ := hI
    simp only [↓wpN_go, jmp_e, ↓wp_aload_n0, ↓wp_getfield, ↓wp_goto, ↓wp_iaload, ↓wp_iastore, ↓wp_icmp_eq, ↓wp_icmp_ne, ↓wp_iconst, ↓wp_if_lt, ↓wp_iinc, ↓wp_iload_n1, ↓wp_iload_n2, ↓wp_invokevirtual, ↓wp_ireturn3, ↓wp_istore_n1, ↓wp_istore_n2, ↓wp_isub, wp_nil, ↓ldI_0, ↓ldI_s, ↓ldL_0, ↓ldL_s, ↓ldR_0, ↓ldR_s, sto1_0, sto1_1, sto1_s, sto2_0, sto2_1, sto2_s, isLong_i, isLong_l, isLong_r, ↓popI_c, ↓popL_c, ↓popR_c, ↓popN_0, ↓popN_s, catS_n, catS_c, psh_s, psh_n, fldV_n, fldV_s, ↓tgt_e, sw_n, ↓sw_c, ↓lk1_h, ↓lk1_m, ↓atC_h, ↓atC_m, ↓atC_n, ltO_n, ltO_s, updR_eq, updR_ne, gI_0i, gI_0l, gI_s, ltM_iff, List.cons.injEq, Sum.inl.injEq, Sum.inr.injEq, Option.some.injEq, exists_eq_left, exists_eq_left', exists_eq_right, exists_eq_right', exists_and_left, exists_and_right, exists_eq, exists_const, and_assoc, ↓j_K_dropDeadOnce_0, ↓j_K_dropDeadOnce_9, ↓j_K_dropDeadOnce_52, ↓j_K_dropDeadOnce_58, ↓f_K_23, ↓f_K_36, List.length_cons, List.length_nil, Nat.zero_add, Nat.reduceAdd, Int.reduceAdd, Int.reduceNeg, Int.reduceToNat, Int.reduceLE, Int.reduceLT, true_and, and_true, Nat.reduceLT, reduceIte, Nat.reduceEqDiff, ne_eq, not_false_eq_true, false_implies, true_implies, Bool.false_eq_true, reduceCtorEq, List.cons_append, List.nil_append, Nat.reduceSub, Nat.reduceLeDiff, Fin.isValue, Int.reduceNatCast', Int.zero_add, Int.add_zero, decide_true, decide_false, implies_true, forall_const, true_or, or_true, or_false, false_or, false_and, and_false, Int.toNat_natCast, ↓oF_4_0, ↓aF_5, ↓oF_4_1, ↓aF_6, ↓oF_4_2, ↓aF_7, ↓oF_4_3, ↓aF_8, ↓oF_4_4, ↓aF_9, ↓oF_4_5, ↓aF_10, ↓oF_4_6, ↓oF_4_7, ↓oF_4_8, oC_0, oC_1, oC_4, oC_11, oC_16, oC_18, oC_20, oC_23, oC_25, oC_26, oC_29, oC_31, oC_33, oC_35, oC_37, isT_29, isT_31, isT_33, isT_35, isL_16, isL_18, isL_26, ↓e_K_groupAfter]
    subst hu
    have e4 : updR σ 8 g 4 = σ 4 := updR_ne _ _ _ _ (by decide)
    have e7 : updR σ 8 g 7 = σ 7 := updR_ne _ _ _ _ (by decide)
    have e8 : updR σ 8 g 8 = g := updR_eq _ _ _
    have hr := hI.r01
    have hgx : 0 ≤ x → rI (g x.toNat) := fun h => by
      rcases hI.1 x.toNat (by omega) with e | e <;> rw [e] <;> unfold rI <;> omega
    have hga : ∀ b : Nat, b ≤ 1 → 0 ≤ x → rI (gaF (σ 7) g x.toNat b) := fun b hb h => by
      have h1 := hw (2 * x.toNat + b) (by omega)
      unfold gaF
      split
      · unfold rI; omega
      · next h2 =>
        rcases hI.1 (σ 7 (2 * x.toNat + b)).toNat (by omega) with e | e <;> rw [e] <;> unfold rI <;> omega
    have hg0 := hga 0 (by omega)
    have hg1 := hga 1 (by omega)
    have q1 : x < 0 → Q (some (.inl r)) (updR σ 8 g) := fun h => hQ g r (dropI_end h hI)
    have q2 : 0 ≤ x → (g x.toNat ≠ -1 → gaF (σ 7) g x.toNat 0 ≠ -1 ∨ gaF (σ 7) g x.toNat 1 ≠ -1) → DropI (σ 4 7) (σ 7) (σ 8) g r (x + -1) := fun h h2 => dropI_skip ⟨h, hi.2⟩ hI h2
    have q3 : 0 ≤ x → g x.toNat ≠ -1 → gaF (σ 7) g x.toNat 0 = -1 → gaF (σ 7) g x.toNat 1 = -1 → DropI (σ 4 7) (σ 7) (σ 8) (up1 g x.toNat (-1)) 1 (x + -1) := fun h h1 h2 h3 => dropI_set hw ⟨h, hi.2⟩ hI h1 h2 h3
    simp only [e4, e7, e8, show (0 : Int).toNat = 0 from rfl, show (1 : Int).toNat = 1 from rfl, updR_twice]
    generalize gaF (σ 7) g x.toNat 0 = a0 at *
    generalize gaF (σ 7) g x.toNat 1 = a1 at *
    clear hQ hga
    (try simp only [rI_iff, rL_iff] at *)
    repeat' (with_reducible (first | assumption | apply And.intro | intro _))
    all_goals first | omega | with_reducible assumption | exact True.intro | skip
    all_goals first
      | exact q1 (by assumption)
      | exact ⟨_, q2 (by assumption) (fun _ => by omega), rfl⟩
      | exact ⟨_, q3 (by assumption) (by assumption) (by assumption) (by assumption), rfl⟩
def DropOK (cnt : Int) (nx g : Nat → Int) : Prop := Is01 cnt g ∧ AliveOK cnt nx (alZ (-1) g)
theorem drop_ok {cnt : Int} {nx g : Nat → Int} (h : DropSt cnt nx g g 0) : DropOK cnt nx g := by
  obtain ⟨h1, h2, h3⟩ := h
  refine ⟨h1, alive_of h2 (fun i hi hg => ?_)⟩
  rcases h3 with ⟨-, -, h4⟩ | ⟨h4, -⟩
  · rcases h4 i hi hg with h5 | h5
    · exact ⟨false, ga_some h5⟩
    · exact ⟨true, ga_some h5⟩
  · omega
theorem drop_ok' {cnt r : Int} {nx g0 g : Nat → Int} (h : DropSt cnt nx g0 g r) (h0 : r = 0) : DropOK cnt nx g := by
  subst h0
  have e : g = g0 := by
    rcases h.2.2 with h | h
    · exact h.2.1
    · have := h.1; omega
  subst e
  exact drop_ok h
def s_K_dropDead : Spec := fun as σ Q => popR as fun c0 r0 => r0 = [] ∧ c0 = 4 ∧ (0 ≤ σ 4 7 ∧ σ 4 7 ≤ 2816) ∧ (Wire (σ 4 7) (σ 7)) ∧ (∀ i : Nat, (i : Int) < σ 4 7 → σ 8 i = 0) ∧ ∀ g, DropOK (σ 4 7) (σ 7) g → Q none (updR σ 8 g)
theorem e_K_dropDead  (σ : St) (Q : Option AV → St → Prop) : s_K_dropDead [.inr (.inr (some 4))] σ Q = ((0 ≤ σ 4 7 ∧ σ 4 7 ≤ 2816) ∧ (Wire (σ 4 7) (σ 7)) ∧ (∀ i : Nat, (i : Int) < σ 4 7 → σ 8 i = 0) ∧ ∀ g, DropOK (σ 4 7) (σ 7) g → Q none (updR σ 8 g)) := by
  show ([] = [] ∧ _) = _
  simp only [true_and]
set_option maxHeartbeats 4000000 in
set_option maxRecDepth 20000 in
theorem S_K_dropDead {l : Launch} : Sat l y_K_dropDead b_K_dropDead 2 none 2 s_K_dropDead := by
  refine sat_of (Φ := P_K) (κ := Q_K) (Γ := [(74, 5, 0, s_K_dropDeadOnce)]) (rt := 0) (by decide +kernel) P_K_ok Q_K_ok (by
    refine List.forall_mem_cons.mpr ⟨?_, fun _ h => absurd h List.not_mem_nil⟩
    · exact m_K_dropDeadOnce S_K_dropDeadOnce (by decide) l_K_74) (by simp) o_K_dropDead ?_
  intro as σ Q hh0
  obtain ⟨c0, rr0, rfl, hh1⟩ := popR_inv hh0
  obtain ⟨hrE, rfl, hf, hw, hg, hQ⟩ := hh1
  subst hrE
  clear hh0
  refine ⟨Nat.le_of_ble_eq_true rfl, [(2, mkC (fun L st u => ∃ (x : Int) (g : Nat → Int), L = [.inr (.inr (some 4)), .inl x] ∧ st = [] ∧ (0 ≤ x ∧ x ≤ 2817) ∧ (Is01 (σ 4 7) g) ∧ (DeadZ (-1) (σ 4 7) (σ 7) g) ∧ (acZ (-1) g (σ 4 7).toNat ≤ σ 4 7 - x) ∧ (u = updR σ 8 g)) (fun L st u => ((2818 - gI L 1).toNat, 0, 0)))], 14, ?_, cuts1 ?_ (cuts0)⟩
  · rw [show entL 2 [.inr (.inr (some 4))] = [.inr (.inr (some 4)), .inr (.inr none)] from rfl]
    simp only [↓wpN_go, jmp_e, ↓wp_aload_n0, ↓wp_goto, ↓wp_icmp_gt, ↓wp_iconst, ↓wp_if_ne, ↓wp_iinc, ↓wp_iload_n1, ↓wp_invokevirtual, ↓wp_istore_n1, ↓wp_return0, ↓wp_sipush, wp_nil, ↓ldI_0, ↓ldI_s, ↓ldL_0, ↓ldL_s, ↓ldR_0, ↓ldR_s, sto1_0, sto1_1, sto1_s, sto2_0, sto2_1, sto2_s, isLong_i, isLong_l, isLong_r, ↓popI_c, ↓popL_c, ↓popR_c, ↓popN_0, ↓popN_s, catS_n, catS_c, psh_s, psh_n, fldV_n, fldV_s, ↓tgt_e, sw_n, ↓sw_c, ↓lk1_h, ↓lk1_m, ↓atC_h, ↓atC_m, ↓atC_n, ltO_n, ltO_s, updR_eq, updR_ne, gI_0i, gI_0l, gI_s, ltM_iff, List.cons.injEq, Sum.inl.injEq, Sum.inr.injEq, Option.some.injEq, exists_eq_left, exists_eq_left', exists_eq_right, exists_eq_right', exists_and_left, exists_and_right, exists_eq, exists_const, and_assoc, ↓j_K_dropDead_0, ↓j_K_dropDead_2, ↓j_K_dropDead_17, ↓j_K_dropDead_23, List.length_cons, List.length_nil, Nat.zero_add, Nat.reduceAdd, Int.reduceAdd, Int.reduceNeg, Int.reduceToNat, Int.reduceLE, Int.reduceLT, true_and, and_true, Nat.reduceLT, reduceIte, Nat.reduceEqDiff, ne_eq, not_false_eq_true, false_implies, true_implies, Bool.false_eq_true, reduceCtorEq, List.cons_append, List.nil_append, Nat.reduceSub, Nat.reduceLeDiff, Fin.isValue, Int.reduceNatCast', Int.zero_add, Int.add_zero, decide_true, decide_false, implies_true, forall_const, true_or, or_true, or_false, false_or, false_and, and_false, Int.toNat_natCast, ↓oF_4_0, ↓aF_5, ↓oF_4_1, ↓aF_6, ↓oF_4_2, ↓aF_7, ↓oF_4_3, ↓aF_8, ↓oF_4_4, ↓aF_9, ↓oF_4_5, ↓aF_10, ↓oF_4_6, ↓oF_4_7, ↓oF_4_8, oC_0, oC_1, oC_4, oC_11, oC_16, oC_18, oC_20, oC_23, oC_25, oC_26, oC_29, oC_31, oC_33, oC_35, oC_37, isT_29, isT_31, isT_33, isT_35, isL_16, isL_18, isL_26, ↓e_K_dropDeadOnce]
    have h1 : Is01 (σ 4 7) (σ 8) := fun i hi => Or.inl (hg i hi)
    have h2 : DeadZ (-1) (σ 4 7) (σ 7) (σ 8) := fun i hi h => by have := hg i hi; omega
    have h3 := (acZ_r (-1) (σ 8) (σ 4 7).toNat).2
    (try simp only [rI_iff, rL_iff] at *)
    repeat' (with_reducible (first | assumption | apply And.intro | intro _))
    all_goals first | omega | with_reducible assumption | exact True.intro | skip
    all_goals first | exact ⟨_, h1, h2, by omega, (updR_self σ 8).symm⟩
  · intro L st u hI
    obtain ⟨x, g, rfl, rfl, hi, hI, hD, hc, hu⟩ := hI
    simp only [↓wpN_go, jmp_e, ↓wp_aload_n0, ↓wp_goto, ↓wp_icmp_gt, ↓wp_iconst, ↓wp_if_ne, ↓wp_iinc, ↓wp_iload_n1, ↓wp_invokevirtual, ↓wp_istore_n1, ↓wp_return0, ↓wp_sipush, wp_nil, ↓ldI_0, ↓ldI_s, ↓ldL_0, ↓ldL_s, ↓ldR_0, ↓ldR_s, sto1_0, sto1_1, sto1_s, sto2_0, sto2_1, sto2_s, isLong_i, isLong_l, isLong_r, ↓popI_c, ↓popL_c, ↓popR_c, ↓popN_0, ↓popN_s, catS_n, catS_c, psh_s, psh_n, fldV_n, fldV_s, ↓tgt_e, sw_n, ↓sw_c, ↓lk1_h, ↓lk1_m, ↓atC_h, ↓atC_m, ↓atC_n, ltO_n, ltO_s, updR_eq, updR_ne, gI_0i, gI_0l, gI_s, ltM_iff, List.cons.injEq, Sum.inl.injEq, Sum.inr.injEq, Option.some.injEq, exists_eq_left, exists_eq_left', exists_eq_right, exists_eq_right', exists_and_left, exists_and_right, exists_eq, exists_const, and_assoc, ↓j_K_dropDead_0, ↓j_K_dropDead_2, ↓j_K_dropDead_17, ↓j_K_dropDead_23, List.length_cons, List.length_nil, Nat.zero_add, Nat.reduceAdd, Int.reduceAdd, Int.reduceNeg, Int.reduceToNat, Int.reduceLE, Int.reduceLT, true_and, and_true, Nat.reduceLT, reduceIte, Nat.reduceEqDiff, ne_eq, not_false_eq_true, false_implies, true_implies, Bool.false_eq_true, reduceCtorEq, List.cons_append, List.nil_append, Nat.reduceSub, Nat.reduceLeDiff, Fin.isValue, Int.reduceNatCast', Int.zero_add, Int.add_zero, decide_true, decide_false, implies_true, forall_const, true_or, or_true, or_false, false_or, false_and, and_false, Int.toNat_natCast, ↓oF_4_0, ↓aF_5, ↓oF_4_1, ↓aF_6, ↓oF_4_2, ↓aF_7, ↓oF_4_3, ↓aF_8, ↓oF_4_4, ↓aF_9, ↓oF_4_5, ↓aF_10, ↓oF_4_6, ↓oF_4_7, ↓oF_4_8, oC_0, oC_1, oC_4, oC_11, oC_16, oC_18, oC_20, oC_23, oC_25, oC_26, oC_29, oC_31, oC_33, oC_35, oC_37, isT_29, isT_31, isT_33, isT_35, isL_16, isL_18, isL_26, ↓e_K_dropDeadOnce]
    subst hu
    have e4 : updR σ 8 g 4 = σ 4 := updR_ne _ _ _ _ (by decide)
    have e7 : updR σ 8 g 7 = σ 7 := updR_ne _ _ _ _ (by decide)
    have e8 : updR σ 8 g 8 = g := updR_eq _ _ _
    have hac := acZ_r (-1) g (σ 4 7).toNat
    simp only [e4, e7, e8, updR_twice]
    have q1 : ∀ g' r, DropSt (σ 4 7) (σ 7) g g' r → r = 0 → Q none (updR σ 8 g') := fun g' r h h0 => hQ g' (drop_ok' h h0)
    have q2 : ∀ g' r, DropSt (σ 4 7) (σ 7) g g' r → ¬ r = 0 → Is01 (σ 4 7) g' ∧ DeadZ (-1) (σ 4 7) (σ 7) g' ∧ acZ (-1) g' (σ 4 7).toNat ≤ σ 4 7 - (x + 1) := fun g' r h h0 => by
      refine ⟨h.1, h.2.1, ?_⟩
      rcases h.2.2 with h | h
      · exact absurd h.1 h0
      · omega
    have q3 : ∀ g' r, DropSt (σ 4 7) (σ 7) g g' r → rI r := fun g' r h => by
      have := h.r01
      unfold rI; omega
    clear hQ
    (try simp only [rI_iff, rL_iff] at *)
    repeat' (with_reducible (first | assumption | apply And.intro | intro _))
    all_goals first | omega | with_reducible assumption | exact True.intro | skip
    all_goals first
      | exact (q3 _ _ (by assumption)).1
      | exact (q3 _ _ (by assumption)).2
      | exact q1 _ _ (by assumption) (by assumption)
      | exact ⟨_, (q2 _ _ (by assumption) (by assumption)).1, (q2 _ _ (by assumption) (by assumption)).2.1, (q2 _ _ (by assumption) (by assumption)).2.2, rfl⟩
