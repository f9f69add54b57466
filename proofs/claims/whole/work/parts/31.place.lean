/-! places found from keys, in the order of the first rows that lead to them -/
def ExpI (ks : Int → Int → Int) (C : Nat) (K0 cnt : Int) (keyA plc nx : Nat → Int) (m : Int) : Prop :=
  (1 ≤ cnt ∧ 0 ≤ m ∧ m ≤ 2 * cnt) ∧ keyA 0 = K0 ∧
  (∀ i : Nat, (i : Int) < cnt → 0 ≤ keyA i ∧ keyA i < C ∧ plc (keyA i).toNat = i) ∧
  (∀ k : Nat, k < C → plc k = -1 ∨ (0 ≤ plc k ∧ plc k < cnt ∧ keyA (plc k).toNat = k)) ∧
  cnt = sumF (fun k => if plc k = -1 then 0 else 1) C ∧
  (∀ π : Nat, (π : Int) < m → -1 ≤ nx π ∧ nx π < cnt ∧ (nx π = -1 → ks (keyA (π / 2)) ((π % 2 : Nat) : Int) = -1) ∧ (nx π ≠ -1 → keyA (nx π).toNat = ks (keyA (π / 2)) ((π % 2 : Nat) : Int))) ∧
  (∀ p : Nat, 0 < p → (p : Int) < cnt → ∃ π : Nat, (π : Int) < m ∧ π < 2 * p ∧ nx π = p ∧ ∀ π' : Nat, π' < π → nx π' < p)
theorem sumF_up {w : Nat → Int} {z : Int} : ∀ {n k : Nat}, k < n → sumF (up1 w k z) n = sumF w n - w k + z
  | 0, k, h => absurd h (Nat.not_lt_zero k)
  | n + 1, k, h => by
    rw [sumF, sumF]
    by_cases e : k = n
    · subst e
      rw [up1_eq, sumF_congr (v := w) (fun s hs => up1_ne _ _ _ _ (by omega))]
      omega
    · rw [sumF_up (n := n) (by omega), up1_ne _ _ _ _ (by omega)]
      omega
theorem exp_le {ks : Int → Int → Int} {C : Nat} {K0 cnt m : Int} {keyA plc nx : Nat → Int} (h : ExpI ks C K0 cnt keyA plc nx m) : cnt ≤ C := by
  have := sumF_bound (w := fun k => if plc k = -1 then 0 else 1) (B := 1) (n := C) (fun s _ => by show 0 ≤ (if plc s = -1 then (0 : Int) else 1) ∧ (if plc s = -1 then (0 : Int) else 1) ≤ 1; split <;> omega)
  have h5 := h.2.2.2.2.1
  omega
theorem exp_lt {ks : Int → Int → Int} {C : Nat} {K0 cnt m : Int} {keyA plc nx : Nat → Int} (h : ExpI ks C K0 cnt keyA plc nx m) {k : Nat} (hk : k < C) (h1 : plc k = -1) : cnt < C := by
  have h5 := h.2.2.2.2.1
  have h2 := sumF_lt (w := fun k => if plc k = -1 then 0 else 1) (v := fun _ => 1) (n := C) (fun s _ => by show (if plc s = -1 then (0 : Int) else 1) ≤ 1; split <;> omega) ⟨k, hk, by show (if plc k = -1 then (0 : Int) else 1) < 1; rw [if_pos h1]; omega⟩
  have h3 := sumF_bound (w := fun _ => 1) (B := 1) (n := C) (fun s _ => by show 0 ≤ (1 : Int) ∧ (1 : Int) ≤ 1; omega)
  omega
theorem exp_0 {ks : Int → Int → Int} {C : Nat} {K0 : Int} {keyA plc nx : Nat → Int} (h0 : 0 ≤ K0 ∧ K0 < C) (h1 : keyA 0 = K0) (h2 : plc K0.toNat = 0) (h3 : ∀ k : Nat, k < C → k ≠ K0.toNat → plc k = -1) : ExpI ks C K0 1 keyA plc nx 0 := by
  refine ⟨⟨by omega, by omega, by omega⟩, h1, fun i hi => ?_, fun k hk => ?_, ?_, fun π hπ => by omega, fun p p1 p2 => by omega⟩
  · have : i = 0 := by omega
    subst this
    rw [h1, h2]
    exact ⟨h0.1, h0.2, rfl⟩
  · by_cases e : k = K0.toNat
    · right
      rw [e, h2]
      exact ⟨by omega, by omega, by show keyA 0 = _; rw [h1]; omega⟩
    · exact Or.inl (h3 k hk e)
  · have h4 : sumF (fun k => if plc k = -1 then 0 else 1) C = sumF (up1 (fun _ => 0) K0.toNat 1) C := sumF_congr (fun s hs => by
      show (if plc s = -1 then (0 : Int) else 1) = _
      rw [up1_app]
      by_cases e : s = K0.toNat
      · rw [if_pos e, e, h2]; rfl
      · rw [if_neg e, if_pos (h3 s hs e)])
    have h5 := sumF_bound (w := fun _ => 0) (B := 0) (n := C) (fun s _ => by show 0 ≤ (0 : Int) ∧ (0 : Int) ≤ 0; omega)
    rw [h4, sumF_up (by omega)]
    omega
theorem exp_new {ks : Int → Int → Int} {C : Nat} {K0 cnt m key : Int} {keyA plc nx : Nat → Int} (h : ExpI ks C K0 cnt keyA plc nx m) (hk : key = ks (keyA (m.toNat / 2)) ((m.toNat % 2 : Nat) : Int)) (h0 : 0 ≤ key ∧ key < C) (h1 : plc key.toNat = -1) (hm : m < 2 * cnt) :
    ExpI ks C K0 (cnt + 1) (up1 keyA cnt.toNat key) (up1 plc key.toNat cnt) (up1 nx m.toNat cnt) (m + 1) := by
  obtain ⟨⟨a1, a2, a3⟩, a4, a5, a6, a7, a8, a9⟩ := h
  refine ⟨⟨by omega, by omega, by omega⟩, ?_, fun i hi => ?_, fun k hk2 => ?_, ?_, fun π hπ => ?_, fun p p1 p2 => ?_⟩
  · rw [up1_ne _ _ _ _ (by omega)]; exact a4
  · by_cases e : i = cnt.toNat
    · rw [e, up1_eq, up1_eq]; omega
    · rw [up1_ne _ _ _ _ e]
      have := a5 i (by omega)
      have h2 : (keyA i).toNat ≠ key.toNat := fun q => by rw [q, h1] at this; omega
      rw [up1_ne _ _ _ _ h2]
      exact this
  · by_cases e : k = key.toNat
    · right
      rw [e, up1_eq, up1_eq]; omega
    · rw [up1_ne _ _ _ _ e]
      rcases a6 k hk2 with g | g
      · exact Or.inl g
      · right
        rw [up1_ne _ _ _ _ (by omega)]
        exact ⟨g.1, by omega, g.2.2⟩
  · have e : (fun k => if up1 plc key.toNat cnt k = -1 then (0 : Int) else 1) = up1 (fun k => if plc k = -1 then 0 else 1) key.toNat 1 := by
      funext k
      rw [up1_app]
      by_cases e : k = key.toNat
      · rw [if_pos e, e, up1_eq, if_neg (by omega)]
      · rw [if_neg e, up1_ne _ _ _ _ e]
    rw [e, sumF_up (by omega), ← a7]
    show cnt + 1 = cnt - (if plc key.toNat = -1 then 0 else 1) + 1
    rw [if_pos h1]
    omega
  · have e2 : (π / 2) ≠ cnt.toNat := by omega
    rw [up1_ne keyA _ _ _ e2]
    by_cases e : π = m.toNat
    · rw [e, up1_eq]
      refine ⟨by omega, by omega, fun q => by omega, fun _ => ?_⟩
      rw [up1_eq, hk]
    · rw [up1_ne _ _ _ _ e]
      have := a8 π (by omega)
      refine ⟨this.1, by omega, this.2.2.1, fun q => ?_⟩
      rw [up1_ne _ _ _ _ (by omega)]
      exact this.2.2.2 q
  · by_cases e : p = cnt.toNat
    · refine ⟨m.toNat, by omega, by omega, by rw [up1_eq]; omega, fun π' h2 => ?_⟩
      rw [up1_ne _ _ _ _ (by omega)]
      have := a8 π' (by omega)
      omega
    · obtain ⟨π, b1, b2, b3, b4⟩ := a9 p p1 (by omega)
      refine ⟨π, by omega, b2, by rw [up1_ne _ _ _ _ (by omega)]; exact b3, fun π' h2 => ?_⟩
      rw [up1_ne _ _ _ _ (by omega)]
      exact b4 π' h2
theorem exp_any {ks : Int → Int → Int} {C : Nat} {K0 cnt m z : Int} {keyA plc nx : Nat → Int} (h : ExpI ks C K0 cnt keyA plc nx m) (h1 : -1 ≤ z ∧ z < cnt) (h2 : z = -1 → ks (keyA (m.toNat / 2)) ((m.toNat % 2 : Nat) : Int) = -1) (h3 : z ≠ -1 → keyA z.toNat = ks (keyA (m.toNat / 2)) ((m.toNat % 2 : Nat) : Int)) (hm : m < 2 * cnt) :
    ExpI ks C K0 cnt keyA plc (up1 nx m.toNat z) (m + 1) := by
  obtain ⟨⟨a1, a2, a3⟩, a4, a5, a6, a7, a8, a9⟩ := h
  refine ⟨⟨by omega, by omega, by omega⟩, a4, a5, a6, a7, fun π hπ => ?_, fun p p1 p2 => ?_⟩
  · by_cases e : π = m.toNat
    · rw [e, up1_eq]
      exact ⟨h1.1, h1.2, h2, h3⟩
    · rw [up1_ne _ _ _ _ e]
      exact a8 π (by omega)
  · obtain ⟨π, b1, b2, b3, b4⟩ := a9 p p1 p2
    refine ⟨π, by omega, b2, by rw [up1_ne _ _ _ _ (by omega)]; exact b3, fun π' h2 => ?_⟩
    rw [up1_ne _ _ _ _ (by omega)]
    exact b4 π' h2
theorem shortZ_1 {g mem : Int} (h : 1 ≤ g) (hm : 0 ≤ mem ∧ mem ≤ 7) : 1 ≤ shortZ g mem := by
  have h1 := pow8 (m := mem) ⟨hm.1, by omega⟩
  have h2 := Int.emod_nonneg g (b := 2 ^ mem.toNat) (by omega)
  unfold shortZ
  split <;> omega
theorem kA_r {d k nw ln mem key bit : Int} {wb ws : Nat → Int} (hl : -1 ≤ ln ∧ ln ≤ 5) (hm : 0 ≤ mem ∧ mem ≤ 7) (hk : 0 ≤ key ∧ key < 2816 ∧ 0 < key % 256) (hb : bit = 0 ∨ bit = 1) : kA d k nw ln wb ws mem key bit = -1 ∨ (0 ≤ kA d k nw ln wb ws mem key bit ∧ kA d k nw ln wb ws mem key bit < 2816 ∧ 0 < kA d k nw ln wb ws mem key bit % 256) := by
  have h1 := shortZ_r (g := 2 * (key % 256) + bit) (mem := mem) (by omega) hm
  have h2 := shortZ_1 (g := 2 * (key % 256) + bit) (mem := mem) (by omega) hm
  unfold kA
  generalize shortZ (2 * (key % 256) + bit) mem = sh at *
  generalize (if bit = 1 then (1 : Int) else -1) = e1
  by_cases hc : (ln ≠ -1 ∧ (key / 256 - 5 + e1 < -ln ∨ ln < key / 256 - 5 + e1)) ∨ brkZ d k (key % 256) bit = true ∨ endW wb ws (2 * (key % 256) + bit) nw.toNat = true
  · rw [if_pos hc]
    exact Or.inl rfl
  · rw [if_neg hc]
    right
    by_cases e : ln = -1
    · rw [if_neg (by omega)]; omega
    · rw [if_pos e]
      have h3 : ¬ (key / 256 - 5 + e1 < -ln ∨ ln < key / 256 - 5 + e1) := fun q => hc (Or.inl ⟨e, q⟩)
      omega
def kS (σ : St) (key bit : Int) : Int := kA (σ 1 3) (σ 1 4) (σ 1 2) (σ 1 5) (σ 2) (σ 3) (memW (σ 3) (σ 1 4) (σ 1 2).toNat) key bit
def PlaceSt (σ σ' : St) (key r : Int) : Prop := (key < 0 ∧ r = -1 ∧ σ' = σ) ∨ (0 ≤ key ∧ σ 5 key.toNat ≠ -1 ∧ r = σ 5 key.toNat ∧ σ' = σ) ∨ (0 ≤ key ∧ σ 5 key.toNat = -1 ∧ r = σ 4 7 ∧ σ' = updR (updR (updR (updR σ 5 (up1 (σ 5) key.toNat (σ 4 7))) 6 (up1 (σ 6) (σ 4 7).toNat key)) 8 (up1 (σ 8) (σ 4 7).toNat 0)) 4 (up1 (σ 4) 7 (σ 4 7 + 1)))
def s_K_placeFor : Spec := fun as σ Q => popR as fun c0 r0 => popI r0 fun key r1 => r1 = [] ∧ c0 = 4 ∧ (-1 ≤ key ∧ key < 2816) ∧ (0 ≤ σ 4 7 ∧ σ 4 7 ≤ 2816) ∧ (∀ k : Nat, k < 2816 → rI (σ 5 k) ∧ (σ 5 k = -1 → σ 4 7 < 2816)) ∧ ∀ σ' r, PlaceSt σ σ' key r → Q (some (.inl r)) σ'
theorem e_K_placeFor (key : Int) (σ : St) (Q : Option AV → St → Prop) : s_K_placeFor [.inr (.inr (some 4)), .inl key] σ Q = ((-1 ≤ key ∧ key < 2816) ∧ (0 ≤ σ 4 7 ∧ σ 4 7 ≤ 2816) ∧ (∀ k : Nat, k < 2816 → rI (σ 5 k) ∧ (σ 5 k = -1 → σ 4 7 < 2816)) ∧ ∀ σ' r, PlaceSt σ σ' key r → Q (some (.inl r)) σ') := by
  show ([] = [] ∧ _) = _
  simp only [true_and]
set_option maxHeartbeats 4000000 in
set_option maxRecDepth 20000 in
theorem S_K_placeFor {l : Launch} : Sat l y_K_placeFor b_K_placeFor 2 (some .int) 0 s_K_placeFor := by
  refine sat_of (Φ := P_K) (κ := Q_K) (Γ := []) (rt := 1) (by decide +kernel) P_K_ok Q_K_ok (fun g hg => absurd hg List.not_mem_nil) (by simp) o_K_placeFor ?_
  intro as σ Q hh0
  obtain ⟨c0, rr0, rfl, hh1⟩ := popR_inv hh0
  obtain ⟨key, rr1, rfl, hh2⟩ := popI_inv hh1
  obtain ⟨hrE, rfl, hkey, hf7, hp, hQ⟩ := hh2
  subst hrE
  clear hh0 hh1
  refine ⟨Nat.le_of_ble_eq_true rfl, [], 14, ?_, cuts0⟩
  · rw [show entL 2 [.inr (.inr (some 4)), .inl key] = [.inr (.inr (some 4)), .inl key] from rfl]
    simp only [↓wpN_go, jmp_e, ↓wp_aload_n0, ↓wp_dup, ↓wp_getfield, ↓wp_iadd, ↓wp_iaload, ↓wp_iastore, ↓wp_icmp_ge, ↓wp_icmp_lt, ↓wp_icmp_ne, ↓wp_iconst, ↓wp_if_lt, ↓wp_iload_n1, ↓wp_ireturn1, ↓wp_putfield, ↓wp_sipush, wp_nil, ↓ldI_0, ↓ldI_s, ↓ldL_0, ↓ldL_s, ↓ldR_0, ↓ldR_s, sto1_0, sto1_1, sto1_s, sto2_0, sto2_1, sto2_s, isLong_i, isLong_l, isLong_r, ↓popI_c, ↓popL_c, ↓popR_c, ↓popN_0, ↓popN_s, catS_n, catS_c, psh_s, psh_n, fldV_n, fldV_s, ↓tgt_e, sw_n, ↓sw_c, ↓lk1_h, ↓lk1_m, ↓atC_h, ↓atC_m, ↓atC_n, ltO_n, ltO_s, updR_eq, updR_ne, gI_0i, gI_0l, gI_s, ltM_iff, List.cons.injEq, Sum.inl.injEq, Sum.inr.injEq, Option.some.injEq, exists_eq_left, exists_eq_left', exists_eq_right, exists_eq_right', exists_and_left, exists_and_right, exists_eq, exists_const, and_assoc, ↓j_K_placeFor_0, ↓j_K_placeFor_11, ↓j_K_placeFor_13, ↓j_K_placeFor_73, ↓f_K_11, ↓f_K_17, ↓f_K_23, ↓f_K_36, List.length_cons, List.length_nil, Nat.zero_add, Nat.reduceAdd, Int.reduceAdd, Int.reduceNeg, Int.reduceToNat, Int.reduceLE, Int.reduceLT, true_and, and_true, Nat.reduceLT, reduceIte, Nat.reduceEqDiff, ne_eq, not_false_eq_true, false_implies, true_implies, Bool.false_eq_true, reduceCtorEq, List.cons_append, List.nil_append, Nat.reduceSub, Nat.reduceLeDiff, Fin.isValue, Int.reduceNatCast', Int.zero_add, Int.add_zero, decide_true, decide_false, implies_true, forall_const, true_or, or_true, or_false, false_or, false_and, and_false, Int.toNat_natCast, ↓oF_4_0, ↓aF_5, ↓oF_4_1, ↓aF_6, ↓oF_4_2, ↓aF_7, ↓oF_4_3, ↓aF_8, ↓oF_4_4, ↓aF_9, ↓oF_4_5, ↓aF_10, ↓oF_4_6, ↓oF_4_7, ↓oF_4_8, oC_0, oC_1, oC_4, oC_11, oC_16, oC_18, oC_20, oC_23, oC_25, oC_26, oC_29, oC_31, oC_33, oC_35, oC_37, isT_29, isT_31, isT_33, isT_35, isL_16, isL_18, isL_26]
    have h9 := fun h => hp key.toNat h
    have q1 : key < 0 → Q (some (.inl (-1))) σ := fun h => hQ _ _ (Or.inl ⟨h, rfl, rfl⟩)
    have q2 : 0 ≤ key → σ 5 key.toNat ≠ -1 → Q (some (.inl (σ 5 key.toNat))) σ := fun h h2 => hQ _ _ (Or.inr (Or.inl ⟨h, h2, rfl, rfl⟩))
    have q3 : 0 ≤ key → σ 5 key.toNat = -1 → Q (some (.inl (σ 4 7))) (updR (updR (updR (updR σ 5 (up1 (σ 5) key.toNat (σ 4 7))) 6 (up1 (σ 6) (σ 4 7).toNat key)) 8 (up1 (σ 8) (σ 4 7).toNat 0)) 4 (up1 (σ 4) 7 (σ 4 7 + 1))) := fun h h2 => hQ _ _ (Or.inr (Or.inr ⟨h, h2, rfl, rfl⟩))
    clear hQ hp
    (try simp only [rI_iff, rL_iff] at *)
    repeat' (with_reducible (first | assumption | apply And.intro | intro _))
    all_goals first | omega | with_reducible assumption | exact True.intro | skip
    · exact q2 (by assumption) (by assumption)
    · rw [up1_eq]
      exact q3 (by assumption) (by assumption)
