/-! calls that ask the wire -/
theorem any_1 {σ : St} (hW : IvW σ) (hA : IvA σ) : ladI (σ 37 17) (σ 12) (σ 17) = ladI (σ 37 17) (gM σ) oneF ∧ rnkZ (σ 37 17) (σ 12) (σ 17) = rnkZ (σ 37 17) (gM σ) oneF ∧ pckZ (σ 37 17) (σ 12) (σ 17) = pckZ (σ 37 17) (gM σ) oneF := ⟨lad_eq hW.2.2.1 hA.2, rnk_eq hW.2.2.1 hA.2, pck_eq hW.2.2.1 hA.2⟩
theorem one_b (N : Int) (f : Nat → Int) (r : Nat) (s : Int) : 0 ≤ ladI N f oneF r s ∧ ladI N f oneF r s ≤ 2 ^ r * 1 := ladI_bound (by decide) (fun _ _ => ⟨by show (0 : Int) ≤ 1; decide, Int.le_refl _⟩) r s
theorem one_lb (N : Int) (f : Nat → Int) : LadB N f oneF 60 := fun r t hr => by
  have h1 := one_b N f r t
  have h2 := p2_le (show r ≤ 60 by omega)
  have h3 : (2 : Int) ^ 60 = 1152921504606846976 := by decide
  omega
theorem p60 {n : Int} (h : 0 ≤ n ∧ n ≤ 60) : (2 : Int) ^ n.toNat ≤ 1152921504606846976 := by
  have h2 := p2_le (show n.toNat ≤ 60 by omega)
  have h3 : (2 : Int) ^ 60 = 1152921504606846976 := by decide
  omega
theorem pth_r {par bit : Nat → Int} (h : isBits bit) : ∀ (n : Nat) (s : Int), 0 ≤ pathV par bit n s ∧ pathV par bit n s < 2 ^ n
  | 0, _ => by rw [pathV]; decide
  | n + 1, s => by
    have h1 := pth_r h n (par s.toNat) (par := par)
    have h2 := h s.toNat
    rw [pathV, Int.pow_succ]
    omega
theorem o_states {σ : St} (hI : Inv σ) : OpI σ (s_X_states [.inr (.inr (some 0))] σ) (fun u => s_M_states [.inr (.inr (some 37))] u) := by
  intro K hK
  have hI0 := hI
  obtain ⟨hB, hN, hM, hW, hA, hS, hG, hC, hT⟩ := hI
  obtain ⟨w1, w2, w3, w4, w5, w6, w7, w8, w9⟩ := id hW
  rw [e_X_states, w1]
  refine hK _ _ (rIc (by omega)) (smR σ) (fun K2 hK2 => ?_)
  show s_M_states _ _ _
  rw [e_M_states]
  exact hK2 _ (smR σ) hI0
theorem o_go {σ : St} (hI : Inv σ) {s : Int} (hs : rI s) {b : Int} (hb : rI b) : OpI σ (s_X_go [.inr (.inr (some 0)), .inl s, .inl b] σ) (fun u => s_M_go [.inr (.inr (some 37)), .inl s, .inl b] u) := by
  intro K hK
  have hI0 := hI
  obtain ⟨hB, hN, hM, hW, hA, hS, hG, hC, hT⟩ := hI
  obtain ⟨w1, w2, w3, w4, w5, w6, w7, w8, w9⟩ := id hW
  have w4m := wire_eq w3 w4
  rw [e_X_go, w1, stp_eq w3]
  refine ⟨w2, hs, hb, ?_⟩
  refine hK _ _ ?_ (smR σ) (fun K2 hK2 => ?_)
  · have h := stepZ_r w2.2 w4m s b
    refine rIc ?_
    split <;> omega
  · show s_M_go _ _ _
    rw [e_M_go]
    exact ⟨w2, w4m, hs, hb, hK2 _ (smR σ) hI0⟩
theorem o_walk {σ : St} (hI : Inv σ) {s : Int} (hs : rI s) {row : Int} (hrow : rL row) {n : Int} (hn : rI n) : OpI σ (s_X_walk [.inr (.inr (some 0)), .inl s, .inr (.inl row), .inl n] σ) (fun u => s_M_walk [.inr (.inr (some 37)), .inl s, .inr (.inl row), .inl n] u) := by
  intro K hK
  have hI0 := hI
  obtain ⟨hB, hN, hM, hW, hA, hS, hG, hC, hT⟩ := hI
  obtain ⟨w1, w2, w3, w4, w5, w6, w7, w8, w9⟩ := id hW
  have w4m := wire_eq w3 w4
  rw [e_X_walk, w1, fol_eq w3]
  refine ⟨w2, w4, hs, hrow, hn, ?_⟩
  refine hK _ _ ?_ (smR σ) (fun K2 hK2 => ?_)
  · refine rIc ?_
    split
    · have h := folZ_r (row := row) w2.2 w4m n.toNat (s := s) (by omega)
      omega
    · omega
  · show s_M_walk _ _ _
    rw [e_M_walk]
    exact ⟨w2, w4m, hs, hrow, hn, hK2 _ (smR σ) hI0⟩
theorem o_first {σ : St} (hI : Inv σ) {s : Int} (hs : rI s) {w : Int} (hw : rI w) : OpL σ (s_X_first [.inr (.inr (some 0)), .inl s, .inl w] σ) (fun u => s_M_first [.inr (.inr (some 37)), .inl s, .inl w] u) := by
  intro K hK
  have hI0 := hI
  obtain ⟨hB, hN, hM, hW, hA, hS, hG, hC, hT⟩ := hI
  obtain ⟨w1, w2, w3, w4, w5, w6, w7, w8, w9⟩ := id hW
  rw [e_X_first, w1]
  refine ⟨w2, w5.1, w8, hs, hw, ?_⟩
  have e : (if (0 ≤ s ∧ s < σ 37 17) ∧ 0 ≤ w ∧ w ≤ 1 then (if w = 0 then σ 15 s.toNat else (if σ 15 s.toNat ≤ 60 then pathV (σ 13) (σ 14) (σ 15 s.toNat).toNat s else -1)) else -2) = (if (0 ≤ s ∧ s < σ 37 17) ∧ 0 ≤ w ∧ w ≤ 1 then (if w = 0 then σ 54 s.toNat else (if σ 54 s.toNat ≤ 60 then pathV (σ 52) (σ 53) (σ 54 s.toNat).toNat s else -1)) else -2) := by
    by_cases c : (0 ≤ s ∧ s < σ 37 17) ∧ 0 ≤ w ∧ w ≤ 1
    · have h1 := w6 s.toNat (by omega)
      have h2 := w5.1.at c.1
      rw [if_pos c, if_pos c, pth_eq w5.1 w7 (σ 15 s.toNat).toNat s c.1.1 c.1.2 (by omega), h1]
    · rw [if_neg c, if_neg c]
  rw [e]
  refine hK _ _ ?_ (smR σ) (fun K2 hK2 => ?_)
  · refine rLc ?_
    by_cases c : (0 ≤ s ∧ s < σ 37 17) ∧ 0 ≤ w ∧ w ≤ 1
    · have h2 := w5.2.at c.1
      rw [if_pos c]
      split
      · omega
      · split
        · have h3 := pth_r (par := σ 52) w9 (σ 54 s.toNat).toNat s
          have h4 := p60 (n := σ 54 s.toNat) (by omega)
          omega
        · omega
    · rw [if_neg c]; omega
  · show s_M_first _ _ _
    rw [e_M_first]
    exact ⟨w2, w5.2, w9, hs, hw, hK2 _ (smR σ) hI0⟩
theorem o_count {σ : St} (hI : Inv σ) {s : Int} (hs : rI s) {n : Int} (hn : rI n) : OpL σ (s_X_count [.inr (.inr (some 0)), .inl s, .inl n] σ) (fun u => s_M_count [.inr (.inr (some 37)), .inl s, .inl n] u) := by
  intro K hK
  have hI0 := hI
  obtain ⟨hB, hN, hM, hW, hA, hS, hG, hC, hT⟩ := hI
  obtain ⟨w1, w2, w3, w4, w5, w6, w7, w8, w9⟩ := id hW
  have w4m := wire_eq w3 w4
  rw [e_X_count, w1]
  refine ⟨w2, hs, hn, ?_⟩
  by_cases c : (0 ≤ s ∧ s < σ 37 17) ∧ 0 ≤ n ∧ n ≤ 60
  · rw [if_pos c, climbed_at w2.2 (fun r hr h => hA.1 r (by omega) h : Climbed (σ 37 17) (σ 12) (σ 17) n (σ 17)) c.2 c.1, (any_1 hW hA).1]
    refine hK _ _ ?_ (smR σ) (fun K2 hK2 => ?_)
    · have h1 := one_b (σ 37 17) (gM σ) n.toNat s
      have h2 := p60 c.2
      exact rLc (by omega)
    · show s_M_count _ _ _
      rw [e_M_count]
      refine ⟨w2, w4m, hs, hn, ?_⟩
      rw [if_pos c]
      exact fun g => hK2 _ (smR σ) ⟨hB, hN, hM, hW, hA, hS, hG, hC, hT⟩
  · rw [if_neg c]
    refine hK _ _ (rLc (by omega)) (smR σ) (fun K2 hK2 => ?_)
    show s_M_count _ _ _
    rw [e_M_count]
    refine ⟨w2, w4m, hs, hn, ?_⟩
    rw [if_neg c]
    exact hK2 _ (smR σ) hI0
theorem o_number {σ : St} (hI : Inv σ) {s : Int} (hs : rI s) {row : Int} (hrow : rL row) {n : Int} (hn : rI n) : OpL σ (s_X_number [.inr (.inr (some 0)), .inl s, .inr (.inl row), .inl n] σ) (fun u => s_M_number [.inr (.inr (some 37)), .inl s, .inr (.inl row), .inl n] u) := by
  intro K hK
  have hI0 := hI
  obtain ⟨hB, hN, hM, hW, hA, hS, hG, hC, hT⟩ := hI
  obtain ⟨w1, w2, w3, w4, w5, w6, w7, w8, w9⟩ := id hW
  have w4m := wire_eq w3 w4
  obtain ⟨y1, y2, y3⟩ := any_1 hW hA
  rw [e_X_number, w1]
  refine ⟨w2, w4, hA.1, ?_, hs, hrow, hn, ?_⟩
  · unfold LadB
    rw [y1]
    exact one_lb _ _
  rw [y1, y2, fol_eq w3]
  by_cases c : (0 ≤ s ∧ s < σ 37 17) ∧ (0 ≤ n ∧ n ≤ 60 ∧ 0 ≤ row ∧ row < 2 ^ n.toNat)
  · rw [if_pos c]
    have h := folZ_r (row := row) w2.2 w4m n.toNat (s := s) (by omega)
    by_cases c2 : folZ (σ 37 17) (gM σ) row n.toNat s = -1
    · rw [c2, if_pos (show ladI (σ 37 17) (gM σ) oneF 0 (-1) = 0 from ladI_out (by omega))]
      refine hK _ _ (rLc (by omega)) (smR σ) (fun K2 hK2 => ?_)
      show s_M_number _ _ _
      rw [e_M_number]
      refine ⟨w2, w4m, hs, hrow, hn, ?_⟩
      rw [if_pos c, if_pos c2]
      exact hK2 _ (smR σ) hI0
    · have h2 := h.resolve_left c2
      rw [if_neg (show ¬ ladI (σ 37 17) (gM σ) oneF 0 (folZ (σ 37 17) (gM σ) row n.toNat s) = 0 by rw [ladI_0 h2]; show ¬ (1 : Int) = 0; decide)]
      refine hK _ _ ?_ (smR σ) (fun K2 hK2 => ?_)
      · have h3 := rnkZ_r (N := σ 37 17) (f := gM σ) (w := oneF) (B := 1) (by decide) (fun _ _ => ⟨by show (0 : Int) ≤ 1; decide, Int.le_refl _⟩) row n.toNat s
        have h4 := p60 (n := n) (by omega)
        exact rLc (by omega)
      · show s_M_number _ _ _
        rw [e_M_number]
        refine ⟨w2, w4m, hs, hrow, hn, ?_⟩
        rw [if_pos c, if_neg c2]
        exact fun g => hK2 _ (smR σ) ⟨hB, hN, hM, hW, hA, hS, hG, hC, hT⟩
  · rw [if_neg c]
    refine hK _ _ (rLc (by omega)) (smR σ) (fun K2 hK2 => ?_)
    show s_M_number _ _ _
    rw [e_M_number]
    refine ⟨w2, w4m, hs, hrow, hn, ?_⟩
    rw [if_neg c]
    exact hK2 _ (smR σ) hI0
theorem o_row {σ : St} (hI : Inv σ) {s : Int} (hs : rI s) {num : Int} (hnum : rL num) {n : Int} (hn : rI n) : OpL σ (s_X_row [.inr (.inr (some 0)), .inl s, .inr (.inl num), .inl n] σ) (fun u => s_M_row [.inr (.inr (some 37)), .inl s, .inr (.inl num), .inl n] u) := by
  intro K hK
  have hI0 := hI
  obtain ⟨hB, hN, hM, hW, hA, hS, hG, hC, hT⟩ := hI
  obtain ⟨w1, w2, w3, w4, w5, w6, w7, w8, w9⟩ := id hW
  have w4m := wire_eq w3 w4
  obtain ⟨y1, y2, y3⟩ := any_1 hW hA
  rw [e_X_row, w1]
  refine ⟨w2, w4, hA.1, ?_, hs, hnum, hn, ?_⟩
  · unfold LadB
    rw [y1]
    exact one_lb _ _
  rw [y1, y3]
  by_cases c : (0 ≤ s ∧ s < σ 37 17) ∧ 0 ≤ num ∧ 0 ≤ n ∧ n ≤ 60
  · rw [if_pos c]
    refine hK _ _ ?_ (smR σ) (fun K2 hK2 => ?_)
    · have h3 := pckZ_r (N := σ 37 17) (f := gM σ) (w := oneF) n.toNat s num
      have h4 := p60 (n := n) (by omega)
      refine rLc ?_
      split <;> omega
    · show s_M_row _ _ _
      rw [e_M_row]
      refine ⟨w2, w4m, hs, hnum, hn, ?_⟩
      rw [if_pos c]
      exact fun g => hK2 _ (smR σ) ⟨hB, hN, hM, hW, hA, hS, hG, hC, hT⟩
  · rw [if_neg c]
    refine hK _ _ (rLc (by omega)) (smR σ) (fun K2 hK2 => ?_)
    show s_M_row _ _ _
    rw [e_M_row]
    refine ⟨w2, w4m, hs, hnum, hn, ?_⟩
    rw [if_neg c]
    exact hK2 _ (smR σ) hI0
theorem o_ways {σ : St} (hI : Inv σ) {i : Int} (hi : rI i) {j : Int} (hj : rI j) {n : Int} (hn : rI n) : OpI σ (s_X_ways [.inr (.inr (some 0)), .inl i, .inl j, .inl n] σ) (fun u => s_M_ways [.inr (.inr (some 37)), .inl i, .inl j, .inl n] u) := by
  intro K hK
  have hI0 := hI
  obtain ⟨hB, hN, hM, hW, hA, hS, hG, hC, hT⟩ := hI
  obtain ⟨w1, w2, w3, w4, w5, w6, w7, w8, w9⟩ := id hW
  have w4m := wire_eq w3 w4
  rw [e_X_ways, w1]
  refine ⟨w2, w4, hi, hj, hn, ?_⟩
  rw [lad_eq w3 (EqN.refl (indF j))]
  by_cases c : (0 ≤ i ∧ i < σ 37 17) ∧ (0 ≤ j ∧ j < σ 37 17) ∧ 0 ≤ n ∧ n ≤ 12
  · rw [if_pos c]
    intro g
    refine hK _ _ ?_ (smR σ) (fun K2 hK2 => ?_)
    · have h1 := ladI_ind (N := σ 37 17) (B := 1) (f := gM σ) (j := j) n.toNat i
      have h2 := pow12 c.2.2.2
      exact rIc (by omega)
    · show s_M_ways _ _ _
      rw [e_M_ways]
      refine ⟨w2, w4m, hi, hj, hn, ifp c ?_⟩
      exact fun g2 h2 => hK2 _ (smR σ) ⟨hB, hN, hM, hW, hA, hS, hG, hC, hT⟩
  · rw [if_neg c]
    refine hK _ _ (rIc (by omega)) (smR σ) (fun K2 hK2 => ?_)
    show s_M_ways _ _ _
    rw [e_M_ways]
    refine ⟨w2, w4m, hi, hj, hn, ?_⟩
    rw [if_neg c]
    exact hK2 _ (smR σ) hI0
theorem o_marked {σ : St} (hI : Inv σ) : OpI σ (s_X_marked [.inr (.inr (some 0))] σ) (fun u => s_M_marked [.inr (.inr (some 37))] u) := by
  intro K hK
  have hI0 := hI
  obtain ⟨hB, hN, hM, hW, hA, hS, hG, hC, hT⟩ := hI
  rw [e_X_marked, hS.2.1]
  refine hK _ _ hS.2.2 (smR σ) (fun K2 hK2 => ?_)
  show s_M_marked _ _ _
  rw [e_M_marked]
  exact hK2 _ (smR σ) hI0
theorem o_weigh {σ : St} (hI : Inv σ) {s : Int} (hs : rI s) {v : Int} (hv : rI v) : OpI σ (s_X_weigh [.inr (.inr (some 0)), .inl s, .inl v] σ) (fun u => s_M_weigh [.inr (.inr (some 37)), .inl s, .inl v] u) := by
  intro K hK
  have hI0 := hI
  obtain ⟨hB, hN, hM, hW, hA, hS, hG, hC, hT⟩ := hI
  obtain ⟨w1, w2, w3, w4, w5, w6, w7, w8, w9⟩ := id hW
  obtain ⟨g1, g2, g3⟩ := id hG
  rw [e_X_weigh, w1]
  refine ⟨w2, hs, hv, ?_⟩
  by_cases c : (0 ≤ s ∧ s < σ 37 17) ∧ 0 ≤ v ∧ v ≤ 1000000
  · rw [if_pos c]
    have h1 := g1 s.toNat (by omega)
    have h2 := g2 s.toNat (by omega)
    refine hK _ _ (rIc (by omega)) (smR σ) (fun K2 hK2 => ?_)
    show s_M_weigh _ _ _
    rw [e_M_weigh]
    refine ⟨w2, hs, hv, ifp c ?_⟩
    have hK3 : ∀ u2, Sm σ u2 → Inv u2 → K2 (some (.inl (σ 57 s.toNat))) u2 := by rw [← h1]; exact hK2
    refine hK3 _ (smR σ) ⟨hB, hN, hM, hW, hA, hS, ⟨fun t ht => ?_, fun t ht => ?_, fun t ht => ?_⟩, hC, hT⟩
    · show up1 (σ 24) s.toNat v t = up1 (σ 57) s.toNat v t
      have ht : (t : Int) < σ 37 17 := ht
      rw [up1_app, up1_app, g1 t ht]
    · show 0 ≤ up1 (σ 24) s.toNat v t ∧ up1 (σ 24) s.toNat v t ≤ 1000000
      rw [up1_app]
      split
      · omega
      · exact g2 t ht
    · have ht : ¬ (t : Int) < σ 37 17 := ht
      show up1 (σ 24) s.toNat v t = 0
      rw [up1_ne _ _ _ _ (by omega)]
      exact g3 t ht
  · rw [if_neg c]
    refine hK _ _ (rIc (by omega)) (smR σ) (fun K2 hK2 => ?_)
    show s_M_weigh _ _ _
    rw [e_M_weigh]
    refine ⟨w2, hs, hv, ?_⟩
    rw [if_neg c]
    exact hK2 _ (smR σ) hI0
theorem o_weight {σ : St} (hI : Inv σ) {s : Int} (hs : rI s) : OpI σ (s_X_weight [.inr (.inr (some 0)), .inl s] σ) (fun u => s_M_weight [.inr (.inr (some 37)), .inl s] u) := by
  intro K hK
  have hI0 := hI
  obtain ⟨hB, hN, hM, hW, hA, hS, hG, hC, hT⟩ := hI
  obtain ⟨w1, w2, w3, w4, w5, w6, w7, w8, w9⟩ := id hW
  rw [e_X_weight, w1]
  refine ⟨w2, hs, ?_⟩
  have e : (if (0 ≤ s ∧ s < σ 37 17) then σ 24 s.toNat else -2) = (if (0 ≤ s ∧ s < σ 37 17) then σ 57 s.toNat else -2) := by
    by_cases c : 0 ≤ s ∧ s < σ 37 17
    · rw [if_pos c, if_pos c, hG.1 s.toNat (by omega)]
    · rw [if_neg c, if_neg c]
  refine hK _ _ ?_ (smR σ) (fun K2 hK2 => ?_)
  · by_cases c : 0 ≤ s ∧ s < σ 37 17
    · rw [if_pos c]; have := hG.2.1 s.toNat (by omega); exact rIc (by omega)
    · rw [if_neg c]; exact rIc (by omega)
  · rw [e] at hK2
    show s_M_weight _ _ _
    rw [e_M_weight]
    exact ⟨w2, hs, hK2 _ (smR σ) hI0⟩
theorem o_member {σ : St} (hI : Inv σ) {s : Int} (hs : rI s) : OpI σ (s_X_member [.inr (.inr (some 0)), .inl s] σ) (fun u => s_M_member [.inr (.inr (some 37)), .inl s] u) := by
  intro K hK
  have hI0 := hI
  obtain ⟨hB, hN, hM, hW, hA, hS, hG, hC, hT⟩ := hI
  obtain ⟨w1, w2, w3, w4, w5, w6, w7, w8, w9⟩ := id hW
  obtain ⟨c1, c2, c3, c4, c5, c6, c7, c8⟩ := id hC
  rw [e_X_member, w1, c1]
  refine ⟨w2, c3.1, c2, hs, ?_⟩
  have e : (if ¬ (0 ≤ s ∧ s < σ 37 17) then -2 else if σ 37 32 = 0 then -3 else if σ 28 s.toNat = 1 then 1 else 0) = (if ¬ (0 ≤ s ∧ s < σ 37 17) then (-2 : Int) else if σ 37 32 = 0 then -3 else if σ 62 s.toNat = 1 then 1 else 0) := by
    by_cases c : 0 ≤ s ∧ s < σ 37 17
    · have cn : ¬ ¬ (0 ≤ s ∧ s < σ 37 17) := fun q => q c
      rw [if_neg cn, if_neg cn]
      by_cases d : σ 37 32 = 0
      · rw [if_pos d, if_pos d]
      · rw [if_neg d, if_neg d, (c8 (by omega)).1 s.toNat (by omega)]
    · rw [if_pos c, if_pos c]
  rw [e]
  refine hK _ _ ?_ (smR σ) (fun K2 hK2 => ?_)
  · refine rIc ?_
    split
    · omega
    · split
      · omega
      · split <;> omega
  · show s_M_member _ _ _
    rw [e_M_member]
    exact ⟨w2, c3.2, hs, rIc (by omega), hK2 _ (smR σ) hI0⟩
