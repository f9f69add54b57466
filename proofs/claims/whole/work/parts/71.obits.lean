/-! calls on messages and plates -/
theorem sq_r {f : Nat → Int} : ∀ n : Nat, n ≤ 600 → (∀ j, j < n → f j = 0 ∨ f j = 1) → 0 ≤ sqF f n ∧ sqF f n ≤ 360000 * (n : Int)
  | 0, _, _ => by rw [sqF]; omega
  | n + 1, h6, h => by
    have h1 := sq_r n (by omega) (fun j hj => h j (by omega))
    have h2 := lean_r (n + 1) h
    have h3 : 0 ≤ leanF f (n + 1) * leanF f (n + 1) := by
      rcases Int.le_total 0 (leanF f (n + 1)) with c | c
      · exact Int.mul_nonneg c c
      · exact Int.mul_nonneg_of_nonpos_of_nonpos c c
    have h4 : leanF f (n + 1) * leanF f (n + 1) ≤ 600 * 600 := by
      rcases Int.le_total 0 (leanF f (n + 1)) with c | c
      · exact Int.mul_le_mul (by omega) (by omega) c (by omega)
      · rw [← Int.neg_mul_neg]
        exact Int.mul_le_mul (by omega) (by omega) (by omega) (by omega)
    rw [sqF]
    omega
theorem trn_r {f : Nat → Int} : ∀ n : Nat, 0 ≤ turnF f n ∧ turnF f n ≤ n
  | 0 => by rw [turnF]; omega
  | n + 1 => by
    have := trn_r (f := f) n
    rw [turnF]
    split <;> omega
theorem o_message {σ : St} (hI : Inv σ) {i : Int} (hi : rI i) : OpI σ (s_X_message [.inr (.inr (some 0)), .inl i] σ) (fun u => s_M_message [.inr (.inr (some 37)), .inl i] u) := by
  intro K hK
  have hI0 := hI
  obtain ⟨hB, hN, hM, hW, hA, hS, hG, hC, hT⟩ := hI
  obtain ⟨t1, t2, t3, t4, t5, t6, t7, t8, t9, t10⟩ := id hT
  have hb64 : ∀ t : Nat, (t : Int) < σ 37 38 → σ 64 t = 0 ∨ σ 64 t = 1 := fun t ht => by rw [← t7 t ht]; exact t8 t
  have hb63 : ∀ t : Nat, (t : Int) < σ 37 36 → σ 63 t = 0 ∨ σ 63 t = 1 := fun t ht => by rw [← t3 t ht]; exact t4 t
  rw [e_X_message, t1]
  refine ⟨by omega, hi, ?_⟩
  have e : (if 0 ≤ i ∧ i < σ 37 36 then σ 32 i.toNat else -2) = (if 0 ≤ i ∧ i < σ 37 36 then σ 63 i.toNat else -2) := by
    by_cases c : 0 ≤ i ∧ i < σ 37 36
    · rw [if_pos c, if_pos c, t3 i.toNat (by omega)]
    · rw [if_neg c, if_neg c]
  refine hK _ _ ?_ (smR σ) (fun K2 hK2 => ?_)
  · have h1 := t4 i.toNat
    refine rIc ?_
    split <;> omega
  · rw [e] at hK2
    show s_M_message _ _ _
    rw [e_M_message]
    exact ⟨t2, hi, hK2 _ (smR σ) hI0⟩
theorem o_plate {σ : St} (hI : Inv σ) {i : Int} (hi : rI i) : OpI σ (s_X_plate [.inr (.inr (some 0)), .inl i] σ) (fun u => s_M_plate [.inr (.inr (some 37)), .inl i] u) := by
  intro K hK
  have hI0 := hI
  obtain ⟨hB, hN, hM, hW, hA, hS, hG, hC, hT⟩ := hI
  obtain ⟨t1, t2, t3, t4, t5, t6, t7, t8, t9, t10⟩ := id hT
  have hb64 : ∀ t : Nat, (t : Int) < σ 37 38 → σ 64 t = 0 ∨ σ 64 t = 1 := fun t ht => by rw [← t7 t ht]; exact t8 t
  have hb63 : ∀ t : Nat, (t : Int) < σ 37 36 → σ 63 t = 0 ∨ σ 63 t = 1 := fun t ht => by rw [← t3 t ht]; exact t4 t
  rw [e_X_plate, t5]
  refine ⟨by omega, hi, ?_⟩
  have e : (if 0 ≤ i ∧ i < σ 37 38 then σ 34 i.toNat else -2) = (if 0 ≤ i ∧ i < σ 37 38 then σ 64 i.toNat else -2) := by
    by_cases c : 0 ≤ i ∧ i < σ 37 38
    · rw [if_pos c, if_pos c, t7 i.toNat (by omega)]
    · rw [if_neg c, if_neg c]
  refine hK _ _ ?_ (smR σ) (fun K2 hK2 => ?_)
  · have h1 := t8 i.toNat
    refine rIc ?_
    split <;> omega
  · rw [e] at hK2
    show s_M_plate _ _ _
    rw [e_M_plate]
    exact ⟨t6, hi, hK2 _ (smR σ) hI0⟩
theorem o_say {σ : St} (hI : Inv σ) {row : Int} (hrow : rL row) {n : Int} (hn : rI n) : OpI σ (s_X_say [.inr (.inr (some 0)), .inr (.inl row), .inl n] σ) (fun u => s_M_say [.inr (.inr (some 37)), .inr (.inl row), .inl n] u) := by
  intro K hK
  have hI0 := hI
  obtain ⟨hB, hN, hM, hW, hA, hS, hG, hC, hT⟩ := hI
  obtain ⟨t1, t2, t3, t4, t5, t6, t7, t8, t9, t10⟩ := id hT
  have hb64 : ∀ t : Nat, (t : Int) < σ 37 38 → σ 64 t = 0 ∨ σ 64 t = 1 := fun t ht => by rw [← t7 t ht]; exact t8 t
  have hb63 : ∀ t : Nat, (t : Int) < σ 37 36 → σ 63 t = 0 ∨ σ 63 t = 1 := fun t ht => by rw [← t3 t ht]; exact t4 t
  rw [e_X_say]
  refine ⟨by omega, hrow, hn, ?_⟩
  by_cases c : 0 ≤ n ∧ n ≤ 60 ∧ 0 ≤ row ∧ row < 2 ^ n.toNat
  · rw [if_pos c]
    by_cases d : 240 < σ 31 1 + n
    · rw [if_pos d]
      refine hK _ _ (rIc (by omega)) (smR σ) (fun K2 hK2 => ?_)
      show s_M_say _ _ _
      rw [e_M_say]
      exact ⟨t2, hrow, hn, ifp c (ifp (by omega) (hK2 _ (smR σ) hI0))⟩
    · rw [if_neg d]
      refine hK _ _ (rIc (by omega)) (smR σ) (fun K2 hK2 => ?_)
      show s_M_say _ _ _
      rw [e_M_say]
      refine ⟨t2, hrow, hn, ifp c (ifn (show ¬ 240 < σ 37 36 + n by omega) ?_)⟩
      have hK3 : ∀ u2, Sm σ u2 → Inv u2 → K2 (some (.inl (σ 37 36 + n))) u2 := by rw [← t1]; exact hK2
      refine hK3 _ (smR σ) ⟨hB, hN, hM, hW, hA, hS, hG, hC, ⟨by show σ 31 1 + n = σ 37 36 + n; rw [t1], ⟨by show 0 ≤ σ 37 36 + n; omega, by show σ 37 36 + n ≤ 240; omega⟩, fun j hj => ?_, fun j => ?_, t5, t6, t7, t8, t9, t10⟩⟩
      · have hj : (j : Int) < σ 37 36 + n := hj
        show addF (σ 32) row (σ 31 1) n n j = addF (σ 63) row (σ 37 36) n n j
        rw [t1]
        unfold addF
        by_cases q : σ 37 36 ≤ j ∧ (j : Int) < σ 37 36 + n ∧ j < 600
        · rw [if_pos q, if_pos q]
        · rw [if_neg q, if_neg q]
          exact t3 j (by omega)
      · show addF (σ 32) row (σ 31 1) n n j = 0 ∨ addF (σ 32) row (σ 31 1) n n j = 1
        rw [addF_app]
        split
        · exact bitZ_01 _ _
        · exact t4 j
  · rw [if_neg c]
    refine hK _ _ (rIc (by omega)) (smR σ) (fun K2 hK2 => ?_)
    show s_M_say _ _ _
    rw [e_M_say]
    exact ⟨t2, hrow, hn, ifn c (hK2 _ (smR σ) hI0)⟩
theorem o_put {σ : St} (hI : Inv σ) {row : Int} (hrow : rL row) {n : Int} (hn : rI n) : OpI σ (s_X_put [.inr (.inr (some 0)), .inr (.inl row), .inl n] σ) (fun u => s_M_put [.inr (.inr (some 37)), .inr (.inl row), .inl n] u) := by
  intro K hK
  have hI0 := hI
  obtain ⟨hB, hN, hM, hW, hA, hS, hG, hC, hT⟩ := hI
  obtain ⟨t1, t2, t3, t4, t5, t6, t7, t8, t9, t10⟩ := id hT
  have hb64 : ∀ t : Nat, (t : Int) < σ 37 38 → σ 64 t = 0 ∨ σ 64 t = 1 := fun t ht => by rw [← t7 t ht]; exact t8 t
  have hb63 : ∀ t : Nat, (t : Int) < σ 37 36 → σ 63 t = 0 ∨ σ 63 t = 1 := fun t ht => by rw [← t3 t ht]; exact t4 t
  rw [e_X_put]
  refine ⟨by omega, hrow, hn, ?_⟩
  by_cases c : 0 ≤ n ∧ n ≤ 60 ∧ 0 ≤ row ∧ row < 2 ^ n.toNat
  · rw [if_pos c]
    by_cases d : 600 < σ 33 1 + n
    · rw [if_pos d]
      refine hK _ _ (rIc (by omega)) (smR σ) (fun K2 hK2 => ?_)
      show s_M_put _ _ _
      rw [e_M_put]
      exact ⟨t6, hrow, hn, ifp c (ifp (by omega) (hK2 _ (smR σ) hI0))⟩
    · rw [if_neg d]
      refine hK _ _ (rIc (by omega)) (smR σ) (fun K2 hK2 => ?_)
      show s_M_put _ _ _
      rw [e_M_put]
      refine ⟨t6, hrow, hn, ifp c (ifn (show ¬ 600 < σ 37 38 + n by omega) ?_)⟩
      have hK3 : ∀ u2, Sm σ u2 → Inv u2 → K2 (some (.inl (σ 37 38 + n))) u2 := by rw [← t5]; exact hK2
      refine hK3 _ (smR σ) ⟨hB, hN, hM, hW, hA, hS, hG, hC, ⟨t1, t2, t3, t4, by show σ 33 1 + n = σ 37 38 + n; rw [t5], ⟨by show 0 ≤ σ 37 38 + n; omega, by show σ 37 38 + n ≤ 600; omega⟩, fun j hj => ?_, fun j => ?_, t9, t10⟩⟩
      · have hj : (j : Int) < σ 37 38 + n := hj
        show addF (σ 34) row (σ 33 1) n n j = addF (σ 64) row (σ 37 38) n n j
        rw [t5]
        unfold addF
        by_cases q : σ 37 38 ≤ j ∧ (j : Int) < σ 37 38 + n ∧ j < 600
        · rw [if_pos q, if_pos q]
        · rw [if_neg q, if_neg q]
          exact t7 j (by omega)
      · show addF (σ 34) row (σ 33 1) n n j = 0 ∨ addF (σ 34) row (σ 33 1) n n j = 1
        rw [addF_app]
        split
        · exact bitZ_01 _ _
        · exact t8 j
  · rw [if_neg c]
    refine hK _ _ (rIc (by omega)) (smR σ) (fun K2 hK2 => ?_)
    show s_M_put _ _ _
    rw [e_M_put]
    exact ⟨t6, hrow, hn, ifn c (hK2 _ (smR σ) hI0)⟩
theorem o_hush {σ : St} (hI : Inv σ) : OpI σ (s_X_hush [.inr (.inr (some 0))] σ) (fun u => s_M_hush [.inr (.inr (some 37))] u) := by
  intro K hK
  have hI0 := hI
  obtain ⟨hB, hN, hM, hW, hA, hS, hG, hC, hT⟩ := hI
  obtain ⟨t1, t2, t3, t4, t5, t6, t7, t8, t9, t10⟩ := id hT
  have hb64 : ∀ t : Nat, (t : Int) < σ 37 38 → σ 64 t = 0 ∨ σ 64 t = 1 := fun t ht => by rw [← t7 t ht]; exact t8 t
  have hb63 : ∀ t : Nat, (t : Int) < σ 37 36 → σ 63 t = 0 ∨ σ 63 t = 1 := fun t ht => by rw [← t3 t ht]; exact t4 t
  rw [e_X_hush, t1]
  refine ⟨by omega, ?_⟩
  refine hK _ _ (rIc (by omega)) (smR σ) (fun K2 hK2 => ?_)
  show s_M_hush _ _ _
  rw [e_M_hush]
  exact hK2 _ (smR σ) ⟨hB, hN, hM, hW, hA, hS, hG, hC, rfl, ⟨Int.le_refl _, by show (0 : Int) ≤ 240; decide⟩, fun j hj => by have hj : (j : Int) < 0 := hj; omega, t4, t5, t6, t7, t8, t9, t10⟩
theorem o_cut {σ : St} (hI : Inv σ) {n : Int} (hn : rI n) : OpI σ (s_X_cut [.inr (.inr (some 0)), .inl n] σ) (fun u => s_M_cut [.inr (.inr (some 37)), .inl n] u) := by
  intro K hK
  have hI0 := hI
  obtain ⟨hB, hN, hM, hW, hA, hS, hG, hC, hT⟩ := hI
  obtain ⟨t1, t2, t3, t4, t5, t6, t7, t8, t9, t10⟩ := id hT
  have hb64 : ∀ t : Nat, (t : Int) < σ 37 38 → σ 64 t = 0 ∨ σ 64 t = 1 := fun t ht => by rw [← t7 t ht]; exact t8 t
  have hb63 : ∀ t : Nat, (t : Int) < σ 37 36 → σ 63 t = 0 ∨ σ 63 t = 1 := fun t ht => by rw [← t3 t ht]; exact t4 t
  rw [e_X_cut, t5]
  refine ⟨by omega, hn, ?_⟩
  by_cases c : 0 ≤ n ∧ n ≤ σ 37 38
  · rw [if_pos c]
    refine hK _ _ (rIc (by omega)) (smR σ) (fun K2 hK2 => ?_)
    show s_M_cut _ _ _
    rw [e_M_cut]
    refine ⟨t6, hn, ifp c ?_⟩
    exact hK2 _ (smR σ) ⟨hB, hN, hM, hW, hA, hS, hG, hC, t1, t2, t3, t4, rfl, ⟨c.1, by show n ≤ 600; omega⟩, fun j hj => by have hj : (j : Int) < n := hj; exact t7 j (by omega), t8, t9, t10⟩
  · rw [if_neg c]
    refine hK _ _ (rIc (by omega)) (smR σ) (fun K2 hK2 => ?_)
    show s_M_cut _ _ _
    rw [e_M_cut]
    exact ⟨t6, hn, ifn c (hK2 _ (smR σ) hI0)⟩
theorem o_spoil {σ : St} (hI : Inv σ) {i : Int} (hi : rI i) : OpI σ (s_X_spoil [.inr (.inr (some 0)), .inl i] σ) (fun u => s_M_spoil [.inr (.inr (some 37)), .inl i] u) := by
  intro K hK
  have hI0 := hI
  obtain ⟨hB, hN, hM, hW, hA, hS, hG, hC, hT⟩ := hI
  obtain ⟨t1, t2, t3, t4, t5, t6, t7, t8, t9, t10⟩ := id hT
  have hb64 : ∀ t : Nat, (t : Int) < σ 37 38 → σ 64 t = 0 ∨ σ 64 t = 1 := fun t ht => by rw [← t7 t ht]; exact t8 t
  have hb63 : ∀ t : Nat, (t : Int) < σ 37 36 → σ 63 t = 0 ∨ σ 63 t = 1 := fun t ht => by rw [← t3 t ht]; exact t4 t
  rw [e_X_spoil, t5]
  refine ⟨by omega, t8, hi, ?_⟩
  by_cases c : 0 ≤ i ∧ i < σ 37 38
  · have h1 := t8 i.toNat
    have h2 := t7 i.toNat (by omega)
    rw [if_pos c, if_pos c]
    refine hK _ _ (rIc (by omega)) (smR σ) (fun K2 hK2 => ?_)
    show s_M_spoil _ _ _
    rw [e_M_spoil]
    refine ⟨t6, hi, ?_⟩
    have c2 : 0 ≤ i ∧ i < updR σ 34 (up1 (σ 34) i.toNat (1 - σ 34 i.toNat)) 37 38 := c
    rw [if_pos c2, if_pos c2]
    have hK3 : ∀ u2, Sm σ u2 → Inv u2 → K2 (some (.inl (σ 64 i.toNat))) u2 := by rw [← h2]; exact hK2
    refine hK3 _ (smR σ) ⟨hB, hN, hM, hW, hA, hS, hG, hC, t1, t2, t3, t4, t5, t6, fun j hj => ?_, fun j => ?_, t9, t10⟩
    · have hj : (j : Int) < σ 37 38 := hj
      show up1 (σ 34) i.toNat (1 - σ 34 i.toNat) j = up1 (σ 64) i.toNat (1 - σ 64 i.toNat) j
      rw [up1_app, up1_app, h2, t7 j hj]
    · show up1 (σ 34) i.toNat (1 - σ 34 i.toNat) j = 0 ∨ up1 (σ 34) i.toNat (1 - σ 34 i.toNat) j = 1
      rw [up1_app]
      split
      · omega
      · exact t8 j
  · rw [if_neg c, if_neg c]
    refine hK _ _ (rIc (by omega)) (smR σ) (fun K2 hK2 => ?_)
    show s_M_spoil _ _ _
    rw [e_M_spoil]
    refine ⟨t6, hi, ?_⟩
    rw [if_neg c, if_neg c]
    exact hK2 _ (smR σ) hI0
theorem o_check {σ : St} (hI : Inv σ) : OpI σ (s_X_check [.inr (.inr (some 0))] σ) (fun u => s_M_check [.inr (.inr (some 37))] u) := by
  intro K hK
  have hI0 := hI
  obtain ⟨hB, hN, hM, hW, hA, hS, hG, hC, hT⟩ := hI
  obtain ⟨t1, t2, t3, t4, t5, t6, t7, t8, t9, t10⟩ := id hT
  have hb64 : ∀ t : Nat, (t : Int) < σ 37 38 → σ 64 t = 0 ∨ σ 64 t = 1 := fun t ht => by rw [← t7 t ht]; exact t8 t
  have hb63 : ∀ t : Nat, (t : Int) < σ 37 36 → σ 63 t = 0 ∨ σ 63 t = 1 := fun t ht => by rw [← t3 t ht]; exact t4 t
  obtain ⟨w1, w2, w3, w4, w5, w6, w7, w8, w9⟩ := id hW
  rw [e_X_check, w1, t5]
  refine ⟨w2, w4, by omega, t8, ?_⟩
  rw [chk_eq w3 (σ 37 38).toNat (fun j hj => t7 j (by omega))]
  refine hK _ _ ?_ (smR σ) (fun K2 hK2 => ?_)
  · have h := findF_spec (fun i => decide (stF (σ 37 17) (gM σ) (σ 64) (i + 1) = -1)) (σ 37 38).toNat
    refine rIc ?_
    split
    · omega
    · unfold chkZ
      rcases h with ⟨h1, -⟩ | ⟨k, h1, h2, -⟩
      · rw [h1]; omega
      · rw [h2]; omega
  · show s_M_check _ _ _
    rw [e_M_check]
    exact ⟨w2, wire_eq w3 w4, t6, hb64, hK2 _ (smR σ) hI0⟩
theorem o_shape {σ : St} (hI : Inv σ) {w : Int} (hw : rI w) : OpI σ (s_X_shape [.inr (.inr (some 0)), .inl w] σ) (fun u => s_M_shape [.inr (.inr (some 37)), .inl w] u) := by
  intro K hK
  have hI0 := hI
  obtain ⟨hB, hN, hM, hW, hA, hS, hG, hC, hT⟩ := hI
  obtain ⟨t1, t2, t3, t4, t5, t6, t7, t8, t9, t10⟩ := id hT
  have hb64 : ∀ t : Nat, (t : Int) < σ 37 38 → σ 64 t = 0 ∨ σ 64 t = 1 := fun t ht => by rw [← t7 t ht]; exact t8 t
  have hb63 : ∀ t : Nat, (t : Int) < σ 37 36 → σ 63 t = 0 ∨ σ 63 t = 1 := fun t ht => by rw [← t3 t ht]; exact t4 t
  have hlo : ∀ j, j < (σ 37 38).toNat → σ 34 j = σ 64 j := fun j hj => t7 j (by omega)
  rw [e_X_shape, t5, lst_eq _ hlo, grt_eq _ hlo, sq_eq _ hlo, lng_eq _ hlo, trn_eq _ hlo]
  refine ⟨by omega, t8, hw, ?_⟩
  refine hK _ _ ?_ (smR σ) (fun K2 hK2 => ?_)
  · have hb : ∀ j, j < (σ 37 38).toNat → σ 64 j = 0 ∨ σ 64 j = 1 := fun j hj => hb64 j (by omega)
    have h1 := shp_r _ hb
    have h2 := sq_r _ (by omega) hb
    have h3 := trn_r (f := σ 64) (σ 37 38).toNat
    unfold rI
    split
    · omega
    · split
      · omega
      · split
        · omega
        · split
          · omega
          · split <;> omega
  · show s_M_shape _ _ _
    rw [e_M_shape]
    exact ⟨t6, hb64, hw, hK2 _ (smR σ) hI0⟩
theorem cnt_eq {σ : St} (hI : Inv σ) {w : Int} : cntZ σ w = cntM σ w ∧ rI (cntM σ w) := by
  obtain ⟨hB, ⟨n1, n2, -⟩, hM, ⟨w1, w2, -⟩, hA, hS, hG, ⟨c1, c2, c3, c4, c5, c6, c7, c8⟩, ⟨t1, t2, t3, t4, t5, t6, -⟩⟩ := hI
  have h : (σ 37 32 = 0 ∧ σ 25 4 = 0 ∧ σ 25 5 = 0 ∧ σ 25 6 = -1) ∨ (σ 37 32 ≠ 0 ∧ σ 25 4 = σ 37 33 ∧ σ 25 5 = σ 37 34 ∧ σ 25 6 = homeF (σ 62) ∧ (1 ≤ σ 37 33 ∧ σ 37 33 ≤ 8) ∧ (1 ≤ σ 37 34 ∧ σ 37 34 ≤ 12) ∧ 0 ≤ homeF (σ 62) ∧ homeF (σ 62) ≤ 100) := by
    by_cases d : σ 37 32 = 0
    · exact Or.inl ⟨d, c7 d⟩
    · obtain ⟨d1, d2, d3, d4, d5, -⟩ := c8 (by omega)
      exact Or.inr ⟨d, d2.1, d2.2.1, d5.1, by omega, by omega, by omega, by omega⟩
  unfold cntZ cntM
  rw [t1, t5, w1, c1, n1]
  rcases h with ⟨e0, e1, e2, e3⟩ | ⟨e0, e1, e2, e3, e4, e5, e6, e7⟩
  · rw [e1, e2, e3, if_pos e0, if_pos e0, if_pos e0]
    refine ⟨rfl, rIc ?_⟩
    repeat' split
    all_goals omega
  · rw [e1, e2, e3, if_neg e0, if_neg e0, if_neg e0]
    refine ⟨rfl, rIc ?_⟩
    repeat' split
    all_goals omega
theorem mem_some {σ : St} (hC : IvC σ) (hW : IvW σ) (h : σ 37 32 ≠ 0) : ∃ s : Nat, s < 100 ∧ σ 62 s = 1 := by
  obtain ⟨c1, c2, c3, c4, c5, c6, c7, c8⟩ := hC
  obtain ⟨d1, d2, d3, d4, d5, -⟩ := c8 (by omega)
  exact ⟨_, by have := hW.2.1; omega, d5.2.2.2⟩
theorem o_count1 {σ : St} (hI : Inv σ) {w : Int} (hw : rI w) : OpI σ (s_X_count1 [.inr (.inr (some 0)), .inl w] σ) (fun u => s_M_count1 [.inr (.inr (some 37)), .inl w] u) := by
  intro K hK
  have hI0 := hI
  obtain ⟨hB, hN, hM, hW, hA, hS, hG, hC, hT⟩ := hI
  rw [e_X_count1]
  refine ⟨hw, ?_⟩
  have hc := cnt_eq hI0 (w := w)
  show K (some (.inl (cntZ σ w))) σ
  rw [hc.1]
  refine hK _ _ hc.2 (smR σ) (fun K2 hK2 => ?_)
  show s_M_count1 _ _ _
  rw [e_M_count1]
  exact ⟨hC.2.2.1.2, mem_some hC hW, rIc (by have := hC.2.1; omega), hw, hK2 _ (smR σ) hI0⟩
