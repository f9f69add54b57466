/-! builds: the same language, the same wire -/
theorem lg_kc {σ ρ : St} (hB : IvB σ) (hu : ∀ k, 36 < k → ρ k = σ k) (w : List Bool) : LgK σ w ↔ LgC ρ w := by
  obtain ⟨⟨h1, h2, h3, h4⟩, h5, h6, h7⟩ := hB
  have e1 : kS σ = kA (σ 37 0) (σ 37 1) (σ 37 2) (σ 37 5) (σ 38) (σ 39) (memW (σ 39) (σ 37 1) (σ 37 2).toNat) := by
    funext key bit
    unfold kS
    rw [h1, h2, h3, h4, h5, h6]
  have e2 : bhS ρ = bhZ (σ 37 0) (σ 37 1) (σ 37 2) (σ 37 5) (σ 38) (σ 39) := by
    funext c bit
    unfold bhS
    rw [hu 37 (by decide), hu 38 (by decide), hu 39 (by decide)]
  show LgD (dOf (kS σ)) 1281 w ↔ LgD (dOf (bhS ρ)) 16 w
  rw [e1, e2]
  exact lg_tie h7 w
theorem many_iff {L M : List Bool → Prop} (h : ∀ w, L w ↔ M w) (hL : ManyL L) : ManyL M := by
  obtain ⟨r, h1, h2⟩ := hL
  refine ⟨r, fun k hk => (h _).mp (h1 k hk), fun j k a b => ?_⟩
  obtain ⟨w, hw⟩ := h2 j k a b
  exact ⟨w, fun q => hw (by rw [h, h]; exact q)⟩
theorem many_nil {L : List Bool → Prop} (h : ∀ w, ¬ L w) : ¬ ManyL L := fun ⟨r, h1, _⟩ => h _ (h1 0 (Nat.zero_le _))
theorem made_no {L : List Bool → Prop} {cnt G : Int} {nx g : Nat → Int} (h : MadeOK L cnt G nx g) {F : Nat → Int} (hq : QuoW cnt nx g F) : ¬ ManyL L := by
  obtain ⟨-, g1, g2, g3, g4⟩ := h
  rcases g4 with ⟨-, g5⟩ | ⟨g5, g6⟩
  · exact many_nil g5
  · obtain ⟨g7, g8⟩ := g6 F hq
    exact many_no g2 g7.1 g5 g8
theorem build_tie {L : List Bool → Prop} {cnt G N : Int} {nx g F par bit dep F' par' bit' dep' : Nat → Int} (hM : MadeOK L cnt G nx g) (hq : QuoW cnt nx g F) (hf : FirstP G F par bit dep) (hE : (N = 0 ∧ ∀ q, ¬ L q) ∨ ((0 < N ∧ N ≤ 100) ∧ Canon N F' ∧ (∀ q, L q ↔ runB F' 0 q ≠ -1) ∧ FirstP N F' par' bit' dep')) : G = N ∧ (0 ≤ N ∧ N ≤ 100) ∧ EqW N F F' ∧ Wire N F ∧ (Tree N par dep ∧ Tree N par' dep') ∧ EqN N dep dep' ∧ ∀ p : Nat, 0 < p → (p : Int) < N → par p = par' p ∧ bit p = bit' p := by
  obtain ⟨-, g1, g2, g3, g4⟩ := hM
  rcases g4 with ⟨g5, g6⟩ | ⟨g5, g6⟩
  · rcases hE with ⟨h1, -⟩ | ⟨h1, -, h3, -⟩
    · subst g5
      subst h1
      exact ⟨rfl, by decide, fun p hp => by omega, fun p hp => by omega, ⟨⟨fun h => absurd h (by decide), fun t h1 h2 => by omega⟩, ⟨fun h => absurd h (by decide), fun t h1 h2 => by omega⟩⟩, fun p hp => by omega, fun p h1 h2 => by omega⟩
    · exact absurd ((h3 []).mpr (by show (0 : Int) ≠ -1; decide)) (g6 [])
  · obtain ⟨g7, g8⟩ := g6 F hq
    rcases hE with ⟨-, h2⟩ | ⟨h1, h2, h3, h4⟩
    · exact absurd ((g8 []).mpr (by show (0 : Int) ≠ -1; decide)) (h2 [])
    · obtain ⟨e1, e2⟩ := canon_uniq g7 h2 g5 h1.1 (fun w => by
        have a1 := g8 w
        have a2 := h3 w
        exact ⟨fun h => Classical.byContradiction fun c => (a1.mp (a2.mpr c)) h, fun h => Classical.byContradiction fun c => (a2.mp (a1.mpr c)) h⟩)
      subst e1
      have e3 := firstP_uniq e2 hf h4
      exact ⟨rfl, ⟨by omega, h1.2⟩, e2, g7.1, ⟨firstP_tree hf, firstP_tree h4⟩, fun p hp => (e3 p hp).1, fun p h1 h2 => (e3 p h2).2 h1⟩
theorem mk_row {σ τ : St} {r : Int} (h : MakeSt (updR σ 0 (up1 (σ 0) 11 (σ 0 11 + 1))) τ r) : (∀ k, k ∉ [0, 4, 5, 6, 7, 8, 9, 10] → τ k = σ k) ∧ τ 0 11 = σ 0 11 + 1 := by
  have h0 := h.1 0 (Or.inl (by decide))
  refine ⟨fun k hk => (h.1 k ?_).trans (updR_ne _ _ _ _ (nm hk (by decide))), by rw [h0, updR_eq, up1_eq]⟩
  have a1 := nm hk (show 4 ∈ [0, 4, 5, 6, 7, 8, 9, 10] by decide)
  have a2 := nm hk (show 5 ∈ [0, 4, 5, 6, 7, 8, 9, 10] by decide)
  have a3 := nm hk (show 6 ∈ [0, 4, 5, 6, 7, 8, 9, 10] by decide)
  have a4 := nm hk (show 7 ∈ [0, 4, 5, 6, 7, 8, 9, 10] by decide)
  have a5 := nm hk (show 8 ∈ [0, 4, 5, 6, 7, 8, 9, 10] by decide)
  have a6 := nm hk (show 9 ∈ [0, 4, 5, 6, 7, 8, 9, 10] by decide)
  have a7 := nm hk (show 10 ∈ [0, 4, 5, 6, 7, 8, 9, 10] by decide)
  omega
set_option maxHeartbeats 2000000 in
theorem o_build {σ : St} (hI : Inv σ) : OpI σ (s_X_build [.inr (.inr (some 0))] σ) (fun u => s_M_build [.inr (.inr (some 37))] u) := by
  intro K hK
  have hI0 := hI
  obtain ⟨hB, hN, hM, hW, hA, hS, hG, hC, hT⟩ := hI
  obtain ⟨w1, w2, w3, w4, w5, w6, w7, w8, w9⟩ := id hW
  obtain ⟨c1, c2, c3, c4, c5, c6, c7, c8⟩ := id hC
  obtain ⟨n1, n2, n3, n4⟩ := id hN
  obtain ⟨⟨b1, b2, b3, b4⟩, b5, b6, b7⟩ := id hB
  rw [e_X_build]
  refine ⟨by rw [b1, b2, b3, b4, b5, b6]; exact b7, by omega, by omega, n4, w8, c5, ?_⟩
  have hm2 : ∀ (u : St) (K2 : Option AV → St → Prop), (∀ k, 36 < k → u k = σ k) → (∀ τ r, BuildM u τ r → K2 (some (.inl r)) τ) → s_M_build [.inr (.inr (some 37))] u K2 := fun u K2 hu h => by
    rw [e_M_build, hu 37 (by decide), hu 38 (by decide), hu 39 (by decide), hu 45 (by decide), hu 46 (by decide), hu 47 (by decide), hu 48 (by decide), hu 49 (by decide), hu 53 (by decide)]
    exact ⟨b7, n2, hM.1, hM.2.1, hM.2.2, w9, h⟩
  intro ρ r hr
  rcases hr with ⟨a1, a2, a3⟩ | ⟨a1, a2, a3⟩ | ⟨a1, τ, τ2, g, a2, a3, a4, a5, a6, a7⟩
  · rw [a2, a3]
    refine hK _ _ (rIc (by omega)) (smR σ) (fun K2 hK2 => hm2 σ K2 (fun _ _ => rfl) (fun u z h => ?_))
    rcases h with ⟨d1, d2, d3⟩ | ⟨d1, -⟩
    · rw [d2, d3]
      exact hK2 _ (smR σ) hI0
    · omega
  · obtain ⟨k1, k2⟩ := mk_row a2
    have hu : ∀ k, 36 < k → ρ k = σ k := fun k hk => (a2.1 k (by omega)).trans (updR_ne _ _ _ _ (by omega))
    have hmany : ManyL (LgC ρ) := by
      obtain ⟨-, -, -, -, ⟨q, -⟩ | ⟨-, q⟩⟩ := a2
      · exact absurd q (by decide)
      · exact many_iff (lg_kc hB hu) q
    rw [a3]
    refine hK _ _ (rIc (by omega)) ⟨hu 1000 (by decide), hu 1001 (by decide)⟩ (fun K2 hK2 => hm2 ρ K2 hu (fun u z h => ?_))
    rcases h with ⟨d1, -⟩ | ⟨d1, d2, d3, d4, d5, ⟨d6, d7, f1, f2⟩ | ⟨d6, -, -, -, -, -, d7⟩⟩
    · rw [hu 37 (by decide)] at d1
      omega
    · have fr : ∀ k, k ∉ [0, 4, 5, 6, 7, 8, 9, 10] ++ 37 :: [40, 41, 42, 43, 44, 45, 46, 47, 48, 49] → u k = σ k := fun k hk => (f1 k (nm hk (by decide)) (fun q => hk (List.mem_append_right _ (List.mem_cons_of_mem _ q)))).trans (k1 k (fun q => hk (List.mem_append_left _ q)))
      have f7 : ∀ j, j ∉ [7, 26] → u 37 j = σ 37 j := fun j hj => by rw [f2 j hj, hu 37 (by decide)]
      rw [d6]
      refine hK2 _ ⟨fr 1000 (by decide), fr 1001 (by decide)⟩ ⟨hB.fr (frL fr (by decide)) (frL f7 (by decide)), ?_, ⟨d3, d4, d5⟩, hW.fr (frL fr (by decide)) (frL f7 (by decide)), hA.fr (frL fr (by decide)) (frL f7 (by decide)), hS.fr (frL fr (by decide)) (frL f7 (by decide)), hG.fr (frL fr (by decide)) (frL f7 (by decide)), hC.fr (frL fr (by decide)) (frL f7 (by decide)), hT.fr (frL fr (by decide)) (frL f7 (by decide))⟩
      have e0 := f1 0 (by decide) (by decide)
      have e4 := f1 4 (by decide) (by decide)
      have e10 := f1 10 (by decide) (by decide)
      rw [hu 37 (by decide)] at d2
      have a21 : σ 4 6 ≤ ρ 4 6 := a2.2.1
      have a22 : ρ 4 6 ≤ σ 4 6 + 20402 := a2.2.2.1
      unfold IvN TabOK
      rw [e0, e4, e10, d2, k2]
      exact ⟨by omega, by omega, by omega, a2.2.2.2.1⟩
    · refine absurd hmany ?_
      rcases d7 with ⟨-, q⟩ | ⟨q1, q2, q3, -⟩
      · exact many_nil q
      · exact many_no q1.2 q2.1 q1.1 q3
  · obtain ⟨k1, k2⟩ := mk_row a2
    obtain ⟨x1, x2, x3, x4, x5, x6⟩ := a3
    obtain ⟨y1, y2, y3, y4, y5⟩ := a2
    have y2 : σ 4 6 ≤ τ 4 6 := y2
    have y3 : τ 4 6 ≤ σ 4 6 + 20402 := y3
    have hmade : MadeOK (LgK σ) (τ 4 7) (τ 4 8) (τ 7) (τ 8) := by
      rcases y5 with ⟨-, -, -, -, q⟩ | ⟨q, -⟩
      · exact q
      · exact absurd q (by decide)
    have hρ : ∀ k, k ∉ [17, 20, 24, 25, 28, 29] → ρ k = τ2 k := fun k hk => by
      rw [a7, updR_ne _ _ _ _ (nm hk (by decide)), updR_ne _ _ _ _ (nm hk (by decide)), updR_ne _ _ _ _ (nm hk (by decide)), updR_ne _ _ _ _ (nm hk (by decide)), updR_ne _ _ _ _ (nm hk (by decide)), updR_ne _ _ _ _ (nm hk (by decide))]
    have hτ : ∀ k, k ∉ [11, 12, 13, 14, 15] → τ2 k = τ k := fun k hk => x1 k (nm hk (by decide)) (nm hk (by decide)) (nm hk (by decide)) (nm hk (by decide)) (nm hk (by decide))
    have fρ : ∀ k, k ∉ [0, 4, 5, 6, 7, 8, 9, 10, 11, 12, 13, 14, 15, 17, 20, 24, 25, 28, 29] → ρ k = σ k := fun k hk => by
      rw [hρ k (fun q => hk (List.mem_append_right [0, 4, 5, 6, 7, 8, 9, 10, 11, 12, 13, 14, 15] q)), hτ k (fun q => hk (List.mem_append_right [0, 4, 5, 6, 7, 8, 9, 10] (List.mem_append_left [17, 20, 24, 25, 28, 29] q))), k1 k (fun q => hk (List.mem_append_left [11, 12, 13, 14, 15, 17, 20, 24, 25, 28, 29] q))]
    have hu : ∀ k, 36 < k → ρ k = σ k := fun k hk => fρ k (fun q => by
      have h1 := List.all_eq_true.mp (show [0, 4, 5, 6, 7, 8, 9, 10, 11, 12, 13, 14, 15, 17, 20, 24, 25, 28, 29].all (fun k => decide (k < 37)) = true by decide) k q
      have h2 := of_decide_eq_true h1
      omega)
    have hG0 := hmade.2.1
    have hG1 := hmade.2.2.1
    refine hK _ _ (by rw [a6, x3]; exact rIc (by omega)) ⟨hu 1000 (by decide), hu 1001 (by decide)⟩ (fun K2 hK2 => hm2 ρ K2 hu (fun u z h => ?_))
    rcases h with ⟨d1, -⟩ | ⟨d1, d2, d3, d4, d5, ⟨d6, d7, -⟩ | ⟨d6, ⟨f1, f2⟩, d8, d9, d10, d11, d12⟩⟩
    · rw [hu 37 (by decide)] at d1
      omega
    · exact absurd (many_iff (fun w => (lg_kc hB hu w).symm) d7) (made_no hmade x4)
    · have fu : ∀ k, k ∉ 37 :: [40, 41, 42, 43, 44, 45, 46, 47, 48, 49, 50, 51, 52, 53, 54, 55, 56, 57] → u k = ρ k := fun k hk => f1 k (nm hk (by decide)) (fun q => hk (List.mem_cons_of_mem _ q))
      have fr : ∀ k, k ∉ [0, 4, 5, 6, 7, 8, 9, 10, 11, 12, 13, 14, 15, 17, 20, 24, 25, 28, 29] ++ 37 :: [40, 41, 42, 43, 44, 45, 46, 47, 48, 49, 50, 51, 52, 53, 54, 55, 56, 57] → u k = σ k := fun k hk => (fu k (fun q => hk (List.mem_append_right _ q))).trans (fρ k (fun q => hk (List.mem_append_left _ q)))
      have f7 : ∀ j, j ∉ [7, 17, 26, 27, 32] → u 37 j = σ 37 j := fun j hj => by rw [f2 j hj, hu 37 (by decide)]
      obtain ⟨v1, v2, v3, v4, v5, v6, v7⟩ := build_tie (N := u 37 17) (F' := gM u) (par' := u 52) (bit' := u 53) (dep' := u 54) hmade x4 x5 (by
        rcases d12 with ⟨q1, q2⟩ | ⟨q1, q2, q3, q4⟩
        · exact Or.inl ⟨q1, fun q hq => q2 q ((lg_kc hB hu q).mp hq)⟩
        · exact Or.inr ⟨q1, q2, fun q => (lg_kc hB hu q).trans (q3 q), q4⟩)
      have hr : r = z := by rw [a6, x3, d6, v1]
      rw [hr] at hK2
      have e0 : u 0 = τ 0 := by rw [fu 0 (by decide), hρ 0 (by decide), hτ 0 (by decide)]
      have e4 : u 4 = τ 4 := by rw [fu 4 (by decide), hρ 4 (by decide), hτ 4 (by decide)]
      have e10 : u 10 = τ 10 := by rw [fu 10 (by decide), hρ 10 (by decide), hτ 10 (by decide)]
      have e11 : u 11 = τ2 11 := by rw [fu 11 (by decide), hρ 11 (by decide)]
      have e12 : u 12 = τ2 12 := by rw [fu 12 (by decide), hρ 12 (by decide)]
      have e13 : u 13 = τ2 13 := by rw [fu 13 (by decide), hρ 13 (by decide)]
      have e14 : u 14 = τ2 14 := by rw [fu 14 (by decide), hρ 14 (by decide)]
      have e15 : u 15 = τ2 15 := by rw [fu 15 (by decide), hρ 15 (by decide)]
      have e17 : u 17 = g := by rw [fu 17 (by decide), a7]; rfl
      have e20 : u 20 = up1 (up1 (up1 (up1 (τ2 20) 2 0) 3 (-1)) 4 0) 5 0 := by rw [fu 20 (by decide), a7]; rfl
      have e24 : u 24 = fillF (τ2 24) 0 100 0 := by rw [fu 24 (by decide), a7]; rfl
      have e25 : u 25 = up1 (up1 (up1 (up1 (τ2 25) 3 0) 4 0) 5 0) 6 (-1) := by rw [fu 25 (by decide), a7]; rfl
      have e28 : u 28 = fillF (τ2 28) 0 100 0 := by rw [fu 28 (by decide), a7]; rfl
      have e29 : u 29 = up1 (τ2 29) 1 0 := by rw [fu 29 (by decide), a7]; rfl
      have s24 : τ2 24 = σ 24 := by rw [hτ 24 (by decide), k1 24 (by decide)]
      have s28 : τ2 28 = σ 28 := by rw [hτ 28 (by decide), k1 28 (by decide)]
      rw [hu 37 (by decide)] at d2
      refine hK2 _ ⟨fr 1000 (by decide), fr 1001 (by decide)⟩ ⟨hB.fr (frL fr (by decide)) (frL f7 (by decide)), ?_, ⟨d3, d4, d5⟩, ?_, ?_, ?_, ?_, ?_, hT.fr (frL fr (by decide)) (frL f7 (by decide))⟩
      · unfold IvN TabOK
        rw [e0, e4, e10, d2, k2]
        exact ⟨by omega, by omega, by omega, y4⟩
      · unfold IvW
        rw [e11, e12, e13, e14, e15, x3]
        exact ⟨v1, v2, v3, v4, v5, v6, v7, x6, d11⟩
      · unfold IvA
        rw [e12, e17, ← v1, ← x3]
        exact ⟨a5, fun s hs => a4 s (by omega)⟩
      · unfold IvS MissOK
        rw [e20, d8]
        refine ⟨⟨Int.le_refl 0, by show (0 : Int) ≤ 12; decide, by show rI 0; exact rIc (by omega), fun _ h => by have h : (0 : Int) < 0 := h; omega, Or.inl ⟨rfl, fun k h1 h2 => by have h2 : (k : Int) ≤ 0 := h2; omega⟩⟩, rfl, rIc (by omega)⟩
      · unfold IvG
        rw [e24, s24]
        have hf : ∀ s : Nat, s < 100 → fillF (σ 24) 0 100 0 s = 0 := fun s hs => by rw [fillF_app, if_pos (by omega)]
        refine ⟨fun s hs => by rw [hf s (by omega), d10 s (by omega)], fun s hs => by rw [hf s (by omega)]; omega, fun s hs => ?_⟩
        by_cases c : s < 100
        · exact hf s c
        · rw [fillF_app, if_neg (by omega)]
          exact hG.2.2 s (by omega)
      · unfold IvC
        rw [e25, e28, e29, s28, d9, fr 30 (by decide), fr 62 (by decide)]
        refine ⟨rfl, by decide, ⟨fun s => ?_, c3.2⟩, fun s hs _ => by rw [fillF_app, if_pos (by omega)], by rw [up1_eq]; decide, c6, fun _ => ⟨rfl, rfl, rfl⟩, fun h => absurd h (by decide)⟩
        rw [fillF_app]
        split
        · exact Or.inl rfl
        · exact c3.1 s
