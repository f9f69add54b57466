/-! what ties the class and the reference; each call keeps it, and both answer the same -/
def IvB (σ : St) : Prop := (σ 1 3 = σ 37 0 ∧ σ 1 4 = σ 37 1 ∧ σ 1 2 = σ 37 2 ∧ σ 1 5 = σ 37 5) ∧ σ 2 = σ 38 ∧ σ 3 = σ 39 ∧ BansOK (σ 37 0) (σ 37 1) (σ 37 2) (σ 37 5) (σ 38) (σ 39)
def IvN (σ : St) : Prop := σ 0 11 = σ 37 26 ∧ (0 ≤ σ 37 26 ∧ σ 37 26 ≤ 40) ∧ (0 ≤ σ 4 6 ∧ σ 4 6 ≤ 20402 * σ 37 26) ∧ TabOK σ
def IvM (σ : St) : Prop := AllI (σ 45) 11264 ∧ AllI (σ 46) 11264 ∧ ∀ c : Nat, c < 101 → rI (σ 47 c) ∧ rI (σ 48 c) ∧ rI (σ 49 c)
def IvW (σ : St) : Prop := σ 11 4 = σ 37 17 ∧ (0 ≤ σ 37 17 ∧ σ 37 17 ≤ 100) ∧ EqW (σ 37 17) (σ 12) (gM σ) ∧ Wire (σ 37 17) (σ 12) ∧ (Tree (σ 37 17) (σ 13) (σ 15) ∧ Tree (σ 37 17) (σ 52) (σ 54)) ∧ EqN (σ 37 17) (σ 15) (σ 54) ∧ (∀ p : Nat, 0 < p → (p : Int) < σ 37 17 → σ 13 p = σ 52 p ∧ σ 14 p = σ 53 p) ∧ isBits (σ 14) ∧ isBits (σ 53)
def IvA (σ : St) : Prop := Climbed (σ 37 17) (σ 12) (σ 17) 60 (σ 17) ∧ EqN (σ 37 17) (σ 17) oneF
def IvS (σ : St) : Prop := MissOK (σ 37 17) (σ 12) σ ∧ σ 20 5 = σ 37 27 ∧ rI (σ 37 27)
def IvG (σ : St) : Prop := EqN (σ 37 17) (σ 24) (σ 57) ∧ AllB (σ 24) 100 1000000 ∧ ∀ s : Nat, ¬ (s : Int) < σ 37 17 → σ 24 s = 0
/-- what stands when there is a code -/
def CodeT (σ : St) : Prop := EqN (σ 37 17) (σ 28) (σ 62) ∧ (σ 25 4 = σ 37 33 ∧ σ 25 5 = σ 37 34 ∧ 1 ≤ σ 37 33 ∧ σ 37 33 ≤ 8 ∧ 1 ≤ σ 37 34 ∧ σ 37 34 ≤ 12) ∧ Climbed (σ 37 17) (σ 12) (σ 28) (σ 37 34) (σ 27) ∧ ClosedC (σ 37 17) (σ 12) (2 ^ (σ 37 33).toNat) (σ 37 34) (σ 28) ∧
  (σ 25 6 = homeF (σ 62) ∧ 0 ≤ homeF (σ 62) ∧ homeF (σ 62) < σ 37 17 ∧ σ 62 (homeF (σ 62)).toNat = 1) ∧ σ 29 1 = σ 54 (homeF (σ 62)).toNat ∧ ∀ j : Nat, (j : Int) < σ 29 1 → ∀ f, σ 30 j = leadG (σ 52) (σ 53) (σ 54 (homeF (σ 62)).toNat) (homeF (σ 62)) (-1) f j
def IvC (σ : St) : Prop := σ 25 3 = σ 37 32 ∧ (0 ≤ σ 37 32 ∧ σ 37 32 ≤ 100) ∧ (isBits (σ 28) ∧ isBits (σ 62)) ∧ (∀ s : Nat, s < 100 → ¬ (s : Int) < σ 37 17 → σ 28 s = 0) ∧ (0 ≤ σ 29 1 ∧ σ 29 1 ≤ 600) ∧ isBits (σ 30) ∧ (σ 37 32 = 0 → σ 25 4 = 0 ∧ σ 25 5 = 0 ∧ σ 25 6 = -1) ∧ (0 < σ 37 32 → CodeT σ)
def IvT (σ : St) : Prop := σ 31 1 = σ 37 36 ∧ (0 ≤ σ 37 36 ∧ σ 37 36 ≤ 240) ∧ EqN (σ 37 36) (σ 32) (σ 63) ∧ isBits (σ 32) ∧ σ 33 1 = σ 37 38 ∧ (0 ≤ σ 37 38 ∧ σ 37 38 ≤ 600) ∧ EqN (σ 37 38) (σ 34) (σ 64) ∧ isBits (σ 34) ∧ (0 ≤ σ 35 1 ∧ σ 35 1 ≤ 600) ∧ isBits (σ 36)
def Inv (σ : St) : Prop := IvB σ ∧ IvN σ ∧ IvM σ ∧ IvW σ ∧ IvA σ ∧ IvS σ ∧ IvG σ ∧ IvC σ ∧ IvT σ
def Sm (σ u : St) : Prop := u 1000 = σ 1000 ∧ u 1001 = σ 1001
def OpI (σ : St) (sX : (Option AV → St → Prop) → Prop) (sM : St → (Option AV → St → Prop) → Prop) : Prop := ∀ K : Option AV → St → Prop, (∀ z u, rI z → Sm σ u → (∀ K2 : Option AV → St → Prop, (∀ u2, Sm σ u2 → Inv u2 → K2 (some (.inl z)) u2) → sM u K2) → K (some (.inl z)) u) → sX K
def OpL (σ : St) (sX : (Option AV → St → Prop) → Prop) (sM : St → (Option AV → St → Prop) → Prop) : Prop := ∀ K : Option AV → St → Prop, (∀ z u, rL z → Sm σ u → (∀ K2 : Option AV → St → Prop, (∀ u2, Sm σ u2 → Inv u2 → K2 (some (.inr (.inl z))) u2) → sM u K2) → K (some (.inr (.inl z))) u) → sX K
theorem ifp {c : Prop} [Decidable c] {A B : Prop} (h : c) (a : A) : if c then A else B := by rw [if_pos h]; exact a
theorem ifn {c : Prop} [Decidable c] {A B : Prop} (h : ¬ c) (b : B) : if c then A else B := by rw [if_neg h]; exact b
theorem smR (σ : St) : Sm σ σ := ⟨rfl, rfl⟩
theorem rIc {z : Int} (h : -1000 ≤ z ∧ z ≤ 1000000) : rI z := by unfold rI; omega
theorem rLc {z : Int} (h : -1000 ≤ z ∧ z ≤ 1152921504606846976) : rL z := by unfold rL; omega
theorem o_runs {σ : St} (hI : Inv σ) {a : Int} (ha : rI a) {b : Int} (hb : rI b) : OpI σ (s_X_runs [.inr (.inr (some 0)), .inl a, .inl b] σ) (fun u => s_M_runs [.inr (.inr (some 37)), .inl a, .inl b] u) := by
  intro K hK
  have hI0 := hI
  obtain ⟨hB, hN, hM, hW, hA, hS, hG, hC, hT⟩ := hI
  rw [e_X_runs]
  refine ⟨ha, hb, ?_⟩
  by_cases c : (a = 0 ∧ b = -1) ∨ (0 ≤ b ∧ b ≤ 7 ∧ 0 ≤ a ∧ a ≤ b)
  · rw [if_pos c]
    refine hK _ _ (rIc (by omega)) (smR σ) (fun K2 hK2 => ?_)
    show s_M_runs _ _ _
    rw [e_M_runs]
    refine ⟨ha, hb, ?_⟩
    rw [if_pos c]
    refine hK2 _ (smR σ) ⟨?_, hN, hM, hW, hA, hS, hG, hC, hT⟩
    obtain ⟨⟨h1, h2, h3, h4⟩, h5, h6, h7⟩ := hB
    exact ⟨⟨rfl, rfl, h3, h4⟩, h5, h6, by show b = -1 ∧ a = 0 ∨ 0 ≤ a ∧ a ≤ b ∧ b ≤ 7; omega, h7.2⟩
  · rw [if_neg c]
    refine hK _ _ (rIc (by omega)) (smR σ) (fun K2 hK2 => ?_)
    show s_M_runs _ _ _
    rw [e_M_runs]
    refine ⟨ha, hb, ?_⟩
    rw [if_neg c]
    exact hK2 _ (smR σ) ⟨hB, hN, hM, hW, hA, hS, hG, hC, hT⟩
theorem o_word {σ : St} (hI : Inv σ) {w : Int} (hw : rI w) {n : Int} (hn : rI n) : OpI σ (s_X_word [.inr (.inr (some 0)), .inl w, .inl n] σ) (fun u => s_M_word [.inr (.inr (some 37)), .inl w, .inl n] u) := by
  intro K hK
  have hI0 := hI
  obtain ⟨hB, hN, hM, hW, hA, hS, hG, hC, hT⟩ := hI
  obtain ⟨⟨h1, h2, h3, h4⟩, h5, h6, h7⟩ := hB
  have hw2 := h7.2.1
  rw [e_X_word]
  refine ⟨hw, hn, by have := hw2.1; have := hw2.2.1; omega, ?_⟩
  have hm : ∀ u K2, u 37 2 = σ 37 2 → (if 1 ≤ n ∧ n ≤ 6 ∧ 0 ≤ w ∧ w < 2 ^ n.toNat then (if u 37 2 < 4 then K2 (some (.inl (u 37 2 + 1))) (updR (updR (updR u 38 (up1 (u 38) (u 37 2).toNat w)) 39 (up1 (u 39) (u 37 2).toNat n)) 37 (up1 (u 37) 2 (u 37 2 + 1))) else K2 (some (.inl (-4))) u) else K2 (some (.inl (-2))) u) → s_M_word [.inr (.inr (some 37)), .inl w, .inl n] u K2 := fun u K2 h h8 => by
    rw [e_M_word]
    exact ⟨hw, hn, by have := hw2.1; have := hw2.2.1; omega, h8⟩
  by_cases c : 1 ≤ n ∧ n ≤ 6 ∧ 0 ≤ w ∧ w < 2 ^ n.toNat
  · rw [if_pos c]
    by_cases c2 : σ 1 2 < 4
    · rw [if_pos c2]
      refine hK _ _ (rIc (by have := hw2.1; omega)) (smR σ) (fun K2 hK2 => ?_)
      refine hm _ _ rfl ?_
      have hK3 : ∀ u2, Sm σ u2 → Inv u2 → K2 (some (.inl (σ 37 2 + 1))) u2 := by rw [← h3]; exact hK2
      refine ifp c (ifp (show σ 37 2 < 4 by omega) ?_)
      refine hK3 _ (smR σ) ⟨?_, hN, hM, hW, hA, hS, hG, hC, hT⟩
      refine ⟨⟨h1, h2, by show σ 1 2 + 1 = σ 37 2 + 1; rw [h3], h4⟩, ?_, ?_, h7.1, ⟨?_, ?_, fun i hi => ?_⟩, h7.2.2⟩
      · show up1 (σ 2) (σ 1 2).toNat w = up1 (σ 38) (σ 37 2).toNat w
        rw [h5, h3]
      · show up1 (σ 3) (σ 1 2).toNat n = up1 (σ 39) (σ 37 2).toNat n
        rw [h6, h3]
      · show 0 ≤ σ 37 2 + 1
        have := hw2.1; omega
      · show σ 37 2 + 1 ≤ 4
        omega
      · have hi : (i : Int) < σ 37 2 + 1 := hi
        show 1 ≤ up1 (σ 39) (σ 37 2).toNat n i ∧ up1 (σ 39) (σ 37 2).toNat n i ≤ 6 ∧ 0 ≤ up1 (σ 38) (σ 37 2).toNat w i ∧ up1 (σ 38) (σ 37 2).toNat w i < 2 ^ (up1 (σ 39) (σ 37 2).toNat n i).toNat
        by_cases e : i = (σ 37 2).toNat
        · rw [e, up1_eq, up1_eq]
          exact ⟨c.1, c.2.1, c.2.2.1, c.2.2.2⟩
        · rw [up1_ne _ _ _ _ e, up1_ne _ _ _ _ e]
          have := hw2.1
          exact hw2.2.2 i (by omega)
    · rw [if_neg c2]
      refine hK _ _ (rIc (by omega)) (smR σ) (fun K2 hK2 => hm _ _ rfl ?_)
      refine ifp c (ifn (show ¬ σ 37 2 < 4 by omega) ?_)
      exact hK2 _ (smR σ) ⟨⟨⟨h1, h2, h3, h4⟩, h5, h6, h7⟩, hN, hM, hW, hA, hS, hG, hC, hT⟩
  · rw [if_neg c]
    refine hK _ _ (rIc (by omega)) (smR σ) (fun K2 hK2 => hm _ _ rfl ?_)
    rw [if_neg c]
    exact hK2 _ (smR σ) ⟨⟨⟨h1, h2, h3, h4⟩, h5, h6, h7⟩, hN, hM, hW, hA, hS, hG, hC, hT⟩
theorem o_clearWords {σ : St} (hI : Inv σ) : OpI σ (s_X_clearWords [.inr (.inr (some 0))] σ) (fun u => s_M_clearWords [.inr (.inr (some 37))] u) := by
  intro K hK
  have hI0 := hI
  obtain ⟨hB, hN, hM, hW, hA, hS, hG, hC, hT⟩ := hI
  obtain ⟨⟨h1, h2, h3, h4⟩, h5, h6, h7⟩ := hB
  rw [e_X_clearWords, h3]
  refine hK _ _ (rIc (by have := h7.2.1.1; have := h7.2.1.2.1; omega)) (smR σ) (fun K2 hK2 => ?_)
  show s_M_clearWords _ _ _
  rw [e_M_clearWords]
  refine hK2 _ (smR σ) ⟨?_, hN, hM, hW, hA, hS, hG, hC, hT⟩
  exact ⟨⟨h1, h2, rfl, h4⟩, h5, h6, h7.1, ⟨Int.le_refl 0, by show (0 : Int) ≤ 4; decide, fun i hi => by have hi : (i : Int) < 0 := hi; omega⟩, h7.2.2⟩
theorem o_lean {σ : St} (hI : Inv σ) {a : Int} (ha : rI a) : OpI σ (s_X_lean [.inr (.inr (some 0)), .inl a] σ) (fun u => s_M_lean [.inr (.inr (some 37)), .inl a] u) := by
  intro K hK
  have hI0 := hI
  obtain ⟨hB, hN, hM, hW, hA, hS, hG, hC, hT⟩ := hI
  obtain ⟨⟨h1, h2, h3, h4⟩, h5, h6, h7⟩ := hB
  rw [e_X_lean]
  refine ⟨ha, ?_⟩
  by_cases c : -1 ≤ a ∧ a ≤ 5
  · rw [if_pos c]
    refine hK _ _ (rIc (by omega)) (smR σ) (fun K2 hK2 => ?_)
    show s_M_lean _ _ _
    rw [e_M_lean]
    refine ⟨ha, ?_⟩
    rw [if_pos c]
    exact hK2 _ (smR σ) ⟨⟨⟨h1, h2, h3, rfl⟩, h5, h6, h7.1, h7.2.1, c.1, c.2⟩, hN, hM, hW, hA, hS, hG, hC, hT⟩
  · rw [if_neg c]
    refine hK _ _ (rIc (by omega)) (smR σ) (fun K2 hK2 => ?_)
    show s_M_lean _ _ _
    rw [e_M_lean]
    refine ⟨ha, ?_⟩
    rw [if_neg c]
    exact hK2 _ (smR σ) ⟨⟨⟨h1, h2, h3, h4⟩, h5, h6, h7⟩, hN, hM, hW, hA, hS, hG, hC, hT⟩
theorem o_ban {σ : St} (hI : Inv σ) {a : Int} (ha : rI a) : OpI σ (s_X_ban [.inr (.inr (some 0)), .inl a] σ) (fun u => s_M_ban [.inr (.inr (some 37)), .inl a] u) := by
  intro K hK
  have hI0 := hI
  obtain ⟨hB, hN, hM, hW, hA, hS, hG, hC, hT⟩ := hI
  obtain ⟨⟨h1, h2, h3, h4⟩, h5, h6, h7⟩ := hB
  have hw2 := h7.2.1
  rw [e_X_ban]
  refine ⟨by rw [h3, h5, h6]; exact hw2, ha, ?_⟩
  have hwd : ∀ i : Nat, (i : Int) < σ 37 2 → 0 ≤ σ 38 i ∧ σ 38 i < 64 ∧ 1 ≤ σ 39 i ∧ σ 39 i ≤ 6 := fun i hi => by
    have h8 := hw2.2.2 i hi
    have h9 := p2_le (show (σ 39 i).toNat ≤ 6 by omega)
    have h10 : (2 : Int) ^ 6 = 64 := by decide
    omega
  have e : toldZ σ a = toldM σ a := by
    unfold toldZ toldM
    rw [h1, h2, h3, h4, h5, h6, told_lo (σ 37 2).toNat (by have := hw2.2.1; omega) (fun i hi => by have := hwd i (by omega); omega)]
    have := hw2.1
    by_cases c1 : 10 ≤ a ∧ a ≤ 9 + σ 37 2
    · rw [if_neg (by omega), if_neg (by omega), if_neg (by omega), if_neg (by omega), if_pos (by omega), if_pos c1]
    · rw [if_neg c1]
      by_cases c2 : 20 ≤ a ∧ a ≤ 19 + σ 37 2
      · rw [if_neg (by omega), if_neg (by omega), if_neg (by omega), if_neg (by omega), if_neg (by omega), if_pos (by omega), if_pos c2]
      · rw [if_neg c2, if_neg (by omega : ¬ (10 ≤ a ∧ a ≤ 9 + (((σ 37 2).toNat : Nat) : Int))), if_neg (by omega : ¬ (20 ≤ a ∧ a ≤ 19 + (((σ 37 2).toNat : Nat) : Int)))]
  rw [e]
  refine hK _ _ ?_ (smR σ) (fun K2 hK2 => ?_)
  · have := hw2.1
    have := hw2.2.1
    unfold toldM
    have hk := h7.1
    have hl := h7.2.2
    by_cases c1 : 10 ≤ a ∧ a ≤ 9 + σ 37 2
    · rw [if_pos c1]; have := hwd (a - 10).toNat (by omega); exact rIc (by omega)
    · rw [if_neg c1]
      by_cases c2 : 20 ≤ a ∧ a ≤ 19 + σ 37 2
      · rw [if_pos c2]; have := hwd (a - 20).toNat (by omega); exact rIc (by omega)
      · rw [if_neg c2]
        refine rIc ?_
        split
        · omega
        · split
          · omega
          · split
            · omega
            · split <;> omega
  · show s_M_ban _ _ _
    rw [e_M_ban]
    exact ⟨⟨hw2.1, hw2.2.1⟩, ha, hK2 _ (smR σ) ⟨⟨⟨h1, h2, h3, h4⟩, h5, h6, h7⟩, hN, hM, hW, hA, hS, hG, hC, hT⟩⟩
