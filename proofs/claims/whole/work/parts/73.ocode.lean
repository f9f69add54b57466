/-! codes, their words -/
theorem frL {β : Type} {f g : Nat → β} {X L : List Nat} (h : ∀ k, k ∉ X → f k = g k) (hL : L.all (fun k => decide (k ∉ X)) = true) : ∀ k ∈ L, f k = g k := fun k hk => h k (of_decide_eq_true (List.all_eq_true.mp hL k hk))
theorem home_eq {N : Int} {M V : Nat → Int} (hN : N ≤ 100) (h : EqN N M V) (h0 : ∀ s : Nat, s < 100 → ¬ (s : Int) < N → M s = 0) (hs : ∃ s : Nat, (s : Int) < N ∧ M s = 1) : homeF M = homeF V ∧ 0 ≤ homeF M ∧ homeF M < N ∧ M (homeF M).toNat = 1 := by
  obtain ⟨s, hs1, hs2⟩ := hs
  unfold homeF
  rcases findF_spec (fun s => decide (M s = 1)) 100 with ⟨-, h2⟩ | ⟨k, h1, h2, h3, h4⟩
  · have h3 := of_decide_eq_false (h2 s (by omega))
    exact absurd hs2 h3
  · have h3 := of_decide_eq_true h3
    have hk : (k : Int) < N := by
      apply Classical.byContradiction
      intro c
      have := h0 k h1 c
      omega
    have e := findF_eq (p := fun s => decide (V s = 1)) (n := 100) (z := (k : Int)) (Or.inr ⟨k, h1, rfl, decide_eq_true (by rw [← h k hk]; exact h3), fun t ht => decide_eq_false (by rw [← h t (by omega)]; exact of_decide_eq_false (h4 t ht))⟩)
    rw [h2]
    exact ⟨e, by omega, hk, by rw [Int.toNat_natCast]; exact h3⟩
theorem sum_some {M : Nat → Int} {n : Nat} (hb : isBits M) (h : 0 < sumF M n) : ∃ s : Nat, s < n ∧ M s = 1 := by
  apply Classical.byContradiction
  intro c
  have := sumF_zero (u := M) n (fun j hj => (hb j).resolve_right (fun e => c ⟨j, hj, e⟩))
  omega
theorem led_bits {par bit f : Nat → Int} {d s lo : Int} (hb : isBits bit) (hf : isBits f) : isBits (leadG par bit d s lo f) := fun j => by
  unfold leadG
  split
  · exact hb _
  · exact hf _
theorem home_no {M : Nat → Int} (hb : isBits M) (h : sumF M 100 = 0) : homeF M = -1 := by
  unfold homeF
  rcases findF_spec (fun s => decide (M s = 1)) 100 with ⟨h1, -⟩ | ⟨k, h1, h2, h3, h4⟩
  · exact h1
  · have h3 := of_decide_eq_true h3
    have := sumF_0 hb 100 h k h1
    omega
theorem p12 {n : Int} (h : 1 ≤ n ∧ n ≤ 12) : (2 : Int) ^ n.toNat ≤ 4096 := by
  have h1 := p2_le (show n.toNat ≤ 12 by omega)
  have h2 : (2 : Int) ^ 12 = 4096 := by decide
  omega
theorem wrd_r {N n s v : Int} {f w : Nat → Int} (h : 1 ≤ n ∧ n ≤ 12) : -1 ≤ wordZ N f w n s v ∧ wordZ N f w n s v ≤ 4096 := by
  have h1 := p12 h
  have h2 := pckZ_r (N := N) (f := f) (w := w) n.toNat s v
  unfold wordZ
  split <;> omega
set_option maxHeartbeats 1000000 in
theorem o_code {σ : St} (hI : Inv σ) {m : Int} (hm : rI m) {n : Int} (hn : rI n) : OpI σ (s_X_code [.inr (.inr (some 0)), .inl m, .inl n] σ) (fun u => s_M_code [.inr (.inr (some 37)), .inl m, .inl n] u) := by
  intro K hK
  have hI0 := hI
  obtain ⟨hB, hN, hM, hW, hA, hS, hG, hC, hT⟩ := hI
  obtain ⟨w1, w2, w3, w4, w5, w6, w7, w8, w9⟩ := id hW
  obtain ⟨c1, c2, c3, c4, c5, c6, c7, c8⟩ := id hC
  rw [e_X_code, w1]
  refine ⟨w2, w4, c3.1, w5.1, c5, hm, hn, ?_⟩
  have hm2 : ∀ u K2, (0 ≤ u 37 17 ∧ u 37 17 ≤ 100) → Wire (u 37 17) (gM u) → isBits (u 62) → (if (1 ≤ m ∧ m ≤ 8 ∧ 1 ≤ n ∧ n ≤ 12) then (if u 37 17 = 0 then K2 (some (.inl (-3))) u else ∀ τ r, CodeM u τ m n r → K2 (some (.inl r)) τ) else K2 (some (.inl (-2))) u) → s_M_code [.inr (.inr (some 37)), .inl m, .inl n] u K2 := fun u K2 a1 a2 a3 h => by
    rw [e_M_code]
    exact ⟨a1, a2, a3, hm, hn, h⟩
  by_cases c : (1 ≤ m ∧ m ≤ 8) ∧ 1 ≤ n ∧ n ≤ 12
  · have c9 : 1 ≤ m ∧ m ≤ 8 ∧ 1 ≤ n ∧ n ≤ 12 := by omega
    rw [if_pos c]
    by_cases d : σ 37 17 = 0
    · rw [if_pos d]
      exact hK _ _ (rIc (by omega)) (smR σ) (fun K2 hK2 => hm2 _ _ w2 (wire_eq w3 w4) c3.2 (ifp c9 (ifp d (hK2 _ (smR σ) hI0))))
    · rw [if_neg d]
      rintro u ⟨f1, ⟨b1, b2, b3, b4⟩, f3, f4⟩
      rw [w1] at b2 b3 b4 f3
      obtain ⟨-, e2, e3, e4, e5⟩ := f4
      have e2 : u 25 3 = sumF (u 28) 100 := e2
      have e3 : u 25 6 = homeF (u 28) := e3
      have e4 : sumF (u 28) 100 = 0 → u 25 4 = 0 ∧ u 25 5 = 0 ∧ u 29 = up1 (σ 29) 1 0 ∧ u 30 = σ 30 := e4
      have e5 : 0 < sumF (u 28) 100 → u 25 4 = m ∧ u 25 5 = n ∧ u 29 1 = σ 15 (homeF (u 28)).toNat ∧ u 30 = leadG (σ 13) (σ 14) (σ 15 (homeF (u 28)).toNat) (homeF (u 28)) (-1) (σ 30) := e5
      have fu : ∀ k, k ∉ [25, 27, 28, 29, 30] → u k = σ k := fun k hk => f1 k (fun q => hk (by rw [q]; decide)) (fun q => hk (by rw [q]; decide)) (fun q => hk (by rw [q]; decide)) (fun q => hk (by rw [q]; decide)) (fun q => hk (by rw [q]; decide))
      have u37 := fu 37 (by decide)
      have ug : gM u = gM σ := gM_row (fu 50 (by decide)) (fu 51 (by decide))
      have hsb := sumF_bound (w := u 28) (B := 1) (n := 100) (fun s _ => by have := b1 s; omega)
      refine hK _ _ (rIc (by omega)) ⟨fu 1000 (by decide), fu 1001 (by decide)⟩ (fun K2 hK2 => hm2 _ _ (by rw [u37]; exact w2) (by rw [u37, ug]; exact wire_eq w3 w4) (by rw [fu 62 (by decide)]; exact c3.2) (ifp c9 (ifn (by rw [u37]; exact d) ?_)))
      rintro τ r ⟨⟨g1, g2⟩, g33, g34, g32, gr, gb, gcl, gmax⟩
      rw [u37, ug] at gcl gmax
      rw [u37] at gr
      have ft : ∀ k, k ∉ [37, 59, 60, 62] → τ k = u k := fun k hk => g1 k (fun q => hk (by rw [q]; decide)) (fun q => hk (by rw [q]; decide)) (fun q => hk (by rw [q]; decide)) (fun q => hk (by rw [q]; decide))
      have fr : ∀ k, k ∉ [25, 27, 28, 29, 30, 37, 59, 60, 62] → τ k = σ k := fun k hk => (ft k (fun q => hk (List.mem_append_right [25, 27, 28, 29, 30] q))).trans (fu k (fun q => hk (List.mem_append_left [37, 59, 60, 62] q)))
      have f7 : ∀ j, j ∉ [32, 33, 34] → τ 37 j = σ 37 j := fun j hj => (g2 j (fun q => hj (by rw [q]; decide)) (fun q => hj (by rw [q]; decide)) (fun q => hj (by rw [q]; decide))).trans (by rw [u37])
      have heq : EqN (σ 37 17) (u 28) (τ 62) := fun s hs => by
        have h1 := gmax (u 28) b1 ((clo_eq w3 (EqN.refl (u 28))).mp b3) s hs
        have h2 := b4 (τ 62) gb ((clo_eq w3 (EqN.refl (τ 62))).mpr gcl) s hs
        omega
      have hsum : sumF (u 28) 100 = sumF (u 28) (σ 37 17).toNat := sum_tail (by omega) (fun j h1 h2 => b2 j h2 (by omega))
      have hr : u 25 3 = r := by
        rw [e2, gr, hsum]
        exact sumF_congr (fun s hs => heq s (by omega))
      rw [hr] at hK2
      have e17 : τ 37 17 = σ 37 17 := f7 17 (by decide)
      refine hK2 _ ⟨fr 1000 (by decide), fr 1001 (by decide)⟩ ⟨hB.fr (frL fr (by decide)) (frL f7 (by decide)), hN.fr (frL fr (by decide)) (frL f7 (by decide)), hM.fr (frL fr (by decide)), hW.fr (frL fr (by decide)) (frL f7 (by decide)), hA.fr (frL fr (by decide)) (frL f7 (by decide)), hS.fr (frL fr (by decide)) (frL f7 (by decide)), hG.fr (frL fr (by decide)) (frL f7 (by decide)), ?_, hT.fr (frL fr (by decide)) (frL f7 (by decide))⟩
      have hz : sumF (u 28) 100 = 0 ∨ 0 < sumF (u 28) 100 := by omega
      unfold IvC CodeT
      rw [ft 25 (by decide), ft 27 (by decide), ft 28 (by decide), ft 29 (by decide), ft 30 (by decide), fr 12 (by decide), fr 52 (by decide), fr 53 (by decide), fr 54 (by decide), e17, g32, g33, g34]
      refine ⟨hr, by rw [← hr, e2]; omega, ⟨b1, gb⟩, b2, ?_, ?_, fun h => ?_, fun h => ?_⟩
      · rcases hz with h | h
        · rw [(e4 h).2.2.1, up1_eq]; omega
        · rw [(e5 h).2.2.1]
          obtain ⟨s, hs1, hs2⟩ := sum_some b1 (by rw [hsum] at h; exact h)
          have h1 := home_eq w2.2 heq b2 ⟨s, by omega, hs2⟩
          have h2 := w5.1.at ⟨h1.2.1, h1.2.2.1⟩
          omega
      · rcases hz with h | h
        · rw [(e4 h).2.2.2]; exact c6
        · rw [(e5 h).2.2.2]; exact led_bits w8 c6
      · have h0 : sumF (u 28) 100 = 0 := by rw [← e2, hr]; exact h
        exact ⟨(e4 h0).1, (e4 h0).2.1, by rw [e3]; exact home_no b1 h0⟩
      · have h0 : 0 < sumF (u 28) 100 := by rw [← e2, hr]; exact h
        obtain ⟨p1, p2, p3, p4⟩ := e5 h0
        obtain ⟨s, hs1, hs2⟩ := sum_some b1 (by rw [hsum] at h0; exact h0)
        obtain ⟨h1, h2, h3, h4⟩ := home_eq w2.2 heq b2 ⟨s, by omega, hs2⟩
        rw [← h1]
        have h6 := w6 (homeF (u 28)).toNat (by omega)
        refine ⟨heq, ⟨p1, p2, c9⟩, f3, b3, ⟨e3, h2, h3, by rw [← heq _ (by omega)]; exact h4⟩, by rw [p3]; exact h6, fun j hj f => ?_⟩
        rw [p3] at hj
        rw [p4, ← h6]
        exact led_eq w5.1 w7 ⟨h2, h3⟩ j hj
  · rw [if_neg c]
    exact hK _ _ (rIc (by omega)) (smR σ) (fun K2 hK2 => hm2 _ _ w2 (wire_eq w3 w4) c3.2 (ifn (by omega) (hK2 _ (smR σ) hI0)))
theorem o_wordOf {σ : St} (hI : Inv σ) {s : Int} (hs : rI s) {v : Int} (hv : rI v) : OpI σ (s_X_wordOf [.inr (.inr (some 0)), .inl s, .inl v] σ) (fun u => s_M_wordOf [.inr (.inr (some 37)), .inl s, .inl v] u) := by
  intro K hK
  have hI0 := hI
  obtain ⟨hB, hN, hM, hW, hA, hS, hG, hC, hT⟩ := hI
  obtain ⟨w1, w2, w3, w4, w5, w6, w7, w8, w9⟩ := id hW
  obtain ⟨c1, c2, c3, c4, c5, c6, c7, c8⟩ := id hC
  have e : (if σ 37 32 = 0 then -3 else if (0 ≤ s ∧ s < 100 ∧ σ 28 s.toNat = 1) ∧ 0 ≤ v ∧ v < 2 ^ (σ 25 4).toNat then wordZ (σ 37 17) (σ 12) (σ 28) (σ 25 5) s v else -2) = (if σ 37 32 = 0 then (-3 : Int) else if ((0 ≤ s ∧ s < σ 37 17) ∧ σ 62 s.toNat = 1) ∧ 0 ≤ v ∧ v < 2 ^ (σ 37 33).toNat then wordZ (σ 37 17) (gM σ) (σ 62) (σ 37 34) s v else -2) ∧ rI (if σ 37 32 = 0 then (-3 : Int) else if ((0 ≤ s ∧ s < σ 37 17) ∧ σ 62 s.toNat = 1) ∧ 0 ≤ v ∧ v < 2 ^ (σ 37 33).toNat then wordZ (σ 37 17) (gM σ) (σ 62) (σ 37 34) s v else -2) := by
    by_cases d : σ 37 32 = 0
    · rw [if_pos d, if_pos d]
      exact ⟨rfl, rIc (by omega)⟩
    · obtain ⟨d1, d2, d3, d4, d5, -⟩ := c8 (by omega)
      rw [if_neg d, if_neg d, d2.1, d2.2.1, wrd_eq w3 d1]
      refine ⟨?_, rIc ?_⟩
      · by_cases q : 0 ≤ s ∧ s < σ 37 17
        · rw [← d1 s.toNat (by omega)]
          by_cases q2 : σ 28 s.toNat = 1 ∧ 0 ≤ v ∧ v < 2 ^ (σ 37 33).toNat
          · rw [if_pos ⟨⟨q.1, by omega, q2.1⟩, q2.2⟩, if_pos ⟨⟨q, q2.1⟩, q2.2⟩]
          · rw [if_neg (fun z => q2 ⟨z.1.2.2, z.2⟩), if_neg (fun z => q2 ⟨z.1.2, z.2⟩)]
        · rw [if_neg (fun z => by have z1 := z.1; clear z; have h1 := c4 s.toNat (by omega) (by omega); omega), if_neg (fun z => q z.1.1)]
      · revert d2
        intro d2
        · have h9 := wrd_r (N := σ 37 17) (f := gM σ) (w := σ 62) (s := s) (v := v) d2.2.2.2.2
          split <;> omega
  rw [e_X_wordOf, w1, c1, e.1]
  refine ⟨w2, w4, c3.1, c2, c4, fun h => ?_, hs, hv, ?_⟩
  · obtain ⟨d1, d2, d3, d4, d5, -⟩ := c8 h
    rw [d2.1, d2.2.1]
    exact ⟨d3, d2.2.2.2.2, by omega⟩
  refine hK _ _ e.2 (smR σ) (fun K2 hK2 => ?_)
  show s_M_wordOf _ _ _
  rw [e_M_wordOf]
  refine ⟨w2, wire_eq w3 w4, c3.2, c2, fun h => ?_, hs, hv, hK2 _ (smR σ) hI0⟩
  obtain ⟨d1, d2, d3, d4, d5, -⟩ := c8 h
  exact ⟨d2.2.2.2.2, by omega, (clo_eq w3 d1).mp d4⟩
theorem o_read {σ : St} (hI : Inv σ) {s : Int} (hs : rI s) {v : Int} (hv : rI v) : OpI σ (s_X_read [.inr (.inr (some 0)), .inl s, .inl v] σ) (fun u => s_M_read [.inr (.inr (some 37)), .inl s, .inl v] u) := by
  intro K hK
  have hI0 := hI
  obtain ⟨hB, hN, hM, hW, hA, hS, hG, hC, hT⟩ := hI
  obtain ⟨w1, w2, w3, w4, w5, w6, w7, w8, w9⟩ := id hW
  obtain ⟨c1, c2, c3, c4, c5, c6, c7, c8⟩ := id hC
  have e : (if σ 37 32 = 0 then -3 else if (0 ≤ s ∧ s < 100 ∧ σ 28 s.toNat = 1) ∧ 0 ≤ v ∧ v < 2 ^ (σ 25 5).toNat then readZ (σ 37 17) (σ 12) (σ 28) (σ 25 4) (σ 25 5) s v else -2) = (if σ 37 32 = 0 then (-3 : Int) else if ((0 ≤ s ∧ s < σ 37 17) ∧ σ 62 s.toNat = 1) ∧ 0 ≤ v ∧ v < 2 ^ (σ 37 34).toNat then readZ (σ 37 17) (gM σ) (σ 62) (σ 37 33) (σ 37 34) s v else -2) ∧ rI (if σ 37 32 = 0 then (-3 : Int) else if ((0 ≤ s ∧ s < σ 37 17) ∧ σ 62 s.toNat = 1) ∧ 0 ≤ v ∧ v < 2 ^ (σ 37 34).toNat then readZ (σ 37 17) (gM σ) (σ 62) (σ 37 33) (σ 37 34) s v else -2) := by
    by_cases d : σ 37 32 = 0
    · rw [if_pos d, if_pos d]
      exact ⟨rfl, rIc (by omega)⟩
    · obtain ⟨d1, d2, d3, d4, d5, -⟩ := c8 (by omega)
      rw [if_neg d, if_neg d, d2.1, d2.2.1, rea_eq w3 d1]
      refine ⟨?_, rIc ?_⟩
      · by_cases q : 0 ≤ s ∧ s < σ 37 17
        · rw [← d1 s.toNat (by omega)]
          by_cases q2 : σ 28 s.toNat = 1 ∧ 0 ≤ v ∧ v < 2 ^ (σ 37 34).toNat
          · rw [if_pos ⟨⟨q.1, by omega, q2.1⟩, q2.2⟩, if_pos ⟨⟨q, q2.1⟩, q2.2⟩]
          · rw [if_neg (fun z => q2 ⟨z.1.2.2, z.2⟩), if_neg (fun z => q2 ⟨z.1.2, z.2⟩)]
        · rw [if_neg (fun z => by have z1 := z.1; clear z; have h1 := c4 s.toNat (by omega) (by omega); omega), if_neg (fun z => q z.1.1)]
      · revert d2
        intro d2
        · have h9 := readZ_r (N := σ 37 17) (f := gM σ) (m := σ 37 33) (n := σ 37 34) (s := s) (row := v) c3.2
          have h10 := p12 (n := σ 37 33) (by omega)
          split <;> omega
  rw [e_X_read, w1, c1, e.1]
  refine ⟨w2, w4, c3.1, c2, c4, fun h => ?_, hs, hv, ?_⟩
  · obtain ⟨d1, d2, d3, d4, d5, -⟩ := c8 h
    rw [d2.1, d2.2.1]
    exact ⟨d3, d2.2.2.2.2, by omega⟩
  refine hK _ _ e.2 (smR σ) (fun K2 hK2 => ?_)
  show s_M_read _ _ _
  rw [e_M_read]
  refine ⟨w2, wire_eq w3 w4, c3.2, c2, fun h => ?_, hs, hv, hK2 _ (smR σ) hI0⟩
  obtain ⟨d1, d2, d3, d4, d5, -⟩ := c8 h
  exact ⟨d2.2.2.2.2, by omega, (clo_eq w3 d1).mp d4⟩
