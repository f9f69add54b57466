/-! writing, the digest -/
theorem enc_bits {N m n home sz lead : Int} {f w msg pl : Nat → Int} (h : isBits pl) : ∀ p : Nat, isBits (EncP N f w m n home msg sz lead pl p)
  | 0 => h
  | p + 1 => fun j => by
    rw [EncP, addF_app]
    split
    · exact bitZ_01 _ _
    · exact enc_bits h p j
theorem cpy_bits {f g : Nat → Int} {a b c : Nat} (hf : isBits f) (hg : isBits g) : isBits (va_cpy f g a b c) := fun j => by
  unfold va_cpy
  split
  · exact hf _
  · exact hg _
set_option maxHeartbeats 1000000 in
theorem o_write {σ : St} (hI : Inv σ) : OpI σ (s_X_write [.inr (.inr (some 0))] σ) (fun u => s_M_write [.inr (.inr (some 37))] u) := by
  intro K hK
  have hI0 := hI
  obtain ⟨hB, hN, hM, hW, hA, hS, hG, hC, hT⟩ := hI
  obtain ⟨w1, w2, w3, w4, w5, w6, w7, w8, w9⟩ := id hW
  obtain ⟨c1, c2, c3, c4, c5, c6, c7, c8⟩ := id hC
  obtain ⟨t1, t2, t3, t4, t5, t6, t7, t8, t9, t10⟩ := id hT
  have hb64 : ∀ t : Nat, (t : Int) < σ 37 38 → σ 64 t = 0 ∨ σ 64 t = 1 := fun t ht => by rw [← t7 t ht]; exact t8 t
  have hb63 : ∀ t : Nat, (t : Int) < σ 37 36 → σ 63 t = 0 ∨ σ 63 t = 1 := fun t ht => by rw [← t3 t ht]; exact t4 t
  by_cases d : σ 37 32 = 0
  · rw [e_X_write, w1, c1]
    refine ⟨w2, w4, c3.1, c2, fun h => absurd h (by omega), c5, by omega, t4, ?_⟩
    rw [if_pos d]
    refine hK _ _ (rIc (by omega)) (smR σ) (fun K2 hK2 => ?_)
    show s_M_write _ _ _
    rw [e_M_write]
    exact ⟨w2, wire_eq w3 w4, c3.2, w5.2, t2, hb63, rIc (by omega), fun h => absurd d h, ifp d (hK2 _ (smR σ) hI0)⟩
  · obtain ⟨d1, ⟨q4, q5, m1, m2, n1, n2⟩, d3, d4, ⟨q6, h0, h1, h2⟩, d6, d7⟩ := c8 (by omega)
    have hcl := (clo_eq w3 d1).mp d4
    have hwr : WrOK σ := ⟨⟨n1, n2⟩, ⟨m1, m2⟩, hcl, h0, h1, h2⟩
    have hP := Int.ediv_nonneg (a := σ 37 36 + σ 37 33 - 1) (b := σ 37 33) (by omega) (by omega)
    have hPn := Int.mul_nonneg hP (show 0 ≤ σ 37 34 by omega)
    rw [e_X_write, w1, c1, t1, q4, q5, q6, d6]
    rw [d6] at c5 d7
    refine ⟨w2, w4, c3.1, c2, fun _ => ⟨d3, ⟨n1, n2⟩, ⟨m1, m2⟩, d4, h0, h1, by rw [d1 _ (by omega)]; exact h2⟩, c5, t2, t4, ?_⟩
    rw [if_neg d]
    by_cases c : 600 < (σ 54 (homeF (σ 62)).toNat) + ((σ 37 36 + σ 37 33 - 1) / σ 37 33) * σ 37 34
    · rw [if_pos c]
      refine hK _ _ (rIc (by omega)) (smR σ) (fun K2 hK2 => ?_)
      show s_M_write _ _ _
      rw [e_M_write]
      exact ⟨w2, wire_eq w3 w4, c3.2, w5.2, t2, hb63, rIc (by omega), fun _ => hwr, ifn d (ifp c (hK2 _ (smR σ) ⟨hB, hN, hM, hW, hA, hS, hG, hC, hT⟩))⟩
    · rw [if_neg c]
      refine hK _ _ (rIc (by omega)) (smR σ) (fun K2 hK2 => ?_)
      show s_M_write _ _ _
      rw [e_M_write]
      refine ⟨w2, wire_eq w3 w4, c3.2, w5.2, t2, hb63, rIc (show -1000 ≤ σ 37 32 ∧ σ 37 32 ≤ 1000000 by omega), fun _ => hwr, ifn d (ifn c ?_)⟩
      have hp : ((((σ 37 36 + σ 37 33 - 1) / σ 37 33).toNat : Nat) : Int) = ((σ 37 36 + σ 37 33 - 1) / σ 37 33) := Int.toNat_of_nonneg hP
      have hl : EqN (σ 54 (homeF (σ 62)).toNat) (va_cpy (σ 30) (σ 34) 0 0 (σ 54 (homeF (σ 62)).toNat).toNat) (cpyF (leadG (σ 52) (σ 53) (σ 54 (homeF (σ 62)).toNat) (homeF (σ 62)) (-1) (σ 66)) (σ 64) (σ 54 (homeF (σ 62)).toNat)) := fun j hj => by
        unfold va_cpy
        rw [if_pos ⟨Nat.zero_le _, by omega⟩, cpyF_app, if_pos hj, Nat.zero_add, Nat.sub_zero]
        exact d7 j hj _
      have he := encP_eq (home := (homeF (σ 62))) w3 d1 t3 hl (show 0 ≤ σ 37 33 by omega) ⟨show 0 ≤ σ 37 34 by omega, c5.1⟩ ((σ 37 36 + σ 37 33 - 1) / σ 37 33).toNat (by rw [hp]; omega)
      rw [hp] at he
      have hE := enc_bits (N := σ 37 17) (m := σ 37 33) (n := σ 37 34) (home := (homeF (σ 62))) (sz := σ 37 36) (lead := (σ 54 (homeF (σ 62)).toNat)) (f := σ 12) (w := σ 28) (msg := σ 32) (cpy_bits (a := 0) (b := 0) (c := (σ 54 (homeF (σ 62)).toNat).toNat) c6 t8) ((σ 37 36 + σ 37 33 - 1) / σ 37 33).toNat
      exact hK2 _ (smR σ) ⟨hB, hN, hM, hW, hA, hS, hG, hC, ⟨t1, t2, t3, t4, rfl, ⟨by show 0 ≤ (σ 54 (homeF (σ 62)).toNat) + ((σ 37 36 + σ 37 33 - 1) / σ 37 33) * σ 37 34; omega, by show (σ 54 (homeF (σ 62)).toNat) + ((σ 37 36 + σ 37 33 - 1) / σ 37 33) * σ 37 34 ≤ 600; omega⟩, he, hE, t9, t10⟩⟩
theorem o_digest {σ : St} (hI : Inv σ) : OpL σ (s_X_digestW [.inr (.inr (some 0))] σ) (fun u => s_M_digestW [.inr (.inr (some 37))] u) := by
  intro K hK
  have hI0 := hI
  obtain ⟨hB, hN, hM, hW, hA, hS, hG, hC, hT⟩ := hI
  obtain ⟨w1, w2, w3, w4, w5, w6, w7, w8, w9⟩ := id hW
  obtain ⟨c1, c2, c3, c4, c5, c6, c7, c8⟩ := id hC
  obtain ⟨t1, t2, t3, t4, t5, t6, t7, t8, t9, t10⟩ := id hT
  have hb64 : ∀ t : Nat, (t : Int) < σ 37 38 → σ 64 t = 0 ∨ σ 64 t = 1 := fun t ht => by rw [← t7 t ht]; exact t8 t
  have hb63 : ∀ t : Nat, (t : Int) < σ 37 36 → σ 63 t = 0 ∨ σ 63 t = 1 := fun t ht => by rw [← t3 t ht]; exact t4 t
  obtain ⟨g1, g2, g3⟩ := id hG
  have hcz : ∀ w : Nat, w < 8 → rI (cntZ σ w) := fun w _ => by have h := cnt_eq hI0 (w := w); rw [h.1]; exact h.2
  have hcm : ∀ w : Nat, w < 8 → rI (cntM σ w) := fun w _ => (cnt_eq hI0 (w := w)).2
  have e0 : digF (fun i => cntZ σ i) 17 8 = digF (fun i => cntM σ i) 17 8 := dig_eq rfl 8 (fun j _ => (cnt_eq hI0 (w := j)).1)
  have e1 : digF (σ 34) (digF (σ 32) (dgS (σ 12) (σ 24) (digF (fun i => cntZ σ i) 17 8) (σ 37 17).toNat) (σ 37 36).toNat) (σ 37 38).toNat = digF (σ 64) (digF (σ 63) (dgS (gM σ) (σ 57) (digF (fun i => cntM σ i) 17 8) (σ 37 17).toNat) (σ 37 36).toNat) (σ 37 38).toNat :=
    dig_eq (dig_eq (dgs_eq e0 w3 g1 _ (by omega)) _ (fun j hj => t3 j (by omega))) _ (fun j hj => t7 j (by omega))
  show s_X_digest _ σ _
  rw [e_X_digest, w1, t1, t5, e1]
  refine ⟨w2, w4, by omega, by omega, t8, t4, g2, hcz, fun z hz => ?_⟩
  cases hz
  refine hK _ _ (wrapL_r _) (smR σ) (fun K2 hK2 => ?_)
  show s_M_digest _ σ _
  rw [e_M_digest]
  refine ⟨w2, wire_eq w3 w4, t2, t6, hb63, hb64, c3.2, mem_some hC hW, rIc (by omega), fun s hs => by rw [← g1 s hs]; exact g2 s (by omega), hcm, fun z hz => ?_⟩
  cases hz
  exact hK2 _ (smR σ) hI0
