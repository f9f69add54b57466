/-! reading -/
theorem nm {k j : Nat} {L : List Nat} (h : k ∉ L) (hj : j ∈ L) : k ≠ j := fun q => h (q ▸ hj)
theorem dec_bits {N m n home sz lead : Int} {f w pl dr : Nat → Int} (h : isBits dr) : ∀ p : Nat, isBits (DecD N f w m n home pl sz lead dr p)
  | 0 => h
  | p + 1 => fun j => by
    rw [DecD, addF_app]
    split
    · exact bitZ_01 _ _
    · exact dec_bits h p j
theorem m_le_n {N m n s : Int} {f w : Nat → Int} (hw : isBits w) (h : 2 ^ m.toNat ≤ ladI N f w n.toNat s) (h0 : 0 ≤ n) : m ≤ n := by
  apply Classical.byContradiction
  intro c
  have h1 := (ladI_bound (N := N) (f := f) (w := w) (B := 1) (by decide) (fun t _ => by have := hw t; omega) n.toNat s).2
  have h2 := p2_le (show n.toNat + 1 ≤ m.toNat by omega)
  rw [Int.pow_succ] at h2
  have h3 := Int.pow_pos (n := 2) (m := n.toNat) (by decide)
  omega
theorem tell_fin {σ u τ : St} (hI : Inv σ) (hu : ∀ k, k ∉ [31, 32, 35, 36] → u k = σ k) (h1 : ∀ k, k ∉ [37, 63, 65, 66] → τ k = u k) (h2 : ∀ j, j ∉ [36] → τ 37 j = σ 37 j) (a1 : u 31 1 = τ 37 36) (a2 : 0 ≤ τ 37 36 ∧ τ 37 36 ≤ 240) (a3 : EqN (τ 37 36) (u 32) (τ 63)) (a4 : isBits (u 32)) (a5 : 0 ≤ u 35 1 ∧ u 35 1 ≤ 600) (a6 : isBits (u 36)) : Sm σ τ ∧ Inv τ := by
  obtain ⟨hB, hN, hM, hW, hA, hS, hG, hC, hT⟩ := hI
  have fr : ∀ k, k ∉ [31, 32, 35, 36, 37, 63, 65, 66] → τ k = σ k := fun k hk => (h1 k (fun q => hk (List.mem_append_right [31, 32, 35, 36] q))).trans (hu k (fun q => hk (List.mem_append_left [37, 63, 65, 66] q)))
  refine ⟨⟨fr 1000 (by decide), fr 1001 (by decide)⟩, hB.fr (frL fr (by decide)) (frL h2 (by decide)), hN.fr (frL fr (by decide)) (frL h2 (by decide)), hM.fr (frL fr (by decide)), hW.fr (frL fr (by decide)) (frL h2 (by decide)), hA.fr (frL fr (by decide)) (frL h2 (by decide)), hS.fr (frL fr (by decide)) (frL h2 (by decide)), hG.fr (frL fr (by decide)) (frL h2 (by decide)), hC.fr (frL fr (by decide)) (frL h2 (by decide)), ?_⟩
  obtain ⟨t1, t2, t3, t4, t5, t6, t7, t8, t9, t10⟩ := hT
  unfold IvT
  rw [h1 31 (by decide), h1 32 (by decide), fr 33 (by decide), fr 34 (by decide), h1 35 (by decide), h1 36 (by decide), fr 64 (by decide), h2 38 (by decide)]
  exact ⟨a1, a2, a3, a4, t5, t6, t7, t8, a5, a6⟩
set_option maxHeartbeats 2000000 in
theorem o_tell {σ : St} (hI : Inv σ) : OpI σ (s_X_tell [.inr (.inr (some 0))] σ) (fun u => s_M_tell [.inr (.inr (some 37))] u) := by
  intro K hK
  have hI0 := hI
  obtain ⟨hB, hN, hM, hW, hA, hS, hG, hC, hT⟩ := hI
  obtain ⟨w1, w2, w3, w4, w5, w6, w7, w8, w9⟩ := id hW
  obtain ⟨c1, c2, c3, c4, c5, c6, c7, c8⟩ := id hC
  obtain ⟨t1, t2, t3, t4, t5, t6, t7, t8, t9, t10⟩ := id hT
  have hb64 : ∀ t : Nat, (t : Int) < σ 37 38 → σ 64 t = 0 ∨ σ 64 t = 1 := fun t ht => by rw [← t7 t ht]; exact t8 t
  have hb63 : ∀ t : Nat, (t : Int) < σ 37 36 → σ 63 t = 0 ∨ σ 63 t = 1 := fun t ht => by rw [← t3 t ht]; exact t4 t
  by_cases d : σ 37 32 = 0
  · rw [e_X_tell, w1, c1]
    refine ⟨w2, w4, c3.1, c2, fun h => absurd h (by omega), c5, by omega, t9, c6, t8, ?_⟩
    rw [if_pos d]
    refine hK _ _ (rIc (by omega)) (smR σ) (fun K2 hK2 => ?_)
    show s_M_tell _ _ _
    rw [e_M_tell]
    exact ⟨w2, wire_eq w3 w4, c3.2, w5.2, w9, t6, hb64, rIc (by omega), fun h => absurd d h, ifp d (hK2 _ (smR σ) hI0)⟩
  · obtain ⟨d1, ⟨q4, q5, m1, m2, n1, n2⟩, d3, d4, ⟨q6, h0, h1, h2⟩, d6, d7⟩ := c8 (by omega)
    have hdr : DrOK σ := ⟨⟨n1, n2⟩, ⟨m1, m2⟩, h0, h1, h2⟩
    have hmn := m_le_n c3.1 (d4 (homeF (σ 62)).toNat (by omega) (by rw [d1 _ (by omega)]; exact h2)) (by omega)
    rw [e_X_tell, w1, c1]
    refine ⟨w2, w4, c3.1, c2, fun _ => ⟨by rw [q5]; exact d3, by omega, by omega, by omega⟩, c5, by omega, t9, c6, t8, ?_⟩
    rw [if_neg d]
    intro u r hu
    unfold TellSt at hu
    rw [t5, d6, w1, q4, q5, q6] at hu
    rw [d6] at c5 d7
    have hU : unlikeF (σ 30) (σ 34) (σ 37 38) (σ 54 (homeF (σ 62)).toNat).toNat = (unlikeF (leadG (σ 52) (σ 53) (σ 54 (homeF (σ 62)).toNat) (homeF (σ 62)) (-1) (σ 66)) (σ 64) (σ 37 38) (σ 54 (homeF (σ 62)).toNat).toNat) := unl_eq _ (fun j hj => d7 j (by omega) _) t7
    rw [hU] at hu
    have hUr := unlikeF_r6 (f := (leadG (σ 52) (σ 53) (σ 54 (homeF (σ 62)).toNat) (homeF (σ 62)) (-1) (σ 66))) (g := σ 64) (gs := σ 37 38) (n := (σ 54 (homeF (σ 62)).toNat).toNat) (by omega)
    have hm2 : ∀ (u : St) (K2 : Option AV → St → Prop), (∀ k, k ∉ [31, 32, 35, 36] → u k = σ k) → (∀ τ2 r2, (∀ k, k ∉ [37, 63, 65, 66] → τ2 k = u k) → (∀ j, j ∉ [36] → τ2 37 j = σ 37 j) → (((unlikeF (leadG (σ 52) (σ 53) (σ 54 (homeF (σ 62)).toNat) (homeF (σ 62)) (-1) (σ 66)) (σ 64) (σ 37 38) (σ 54 (homeF (σ 62)).toNat).toNat) ≠ -1 ∧ r2 = -100 - (unlikeF (leadG (σ 52) (σ 53) (σ 54 (homeF (σ 62)).toNat) (homeF (σ 62)) (-1) (σ 66)) (σ 64) (σ 37 38) (σ 54 (homeF (σ 62)).toNat).toNat) ∧ τ2 63 = σ 63 ∧ τ2 37 36 = σ 37 36) ∨ ((unlikeF (leadG (σ 52) (σ 53) (σ 54 (homeF (σ 62)).toNat) (homeF (σ 62)) (-1) (σ 66)) (σ 64) (σ 37 38) (σ 54 (homeF (σ 62)).toNat).toNat) = -1 ∧ ∃ (P : Nat) (z : Int), (∀ q : Nat, q < P → DecGo (σ 37 17) (gM σ) (σ 62) (σ 37 33) (σ 37 34) (homeF (σ 62)) (σ 64) (σ 37 38) (σ 54 (homeF (σ 62)).toNat) q) ∧ DecR (σ 37 17) (gM σ) (σ 62) (σ 37 33) (σ 37 34) (homeF (σ 62)) (σ 64) (σ 37 38) (σ 54 (homeF (σ 62)).toNat) P z ∧ ((z ≠ -1 ∧ r2 = -100 - z ∧ τ2 63 = σ 63 ∧ τ2 37 36 = σ 37 36) ∨ (z = -1 ∧ 240 < P * (σ 37 33) ∧ r2 = -4 ∧ τ2 63 = σ 63 ∧ τ2 37 36 = σ 37 36) ∨ (z = -1 ∧ P * (σ 37 33) ≤ 240 ∧ r2 = P * (σ 37 33) ∧ τ2 37 36 = P * (σ 37 33) ∧ ∀ j : Nat, (j : Int) < P * (σ 37 33) → τ2 63 j = DecD (σ 37 17) (gM σ) (σ 62) (σ 37 33) (σ 37 34) (homeF (σ 62)) (σ 64) (σ 37 38) (σ 54 (homeF (σ 62)).toNat) (σ 65) P j)))) → K2 (some (.inl r2)) τ2) → s_M_tell [.inr (.inr (some 37))] u K2 := fun u K2 hu h => by
      have u37 := hu 37 (by decide)
      have ug : gM u = gM σ := gM_row (hu 50 (by decide)) (hu 51 (by decide))
      rw [e_M_tell, u37, ug, hu 62 (by decide), hu 52 (by decide), hu 53 (by decide), hu 54 (by decide), hu 64 (by decide)]
      refine ⟨w2, wire_eq w3 w4, c3.2, w5.2, w9, t6, hb64, rIc (by omega), fun _ => ?_, ifn d ?_⟩
      · unfold DrOK
        rw [u37, hu 62 (by decide)]
        exact hdr
      · rintro τ2 r2 ⟨g1, g2, g3⟩
        rw [u37, ug, hu 62 (by decide), hu 52 (by decide), hu 53 (by decide), hu 54 (by decide), hu 64 (by decide), hu 66 (by decide), hu 63 (by decide), hu 65 (by decide)] at g3
        exact h τ2 r2 (fun k hk => g1 k (nm hk (by decide)) (nm hk (by decide)) (nm hk (by decide)) (nm hk (by decide))) (fun j hj => by rw [g2 j (nm hj (by decide)), u37]) g3
    rcases hu with ⟨a1, a2, a3⟩ | ⟨a1, P, z, a2, a3, a4⟩
    · subst a3
      have hu : ∀ k, k ∉ [31, 32, 35, 36] → updR σ 35 (up1 (σ 35) 1 0) k = σ k := fun k hk => updR_ne _ _ _ _ (nm hk (by decide))
      refine hK _ _ (rIc (by omega)) (smR σ) (fun K2 hK2 => hm2 _ K2 hu (fun τ2 r2 g1 g2 g3 => ?_))
      rcases g3 with ⟨b1, b2, b3, b4⟩ | ⟨b1, -⟩
      · have hf := tell_fin hI0 hu g1 g2 (by rw [b4]; exact t1) (by rw [b4]; exact t2) (by rw [b4, b3]; exact t3) t4 ⟨Int.le_refl 0, by show (0 : Int) ≤ 600; decide⟩ t10
        rw [show r2 = r by omega]
        exact hK2 _ hf.1 hf.2
      · exact absurd b1 a1
    · have hgo : ∀ q : Nat, q < P → DecGo (σ 37 17) (gM σ) (σ 62) (σ 37 33) (σ 37 34) (homeF (σ 62)) (σ 64) (σ 37 38) (σ 54 (homeF (σ 62)).toNat) q := fun q hq => (decGo_eq w3 d1 t7 ⟨c5.1, by omega⟩ q).mp (a2 q hq)
      have hre : DecR (σ 37 17) (gM σ) (σ 62) (σ 37 33) (σ 37 34) (homeF (σ 62)) (σ 64) (σ 37 38) (σ 54 (homeF (σ 62)).toNat) P z := (decR_eq w3 d1 t7 ⟨c5.1, by omega⟩ P).mp a3
      have hPn : 0 ≤ (P : Int) * σ 37 34 := Int.mul_nonneg (by omega) (by omega)
      have hPm : 0 ≤ (P : Int) * σ 37 33 := Int.mul_nonneg (by omega) (by omega)
      have hz : -1 ≤ z ∧ z ≤ 600 := by
        rcases hre with ⟨-, k2⟩ | ⟨k1, k2, -⟩ <;> omega
      have h6 : (P : Int) * σ 37 33 ≤ 600 := by
        cases P with
        | zero => rw [Int.natCast_zero, Int.zero_mul]; decide
        | succ p =>
          have k1 := (hgo p (Nat.lt_succ_self p)).2.1
          have k2 : (p : Int) * σ 37 33 ≤ p * σ 37 34 := Int.mul_le_mul_of_nonneg_left hmn (by omega)
          have k3 : ((p + 1 : Nat) : Int) * σ 37 33 = p * σ 37 33 + σ 37 33 := by rw [Int.natCast_add, Int.add_mul]; omega
          omega
      have hmin : min 600 ((P : Int) * σ 37 33) = P * σ 37 33 := by omega
      rw [hmin] at a4
      have hdd := dec_bits (N := σ 37 17) (f := σ 12) (w := σ 28) (m := σ 37 33) (n := σ 37 34) (home := (homeF (σ 62))) (pl := σ 34) (sz := σ 37 38) (lead := (σ 54 (homeF (σ 62)).toNat)) t10 P
      rcases a4 with ⟨z1, z2, z3⟩ | ⟨z1, z2, z3, z4⟩ | ⟨z1, z2, z3, z4⟩
      · subst z3
        have hu : ∀ k, k ∉ [31, 32, 35, 36] → updR (updR σ 36 (DecD (σ 37 17) (σ 12) (σ 28) (σ 37 33) (σ 37 34) (homeF (σ 62)) (σ 34) (σ 37 38) (σ 54 (homeF (σ 62)).toNat) (σ 36) P)) 35 (up1 (σ 35) 1 (P * σ 37 33)) k = σ k := fun k hk => by rw [updR_ne _ _ _ _ (nm hk (by decide)), updR_ne _ _ _ _ (nm hk (by decide))]
        refine hK _ _ (rIc (by omega)) (smR σ) (fun K2 hK2 => hm2 _ K2 hu (fun τ2 r2 g1 g2 g3 => ?_))
        rcases g3 with ⟨b1, -⟩ | ⟨-, P2, z5, b2, b3, b4⟩
        · exact absurd a1 b1
        · obtain ⟨rfl, rfl⟩ := dec_det c5.1 (by omega) hgo hre b2 b3
          rcases b4 with ⟨y1, y2, y3, y4⟩ | ⟨y1, -⟩ | ⟨y1, -⟩
          · have hf := tell_fin hI0 hu g1 g2 (by rw [y4]; exact t1) (by rw [y4]; exact t2) (by rw [y4, y3]; exact t3) t4 ⟨hPm, h6⟩ hdd
            rw [show r2 = r by omega]
            exact hK2 _ hf.1 hf.2
          · omega
          · omega
      · subst z4
        have hu : ∀ k, k ∉ [31, 32, 35, 36] → updR (updR σ 36 (DecD (σ 37 17) (σ 12) (σ 28) (σ 37 33) (σ 37 34) (homeF (σ 62)) (σ 34) (σ 37 38) (σ 54 (homeF (σ 62)).toNat) (σ 36) P)) 35 (up1 (σ 35) 1 (P * σ 37 33)) k = σ k := fun k hk => by rw [updR_ne _ _ _ _ (nm hk (by decide)), updR_ne _ _ _ _ (nm hk (by decide))]
        refine hK _ _ (rIc (by omega)) (smR σ) (fun K2 hK2 => hm2 _ K2 hu (fun τ2 r2 g1 g2 g3 => ?_))
        rcases g3 with ⟨b1, -⟩ | ⟨-, P2, z5, b2, b3, b4⟩
        · exact absurd a1 b1
        · obtain ⟨rfl, rfl⟩ := dec_det c5.1 (by omega) hgo hre b2 b3
          rcases b4 with ⟨y1, -⟩ | ⟨y1, y0, y2, y3, y4⟩ | ⟨y1, y0, -⟩
          · omega
          · have hf := tell_fin hI0 hu g1 g2 (by rw [y4]; exact t1) (by rw [y4]; exact t2) (by rw [y4, y3]; exact t3) t4 ⟨hPm, h6⟩ hdd
            rw [show r2 = r by omega]
            exact hK2 _ hf.1 hf.2
          · omega
      · subst z4
        have hu : ∀ k, k ∉ [31, 32, 35, 36] → updR (updR (updR (updR σ 36 (DecD (σ 37 17) (σ 12) (σ 28) (σ 37 33) (σ 37 34) (homeF (σ 62)) (σ 34) (σ 37 38) (σ 54 (homeF (σ 62)).toNat) (σ 36) P)) 35 (up1 (σ 35) 1 (P * σ 37 33))) 32 (va_cpy (DecD (σ 37 17) (σ 12) (σ 28) (σ 37 33) (σ 37 34) (homeF (σ 62)) (σ 34) (σ 37 38) (σ 54 (homeF (σ 62)).toNat) (σ 36) P) (σ 32) 0 0 (P * σ 37 33).toNat)) 31 (up1 (σ 31) 1 (P * σ 37 33)) k = σ k := fun k hk => by rw [updR_ne _ _ _ _ (nm hk (by decide)), updR_ne _ _ _ _ (nm hk (by decide)), updR_ne _ _ _ _ (nm hk (by decide)), updR_ne _ _ _ _ (nm hk (by decide))]
        refine hK _ _ (rIc (by omega)) (smR σ) (fun K2 hK2 => hm2 _ K2 hu (fun τ2 r2 g1 g2 g3 => ?_))
        rcases g3 with ⟨b1, -⟩ | ⟨-, P2, z5, b2, b3, b4⟩
        · exact absurd a1 b1
        · obtain ⟨rfl, rfl⟩ := dec_det c5.1 (by omega) hgo hre b2 b3
          rcases b4 with ⟨y1, -⟩ | ⟨y1, y0, -⟩ | ⟨y1, y0, y2, y3, y4⟩
          · omega
          · omega
          · have hf := tell_fin hI0 hu g1 g2 (by rw [y3]; rfl) (by rw [y3]; exact ⟨hPm, z2⟩) (by
              rw [y3]
              intro j hj
              show va_cpy (DecD (σ 37 17) (σ 12) (σ 28) (σ 37 33) (σ 37 34) (homeF (σ 62)) (σ 34) (σ 37 38) (σ 54 (homeF (σ 62)).toNat) (σ 36) P) (σ 32) 0 0 (P * σ 37 33).toNat j = τ2 63 j
              rw [y4 j hj]
              unfold va_cpy
              rw [if_pos ⟨Nat.zero_le _, by omega⟩, Nat.zero_add, Nat.sub_zero]
              exact decD_eq w3 d1 t7 ⟨c5.1, by omega⟩ (by omega) P h6 j hj) (cpy_bits hdd t4) ⟨hPm, h6⟩ hdd
            rw [show r2 = r by omega]
            exact hK2 _ hf.1 hf.2
