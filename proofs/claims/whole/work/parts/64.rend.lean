/-! the reference: what a build comes to -/
def LgC (σ : St) (w : List Bool) : Prop := LgD (dOf (bhS σ)) 16 w
/-- nothing changes but these rows, and these cells of row 37 -/
def Fr (R F : List Nat) (σ τ : St) : Prop := (∀ k, k ≠ 37 → k ∉ R → τ k = σ k) ∧ ∀ j, j ∉ F → τ 37 j = σ 37 j
theorem raw_ends {σ v : St} (h : RawI σ v (2 * v 37 7) (v 37 7)) : (0 < v 37 7 ∧ v 37 7 ≤ 11264) ∧ Wire (v 37 7) (nxM v) ∧ OrdW (v 37 7) (nxM v) ∧ (∀ i : Nat, (i : Int) < v 37 7 → v 44 i = 1) ∧ ∀ w, LgD (nxB (nxM v)) 0 w ↔ LgC σ w := by
  obtain ⟨h1, h2, h3, h4⟩ := h
  have a1 := exp_le h2
  have a2 := h2.1.1
  exact ⟨⟨by omega, by omega⟩, (exp_wire h2).1, (exp_wire h2).2, h4, exp_bis h2⟩
def PreB (σ w : St) : Prop := Fr [40, 41, 42, 43, 44, 45, 46, 47, 48, 49] [7, 26] σ w ∧ w 37 26 = σ 37 26 + 1 ∧ AllI (w 45) 11264 ∧ AllI (w 46) 11264 ∧ (∀ c : Nat, c < 101 → rI (w 47 c) ∧ rI (w 48 c) ∧ rI (w 49 c)) ∧
  (0 < w 37 7 ∧ w 37 7 ≤ 11264) ∧ Wire (w 37 7) (nxM w) ∧ OrdW (w 37 7) (nxM w) ∧ PruneOK w (w 44) ∧ ∀ q, LgD (nxB (nxM w)) 0 q ↔ LgC σ q
def PartB (w : St) (G : Int) : Prop := PartG (w 37 7) (nxM w) (gA w) (gR w) G ∧ StabP (w 37 7) (nxM w) (gR w)
def PreE (σ w : St) : Prop := PreB σ w ∧ (w 44 0 = 0 ∨ (w 44 0 ≠ 0 ∧ ∃ G, PartB w G))
theorem gA_alive (w : St) : alZ (-1) (gA w) = alZ 0 (w 44) := by
  funext i
  unfold alZ gA
  by_cases e : w 44 i = 0
  · rw [if_pos e, e]; rfl
  · rw [if_neg e, decide_eq_true e]; rfl
theorem pre_none {σ w : St} (h : PreB σ w) (h0 : w 44 0 = 0) (q : List Bool) : ¬ LgC σ q := fun hq => by
  obtain ⟨-, -, -, -, -, h1, h2, h3, h4, h5⟩ := h
  have h6 := ((h5 q).mpr hq).good
  exact alZ_t.mp ((alive_good (i := 0) h2 h4.2 h1.1).mpr h6) h0
theorem pre_run {σ w : St} (h : PreB σ w) (h0 : w 44 0 ≠ 0) (q : List Bool) : LgC σ q ↔ runB (alN (alZ (-1) (gA w)) (nxM w)) 0 q ≠ -1 := by
  obtain ⟨-, -, -, -, -, h1, h2, h3, h4, h5⟩ := h
  rw [← h5 q, gA_alive]
  exact lg_run h2 h4.2 q 0 h1.1 (alZ_t.mpr h0)
theorem pre_many {σ w : St} {g : Nat → Int} {G : Int} (h : PreB σ w) (h0 : w 44 0 ≠ 0) (hp : PartG (w 37 7) (nxM w) (gA w) g G) (hm : Many2 (w 37 7) (nxM w) g) : ManyL (LgC σ) := by
  have hL := pre_run h h0
  obtain ⟨-, -, -, -, -, h1, h2, h3, h4, h5⟩ := h
  have hA := h4.2
  rw [← gA_alive] at hA
  obtain ⟨v, m1, m2⟩ := hm
  have h6 : ∀ k, ∃ q, k ≤ 100 → runB (alN (alZ (-1) (gA w)) (nxM w)) 0 q = v k := fun k => by
    by_cases hk : k ≤ 100
    · obtain ⟨q, e⟩ := alive_reach h2 h3 hA (v k) (m1 k hk).1 ((hp.2.2.1 _ (m1 k hk).1).mp (m1 k hk).2)
      exact ⟨q, fun _ => e⟩
    · exact ⟨[], fun q => absurd q hk⟩
  refine ⟨fun k => Classical.choose (h6 k), fun k hk => ?_, fun j k hjk hk => ?_⟩
  · rw [hL, Classical.choose_spec (h6 k) hk]
    omega
  · obtain ⟨q, hq2⟩ := dist_pair2 h2 hp.2.2.1 hp.2.2.2 (m1 j (by omega)).1 (m1 k hk).1 (m1 j (by omega)).2 (m1 k hk).2 (m2 j k hjk hk)
    refine ⟨q, fun c => hq2 ?_⟩
    rw [hL, hL, runB_cat, runB_cat, Classical.choose_spec (h6 j) (by omega), Classical.choose_spec (h6 k) hk] at c
    exact ⟨fun a => Classical.byContradiction fun e => c.mpr e a, fun a => Classical.byContradiction fun e => c.mp e a⟩
theorem part_cls {σ w : St} {G : Int} (h : PreB σ w) (hp : PartB w G) : ClsOK w G := by
  obtain ⟨-, -, -, -, -, h1, h2, h3, h4, h5⟩ := h
  refine ⟨h1, h2, h4.1, hp.1.1, hp.1.2.1, hp.2, fun i hi h0 => ?_⟩
  refine (hp.1.2.2.1 i hi).mpr (alZ_t.mpr ?_)
  unfold gA
  rw [if_neg h0]
  omega
theorem cls_r {w : St} {G : Int} (h : ClsOK w G) {i : Nat} (hi : (i : Int) < w 37 7) : w 44 i = 0 ∨ (w 44 i = 1 ∧ 0 ≤ w 45 i ∧ w 45 i < G) := by
  obtain ⟨c1, c2, c3, c4, c5, c6, c7⟩ := h
  rcases c3 i hi with h0 | h0
  · exact Or.inl h0
  · have h1 := c7 i hi (by omega)
    have h2 := c4.2 i hi
    have h3 := lt_mx (n := (w 37 7).toNat) (i := i) (by omega) h2.2
    rw [c4.1] at h3
    have h4 : gR w i = w 45 i := if_neg (by omega)
    rw [h4] at h1 h2 h3
    exact Or.inr ⟨h0, by omega, h3⟩
theorem bld_end {σ w u : St} {G : Int} (hP : PreB σ w) (hp : PartB w G) (h : BldI w u G (2 * u 37 17)) (h0 : w 44 0 ≠ 0) : (0 < u 37 17 ∧ u 37 17 ≤ 100) ∧ Canon (u 37 17) (gM u) ∧ (∀ q, LgC σ q ↔ runB (gM u) 0 q ≠ -1) ∧ FirstP (u 37 17) (gM u) (u 52) (u 53) (u 54) := by
  have hC := part_cls hP hp
  have hrun := pre_run hP h0
  obtain ⟨h1, h2, h3, h4, h5⟩ := h
  obtain ⟨c1, c2, c3, c4, c5, c6, c7⟩ := hC
  have e1 := exp_le h2
  have e2 := h2.1.1
  have hG0 := mx_0 (gR w) (w 37 7).toNat
  rw [c4.1] at hG0
  have hR : ∀ p i : Nat, ((p : Int) < u 37 17 ∧ (i : Int) < w 37 7 ∧ gR w i ≠ -1 ∧ gR w i = gR w (u 56 p).toNat) → ∀ b : Nat, b ≤ 1 → (gM u (2 * p + b) = -1 ∧ alN (alZ (-1) (gA w)) (nxM w) (2 * i + b) = -1) ∨ ∃ p' i' : Nat, gM u (2 * p + b) = p' ∧ alN (alZ (-1) (gA w)) (nxM w) (2 * i + b) = i' ∧ ((p' : Int) < u 37 17 ∧ (i' : Int) < w 37 7 ∧ gR w i' ≠ -1 ∧ gR w i' = gR w (u 56 p').toNat) := by
    rintro p i ⟨a1, a2, a3, a4⟩ b hb
    obtain ⟨b1, b2, b3, b4⟩ := h2.2.2.2.2.2.1 (2 * p + b) (by omega)
    rw [show (2 * p + b) / 2 = p by omega, show (2 * p + b) % 2 = b by omega] at b3 b4
    have b5 : ksG (w 37 7) (nxM w) (gR w) (gR w (u 56 p).toNat) (b : Int) = gaF (nxM w) (gR w) i b := by
      rw [← a4]; exact ksG_at c6 a2 a3 hb
    have b3 : gM u (2 * p + b) = -1 → gaF (nxM w) (gR w) i b = -1 := fun q => by rw [← b5]; exact b3 q
    have b4 : gM u (2 * p + b) ≠ -1 → gR w (u 56 (gM u (2 * p + b)).toNat).toNat = gaF (nxM w) (gR w) i b := fun q => by rw [← b5]; exact b4 q
    rcases alN_ga c2 hp.1.2.2.1 a2 hb with ⟨d1, d2⟩ | ⟨j, d0, d1, -, d2, d3⟩
    · refine Or.inl ⟨?_, d1⟩
      apply Classical.byContradiction
      intro q
      have d4 := b4 q
      rw [d2] at d4
      exact (h3 (gM u (2 * p + b)).toNat (by omega)).2.2 d4
    · by_cases q : gM u (2 * p + b) = -1
      · have d4 := b3 q
        rw [d2] at d4
        exact absurd d4 d3
      · have d4 := b4 q
        rw [d2] at d4
        exact Or.inr ⟨(gM u (2 * p + b)).toNat, j, by omega, d1, by omega, d0, d3, d4.symm⟩
  have hpl : ∀ p : Nat, (p : Int) < u 37 17 → ((p : Int) < u 37 17 ∧ (((u 56 p).toNat : Nat) : Int) < w 37 7 ∧ gR w (u 56 p).toNat ≠ -1 ∧ gR w (u 56 p).toNat = gR w (u 56 p).toNat) := fun p hp => by
    have := h3 p hp
    exact ⟨hp, by omega, this.2.2, rfl⟩
  have hkey : ∀ p : Nat, (p : Int) < u 37 17 → 0 ≤ gR w (u 56 p).toNat ∧ gR w (u 56 p).toNat < (G.toNat : Int) ∧ u 55 (gR w (u 56 p).toNat).toNat = (p : Int) := fun p hp => h2.2.2.1 p hp
  have hk0 : gR w (u 56 0).toNat = gR w 0 := h2.2.1
  refine ⟨⟨by omega, by omega⟩, canon_of hR (exp_wire h2).1 (exp_wire h2).2 (fun p hp => ⟨_, hpl p hp⟩) (fun p q i j r1 r2 hne => ?_), fun q => ?_, ⟨h4.1, fun p p0 p1 => ?_⟩⟩
  · refine hp.1.2.2.2 i j r1.2.1 r2.2.1 r1.2.2.1 r2.2.2.1 (fun e => hne ?_)
    have k1 := hkey p r1.1
    have k2 := hkey q r2.1
    rw [r1.2.2.2, r2.2.2.2] at e
    rw [e] at k1
    omega
  · rw [hrun q]
    exact not_congr (run_iff hR (p := 0) (i := 0) ⟨by omega, by omega, by have := c7 0 (by omega) h0; exact this, hk0.symm⟩ q).symm
  · obtain ⟨π, x1, x2, x3, x4, x5, x6, x7⟩ := h4.2 p p0 p1
    exact ⟨π, x2, x3, x4, x5, x6, x7⟩
theorem bld_start {w u v : St} {G r : Int} (hC : ClsOK w G) (h0 : w 44 0 ≠ 0) (hf : FrS w u) (h17 : u 37 17 = 0) (h55 : ∀ c : Nat, c < 101 → u 55 c = -1) (hb : isBits (u 53)) (hp : StateSt u v 0 (-1) 0 r) : BldI w v G 0 ∧ v 37 17 = 1 := by
  have hc := cls_r (i := 0) hC (by have := hC.1; omega)
  have hc := hc.resolve_left h0
  obtain ⟨r44, r45, r42, r43, r7⟩ := hf.rows
  have hca : caZ u 0 = w 45 0 := by
    rw [ca_row r44 r45]
    unfold caZ gR
    rw [if_neg (by decide)]
    exact if_neg h0
  have hg0 : gR w 0 = w 45 0 := if_neg h0
  have hG := hC.2.2.2.2.1
  rcases hp with ⟨a1, -, -⟩ | ⟨a1, a2, -, -⟩ | ⟨a1, a2, a3, hv⟩
  · omega
  · exact absurd (h55 _ (by omega)) a2
  · obtain ⟨f37, f55, f56, f52, f53, f54, fr⟩ := state3 hv
    have e17 : v 37 17 = 1 := by rw [f37, up1_eq, h17]; rfl
    refine ⟨⟨⟨fun k k1 k2 k3 k4 k5 k6 k7 k8 => ?_, fun j hj => ?_⟩, ?_, fun p hp => ?_, ⟨?_, fun p p0 p1 => by omega⟩, ?_⟩, e17⟩
    · rw [fr k k1 k4 k5 k6 k7 k8]; exact hf.1 k k1 k2 k3 k4 k5 k6 k7 k8
    · rw [f37, up1_ne _ _ _ _ hj]; exact hf.2 j hj
    · rw [e17]
      refine exp_0 ⟨by omega, by omega⟩ ?_ ?_ (fun k hk hk2 => ?_)
      · show gR w (v 56 0).toNat = gR w 0
        rw [f56, h17, show (0 : Int).toNat = 0 from rfl, up1_eq]; rfl
      · rw [f55, hca, hg0, up1_eq, h17]
      · rw [f55, hca, ← hg0, up1_ne _ _ _ _ hk2]; exact h55 k (by omega)
    · have : p = 0 := by omega
      subst this
      rw [f56, h17, show (0 : Int).toNat = 0 from rfl, up1_eq]
      refine ⟨by omega, by have := hC.1; omega, ?_⟩
      show gR w 0 ≠ -1
      omega
    · rw [f54, h17, show (0 : Int).toNat = 0 from rfl, up1_eq, if_pos rfl]
    · rw [f53]
      intro j
      rw [up1_app]
      split
      · omega
      · exact hb j
theorem state_ri {u v : St} {raw fr bit r : Int} (hp : StateSt u v raw fr bit r) (h : rI (u 37 17)) (h2 : ∀ c : Nat, c < 101 → rI (u 55 c)) : ∀ c : Nat, c < 101 → rI (v 55 c) := by
  intro c hc
  rcases hp with ⟨-, -, hv⟩ | ⟨-, -, -, hv⟩ | ⟨-, -, -, hv⟩
  · rw [hv]; exact h2 c hc
  · rw [hv]; exact h2 c hc
  · rw [(state3 hv).2.1, up1_app]
    split
    · exact h
    · exact h2 c hc
/-- what the next call may take -/
theorem bld_pre {w u : St} {G m : Int} (hC : ClsOK w G) (h : BldI w u G m) (hm : m < 2 * u 37 17) {raw : Int} (hr : raw = nxM w (2 * (u 56 (m.toNat / 2)).toNat + m.toNat % 2)) : (raw = -1 ∨ (0 ≤ raw ∧ raw < 11264 ∧ (u 44 raw.toNat = 0 ∨ (u 44 raw.toNat = 1 ∧ 0 ≤ u 45 raw.toNat ∧ u 45 raw.toNat ≤ 100)))) ∧ (0 < u 37 17 ∧ u 37 17 ≤ 100) ∧ (∀ c : Nat, u 55 c = -1 → caZ u raw = c → 0 ≤ u 37 17 ∧ u 37 17 < 100) ∧ (0 ≤ u 56 (m.toNat / 2) ∧ u 56 (m.toNat / 2) < 11264) := by
  obtain ⟨h1, h2, h3, h4, h5⟩ := h
  obtain ⟨r44, r45, r42, r43, r7⟩ := h1.rows
  have hm0 := h2.1.2.1
  have hs := h3 (m.toNat / 2) (by omega)
  have hw := hC.2.1 (2 * (u 56 (m.toNat / 2)).toNat + m.toNat % 2) (by omega)
  have hcn := hC.1
  have hG := hC.2.2.2.2.1
  have e1 := exp_le h2
  have e2 := h2.1.1
  rw [← hr] at hw
  have hrr : raw = -1 ∨ (0 ≤ raw ∧ raw < 11264 ∧ (w 44 raw.toNat = 0 ∨ (w 44 raw.toNat = 1 ∧ 0 ≤ w 45 raw.toNat ∧ w 45 raw.toNat < G))) := by
    by_cases e : raw = -1
    · exact Or.inl e
    · exact Or.inr ⟨by omega, by omega, cls_r hC (by omega)⟩
  refine ⟨?_, ⟨by omega, by omega⟩, fun c h55 hca => ?_, by omega, by omega⟩
  · rw [r44, r45]
    rcases hrr with q | ⟨q1, q2, q3 | q3⟩
    · exact Or.inl q
    · exact Or.inr ⟨q1, q2, Or.inl q3⟩
    · exact Or.inr ⟨q1, q2, Or.inr ⟨q3.1, q3.2.1, by omega⟩⟩
  · rw [ca_row r44 r45] at hca
    unfold caZ gR at hca
    have hc2 : (c : Int) < G := by
      split at hca
      · omega
      · split at hca
        · omega
        · rcases hrr with q | ⟨q1, q2, q3 | q3⟩
          · omega
          · omega
          · omega
    have := exp_lt h2 (k := c) (by omega) h55
    omega
