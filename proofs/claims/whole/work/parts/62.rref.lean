/-! the reference: classes made finer till they stay -/
def Split2 (cnt : Int) (nx g h : Nat → Int) : Prop := (∀ i : Nat, (i : Int) < cnt → (g i = -1 ↔ h i = -1)) ∧ ∀ i j : Nat, (i : Int) < cnt → (j : Int) < cnt → g i ≠ -1 → g j ≠ -1 → (h i = h j ↔ g i = g j ∧ gaF nx g i 0 = gaF nx g j 0 ∧ gaF nx g i 1 = gaF nx g j 1)
theorem Split2.fine {cnt : Int} {nx g h : Nat → Int} (hs : Split2 cnt nx g h) : ∀ i j : Nat, (i : Int) < cnt → (j : Int) < cnt → h i = h j → g i = g j := by
  intro i j hi hj e
  by_cases e1 : g i = -1
  · rw [e1, (hs.1 j hj).mpr (by rw [← e]; exact (hs.1 i hi).mp e1)]
  · by_cases e2 : g j = -1
    · exact absurd ((hs.1 i hi).mpr (by rw [e]; exact (hs.1 j hj).mp e2)) e1
    · exact ((hs.2 i j hi hj e1 e2).mp e).1
theorem dist_pair2 {cnt : Int} {nx g : Nat → Int} {al : Nat → Bool} (hw : Wire cnt nx) (ha : AlG cnt al g) (hD : DistP cnt (alN al nx) g) {i j : Nat} (hi : (i : Int) < cnt) (hj : (j : Int) < cnt) (h1 : g i ≠ -1) (h2 : g j ≠ -1) (h : ¬ (g i = g j ∧ gaF nx g i 0 = gaF nx g j 0 ∧ gaF nx g i 1 = gaF nx g j 1)) : ∃ w, ¬ (runB (alN al nx) i w = -1 ↔ runB (alN al nx) j w = -1) := by
  by_cases e : g i = g j ∧ gaF nx g i 0 = gaF nx g j 0
  · exact dist_pair (b := 1) hw ha hD (by decide) hi hj h1 h2 (fun q => h ⟨e.1, e.2, q.2⟩)
  · exact dist_pair (b := 0) hw ha hD (by decide) hi hj h1 h2 e
theorem PartG.up2 {cnt G H : Int} {nx g0 g h : Nat → Int} (hp : PartG cnt nx g0 g G) (hw : Wire cnt nx) (hn : NumP cnt h H) (hH : H ≤ 100) (hs : Split2 cnt nx g h) : PartG cnt nx g0 h H := by
  refine ⟨hn, hH, fun i hi => ?_, fun i j hi hj h1 h2 hne => ?_⟩
  · rw [← hp.2.2.1 i hi]
    exact not_congr (hs.1 i hi).symm
  · have g1 : g i ≠ -1 := fun q => h1 ((hs.1 i hi).mp q)
    have g2 : g j ≠ -1 := fun q => h2 ((hs.1 j hj).mp q)
    exact dist_pair2 hw hp.2.2.1 hp.2.2.2 hi hj g1 g2 (fun q => hne ((hs.2 i j hi hj g1 g2).mpr q))
theorem stab2 {cnt G : Int} {nx g h : Nat → Int} (hw : Wire cnt nx) (hg : NumP cnt g G) (hh : NumP cnt h G) (hs : Split2 cnt nx g h) : StabP cnt nx h := by
  have f := num_eq hg hh hs.fine hs.1
  intro i j hi hj hne e b hb
  have k1 : g i ≠ -1 := by rw [f i hi]; exact hne
  have k2 : g j ≠ -1 := by rw [f j hj, ← e]; exact hne
  have a1 := (hs.2 i j hi hj k1 k2).mp e
  rw [← ga_congr hw f hi hb, ← ga_congr hw f hj hb]
  rcases (show b = 0 ∨ b = 1 by omega) with rfl | rfl
  · exact a1.2.1
  · exact a1.2.2
def Many2 (cnt : Int) (nx g : Nat → Int) : Prop := ∃ v : Nat → Nat, (∀ k, k ≤ 100 → (v k : Int) < cnt ∧ g (v k) ≠ -1) ∧ ∀ j k, j < k → k ≤ 100 → ¬ (g (v j) = g (v k) ∧ gaF nx g (v j) 0 = gaF nx g (v k) 0 ∧ gaF nx g (v j) 1 = gaF nx g (v k) 1)
/-- the classes of a pass so far -/
def hR (σ : St) : Nat → Int := fun i => if σ 44 i = 0 then -1 else σ 46 i
def FrF (σ u : St) : Prop := ∀ k, k ≠ 45 → k ≠ 46 → k ≠ 47 → k ≠ 48 → k ≠ 49 → u k = σ k
theorem FrF.at {σ u : St} (h : FrF σ u) : u 37 = σ 37 ∧ u 44 = σ 44 ∧ nxM u = nxM σ := ⟨h 37 (by decide) (by decide) (by decide) (by decide) (by decide), h 44 (by decide) (by decide) (by decide) (by decide) (by decide), nxM_eq (h 42 (by decide) (by decide) (by decide) (by decide) (by decide)) (h 43 (by decide) (by decide) (by decide) (by decide) (by decide))⟩
def PassI (u : St) (cnt now i : Int) : Prop := now = mxF (hR u) i.toNat ∧ now ≤ 101 ∧ (∀ j : Nat, (j : Int) < i → u 44 j ≠ 0 → 0 ≤ u 46 j ∧ u 46 j ≤ mxF (hR u) j ∧ Sgn u (u 46 j).toNat (u 45 j) (gaF (nxM u) (gR u) j 0) (gaF (nxM u) (gR u) j 1)) ∧
  (∀ c e : Nat, (c : Int) < now → (e : Int) < now → u 47 c = u 47 e → u 48 c = u 48 e → u 49 c = u 49 e → c = e) ∧ ∀ c : Nat, c < 101 → rI (u 47 c) ∧ rI (u 48 c) ∧ rI (u 49 c)
theorem gR_row {u v : St} (h0 : v 44 = u 44) (h1 : v 45 = u 45) : gR v = gR u := by
  unfold gR
  rw [h0, h1]
theorem pass_skip {u : St} {cnt now i : Int} (hi : 0 ≤ i) (h : PassI u cnt now i) (h0 : u 44 i.toNat = 0) : PassI u cnt now (i + 1) := by
  obtain ⟨h1, h2, h3, h4, h5⟩ := h
  have hm := mx_0 (hR u) i.toNat
  refine ⟨?_, h2, fun j hj hne => ?_, h4, h5⟩
  · rw [show (i + 1).toNat = i.toNat + 1 by omega, mxF]
    have : hR u i.toNat = -1 := if_pos h0
    rw [this, if_neg (by omega)]
    exact h1
  · by_cases e : j = i.toNat
    · rw [e] at hne; exact absurd h0 hne
    · exact h3 j (by omega) hne
theorem pass_set {u v w : St} {cnt now c i : Int} (hgr : ∀ b : Nat, b ≤ 1 → rI (gaF (nxM u) (gR u) i.toNat b)) (hcl : rI (u 45 i.toNat)) (hi : 0 ≤ i) (hn : now ≤ 100) (h : PassI u cnt now i) (h0 : u 44 i.toNat ≠ 0) (hs : SgnSt u v i.toNat now c) (hw : w = updR v 46 (up1 (v 46) i.toNat c)) : PassI w cnt (if c = now then now + 1 else now) (i + 1) ∧ (∀ k, k ≠ 46 → k ≠ 47 → k ≠ 48 → k ≠ 49 → w k = u k) := by
  obtain ⟨h1, h2, h3, h4, h5⟩ := h
  obtain ⟨s1, s2, s3, s4⟩ := hs
  have w47 : w 47 = up1 (u 47) c.toNat (u 45 i.toNat) := by rw [hw, updR_ne _ 46 47 _ (by decide), s4, updR_ne _ 49 47 _ (by decide), updR_ne _ 48 47 _ (by decide), updR_eq]
  have w48 : w 48 = up1 (u 48) c.toNat (gaF (nxM u) (gR u) i.toNat 0) := by rw [hw, updR_ne _ 46 48 _ (by decide), s4, updR_ne _ 49 48 _ (by decide), updR_eq]
  have w49 : w 49 = up1 (u 49) c.toNat (gaF (nxM u) (gR u) i.toNat 1) := by rw [hw, updR_ne _ 46 49 _ (by decide), s4, updR_eq]
  have w46 : w 46 = up1 (u 46) i.toNat c := by rw [hw, updR_eq, s4, updR_ne _ 49 46 _ (by decide), updR_ne _ 48 46 _ (by decide), updR_ne _ 47 46 _ (by decide)]
  have wfr : ∀ k, k ≠ 46 → k ≠ 47 → k ≠ 48 → k ≠ 49 → w k = u k := fun k k1 k2 k3 k4 => by rw [hw, updR_ne _ _ _ _ k1, s4, updR_ne _ _ _ _ k4, updR_ne _ _ _ _ k3, updR_ne _ _ _ _ k2]
  have w44 := wfr 44 (by decide) (by decide) (by decide) (by decide)
  have w45 := wfr 45 (by decide) (by decide) (by decide) (by decide)
  have wnx : nxM w = nxM u := nxM_eq (wfr 42 (by decide) (by decide) (by decide) (by decide)) (wfr 43 (by decide) (by decide) (by decide) (by decide))
  have wg : gR w = gR u := gR_row w44 w45
  have hRw : ∀ j : Nat, j < i.toNat → hR w j = hR u j := fun j hj => by
    unfold hR
    rw [w44, w46, up1_ne _ _ _ _ (by omega)]
  have hRi : hR w i.toNat = c := by
    unfold hR
    rw [w44, if_neg h0, w46, up1_eq]
  have hmx : ∀ j : Nat, j ≤ i.toNat → mxF (hR w) j = mxF (hR u) j := fun j hj => mx_congr (fun k hk => hRw k (by omega))
  have hm0 := mx_0 (hR u) i.toNat
  -- the old signs stay
  have hsg : ∀ e : Nat, (e : Int) < now → w 47 e = u 47 e ∧ w 48 e = u 48 e ∧ w 49 e = u 49 e := fun e he => by
    rw [w47, w48, w49, up1_app, up1_app, up1_app]
    by_cases e2 : e = c.toNat
    · have := s3 (by omega)
      rw [if_pos e2, if_pos e2, if_pos e2, e2]
      exact ⟨this.1.symm, this.2.1.symm, this.2.2.symm⟩
    · rw [if_neg e2, if_neg e2, if_neg e2]
      exact ⟨rfl, rfl, rfl⟩
  have hcs : w 47 c.toNat = u 45 i.toNat ∧ w 48 c.toNat = gaF (nxM u) (gR u) i.toNat 0 ∧ w 49 c.toNat = gaF (nxM u) (gR u) i.toNat 1 := by
    rw [w47, w48, w49, up1_eq, up1_eq, up1_eq]
    exact ⟨rfl, rfl, rfl⟩
  refine ⟨⟨?_, ?_, fun j hj hne => ?_, fun a e ha he q1 q2 q3 => ?_, fun a ha => ?_⟩, wfr⟩
  · rw [show (i + 1).toNat = i.toNat + 1 by omega, mxF, hRi, hmx _ (Nat.le_refl _), ← h1]
    by_cases e : c = now
    · rw [if_pos e, if_pos (by omega)]
    · rw [if_neg e, if_neg (by omega)]
  · split <;> omega
  · rw [w45, wnx, wg]
    by_cases e : j = i.toNat
    · rw [e, w46, up1_eq, hmx _ (Nat.le_refl _), ← h1]
      exact ⟨s1.1, s1.2, hcs⟩
    · rw [w44] at hne
      rw [w46, up1_ne _ _ _ _ e, hmx _ (by omega)]
      have h6 := h3 j (by omega) hne
      have h7 := mx_mono (hR u) (show j + 1 ≤ i.toNat by omega)
      have h8 : hR u j = u 46 j := if_neg hne
      rw [mxF, h8] at h7
      refine ⟨h6.1, h6.2.1, ?_⟩
      have h9 := hsg (u 46 j).toNat (by split at h7 <;> omega)
      unfold Sgn
      rw [h9.1, h9.2.1, h9.2.2]
      exact h6.2.2
  · by_cases ea : (a : Int) < now
    · by_cases ee : (e : Int) < now
      · obtain ⟨x1, x2, x3⟩ := hsg a ea
        obtain ⟨y1, y2, y3⟩ := hsg e ee
        exact h4 a e ea ee (by rw [← x1, ← y1, q1]) (by rw [← x2, ← y2, q2]) (by rw [← x3, ← y3, q3])
      · have ec : c = now ∧ (e : Int) = now := by
          by_cases e3 : c = now
          · rw [if_pos e3] at he; omega
          · rw [if_neg e3] at he; omega
        obtain ⟨x1, x2, x3⟩ := hsg a ea
        have e4 : e = c.toNat := by omega
        rw [e4] at q1 q2 q3
        exact absurd ⟨by rw [← x1, q1, hcs.1], by rw [← x2, q2, hcs.2.1], by rw [← x3, q3, hcs.2.2]⟩ (s2 a (by omega))
    · by_cases ee : (e : Int) < now
      · have ec : c = now ∧ (a : Int) = now := by
          by_cases e3 : c = now
          · rw [if_pos e3] at ha; omega
          · rw [if_neg e3] at ha; omega
        obtain ⟨x1, x2, x3⟩ := hsg e ee
        have e4 : a = c.toNat := by omega
        rw [e4] at q1 q2 q3
        exact absurd ⟨by rw [← x1, ← q1, hcs.1], by rw [← x2, ← q2, hcs.2.1], by rw [← x3, ← q3, hcs.2.2]⟩ (s2 e (by omega))
      · by_cases e3 : c = now
        · rw [if_pos e3] at ha he; omega
        · rw [if_neg e3] at ha he; omega
  · rw [w47, w48, w49, up1_app, up1_app, up1_app]
    by_cases e2 : a = c.toNat
    · rw [if_pos e2, if_pos e2, if_pos e2]
      exact ⟨hcl, hgr 0 (by omega), hgr 1 (by omega)⟩
    · rw [if_neg e2, if_neg e2, if_neg e2]
      exact h5 a ha
theorem pass_h {u : St} {cnt now i : Int} (h : PassI u cnt now i) {j : Nat} (hj : (j : Int) < i) (h0 : u 44 j ≠ 0) : hR u j = u 46 j ∧ 0 ≤ u 46 j ∧ u 46 j < now := by
  obtain ⟨h1, h2, h3, h4, h5⟩ := h
  have h6 := h3 j hj h0
  have h8 : hR u j = u 46 j := if_neg h0
  have h7 := lt_mx (g := hR u) (n := i.toNat) (i := j) (by omega) (by rw [h8]; exact h6.2.1)
  rw [h8] at h7
  exact ⟨h8, h6.1, by omega⟩
theorem pass_num {u : St} {cnt now : Int} (h : PassI u cnt now cnt) : NumP cnt (hR u) now := by
  refine ⟨h.1.symm, fun j hj => ?_⟩
  have hm := mx_0 (hR u) j
  by_cases e : u 44 j = 0
  · have : hR u j = -1 := if_pos e
    omega
  · have h6 := h.2.2.1 j hj e
    have h8 : hR u j = u 46 j := if_neg e
    omega
theorem pass_split {u : St} {cnt now : Int} (hA : ∀ j : Nat, (j : Int) < cnt → u 44 j ≠ 0 → gR u j ≠ -1) (h : PassI u cnt now cnt) : Split2 cnt (nxM u) (gR u) (hR u) := by
  refine ⟨fun j hj => ?_, fun i j hi hj g1 g2 => ?_⟩
  · by_cases e : u 44 j = 0
    · have e1 : gR u j = -1 := if_pos e
      have e2 : hR u j = -1 := if_pos e
      rw [e1, e2]
    · have h1 := hA j hj e
      have h2 := pass_h h hj e
      exact ⟨fun q => absurd q h1, fun q => by omega⟩
  · have e1 : u 44 i ≠ 0 := fun q => g1 (if_pos q)
    have e2 : u 44 j ≠ 0 := fun q => g2 (if_pos q)
    have k1 : gR u i = u 45 i := if_neg e1
    have k2 : gR u j = u 45 j := if_neg e2
    have p1 := pass_h h hi e1
    have p2 := pass_h h hj e2
    have s1 := (h.2.2.1 i hi e1).2.2
    have s2 := (h.2.2.1 j hj e2).2.2
    rw [p1.1, p2.1, k1, k2]
    constructor
    · intro q
      rw [q] at s1
      exact ⟨s1.1.symm.trans s2.1, s1.2.1.symm.trans s2.2.1, s1.2.2.symm.trans s2.2.2⟩
    · rintro ⟨q1, q2, q3⟩
      have := h.2.2.2.1 (u 46 i).toNat (u 46 j).toNat (by omega) (by omega) (by rw [s1.1, s2.1, q1]) (by rw [s1.2.1, s2.2.1, q2]) (by rw [s1.2.2, s2.2.2, q3])
      omega
theorem pass_many {u : St} {cnt now i : Int} (hi : 0 ≤ i ∧ i ≤ cnt) (h : PassI u cnt now i) (hn : 100 < now) (hA : ∀ j : Nat, (j : Int) < cnt → u 44 j ≠ 0 → gR u j ≠ -1) : Many2 cnt (nxM u) (gR u) := by
  have hle : ∀ j : Nat, j < i.toNat → hR u j ≤ mxF (hR u) j := fun j hj => by
    have hm := mx_0 (hR u) j
    by_cases e : u 44 j = 0
    · have : hR u j = -1 := if_pos e
      omega
    · have h6 := h.2.2.1 j (by omega) e
      have h8 : hR u j = u 46 j := if_neg e
      omega
  have hf : ∀ p : Nat, ∃ j : Nat, p ≤ 100 → j < i.toNat ∧ hR u j = p := fun p => by
    by_cases hp : p ≤ 100
    · obtain ⟨j, a1, a2, -⟩ := mx_first (g := hR u) (n := i.toNat) hle p (by rw [← h.1]; omega)
      exact ⟨j, fun _ => ⟨a1, a2⟩⟩
    · exact ⟨0, fun q => absurd q hp⟩
  have hv : ∀ k, k ≤ 100 → Classical.choose (hf k) < i.toNat ∧ hR u (Classical.choose (hf k)) = k ∧ u 44 (Classical.choose (hf k)) ≠ 0 := fun k hk => by
    have := Classical.choose_spec (hf k) hk
    refine ⟨this.1, this.2, fun q => ?_⟩
    have e : hR u (Classical.choose (hf k)) = -1 := if_pos q
    omega
  refine ⟨fun k => Classical.choose (hf k), fun k hk => ?_, fun j k hjk hk q => ?_⟩
  · have := hv k hk
    show ((Classical.choose (hf k) : Nat) : Int) < cnt ∧ gR u (Classical.choose (hf k)) ≠ -1
    exact ⟨by omega, hA _ (by omega) this.2.2⟩
  · have v1 := hv j (by omega)
    have v2 := hv k hk
    have q : gR u (Classical.choose (hf j)) = gR u (Classical.choose (hf k)) ∧ gaF (nxM u) (gR u) (Classical.choose (hf j)) 0 = gaF (nxM u) (gR u) (Classical.choose (hf k)) 0 ∧ gaF (nxM u) (gR u) (Classical.choose (hf j)) 1 = gaF (nxM u) (gR u) (Classical.choose (hf k)) 1 := q
    have p1 := pass_h h (j := Classical.choose (hf j)) (by omega) v1.2.2
    have p2 := pass_h h (j := Classical.choose (hf k)) (by omega) v2.2.2
    have s1 := (h.2.2.1 (Classical.choose (hf j)) (by omega) v1.2.2).2.2
    have s2 := (h.2.2.1 (Classical.choose (hf k)) (by omega) v2.2.2).2.2
    have k1 : gR u (Classical.choose (hf j)) = u 45 (Classical.choose (hf j)) := if_neg v1.2.2
    have k2 : gR u (Classical.choose (hf k)) = u 45 (Classical.choose (hf k)) := if_neg v2.2.2
    have := h.2.2.2.1 (u 46 (Classical.choose (hf j))).toNat (u 46 (Classical.choose (hf k))).toNat (by omega) (by omega) (by rw [s1.1, s2.1, ← k1, ← k2, q.1]) (by rw [s1.2.1, s2.2.1, q.2.1]) (by rw [s1.2.2, s2.2.2, q.2.2])
    omega
def gA (σ : St) : Nat → Int := fun i => if σ 44 i = 0 then -1 else 0
def RefC (σ u : St) (many : Int) : Prop := FrF σ u ∧ PartG (σ 37 7) (nxM σ) (gA σ) (gR u) many ∧ AllI (u 45) 11264 ∧ AllI (u 46) 11264 ∧ (∀ c : Nat, c < 101 → rI (u 47 c) ∧ rI (u 48 c) ∧ rI (u 49 c))
def RefM (σ τ : St) (r : Int) : Prop := FrF σ τ ∧ AllI (τ 45) 11264 ∧ AllI (τ 46) 11264 ∧ (∀ c : Nat, c < 101 → rI (τ 47 c) ∧ rI (τ 48 c) ∧ rI (τ 49 c)) ∧
  ((r ≤ 100 ∧ PartG (σ 37 7) (nxM σ) (gA σ) (gR τ) r ∧ StabP (σ 37 7) (nxM σ) (gR τ)) ∨ (100 < r ∧ r ≤ 101 ∧ ∃ g G, PartG (σ 37 7) (nxM σ) (gA σ) g G ∧ Many2 (σ 37 7) (nxM σ) g))
theorem refC_al {σ u : St} {many : Int} (h : RefC σ u many) : ∀ j : Nat, (j : Int) < σ 37 7 → u 44 j ≠ 0 → gR u j ≠ -1 := fun j hj h0 => by
  refine (h.2.1.2.2.1 j hj).mpr (alZ_t.mpr ?_)
  have e : gA σ j = 0 := by
    unfold gA
    rw [if_neg (by rw [← h.1.at.2.1]; exact h0)]
  rw [e]
  omega
def CopyI (σ u : St) (many now i : Int) : Prop := ∃ w, RefC σ w many ∧ NumP (σ 37 7) (hR w) now ∧ now ≤ 100 ∧ Split2 (σ 37 7) (nxM σ) (gR w) (hR w) ∧ u = updR w 45 (cpyF (w 46) (w 45) i)
theorem copy_end {σ u : St} {many now i : Int} (hc : 0 < σ 37 7 ∧ σ 37 7 ≤ 11264) (hw : Wire (σ 37 7) (nxM σ)) (hi : i = σ 37 7) (h : CopyI σ u many now i) : many ≤ now ∧ RefC σ u now ∧ (now = many → StabP (σ 37 7) (nxM σ) (gR u)) := by
  obtain ⟨w, h1, h2, h3, h4, hu⟩ := h
  subst hi
  have u44 : u 44 = w 44 := by rw [hu, updR_ne _ _ _ _ (by decide)]
  have u45 : u 45 = cpyF (w 46) (w 45) (σ 37 7) := by rw [hu, updR_eq]
  have u46 : u 46 = w 46 := by rw [hu, updR_ne _ _ _ _ (by decide)]
  have u47 : u 47 = w 47 := by rw [hu, updR_ne _ _ _ _ (by decide)]
  have u48 : u 48 = w 48 := by rw [hu, updR_ne _ _ _ _ (by decide)]
  have u49 : u 49 = w 49 := by rw [hu, updR_ne _ _ _ _ (by decide)]
  have he : ∀ j : Nat, (j : Int) < σ 37 7 → hR w j = gR u j := fun j hj => by
    unfold hR gR
    rw [u44, u45, cpyF_app, if_pos hj]
  have hmx : ∀ j : Nat, (j : Int) ≤ σ 37 7 → mxF (hR w) j = mxF (gR u) j := fun j hj => mx_congr (fun k hk => he k (by omega))
  have hn2 : NumP (σ 37 7) (gR u) now := ⟨by rw [← hmx _ (by omega)]; exact h2.1, fun j hj => by rw [← he j hj, ← hmx j (by omega)]; exact h2.2 j hj⟩
  have hs2 : Split2 (σ 37 7) (nxM σ) (gR w) (gR u) := ⟨fun j hj => by rw [← he j hj]; exact h4.1 j hj, fun a b ha hb ga gb => by rw [← he a ha, ← he b hb]; exact h4.2 a b ha hb ga gb⟩
  have hle := num_le (by omega) h1.2.1.1 hn2 hs2.fine hs2.1
  refine ⟨hle, ⟨fun k k1 k2 k3 k4 k5 => ?_, h1.2.1.up2 hw hn2 h3 hs2, fun j hj => ?_, ?_, ?_⟩, fun e => ?_⟩
  · rw [hu, updR_ne _ _ _ _ k1]; exact h1.1 k k1 k2 k3 k4 k5
  · rw [u45, cpyF_app]
    split
    · exact h1.2.2.2.1 j hj
    · exact h1.2.2.1 j hj
  · rw [u46]; exact h1.2.2.2.1
  · rw [u47, u48, u49]; exact h1.2.2.2.2
  · subst e
    exact stab2 hw h1.2.1.1 hn2 hs2
def StartI (σ u : St) (i : Int) : Prop := FrF σ u ∧ (∀ j : Nat, (j : Int) < i → u 45 j = 0) ∧ AllI (u 45) 11264 ∧ AllI (u 46) 11264 ∧ (∀ c : Nat, c < 101 → rI (u 47 c) ∧ rI (u 48 c) ∧ rI (u 49 c))
theorem start_end {σ u : St} {i : Int} (hc : 0 < σ 37 7) (h0 : σ 44 0 ≠ 0) (hi : σ 37 7 ≤ i) (h : StartI σ u i) : RefC σ u 1 := by
  obtain ⟨h1, h2, h3, h4, h5⟩ := h
  refine ⟨h1, ?_, h3, h4, h5⟩
  have he : ∀ j : Nat, (j : Int) < σ 37 7 → gR u j = gA σ j := fun j hj => by
    unfold gR gA
    rw [h1.at.2.1, h2 j (by omega)]
  have hp := part_0 (nx := nxM σ) (g := gA σ) hc (fun j _ => by unfold gA; split <;> omega) (by unfold gA; rw [if_neg h0])
  have hmx : ∀ j : Nat, (j : Int) ≤ σ 37 7 → mxF (gR u) j = mxF (gA σ) j := fun j hj => mx_congr (fun k hk => he k (by omega))
  refine ⟨⟨by rw [hmx _ (by omega)]; exact hp.1.1, fun j hj => by rw [he j hj, hmx j (by omega)]; exact hp.1.2 j hj⟩, hp.2.1, fun j hj => by rw [he j hj]; exact hp.2.2.1 j hj, fun a b ha hb ga gb hne => ?_⟩
  rw [he a ha] at ga hne
  rw [he b hb] at gb hne
  exact hp.2.2.2 a b ha hb ga gb hne
def s_M_refine : Spec := fun as σ Q => popR as fun c0 r0 => r0 = [] ∧ c0 = 37 ∧ (0 < σ 37 7 ∧ σ 37 7 ≤ 11264) ∧ (Wire (σ 37 7) (nxM σ)) ∧ (B01 (σ 37 7) (σ 44)) ∧ (σ 44 0 ≠ 0) ∧ (AllI (σ 45) 11264) ∧ (AllI (σ 46) 11264) ∧ (∀ c : Nat, c < 101 → rI (σ 47 c) ∧ rI (σ 48 c) ∧ rI (σ 49 c)) ∧ ∀ τ r, RefM σ τ r → Q (some (.inl r)) τ
theorem e_M_refine  (σ : St) (Q : Option AV → St → Prop) : s_M_refine [.inr (.inr (some 37))] σ Q = ((0 < σ 37 7 ∧ σ 37 7 ≤ 11264) ∧ (Wire (σ 37 7) (nxM σ)) ∧ (B01 (σ 37 7) (σ 44)) ∧ (σ 44 0 ≠ 0) ∧ (AllI (σ 45) 11264) ∧ (AllI (σ 46) 11264) ∧ (∀ c : Nat, c < 101 → rI (σ 47 c) ∧ rI (σ 48 c) ∧ rI (σ 49 c)) ∧ ∀ τ r, RefM σ τ r → Q (some (.inl r)) τ) := by
  show ([] = [] ∧ _) = _
  simp only [true_and]
set_option maxHeartbeats 4000000 in
set_option maxRecDepth 20000 in
theorem S_M_refine {l : Launch} : Sat l y_M_refine b_M_refine 4 (some .int) 3 s_M_refine := by
  refine sat_of (Φ := P_M) (κ := Q_M) (Γ := [(157, 10, 2, s_M_signOf)]) (rt := 1) (by decide +kernel) P_M_ok Q_M_ok (by
    refine List.forall_mem_cons.mpr ⟨?_, fun _ h => absurd h List.not_mem_nil⟩
    · exact m_M_signOf S_M_signOf (by decide) l_M_157) (by simp) o_M_refine ?_
  intro as σ Q hh0
  obtain ⟨c0, rr0, rfl, hh1⟩ := popR_inv hh0
  obtain ⟨hrE, rfl, hcnt, hwr, hal, h0, h45, h46, hsg, hQ⟩ := hh1
  subst hrE
  clear hh0
  refine ⟨Nat.le_of_ble_eq_true rfl, [(4, mkC (fun L st u => ∃ (i : Int) (v3 : AV), L = [.inr (.inr (some 37)), .inl 1, .inl i, v3] ∧ st = [] ∧ (0 ≤ i ∧ i ≤ σ 37 7) ∧ (StartI σ u i)) (fun L st u => (1000, (11265 - gI L 2).toNat, 0))),
    (25, mkC (fun L st u => ∃ (many : Int) (v2 v3 : AV), L = [.inr (.inr (some 37)), .inl many, v2, v3] ∧ st = [] ∧ (RefC σ u many)) (fun L st u => ((200 - gI L 1).toNat, 400, 0))),
    (29, mkC (fun L st u => ∃ (many now i : Int), L = [.inr (.inr (some 37)), .inl many, .inl now, .inl i] ∧ st = [] ∧ (0 ≤ i ∧ i ≤ σ 37 7) ∧ (RefC σ u many) ∧ (PassI u (σ 37 7) now i)) (fun L st u => ((200 - gI L 1).toNat, 300, (11265 - gI L 3).toNat))),
    (98, mkC (fun L st u => ∃ (many now i : Int), L = [.inr (.inr (some 37)), .inl many, .inl now, .inl i] ∧ st = [] ∧ (0 ≤ i ∧ i ≤ σ 37 7) ∧ (many ≤ 100 ∧ 0 ≤ now ∧ now ≤ 100 ∧ 0 ≤ many) ∧ (CopyI σ u many now i)) (fun L st u => ((200 - gI L 1).toNat, 200, (11265 - gI L 3).toNat)))], 14, ?_, cuts1 ?_ (cuts1 ?_ (cuts1 ?_ (cuts1 ?_ (cuts0))))⟩
  · rw [show entL 4 [.inr (.inr (some 37))] = [.inr (.inr (some 37)), .inr (.inr none), .inr (.inr none), .inr (.inr none)] from rfl]
    simp only [↓wpN_go, jmp_e, ↓wp_aload_n0, ↓wp_baload, ↓wp_bipush, ↓wp_getfield, ↓wp_goto, ↓wp_iadd, ↓wp_iaload, ↓wp_iastore, ↓wp_icmp_ge, ↓wp_icmp_gt, ↓wp_icmp_le, ↓wp_icmp_ne, ↓wp_iconst, ↓wp_if_eq, ↓wp_iinc, ↓wp_iload_n1, ↓wp_iload_n2, ↓wp_iload_n3, ↓wp_invokevirtual, ↓wp_ireturn1, ↓wp_istore_n1, ↓wp_istore_n2, ↓wp_istore_n3, wp_nil, ↓ldI_0, ↓ldI_s, ↓ldL_0, ↓ldL_s, ↓ldR_0, ↓ldR_s, sto1_0, sto1_1, sto1_s, sto2_0, sto2_1, sto2_s, isLong_i, isLong_l, isLong_r, ↓popI_c, ↓popL_c, ↓popR_c, ↓popN_0, ↓popN_s, catS_n, catS_c, psh_s, psh_n, fldV_n, fldV_s, ↓tgt_e, sw_n, ↓sw_c, ↓lk1_h, ↓lk1_m, ↓atC_h, ↓atC_m, ↓atC_n, ltO_n, ltO_s, updR_eq, updR_ne, gI_0i, gI_0l, gI_s, ltM_iff, List.cons.injEq, Sum.inl.injEq, Sum.inr.injEq, Option.some.injEq, exists_eq_left, exists_eq_left', exists_eq_right, exists_eq_right', exists_and_left, exists_and_right, exists_eq, exists_const, and_assoc, ↓j_M_refine_0, ↓j_M_refine_4, ↓j_M_refine_25, ↓j_M_refine_29, ↓j_M_refine_80, ↓j_M_refine_81, ↓j_M_refine_82, ↓j_M_refine_88, ↓j_M_refine_96, ↓j_M_refine_98, ↓j_M_refine_124, ↓j_M_refine_131, ↓f_M_140, ↓f_M_35, ↓f_M_39, ↓f_M_42, List.length_cons, List.length_nil, Nat.zero_add, Nat.reduceAdd, Int.reduceAdd, Int.reduceNeg, Int.reduceToNat, Int.reduceLE, Int.reduceLT, true_and, and_true, Nat.reduceLT, reduceIte, Nat.reduceEqDiff, ne_eq, not_false_eq_true, false_implies, true_implies, Bool.false_eq_true, reduceCtorEq, List.cons_append, List.nil_append, Nat.reduceSub, Nat.reduceLeDiff, Fin.isValue, Int.reduceNatCast', Int.zero_add, Int.add_zero, decide_true, decide_false, implies_true, forall_const, true_or, or_true, or_false, false_or, false_and, and_false, Int.toNat_natCast, ↓oF_37_0, ↓oF_37_1, ↓oF_37_2, ↓oF_37_3, ↓aF_38, ↓oF_37_4, ↓aF_39, ↓oF_37_5, ↓oF_37_6, ↓aF_40, ↓oF_37_7, ↓oF_37_8, ↓aF_41, ↓oF_37_9, ↓aF_42, ↓oF_37_10, ↓aF_43, ↓oF_37_11, ↓aF_44, ↓oF_37_12, ↓aF_45, ↓oF_37_13, ↓aF_46, ↓oF_37_14, ↓aF_47, ↓oF_37_15, ↓aF_48, ↓oF_37_16, ↓aF_49, ↓oF_37_17, ↓oF_37_18, ↓aF_50, ↓oF_37_19, ↓aF_51, ↓oF_37_20, ↓aF_52, ↓oF_37_21, ↓aF_53, ↓oF_37_22, ↓aF_54, ↓oF_37_23, ↓aF_55, ↓oF_37_24, ↓aF_56, ↓oF_37_25, ↓aF_57, ↓oF_37_26, ↓oF_37_27, ↓oF_37_28, ↓aF_58, ↓oF_37_29, ↓aF_59, ↓oF_37_30, ↓aF_60, ↓oF_37_31, ↓aF_61, ↓oF_37_32, ↓oF_37_33, ↓oF_37_34, ↓oF_37_35, ↓aF_62, ↓oF_37_36, ↓oF_37_37, ↓aF_63, ↓oF_37_38, ↓oF_37_39, ↓aF_64, ↓oF_37_40, ↓aF_65, ↓oF_37_41, ↓aF_66, oC_0, oC_1, oC_4, oC_11, oC_16, oC_18, oC_20, oC_23, oC_25, oC_26, oC_29, oC_31, oC_33, oC_35, oC_37, isT_29, isT_31, isT_33, isT_35, isL_16, isL_18, isL_26, ↓e_M_signOf]
    have hI : StartI σ σ 0 := ⟨fun _ _ _ _ _ _ => rfl, fun j hj => by omega, h45, h46, hsg⟩
    clear hQ
    (try simp only [rI_iff, rL_iff] at *)
    repeat' (with_reducible (first | assumption | apply And.intro | intro _))
    all_goals first | omega | with_reducible assumption | exact True.intro | skip
    all_goals first
      | omega
      | exact hI
      | trace_state
  · intro L st u hI
    obtain ⟨i, v3, rfl, rfl, hi, hu⟩ := hI
    simp only [↓wpN_go, jmp_e, ↓wp_aload_n0, ↓wp_baload, ↓wp_bipush, ↓wp_getfield, ↓wp_goto, ↓wp_iadd, ↓wp_iaload, ↓wp_iastore, ↓wp_icmp_ge, ↓wp_icmp_gt, ↓wp_icmp_le, ↓wp_icmp_ne, ↓wp_iconst, ↓wp_if_eq, ↓wp_iinc, ↓wp_iload_n1, ↓wp_iload_n2, ↓wp_iload_n3, ↓wp_invokevirtual, ↓wp_ireturn1, ↓wp_istore_n1, ↓wp_istore_n2, ↓wp_istore_n3, wp_nil, ↓ldI_0, ↓ldI_s, ↓ldL_0, ↓ldL_s, ↓ldR_0, ↓ldR_s, sto1_0, sto1_1, sto1_s, sto2_0, sto2_1, sto2_s, isLong_i, isLong_l, isLong_r, ↓popI_c, ↓popL_c, ↓popR_c, ↓popN_0, ↓popN_s, catS_n, catS_c, psh_s, psh_n, fldV_n, fldV_s, ↓tgt_e, sw_n, ↓sw_c, ↓lk1_h, ↓lk1_m, ↓atC_h, ↓atC_m, ↓atC_n, ltO_n, ltO_s, updR_eq, updR_ne, gI_0i, gI_0l, gI_s, ltM_iff, List.cons.injEq, Sum.inl.injEq, Sum.inr.injEq, Option.some.injEq, exists_eq_left, exists_eq_left', exists_eq_right, exists_eq_right', exists_and_left, exists_and_right, exists_eq, exists_const, and_assoc, ↓j_M_refine_0, ↓j_M_refine_4, ↓j_M_refine_25, ↓j_M_refine_29, ↓j_M_refine_80, ↓j_M_refine_81, ↓j_M_refine_82, ↓j_M_refine_88, ↓j_M_refine_96, ↓j_M_refine_98, ↓j_M_refine_124, ↓j_M_refine_131, ↓f_M_140, ↓f_M_35, ↓f_M_39, ↓f_M_42, List.length_cons, List.length_nil, Nat.zero_add, Nat.reduceAdd, Int.reduceAdd, Int.reduceNeg, Int.reduceToNat, Int.reduceLE, Int.reduceLT, true_and, and_true, Nat.reduceLT, reduceIte, Nat.reduceEqDiff, ne_eq, not_false_eq_true, false_implies, true_implies, Bool.false_eq_true, reduceCtorEq, List.cons_append, List.nil_append, Nat.reduceSub, Nat.reduceLeDiff, Fin.isValue, Int.reduceNatCast', Int.zero_add, Int.add_zero, decide_true, decide_false, implies_true, forall_const, true_or, or_true, or_false, false_or, false_and, and_false, Int.toNat_natCast, ↓oF_37_0, ↓oF_37_1, ↓oF_37_2, ↓oF_37_3, ↓aF_38, ↓oF_37_4, ↓aF_39, ↓oF_37_5, ↓oF_37_6, ↓aF_40, ↓oF_37_7, ↓oF_37_8, ↓aF_41, ↓oF_37_9, ↓aF_42, ↓oF_37_10, ↓aF_43, ↓oF_37_11, ↓aF_44, ↓oF_37_12, ↓aF_45, ↓oF_37_13, ↓aF_46, ↓oF_37_14, ↓aF_47, ↓oF_37_15, ↓aF_48, ↓oF_37_16, ↓aF_49, ↓oF_37_17, ↓oF_37_18, ↓aF_50, ↓oF_37_19, ↓aF_51, ↓oF_37_20, ↓aF_52, ↓oF_37_21, ↓aF_53, ↓oF_37_22, ↓aF_54, ↓oF_37_23, ↓aF_55, ↓oF_37_24, ↓aF_56, ↓oF_37_25, ↓aF_57, ↓oF_37_26, ↓oF_37_27, ↓oF_37_28, ↓aF_58, ↓oF_37_29, ↓aF_59, ↓oF_37_30, ↓aF_60, ↓oF_37_31, ↓aF_61, ↓oF_37_32, ↓oF_37_33, ↓oF_37_34, ↓oF_37_35, ↓aF_62, ↓oF_37_36, ↓oF_37_37, ↓aF_63, ↓oF_37_38, ↓oF_37_39, ↓aF_64, ↓oF_37_40, ↓aF_65, ↓oF_37_41, ↓aF_66, oC_0, oC_1, oC_4, oC_11, oC_16, oC_18, oC_20, oC_23, oC_25, oC_26, oC_29, oC_31, oC_33, oC_35, oC_37, isT_29, isT_31, isT_33, isT_35, isL_16, isL_18, isL_26, ↓e_M_signOf]
    obtain ⟨e37, e44, enx⟩ := hu.1.at
    simp only [e37]
    have q1 : i < σ 37 7 → StartI σ (updR u 45 (up1 (u 45) i.toNat 0)) (i + 1) := fun h => by
      refine ⟨fun k k1 k2 k3 k4 k5 => ?_, fun j hj => ?_, fun j hj => ?_, ?_, ?_⟩
      · rw [updR_ne _ _ _ _ k1]; exact hu.1 k k1 k2 k3 k4 k5
      · rw [updR_eq, up1_app]
        split
        · rfl
        · exact hu.2.1 j (by omega)
      · rw [updR_eq, up1_app]
        split
        · unfold rI; omega
        · exact hu.2.2.1 j hj
      · rw [updR_ne _ 45 46 _ (by decide)]; exact hu.2.2.2.1
      · rw [updR_ne _ 45 47 _ (by decide), updR_ne _ 45 48 _ (by decide), updR_ne _ 45 49 _ (by decide)]; exact hu.2.2.2.2
    have q2 : σ 37 7 ≤ i → RefC σ u 1 := fun h => start_end hcnt.1 h0 h hu
    clear hQ
    (try simp only [rI_iff, rL_iff] at *)
    repeat' (with_reducible (first | assumption | apply And.intro | intro _))
    all_goals first | omega | with_reducible assumption | exact True.intro | skip
    all_goals first
      | omega
      | exact q1 (by assumption)
      | exact q2 (by assumption)
      | trace_state
  · intro L st u hI
    obtain ⟨many, v2, v3, rfl, rfl, hu⟩ := hI
    simp only [↓wpN_go, jmp_e, ↓wp_aload_n0, ↓wp_baload, ↓wp_bipush, ↓wp_getfield, ↓wp_goto, ↓wp_iadd, ↓wp_iaload, ↓wp_iastore, ↓wp_icmp_ge, ↓wp_icmp_gt, ↓wp_icmp_le, ↓wp_icmp_ne, ↓wp_iconst, ↓wp_if_eq, ↓wp_iinc, ↓wp_iload_n1, ↓wp_iload_n2, ↓wp_iload_n3, ↓wp_invokevirtual, ↓wp_ireturn1, ↓wp_istore_n1, ↓wp_istore_n2, ↓wp_istore_n3, wp_nil, ↓ldI_0, ↓ldI_s, ↓ldL_0, ↓ldL_s, ↓ldR_0, ↓ldR_s, sto1_0, sto1_1, sto1_s, sto2_0, sto2_1, sto2_s, isLong_i, isLong_l, isLong_r, ↓popI_c, ↓popL_c, ↓popR_c, ↓popN_0, ↓popN_s, catS_n, catS_c, psh_s, psh_n, fldV_n, fldV_s, ↓tgt_e, sw_n, ↓sw_c, ↓lk1_h, ↓lk1_m, ↓atC_h, ↓atC_m, ↓atC_n, ltO_n, ltO_s, updR_eq, updR_ne, gI_0i, gI_0l, gI_s, ltM_iff, List.cons.injEq, Sum.inl.injEq, Sum.inr.injEq, Option.some.injEq, exists_eq_left, exists_eq_left', exists_eq_right, exists_eq_right', exists_and_left, exists_and_right, exists_eq, exists_const, and_assoc, ↓j_M_refine_0, ↓j_M_refine_4, ↓j_M_refine_25, ↓j_M_refine_29, ↓j_M_refine_80, ↓j_M_refine_81, ↓j_M_refine_82, ↓j_M_refine_88, ↓j_M_refine_96, ↓j_M_refine_98, ↓j_M_refine_124, ↓j_M_refine_131, ↓f_M_140, ↓f_M_35, ↓f_M_39, ↓f_M_42, List.length_cons, List.length_nil, Nat.zero_add, Nat.reduceAdd, Int.reduceAdd, Int.reduceNeg, Int.reduceToNat, Int.reduceLE, Int.reduceLT, true_and, and_true, Nat.reduceLT, reduceIte, Nat.reduceEqDiff, ne_eq, not_false_eq_true, false_implies, true_implies, Bool.false_eq_true, reduceCtorEq, List.cons_append, List.nil_append, Nat.reduceSub, Nat.reduceLeDiff, Fin.isValue, Int.reduceNatCast', Int.zero_add, Int.add_zero, decide_true, decide_false, implies_true, forall_const, true_or, or_true, or_false, false_or, false_and, and_false, Int.toNat_natCast, ↓oF_37_0, ↓oF_37_1, ↓oF_37_2, ↓oF_37_3, ↓aF_38, ↓oF_37_4, ↓aF_39, ↓oF_37_5, ↓oF_37_6, ↓aF_40, ↓oF_37_7, ↓oF_37_8, ↓aF_41, ↓oF_37_9, ↓aF_42, ↓oF_37_10, ↓aF_43, ↓oF_37_11, ↓aF_44, ↓oF_37_12, ↓aF_45, ↓oF_37_13, ↓aF_46, ↓oF_37_14, ↓aF_47, ↓oF_37_15, ↓aF_48, ↓oF_37_16, ↓aF_49, ↓oF_37_17, ↓oF_37_18, ↓aF_50, ↓oF_37_19, ↓aF_51, ↓oF_37_20, ↓aF_52, ↓oF_37_21, ↓aF_53, ↓oF_37_22, ↓aF_54, ↓oF_37_23, ↓aF_55, ↓oF_37_24, ↓aF_56, ↓oF_37_25, ↓aF_57, ↓oF_37_26, ↓oF_37_27, ↓oF_37_28, ↓aF_58, ↓oF_37_29, ↓aF_59, ↓oF_37_30, ↓aF_60, ↓oF_37_31, ↓aF_61, ↓oF_37_32, ↓oF_37_33, ↓oF_37_34, ↓oF_37_35, ↓aF_62, ↓oF_37_36, ↓oF_37_37, ↓aF_63, ↓oF_37_38, ↓oF_37_39, ↓aF_64, ↓oF_37_40, ↓aF_65, ↓oF_37_41, ↓aF_66, oC_0, oC_1, oC_4, oC_11, oC_16, oC_18, oC_20, oC_23, oC_25, oC_26, oC_29, oC_31, oC_33, oC_35, oC_37, isT_29, isT_31, isT_33, isT_35, isL_16, isL_18, isL_26, ↓e_M_signOf]
    obtain ⟨e37, e44, enx⟩ := hu.1.at
    have q1 : PassI u (σ 37 7) 0 0 := ⟨rfl, by omega, fun j hj => by omega, fun c e hc => by omega, hu.2.2.2.2⟩
    clear hQ
    (try simp only [rI_iff, rL_iff] at *)
    repeat' (with_reducible (first | assumption | apply And.intro | intro _))
    all_goals first | omega | with_reducible assumption | exact True.intro | skip
    all_goals first
      | omega
      | exact q1
      | exact hu
      | trace_state
  · intro L st u hI
    obtain ⟨many, now, i, rfl, rfl, hi, hu, hp⟩ := hI
    simp only [↓wpN_go, jmp_e, ↓wp_aload_n0, ↓wp_baload, ↓wp_bipush, ↓wp_getfield, ↓wp_goto, ↓wp_iadd, ↓wp_iaload, ↓wp_iastore, ↓wp_icmp_ge, ↓wp_icmp_gt, ↓wp_icmp_le, ↓wp_icmp_ne, ↓wp_iconst, ↓wp_if_eq, ↓wp_iinc, ↓wp_iload_n1, ↓wp_iload_n2, ↓wp_iload_n3, ↓wp_invokevirtual, ↓wp_ireturn1, ↓wp_istore_n1, ↓wp_istore_n2, ↓wp_istore_n3, wp_nil, ↓ldI_0, ↓ldI_s, ↓ldL_0, ↓ldL_s, ↓ldR_0, ↓ldR_s, sto1_0, sto1_1, sto1_s, sto2_0, sto2_1, sto2_s, isLong_i, isLong_l, isLong_r, ↓popI_c, ↓popL_c, ↓popR_c, ↓popN_0, ↓popN_s, catS_n, catS_c, psh_s, psh_n, fldV_n, fldV_s, ↓tgt_e, sw_n, ↓sw_c, ↓lk1_h, ↓lk1_m, ↓atC_h, ↓atC_m, ↓atC_n, ltO_n, ltO_s, updR_eq, updR_ne, gI_0i, gI_0l, gI_s, ltM_iff, List.cons.injEq, Sum.inl.injEq, Sum.inr.injEq, Option.some.injEq, exists_eq_left, exists_eq_left', exists_eq_right, exists_eq_right', exists_and_left, exists_and_right, exists_eq, exists_const, and_assoc, ↓j_M_refine_0, ↓j_M_refine_4, ↓j_M_refine_25, ↓j_M_refine_29, ↓j_M_refine_80, ↓j_M_refine_81, ↓j_M_refine_82, ↓j_M_refine_88, ↓j_M_refine_96, ↓j_M_refine_98, ↓j_M_refine_124, ↓j_M_refine_131, ↓f_M_140, ↓f_M_35, ↓f_M_39, ↓f_M_42, List.length_cons, List.length_nil, Nat.zero_add, Nat.reduceAdd, Int.reduceAdd, Int.reduceNeg, Int.reduceToNat, Int.reduceLE, Int.reduceLT, true_and, and_true, Nat.reduceLT, reduceIte, Nat.reduceEqDiff, ne_eq, not_false_eq_true, false_implies, true_implies, Bool.false_eq_true, reduceCtorEq, List.cons_append, List.nil_append, Nat.reduceSub, Nat.reduceLeDiff, Fin.isValue, Int.reduceNatCast', Int.zero_add, Int.add_zero, decide_true, decide_false, implies_true, forall_const, true_or, or_true, or_false, false_or, false_and, and_false, Int.toNat_natCast, ↓oF_37_0, ↓oF_37_1, ↓oF_37_2, ↓oF_37_3, ↓aF_38, ↓oF_37_4, ↓aF_39, ↓oF_37_5, ↓oF_37_6, ↓aF_40, ↓oF_37_7, ↓oF_37_8, ↓aF_41, ↓oF_37_9, ↓aF_42, ↓oF_37_10, ↓aF_43, ↓oF_37_11, ↓aF_44, ↓oF_37_12, ↓aF_45, ↓oF_37_13, ↓aF_46, ↓oF_37_14, ↓aF_47, ↓oF_37_15, ↓aF_48, ↓oF_37_16, ↓aF_49, ↓oF_37_17, ↓oF_37_18, ↓aF_50, ↓oF_37_19, ↓aF_51, ↓oF_37_20, ↓aF_52, ↓oF_37_21, ↓aF_53, ↓oF_37_22, ↓aF_54, ↓oF_37_23, ↓aF_55, ↓oF_37_24, ↓aF_56, ↓oF_37_25, ↓aF_57, ↓oF_37_26, ↓oF_37_27, ↓oF_37_28, ↓aF_58, ↓oF_37_29, ↓aF_59, ↓oF_37_30, ↓aF_60, ↓oF_37_31, ↓aF_61, ↓oF_37_32, ↓oF_37_33, ↓oF_37_34, ↓oF_37_35, ↓aF_62, ↓oF_37_36, ↓oF_37_37, ↓aF_63, ↓oF_37_38, ↓oF_37_39, ↓aF_64, ↓oF_37_40, ↓aF_65, ↓oF_37_41, ↓aF_66, oC_0, oC_1, oC_4, oC_11, oC_16, oC_18, oC_20, oC_23, oC_25, oC_26, oC_29, oC_31, oC_33, oC_35, oC_37, isT_29, isT_31, isT_33, isT_35, isL_16, isL_18, isL_26, ↓e_M_signOf]
    obtain ⟨e37, e44, enx⟩ := hu.1.at
    simp only [e37, e44]
    have hA := refC_al hu
    have hmy := hu.2.1.2.1
    have hmm := mx_0 (gR u) (σ 37 7).toNat
    rw [hu.2.1.1.1] at hmm
    have hnn := mx_0 (hR u) i.toNat
    rw [← hp.1] at hnn
    have hnm := hp.2.1
    have hbi := hal i.toNat
    have q1 : 100 < now → Q (some (.inl now)) u := fun h => by
      refine hQ _ _ ⟨hu.1, hu.2.2.1, hu.2.2.2.1, hu.2.2.2.2, Or.inr ⟨h, hnm, gR u, many, hu.2.1, ?_⟩⟩
      have := pass_many hi hp h hA
      rw [enx] at this
      exact this
    have q2 : σ 37 7 ≤ i → now ≤ 100 → CopyI σ u many now 0 := fun h h1 => by
      have hi2 : i = σ 37 7 := by omega
      subst hi2
      have hsp := pass_split hA hp
      rw [enx] at hsp
      exact ⟨u, hu, pass_num hp, h1, hsp, by rw [cpyF_0, updR_self]⟩
    have q3 : i < σ 37 7 → σ 44 i.toNat = 0 → PassI u (σ 37 7) now (i + 1) := fun h h1 => pass_skip hi.1 hp (by rw [e44]; exact h1)
    have hgr : i < σ 37 7 → ∀ b : Nat, b ≤ 1 → rI (gaF (nxM u) (gR u) i.toNat b) := fun h b hb => by
      have h1 := hwr (2 * i.toNat + b) (by omega)
      rw [enx]
      unfold gaF
      split
      · unfold rI; omega
      · unfold gR
        split
        · unfold rI; omega
        · exact hu.2.2.1 _ (by omega)
    have q4 : ∀ v c, SgnSt u v i.toNat now c → i < σ 37 7 → now ≤ 100 → ¬ σ 44 i.toNat = 0 → PassI (updR v 46 (up1 (v 46) i.toNat c)) (σ 37 7) (if c = now then now + 1 else now) (i + 1) ∧ RefC σ (updR v 46 (up1 (v 46) i.toNat c)) many ∧ 0 ≤ c ∧ c ≤ now := fun v c hs h h1 h2 => by
      have h3 := pass_set (w := updR v 46 (up1 (v 46) i.toNat c)) (hgr h) (hu.2.2.1 _ (by omega)) hi.1 h1 hp (by rw [e44]; exact h2) hs rfl
      obtain ⟨g1, g2⟩ := h3
      have w44 := g2 44 (by decide) (by decide) (by decide) (by decide)
      have w45 := g2 45 (by decide) (by decide) (by decide) (by decide)
      refine ⟨g1, ⟨fun k k1 k2 k3 k4 k5 => ?_, ?_, ?_, fun j hj => ?_, g1.2.2.2.2⟩, hs.1.1, hs.1.2⟩
      · rw [g2 k k2 k3 k4 k5]; exact hu.1 k k1 k2 k3 k4 k5
      · rw [gR_row w44 w45]; exact hu.2.1
      · rw [w45]; exact hu.2.2.1
      · rw [updR_eq, up1_app]
        split
        · have := hs.1
          unfold rI; omega
        · have e46 : v 46 = u 46 := by rw [hs.2.2.2, updR_ne _ 49 46 _ (by decide), updR_ne _ 48 46 _ (by decide), updR_ne _ 47 46 _ (by decide)]
          rw [e46]
          exact hu.2.2.2.1 j hj
    have e45 := hu.2.2.1
    have es := hu.2.2.2.2
    clear hQ
    rw [enx]
    simp only [up1_eq]
    (try simp only [rI_iff, rL_iff] at *)
    repeat' (with_reducible (first | assumption | apply And.intro | intro _))
    all_goals first | omega | with_reducible assumption | exact True.intro | skip
    all_goals first
      | omega
      | exact q1 (by omega)
      | exact q2 (by omega) (by omega)
      | exact q3 (by assumption) (by assumption)
      | exact hu
      | exact hwr
      | exact hal
      | exact e45 _ (by omega)
      | exact (e45 _ (by omega)).1
      | exact (e45 _ (by omega)).2
      | exact es
      | exact es _ (by assumption)
      | exact (es _ (by assumption)).1
      | exact (es _ (by assumption)).1.1
      | exact (es _ (by assumption)).1.2
      | exact (es _ (by assumption)).2.1
      | exact (es _ (by assumption)).2.1.1
      | exact (es _ (by assumption)).2.1.2
      | exact (es _ (by assumption)).2.2
      | exact (es _ (by assumption)).2.2.1
      | exact (es _ (by assumption)).2.2.2
      | (have hs1 := (q4 _ _ (by assumption) (by assumption) (by assumption) (by assumption)).2.2; omega)
      | exact (q4 _ _ (by assumption) (by assumption) (by assumption) (by assumption)).2.1
      | (have hs1 := (q4 _ _ (by assumption) (by assumption) (by assumption) (by assumption)).1; rw [if_pos (by assumption)] at hs1; exact hs1)
      | (have hs1 := (q4 _ _ (by assumption) (by assumption) (by assumption) (by assumption)).1; rw [if_neg (by assumption)] at hs1; exact hs1)
      | trace_state
  · intro L st u hI
    obtain ⟨many, now, i, rfl, rfl, hi, hmr, hu⟩ := hI
    simp only [↓wpN_go, jmp_e, ↓wp_aload_n0, ↓wp_baload, ↓wp_bipush, ↓wp_getfield, ↓wp_goto, ↓wp_iadd, ↓wp_iaload, ↓wp_iastore, ↓wp_icmp_ge, ↓wp_icmp_gt, ↓wp_icmp_le, ↓wp_icmp_ne, ↓wp_iconst, ↓wp_if_eq, ↓wp_iinc, ↓wp_iload_n1, ↓wp_iload_n2, ↓wp_iload_n3, ↓wp_invokevirtual, ↓wp_ireturn1, ↓wp_istore_n1, ↓wp_istore_n2, ↓wp_istore_n3, wp_nil, ↓ldI_0, ↓ldI_s, ↓ldL_0, ↓ldL_s, ↓ldR_0, ↓ldR_s, sto1_0, sto1_1, sto1_s, sto2_0, sto2_1, sto2_s, isLong_i, isLong_l, isLong_r, ↓popI_c, ↓popL_c, ↓popR_c, ↓popN_0, ↓popN_s, catS_n, catS_c, psh_s, psh_n, fldV_n, fldV_s, ↓tgt_e, sw_n, ↓sw_c, ↓lk1_h, ↓lk1_m, ↓atC_h, ↓atC_m, ↓atC_n, ltO_n, ltO_s, updR_eq, updR_ne, gI_0i, gI_0l, gI_s, ltM_iff, List.cons.injEq, Sum.inl.injEq, Sum.inr.injEq, Option.some.injEq, exists_eq_left, exists_eq_left', exists_eq_right, exists_eq_right', exists_and_left, exists_and_right, exists_eq, exists_const, and_assoc, ↓j_M_refine_0, ↓j_M_refine_4, ↓j_M_refine_25, ↓j_M_refine_29, ↓j_M_refine_80, ↓j_M_refine_81, ↓j_M_refine_82, ↓j_M_refine_88, ↓j_M_refine_96, ↓j_M_refine_98, ↓j_M_refine_124, ↓j_M_refine_131, ↓f_M_140, ↓f_M_35, ↓f_M_39, ↓f_M_42, List.length_cons, List.length_nil, Nat.zero_add, Nat.reduceAdd, Int.reduceAdd, Int.reduceNeg, Int.reduceToNat, Int.reduceLE, Int.reduceLT, true_and, and_true, Nat.reduceLT, reduceIte, Nat.reduceEqDiff, ne_eq, not_false_eq_true, false_implies, true_implies, Bool.false_eq_true, reduceCtorEq, List.cons_append, List.nil_append, Nat.reduceSub, Nat.reduceLeDiff, Fin.isValue, Int.reduceNatCast', Int.zero_add, Int.add_zero, decide_true, decide_false, implies_true, forall_const, true_or, or_true, or_false, false_or, false_and, and_false, Int.toNat_natCast, ↓oF_37_0, ↓oF_37_1, ↓oF_37_2, ↓oF_37_3, ↓aF_38, ↓oF_37_4, ↓aF_39, ↓oF_37_5, ↓oF_37_6, ↓aF_40, ↓oF_37_7, ↓oF_37_8, ↓aF_41, ↓oF_37_9, ↓aF_42, ↓oF_37_10, ↓aF_43, ↓oF_37_11, ↓aF_44, ↓oF_37_12, ↓aF_45, ↓oF_37_13, ↓aF_46, ↓oF_37_14, ↓aF_47, ↓oF_37_15, ↓aF_48, ↓oF_37_16, ↓aF_49, ↓oF_37_17, ↓oF_37_18, ↓aF_50, ↓oF_37_19, ↓aF_51, ↓oF_37_20, ↓aF_52, ↓oF_37_21, ↓aF_53, ↓oF_37_22, ↓aF_54, ↓oF_37_23, ↓aF_55, ↓oF_37_24, ↓aF_56, ↓oF_37_25, ↓aF_57, ↓oF_37_26, ↓oF_37_27, ↓oF_37_28, ↓aF_58, ↓oF_37_29, ↓aF_59, ↓oF_37_30, ↓aF_60, ↓oF_37_31, ↓aF_61, ↓oF_37_32, ↓oF_37_33, ↓oF_37_34, ↓oF_37_35, ↓aF_62, ↓oF_37_36, ↓oF_37_37, ↓aF_63, ↓oF_37_38, ↓oF_37_39, ↓aF_64, ↓oF_37_40, ↓aF_65, ↓oF_37_41, ↓aF_66, oC_0, oC_1, oC_4, oC_11, oC_16, oC_18, oC_20, oC_23, oC_25, oC_26, oC_29, oC_31, oC_33, oC_35, oC_37, isT_29, isT_31, isT_33, isT_35, isL_16, isL_18, isL_26, ↓e_M_signOf]
    have hend := fun h : i = σ 37 7 => copy_end hcnt hwr h hu
    have e37 : u 37 = σ 37 := by
      obtain ⟨w, h1, h2, h3, h4, h5⟩ := hu
      rw [h5, updR_ne _ _ _ _ (by decide)]
      exact h1.1.at.1
    have q1 : i < σ 37 7 → CopyI σ (updR u 45 (up1 (u 45) i.toNat (u 46 i.toNat))) many now (i + 1) := fun h => by
      obtain ⟨w, h1, h2, h3, h4, h5⟩ := hu
      refine ⟨w, h1, h2, h3, h4, ?_⟩
      rw [h5, updR_eq, updR_ne _ 45 46 _ (by decide), updR_twice, cpyF_up hi.1]
    have q2 : σ 37 7 ≤ i → now = many → Q (some (.inl many)) u := fun h h1 => by
      have h2 := hend (by omega)
      rw [← h1]
      exact hQ _ _ ⟨h2.2.1.1, h2.2.1.2.2.1, h2.2.1.2.2.2.1, h2.2.1.2.2.2.2, Or.inl ⟨hmr.2.2.1, h2.2.1.2.1, h2.2.2 h1⟩⟩
    have q3 : σ 37 7 ≤ i → RefC σ u now := fun h => (hend (by omega)).2.1
    have q4 : σ 37 7 ≤ i → many ≤ now := fun h => (hend (by omega)).1
    clear hQ hend
    simp only [e37]
    (try simp only [rI_iff, rL_iff] at *)
    repeat' (with_reducible (first | assumption | apply And.intro | intro _))
    all_goals first | omega | with_reducible assumption | exact True.intro | skip
    all_goals first
      | omega
      | exact q1 (by assumption)
      | exact q2 (by assumption) (by assumption)
      | exact q3 (by assumption)
      | (have hs1 := q4 (by assumption); omega)
      | trace_state
