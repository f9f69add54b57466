/-! partitions of places, numbered by their first places, made finer -/
def mxF (g : Nat → Int) : Nat → Int
  | 0 => 0
  | n + 1 => if mxF g n ≤ g n then mxF g n + 1 else mxF g n
def NumP (cnt : Int) (g : Nat → Int) (G : Int) : Prop := mxF g cnt.toNat = G ∧ ∀ i : Nat, (i : Int) < cnt → -1 ≤ g i ∧ g i ≤ mxF g i
theorem mx_0 (g : Nat → Int) : ∀ n, 0 ≤ mxF g n
  | 0 => Int.le_refl _
  | n + 1 => by
    have := mx_0 g n
    rw [mxF]
    split <;> omega
theorem mx_mono (g : Nat → Int) {n m : Nat} (h : n ≤ m) : mxF g n ≤ mxF g m := by
  obtain ⟨k, rfl⟩ := Nat.le.dest h
  induction k with
  | zero => exact Int.le_refl _
  | succ k ih =>
    have := ih (by omega)
    show mxF g n ≤ mxF g (n + k + 1)
    rw [mxF]
    split <;> omega
theorem mx_congr {g h : Nat → Int} : ∀ {n : Nat}, (∀ i, i < n → g i = h i) → mxF g n = mxF h n
  | 0, _ => rfl
  | n + 1, e => by rw [mxF, mxF, mx_congr (fun i hi => e i (by omega)), e n (by omega)]
theorem lt_mx {g : Nat → Int} {i n : Nat} (h : i < n) (h1 : g i ≤ mxF g i) : g i < mxF g n := by
  have h2 := mx_mono g (show i + 1 ≤ n by omega)
  rw [mxF] at h2
  split at h2 <;> omega
theorem mx_first {g : Nat → Int} : ∀ {n : Nat}, (∀ i, i < n → g i ≤ mxF g i) → ∀ p : Nat, (p : Int) < mxF g n → ∃ j, j < n ∧ g j = p ∧ mxF g j = p
  | 0, _, p, hp => by rw [mxF] at hp; omega
  | n + 1, h, p, hp => by
    by_cases hc : (p : Int) < mxF g n
    · obtain ⟨j, h1, h2, h3⟩ := mx_first (fun i hi => h i (by omega)) p hc
      exact ⟨j, by omega, h2, h3⟩
    · rw [mxF] at hp
      have := h n (by omega)
      split at hp
      · exact ⟨n, by omega, by omega, by omega⟩
      · omega
theorem num_new {cnt G H : Int} {g h : Nat → Int} (hg : NumP cnt g G) (hh : NumP cnt h H) (hr : ∀ i j : Nat, (i : Int) < cnt → (j : Int) < cnt → h i = h j → g i = g j) (hd : ∀ i : Nat, (i : Int) < cnt → (g i = -1 ↔ h i = -1)) {n : Nat} (hn : (n : Int) < cnt) (e : mxF g n ≤ g n) : mxF h n ≤ h n := by
  apply Classical.byContradiction
  intro hc
  have h0 := mx_0 g n
  have h1 := hh.2 n hn
  have h2 : ¬ h n = -1 := fun q => by have := (hd n hn).mpr q; omega
  obtain ⟨j, a1, a2, -⟩ := mx_first (g := h) (n := n) (fun i hi => (hh.2 i (by omega)).2) (h n).toNat (by omega)
  have a3 := hr j n (by omega) hn (by omega)
  have a4 := lt_mx a1 (hg.2 j (by omega)).2
  omega
theorem num_inc {cnt G H : Int} {g h : Nat → Int} (hg : NumP cnt g G) (hh : NumP cnt h H) (hr : ∀ i j : Nat, (i : Int) < cnt → (j : Int) < cnt → h i = h j → g i = g j) (hd : ∀ i : Nat, (i : Int) < cnt → (g i = -1 ↔ h i = -1)) {n m : Nat} (hn : n ≤ m) (hm : (m : Int) ≤ cnt) : mxF g m - mxF g n ≤ mxF h m - mxF h n := by
  obtain ⟨k, rfl⟩ := Nat.le.dest hn
  induction k with
  | zero => show mxF g n - mxF g n ≤ mxF h n - mxF h n; omega
  | succ k ih =>
    have h1 := ih (by omega) (by omega)
    have h2 := num_new hg hh hr hd (n := n + k) (by omega)
    show mxF g (n + k + 1) - mxF g n ≤ mxF h (n + k + 1) - mxF h n
    rw [mxF, mxF]
    split
    · next e => rw [if_pos (h2 e)]; omega
    · split <;> omega
theorem num_le {cnt G H : Int} {g h : Nat → Int} (hc : 0 ≤ cnt) (hg : NumP cnt g G) (hh : NumP cnt h H) (hr : ∀ i j : Nat, (i : Int) < cnt → (j : Int) < cnt → h i = h j → g i = g j) (hd : ∀ i : Nat, (i : Int) < cnt → (g i = -1 ↔ h i = -1)) : G ≤ H := by
  have h1 := num_inc hg hh hr hd (Nat.zero_le cnt.toNat) (by omega)
  have h2 := hg.1
  have h3 := hh.1
  simp only [mxF] at h1
  omega
theorem num_eq {cnt G : Int} {g h : Nat → Int} (hg : NumP cnt g G) (hh : NumP cnt h G) (hr : ∀ i j : Nat, (i : Int) < cnt → (j : Int) < cnt → h i = h j → g i = g j) (hd : ∀ i : Nat, (i : Int) < cnt → (g i = -1 ↔ h i = -1)) : ∀ i : Nat, (i : Int) < cnt → g i = h i := by
  have hm : ∀ n : Nat, (n : Int) ≤ cnt → mxF g n = mxF h n := fun n hn => by
    have h1 := num_inc hg hh hr hd (Nat.zero_le n) hn
    have h2 := num_inc hg hh hr hd (show n ≤ cnt.toNat by omega) (by omega)
    have h3 := hg.1
    have h4 := hh.1
    simp only [mxF] at h1
    omega
  intro i
  induction i using Nat.strongRecOn with
  | _ i ih =>
    intro hi
    have h1 := hm i (by omega)
    have h2 := hm (i + 1) (by omega)
    have h3 := hg.2 i hi
    have h4 := hh.2 i hi
    rw [mxF, mxF] at h2
    by_cases e : mxF g i ≤ g i
    · rw [if_pos e] at h2
      split at h2 <;> omega
    · rw [if_neg e] at h2
      have e2 : ¬ mxF h i ≤ h i := fun q => by rw [if_pos q] at h2; omega
      by_cases e3 : h i = -1
      · rw [e3, (hd i hi).mpr e3]
      · obtain ⟨j, a1, a2, -⟩ := mx_first (g := h) (n := i) (fun k hk => (hh.2 k (by omega)).2) (h i).toNat (by omega)
        have a3 := hr j i (by omega) hi (by omega)
        have a4 := ih j a1 (by omega)
        omega
/-! the group behind a bit -/
def gaF (nx g : Nat → Int) (i b : Nat) : Int := if nx (2 * i + b) = -1 then -1 else g (nx (2 * i + b)).toNat
def Split1 (cnt : Int) (nx g h : Nat → Int) (b : Nat) : Prop := (∀ i : Nat, (i : Int) < cnt → (g i = -1 ↔ h i = -1)) ∧ ∀ i j : Nat, (i : Int) < cnt → (j : Int) < cnt → g i ≠ -1 → g j ≠ -1 → (h i = h j ↔ g i = g j ∧ gaF nx g i b = gaF nx g j b)
theorem Split1.fine {cnt : Int} {nx g h : Nat → Int} {b : Nat} (hs : Split1 cnt nx g h b) : ∀ i j : Nat, (i : Int) < cnt → (j : Int) < cnt → h i = h j → g i = g j := by
  intro i j hi hj e
  by_cases e1 : g i = -1
  · rw [e1, (hs.1 j hj).mpr (by rw [← e]; exact (hs.1 i hi).mp e1)]
  · by_cases e2 : g j = -1
    · exact absurd ((hs.1 i hi).mpr (by rw [e]; exact (hs.1 j hj).mp e2)) e1
    · exact ((hs.2 i j hi hj e1 e2).mp e).1
def DistP (cnt : Int) (f g : Nat → Int) : Prop := ∀ i j : Nat, (i : Int) < cnt → (j : Int) < cnt → g i ≠ -1 → g j ≠ -1 → g i ≠ g j → ∃ w, ¬ (runB f i w = -1 ↔ runB f j w = -1)
def AlG (cnt : Int) (al : Nat → Bool) (g : Nat → Int) : Prop := ∀ i : Nat, (i : Int) < cnt → (g i ≠ -1 ↔ al i = true)
theorem alN_ga {cnt : Int} {nx g : Nat → Int} {al : Nat → Bool} (hw : Wire cnt nx) (ha : AlG cnt al g) {i b : Nat} (hi : (i : Int) < cnt) (hb : b ≤ 1) : (alN al nx (2 * i + b) = -1 ∧ gaF nx g i b = -1) ∨ (∃ j : Nat, (j : Int) < cnt ∧ alN al nx (2 * i + b) = j ∧ nx (2 * i + b) = j ∧ gaF nx g i b = g j ∧ g j ≠ -1) := by
  have h1 := hw (2 * i + b) (by omega)
  unfold gaF
  rw [alN_app]
  generalize nx (2 * i + b) = t at *
  by_cases e : t = -1
  · left
    rw [if_neg (fun q => q.1 e), if_pos e]
    exact ⟨rfl, rfl⟩
  · obtain ⟨j, rfl⟩ := Int.eq_ofNat_of_zero_le (show 0 ≤ t by omega)
    rw [Int.toNat_natCast, if_neg e]
    have h2 := ha j h1.2
    by_cases hj : al j = true
    · right
      rw [if_pos ⟨e, hj⟩]
      exact ⟨j, h1.2, rfl, rfl, rfl, h2.mpr hj⟩
    · left
      rw [if_neg (fun q => hj q.2)]
      exact ⟨rfl, Classical.byContradiction fun q => hj (h2.mp q)⟩
theorem dist_pair {cnt : Int} {nx g : Nat → Int} {al : Nat → Bool} (hw : Wire cnt nx) (ha : AlG cnt al g) (hD : DistP cnt (alN al nx) g) {b i j : Nat} (hb : b ≤ 1) (hi : (i : Int) < cnt) (hj : (j : Int) < cnt) (h1 : g i ≠ -1) (h2 : g j ≠ -1) (h : ¬ (g i = g j ∧ gaF nx g i b = gaF nx g j b)) : ∃ w, ¬ (runB (alN al nx) i w = -1 ↔ runB (alN al nx) j w = -1) := by
  by_cases e : g i = g j
  · have e2 : gaF nx g i b ≠ gaF nx g j b := fun q => h ⟨e, q⟩
    have hbb : ∀ (w : List Bool) (k : Nat), runB (alN al nx) k (decide (b = 1) :: w) = runB (alN al nx) (alN al nx (2 * k + b)) w := fun w k => by
      show runB (alN al nx) (nxB (alN al nx) k (decide (b = 1))) w = _
      rw [nxB_nat]
      congr 2
      rcases Nat.lt_or_ge b 1 with c | c
      · rw [decide_eq_false (by omega)]; show 2 * k + 0 = _; omega
      · rw [decide_eq_true (by omega)]; show 2 * k + 1 = _; omega
    rcases alN_ga hw ha hi hb with ⟨a1, a2⟩ | ⟨k, a0, a1, -, a2, a3⟩ <;> rcases alN_ga hw ha hj hb with ⟨c1, c2⟩ | ⟨m, c0, c1, -, c2, c3⟩
    · exact absurd (a2.trans c2.symm) e2
    · refine ⟨[decide (b = 1)], ?_⟩
      rw [hbb, hbb, a1, c1]
      show ¬ ((-1 : Int) = -1 ↔ (m : Int) = -1)
      omega
    · refine ⟨[decide (b = 1)], ?_⟩
      rw [hbb, hbb, a1, c1]
      show ¬ ((k : Int) = -1 ↔ (-1 : Int) = -1)
      omega
    · obtain ⟨w, hw2⟩ := hD k m a0 c0 a3 c3 (fun q => e2 (by rw [a2, c2, q]))
      refine ⟨decide (b = 1) :: w, ?_⟩
      rw [hbb, hbb, a1, c1]
      exact hw2
  · exact hD i j hi hj h1 h2 e
theorem dist_up {cnt : Int} {nx g h : Nat → Int} {al : Nat → Bool} {b : Nat} (hw : Wire cnt nx) (ha : AlG cnt al g) (hD : DistP cnt (alN al nx) g) (hb : b ≤ 1) (hs : Split1 cnt nx g h b) : DistP cnt (alN al nx) h := fun i j hi hj h1 h2 hne => by
  have g1 : g i ≠ -1 := fun q => h1 ((hs.1 i hi).mp q)
  have g2 : g j ≠ -1 := fun q => h2 ((hs.1 j hj).mp q)
  exact dist_pair hw ha hD hb hi hj g1 g2 (fun q => hne ((hs.2 i j hi hj g1 g2).mpr q))
theorem AlG.up {cnt : Int} {nx g h : Nat → Int} {al : Nat → Bool} {b : Nat} (ha : AlG cnt al g) (hs : Split1 cnt nx g h b) : AlG cnt al h := fun i hi => by
  rw [← ha i hi]
  exact not_congr (hs.1 i hi).symm
def StabP (cnt : Int) (nx g : Nat → Int) : Prop := ∀ i j : Nat, (i : Int) < cnt → (j : Int) < cnt → g i ≠ -1 → g i = g j → ∀ b : Nat, b ≤ 1 → gaF nx g i b = gaF nx g j b
theorem ga_congr {cnt : Int} {nx g h : Nat → Int} (hw : Wire cnt nx) (e : ∀ i : Nat, (i : Int) < cnt → g i = h i) {i b : Nat} (hi : (i : Int) < cnt) (hb : b ≤ 1) : gaF nx g i b = gaF nx h i b := by
  have h1 := hw (2 * i + b) (by omega)
  unfold gaF
  by_cases e1 : nx (2 * i + b) = -1
  · rw [if_pos e1, if_pos e1]
  · rw [if_neg e1, if_neg e1]
    exact e _ (by omega)
/-- two splits that make no more groups leave all as it was, and it is stable -/
theorem stab_of {cnt G G1 : Int} {nx g g1 g2 : Nat → Int} (hc : 0 ≤ cnt) (hw : Wire cnt nx) (hg : NumP cnt g G) (hg1 : NumP cnt g1 G1) (hg2 : NumP cnt g2 G) (h1 : Split1 cnt nx g g1 0) (h2 : Split1 cnt nx g1 g2 1) : StabP cnt nx g2 := by
  have l1 := num_le hc hg hg1 h1.fine h1.1
  have l2 := num_le hc hg1 hg2 h2.fine h2.1
  have e1 : G1 = G := by omega
  subst e1
  have f1 := num_eq hg hg1 h1.fine h1.1
  have f2 := num_eq hg1 hg2 h2.fine h2.1
  intro i j hi hj hne e b hb
  have k1 : g1 i ≠ -1 := by rw [f2 i hi]; exact hne
  have k2 : g1 j ≠ -1 := by rw [f2 j hj, ← e]; exact hne
  have a1 := (h2.2 i j hi hj k1 k2).mp e
  have a2 := (h1.2 i j hi hj (by rw [f1 i hi]; exact k1) (by rw [f1 j hj]; exact k2)).mp a1.1
  have b1 : gaF nx g2 i b = gaF nx g1 i b := (ga_congr hw f2 hi hb).symm
  have b2 : gaF nx g2 j b = gaF nx g1 j b := (ga_congr hw f2 hj hb).symm
  rcases (show b = 0 ∨ b = 1 by omega) with rfl | rfl
  · rw [b1, b2, ← ga_congr hw f1 hi hb, ← ga_congr hw f1 hj hb]
    exact a2.2
  · rw [b1, b2]
    exact a1.2
theorem least_nat {P : Nat → Prop} (h : ∃ n, P n) : ∃ n, P n ∧ ∀ m, m < n → ¬ P m := by
  obtain ⟨n, hn⟩ := h
  induction n using Nat.strongRecOn with
  | _ n ih =>
    by_cases hc : ∃ m, m < n ∧ P m
    · obtain ⟨m, h1, h2⟩ := hc
      exact ih m h1 h2
    · exact ⟨n, hn, fun m hm q => hc ⟨m, hm, q⟩⟩
/-! a wire out of a relation between its states and places -/
theorem run_rel {F f : Nat → Int} {R : Nat → Nat → Prop} (hR : ∀ p i, R p i → ∀ b : Nat, b ≤ 1 → (F (2 * p + b) = -1 ∧ f (2 * i + b) = -1) ∨ ∃ p' i' : Nat, F (2 * p + b) = p' ∧ f (2 * i + b) = i' ∧ R p' i') : ∀ (w : List Bool) (p i : Nat), R p i → (runB F p w = -1 ∧ runB f i w = -1) ∨ ∃ p' i' : Nat, runB F p w = p' ∧ runB f i w = i' ∧ R p' i'
  | [], p, i, h => Or.inr ⟨p, i, rfl, rfl, h⟩
  | b :: w, p, i, h => by
    have hb : b.toNat ≤ 1 := by cases b <;> decide
    show (runB F (nxB F p b) w = -1 ∧ runB f (nxB f i b) w = -1) ∨ ∃ p' i' : Nat, runB F (nxB F p b) w = p' ∧ runB f (nxB f i b) w = i' ∧ R p' i'
    rw [nxB_nat, nxB_nat]
    rcases hR p i h b.toNat hb with ⟨h1, h2⟩ | ⟨p', i', h1, h2, h3⟩
    · left
      rw [h1, h2, runB_neg, runB_neg]
      exact ⟨rfl, rfl⟩
    · rw [h1, h2]
      exact run_rel hR w p' i' h3
theorem run_iff {F f : Nat → Int} {R : Nat → Nat → Prop} (hR : ∀ p i, R p i → ∀ b : Nat, b ≤ 1 → (F (2 * p + b) = -1 ∧ f (2 * i + b) = -1) ∨ ∃ p' i' : Nat, F (2 * p + b) = p' ∧ f (2 * i + b) = i' ∧ R p' i') {p i : Nat} (h : R p i) (w : List Bool) : runB F p w = -1 ↔ runB f i w = -1 := by
  rcases run_rel hR w p i h with ⟨h1, h2⟩ | ⟨p', i', h1, h2, -⟩
  · rw [h1, h2]
  · rw [h1, h2]; omega
theorem canon_of {N : Int} {F f : Nat → Int} {R : Nat → Nat → Prop} (hR : ∀ p i, R p i → ∀ b : Nat, b ≤ 1 → (F (2 * p + b) = -1 ∧ f (2 * i + b) = -1) ∨ ∃ p' i' : Nat, F (2 * p + b) = p' ∧ f (2 * i + b) = i' ∧ R p' i') (hW : Wire N F) (hO : OrdW N F) (h1 : ∀ p : Nat, (p : Int) < N → ∃ i, R p i) (h2 : ∀ p q i j, R p i → R q j → p ≠ q → ∃ w, ¬ (runB f i w = -1 ↔ runB f j w = -1)) : Canon N F := by
  refine ⟨hW, hO, fun p q hp hq h => ?_⟩
  apply Classical.byContradiction
  intro hne
  obtain ⟨i, hi⟩ := h1 p hp
  obtain ⟨j, hj⟩ := h1 q hq
  obtain ⟨w, hw⟩ := h2 p q i j hi hj hne
  apply hw
  rw [← run_iff hR hi w, ← run_iff hR hj w]
  exact h w
/-! the wire of the groups -/
def QuoW (cnt : Int) (nx g : Nat → Int) (F : Nat → Int) : Prop := ∀ i : Nat, (i : Int) < cnt → g i ≠ -1 → g i = mxF g i → ∀ b : Nat, b ≤ 1 → F (2 * (g i).toNat + b) = gaF nx g i b
theorem quo_at {cnt G : Int} {nx g F : Nat → Int} (hg : NumP cnt g G) (hst : StabP cnt nx g) (hq : QuoW cnt nx g F) {i b : Nat} (hi : (i : Int) < cnt) (h : g i ≠ -1) (hb : b ≤ 1) : F (2 * (g i).toNat + b) = gaF nx g i b := by
  have h1 := hg.2 i hi
  have h2 := lt_mx (n := i + 1) (by omega) h1.2
  obtain ⟨j, a1, a2, a3⟩ := mx_first (g := g) (n := i + 1) (fun k hk => (hg.2 k (by omega)).2) (g i).toNat (by omega)
  have e : g j = g i := by omega
  have h3 := hq j (by omega) (by rw [e]; exact h) (by omega) b hb
  rw [e] at h3
  rw [h3]
  exact hst j i (by omega) hi (by rw [e]; exact h) e b hb
theorem quo_wire {cnt G : Int} {nx g F : Nat → Int} (hc : 0 ≤ cnt) (hw : Wire cnt nx) (hg : NumP cnt g G) (hq : QuoW cnt nx g F) : Wire G F := by
  intro π hπ
  obtain ⟨j, a1, a2, a3⟩ := mx_first (g := g) (n := cnt.toNat) (fun k hk => (hg.2 k (by omega)).2) (π / 2) (by rw [hg.1]; omega)
  have h1 := hq j (by omega) (by omega) (by omega) (π % 2) (by omega)
  rw [a2, Int.toNat_natCast, show 2 * (π / 2) + π % 2 = π by omega] at h1
  have h2 := hw (2 * j + π % 2) (by omega)
  have h3 := mx_0 g cnt.toNat
  rw [h1]
  unfold gaF
  have h4 := hg.1
  split
  · omega
  · next e =>
    have h5 := hg.2 (nx (2 * j + π % 2)).toNat (by omega)
    have h6 := lt_mx (n := cnt.toNat) (by omega) h5.2
    omega
theorem quo_ord {cnt G : Int} {nx g F : Nat → Int} {al : Nat → Bool} (hw : Wire cnt nx) (ho : OrdW cnt nx) (hA : AliveOK cnt nx al) (ha : AlG cnt al g) (hg : NumP cnt g G) (hst : StabP cnt nx g) (hq : QuoW cnt nx g F) (h0 : 0 < cnt) : OrdW G F := by
  intro p hp hpG
  obtain ⟨t, t1, t2, t3⟩ := mx_first (g := g) (n := cnt.toNat) (fun k hk => (hg.2 k (by omega)).2) p (by rw [hg.1]; omega)
  have ht0 : 0 < t := by
    rcases Nat.eq_zero_or_pos t with e | e
    · subst e; rw [mxF] at t3; omega
    · exact e
  obtain ⟨π0, p1, p2, p3⟩ := ho t ht0 (by omega)
  have h3 : nx (2 * (π0 / 2) + (bOf π0).toNat) = t := by rw [bOf_eq]; exact p2
  have hta : al t = true := (ha t (by omega)).mp (by omega)
  have h4 := dead_next (b := bOf π0) hw hA (i := π0 / 2) (by omega) (by rw [h3]; omega) (by rw [h3, Int.toNat_natCast]; exact hta)
  have h5 : g (π0 / 2) ≠ -1 := (ha (π0 / 2) (by omega)).mpr h4
  have h6 := hg.2 (π0 / 2) (by omega)
  have h7 := lt_mx (n := t) (show π0 / 2 < t by omega) h6.2
  have h8 := quo_at hg hst hq (i := π0 / 2) (b := π0 % 2) (by omega) h5 (by omega)
  have h9 : gaF nx g (π0 / 2) (π0 % 2) = p := by
    unfold gaF
    rw [show 2 * (π0 / 2) + π0 % 2 = π0 by omega, p2, if_neg (by omega), Int.toNat_natCast, t2]
  rw [h9] at h8
  obtain ⟨π, m1, m2⟩ := least_nat (P := fun π => F π = p) ⟨_, h8⟩
  have m3 : π ≤ 2 * (g (π0 / 2)).toNat + π0 % 2 := by
    apply Classical.byContradiction
    intro c
    exact m2 _ (by omega) h8
  refine ⟨π, by omega, m1, fun π' hπ' => ?_⟩
  apply Classical.byContradiction
  intro hc
  have n1 := m2 π' hπ'
  have n2 : (p : Int) < F π' := by
    have : F π' ≠ p := n1
    omega
  obtain ⟨j, a1, a2, a3⟩ := mx_first (g := g) (n := cnt.toNat) (fun k hk => (hg.2 k (by omega)).2) (π' / 2) (by rw [hg.1]; omega)
  have b1 := hq j (by omega) (by omega) (by omega) (π' % 2) (by omega)
  rw [a2, Int.toNat_natCast, show 2 * (π' / 2) + π' % 2 = π' by omega] at b1
  have b2 := hw (2 * j + π' % 2) (by omega)
  have b3 : nx (2 * j + π' % 2) ≠ -1 := fun q => by
    unfold gaF at b1
    rw [if_pos q] at b1
    omega
  have b4 : g (nx (2 * j + π' % 2)).toNat = F π' := by
    unfold gaF at b1
    rw [if_neg b3] at b1
    exact b1.symm
  have b5 : (t : Int) < nx (2 * j + π' % 2) := by
    apply Classical.byContradiction
    intro c
    rcases (show (nx (2 * j + π' % 2)).toNat < t ∨ (nx (2 * j + π' % 2)).toNat = t by omega) with c2 | c2
    · have := lt_mx c2 (hg.2 (nx (2 * j + π' % 2)).toNat (by omega)).2
      omega
    · rw [c2] at b4; omega
  have b6 : π0 < 2 * j + π' % 2 := by
    rcases Nat.lt_trichotomy π0 (2 * j + π' % 2) with c | c | c
    · exact c
    · rw [← c, p2] at b5; omega
    · have := p3 _ c; omega
  have b7 : j ≤ π0 / 2 := by
    apply Classical.byContradiction
    intro c
    have := lt_mx (show π0 / 2 < j by omega) h6.2
    omega
  by_cases e : j = π0 / 2
  · rw [e] at a2
    omega
  · omega
theorem quo_canon {cnt G : Int} {nx g F : Nat → Int} {al : Nat → Bool} (h0 : 0 < cnt) (hw : Wire cnt nx) (ho : OrdW cnt nx) (hA : AliveOK cnt nx al) (ha : AlG cnt al g) (hg : NumP cnt g G) (hst : StabP cnt nx g) (hD : DistP cnt (alN al nx) g) (hq : QuoW cnt nx g F) (hal : al 0 = true) : 0 < G ∧ Canon G F ∧ ∀ w, runB F 0 w = -1 ↔ runB (alN al nx) 0 w = -1 := by
  have hR : ∀ p i : Nat, ((i : Int) < cnt ∧ g i = p) → ∀ b : Nat, b ≤ 1 → (F (2 * p + b) = -1 ∧ alN al nx (2 * i + b) = -1) ∨ ∃ p' i' : Nat, F (2 * p + b) = p' ∧ alN al nx (2 * i + b) = i' ∧ ((i' : Int) < cnt ∧ g i' = p') := by
    rintro p i ⟨h1, h2⟩ b hb
    have h3 := quo_at hg hst hq h1 (by omega) hb
    rw [h2, Int.toNat_natCast] at h3
    rw [h3]
    rcases alN_ga hw ha h1 hb with ⟨a1, a2⟩ | ⟨j, a0, a1, -, a2, a3⟩
    · exact Or.inl ⟨a2, a1⟩
    · have h4 := hg.2 j a0
      exact Or.inr ⟨(g j).toNat, j, by omega, a1, a0, by omega⟩
  have hg0 : g 0 = 0 := by
    have h1 := hg.2 0 (by omega)
    have h2 := (ha 0 (by omega)).mpr hal
    rw [mxF] at h1
    omega
  refine ⟨?_, canon_of hR (quo_wire (by omega) hw hg hq) (quo_ord hw ho hA ha hg hst hq h0) (fun p hp => ?_) (fun p q i j h1 h2 hne => ?_), fun w => run_iff hR (p := 0) (i := 0) ⟨by omega, hg0⟩ w⟩
  · have h1 := mx_mono g (show 1 ≤ cnt.toNat by omega)
    rw [hg.1, mxF, mxF, hg0, if_pos (by omega)] at h1
    omega
  · obtain ⟨j, a1, a2, -⟩ := mx_first (g := g) (n := cnt.toNat) (fun k hk => (hg.2 k (by omega)).2) p (by rw [hg.1]; omega)
    exact ⟨j, by omega, a2⟩
  · exact hD i j h1.1 h2.1 (by omega) (by omega) (by omega)
/-! more than 100 states -/
def ManyL (L : List Bool → Prop) : Prop := ∃ r : Nat → List Bool, (∀ k, k ≤ 100 → L (r k)) ∧ ∀ j k, j < k → k ≤ 100 → ∃ w, ¬ (L (r j ++ w) ↔ L (r k ++ w))
theorem pigeon : ∀ (n : Nat) (v : Nat → Nat), (∀ k, k ≤ n → v k < n) → ∃ j k, j < k ∧ k ≤ n ∧ v j = v k
  | 0, v, h => absurd (h 0 (Nat.le_refl _)) (Nat.not_lt_zero _)
  | n + 1, v, h => by
    by_cases hc : ∃ j, j ≤ n ∧ v j = v (n + 1)
    · obtain ⟨j, h1, h2⟩ := hc
      exact ⟨j, n + 1, by omega, by omega, h2⟩
    · have hne : ∀ j, j ≤ n → v j ≠ v (n + 1) := fun j hj q => hc ⟨j, hj, q⟩
      obtain ⟨j, k, h1, h2, h3⟩ := pigeon n (fun k => if v k = n then v (n + 1) else v k) (fun k hk => by
        have a1 := h k (by omega)
        have a2 := h (n + 1) (by omega)
        have a3 := hne k hk
        show (if v k = n then v (n + 1) else v k) < n
        split <;> omega)
      refine ⟨j, k, h1, by omega, ?_⟩
      have a3 := hne j (by omega)
      have a4 := hne k h2
      have h3 : (if v j = n then v (n + 1) else v j) = (if v k = n then v (n + 1) else v k) := h3
      split at h3 <;> split at h3 <;> omega
theorem many_no {N : Int} {F : Nat → Int} {L : List Bool → Prop} (hN : N ≤ 100) (hW : Wire N F) (h0 : 0 < N) (hL : ∀ w, L w ↔ runB F 0 w ≠ -1) : ¬ ManyL L := by
  rintro ⟨r, h1, h2⟩
  have hr : ∀ (w : List Bool) (s : Int), (s = -1 ∨ (0 ≤ s ∧ s < N)) → runB F s w = -1 ∨ (0 ≤ runB F s w ∧ runB F s w < N) := by
    intro w
    induction w with
    | nil => exact fun s h => h
    | cons b w ih =>
      intro s h
      refine ih _ ?_
      rcases h with rfl | h
      · exact Or.inl (nxB_neg F b)
      · obtain ⟨p, rfl⟩ := Int.eq_ofNat_of_zero_le h.1
        have hb : b.toNat ≤ 1 := by cases b <;> decide
        rw [nxB_nat]
        have := hW (2 * p + b.toNat) (by omega)
        omega
  have hk : ∀ k, k ≤ 100 → 0 ≤ runB F 0 (r k) ∧ runB F 0 (r k) < N := fun k hk => (hr (r k) 0 (Or.inr ⟨by omega, h0⟩)).resolve_left ((hL _).mp (h1 k hk))
  obtain ⟨j, k, a1, a2, a3⟩ := pigeon 100 (fun k => (runB F 0 (r k)).toNat) (fun k hk2 => by
    have := hk k hk2
    show (runB F 0 (r k)).toNat < 100
    omega)
  have a3 : (runB F 0 (r j)).toNat = (runB F 0 (r k)).toNat := a3
  have e : runB F 0 (r j) = runB F 0 (r k) := by
    have := hk j (by omega)
    have := hk k a2
    omega
  obtain ⟨w, hw⟩ := h2 j k a1 a2
  apply hw
  rw [hL, hL, runB_cat, runB_cat, e]
theorem many_yes {cnt : Int} {nx g : Nat → Int} {al : Nat → Bool} {b : Nat} (hw : Wire cnt nx) (ho : OrdW cnt nx) (hA : AliveOK cnt nx al) (ha : AlG cnt al g) (hD : DistP cnt (alN al nx) g) {v : Nat → Nat} (h1 : ∀ k, k ≤ 100 → (v k : Int) < cnt ∧ g (v k) ≠ -1) (h2 : ∀ j k, j < k → k ≤ 100 → ¬ (g (v j) = g (v k) ∧ gaF nx g (v j) b = gaF nx g (v k) b)) (hb : b ≤ 1) {L : List Bool → Prop} (hL : ∀ w, L w ↔ runB (alN al nx) 0 w ≠ -1) : ManyL L := by
  have h3 : ∀ k, ∃ w, k ≤ 100 → runB (alN al nx) 0 w = v k := fun k => by
    by_cases hk : k ≤ 100
    · obtain ⟨w, e⟩ := alive_reach hw ho hA (v k) (h1 k hk).1 ((ha _ (h1 k hk).1).mp (h1 k hk).2)
      exact ⟨w, fun _ => e⟩
    · exact ⟨[], fun q => absurd q hk⟩
  refine ⟨fun k => Classical.choose (h3 k), fun k hk => ?_, fun j k hjk hk => ?_⟩
  · rw [hL, Classical.choose_spec (h3 k) hk]
    omega
  · obtain ⟨w, hw2⟩ := dist_pair hw ha hD hb (h1 j (by omega)).1 (h1 k hk).1 (h1 j (by omega)).2 (h1 k hk).2 (h2 j k hjk hk)
    refine ⟨w, fun q => hw2 ?_⟩
    rw [hL, hL, runB_cat, runB_cat, Classical.choose_spec (h3 j) (by omega), Classical.choose_spec (h3 k) hk] at q
    exact ⟨fun a => Classical.byContradiction fun c => q.mpr c a, fun a => Classical.byContradiction fun c => q.mp c a⟩
