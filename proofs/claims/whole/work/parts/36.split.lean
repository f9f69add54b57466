/-! a split of the groups by one bit -/
def cellF (nx g : Nat → Int) (b i : Nat) : Int := g i * 101 + gaF nx g i b + 1
def GrR (cnt : Int) (g : Nat → Int) : Prop := ∀ i : Nat, (i : Int) < cnt → -1 ≤ g i ∧ g i ≤ 99
theorem ga_r {cnt : Int} {nx g : Nat → Int} (hw : Wire cnt nx) (hg : GrR cnt g) {i b : Nat} (hi : (i : Int) < cnt) (hb : b ≤ 1) : -1 ≤ gaF nx g i b ∧ gaF nx g i b ≤ 99 := by
  have h1 := hw (2 * i + b) (by omega)
  unfold gaF
  split
  · omega
  · exact hg _ (by omega)
theorem cell_r {cnt : Int} {nx g : Nat → Int} (hw : Wire cnt nx) (hg : GrR cnt g) {i b : Nat} (hi : (i : Int) < cnt) (hb : b ≤ 1) (h : g i ≠ -1) : 0 ≤ cellF nx g b i ∧ cellF nx g b i < 10201 := by
  have h1 := ga_r hw hg hi hb
  have h2 := hg i hi
  unfold cellF
  omega
theorem cell_eq {cnt : Int} {nx g : Nat → Int} (hw : Wire cnt nx) (hg : GrR cnt g) {i j b : Nat} (hi : (i : Int) < cnt) (hj : (j : Int) < cnt) (hb : b ≤ 1) : cellF nx g b i = cellF nx g b j ↔ g i = g j ∧ gaF nx g i b = gaF nx g j b := by
  have h1 := ga_r hw hg hi hb
  have h2 := hg i hi
  have h3 := ga_r hw hg hj hb
  have h4 := hg j hj
  unfold cellF
  omega
def SplI (cnt B : Int) (nx g : Nat → Int) (b : Nat) (h T : Nat → Int) (made : Int) (i : Nat) : Prop :=
  made = mxF h i ∧ made ≤ 100 ∧
  (∀ j : Nat, j < i → (g j = -1 ∧ h j = -1) ∨ (g j ≠ -1 ∧ 0 ≤ h j ∧ h j ≤ mxF h j ∧ T (cellF nx g b j).toNat = B + h j)) ∧
  (∀ c : Nat, c < 10201 → 0 ≤ T c ∧ (T c < B ∨ (T c < B + made ∧ ∃ j : Nat, j < i ∧ g j ≠ -1 ∧ (cellF nx g b j).toNat = c))) ∧
  (∀ c c' : Nat, c < 10201 → c' < 10201 → B ≤ T c → T c = T c' → c = c')
theorem spl_0 {cnt B : Int} {nx g h T : Nat → Int} {b : Nat} (hT : ∀ c : Nat, c < 10201 → 0 ≤ T c ∧ T c < B) : SplI cnt B nx g b h T 0 0 :=
  ⟨rfl, by omega, fun j hj => absurd hj (Nat.not_lt_zero _), fun c hc => ⟨(hT c hc).1, Or.inl (hT c hc).2⟩, fun c c' hc _ h1 _ => by have := hT c hc; omega⟩
theorem mx_up {h : Nat → Int} {i : Nat} {z : Int} : mxF (up1 h i z) i = mxF h i := mx_congr (fun j hj => up1_ne _ _ _ _ (by omega))
theorem mx_up1 {h : Nat → Int} {i : Nat} {z : Int} : mxF (up1 h i z) (i + 1) = if mxF h i ≤ z then mxF h i + 1 else mxF h i := by
  rw [mxF, mx_up, up1_eq]
theorem spl_dead {cnt B made : Int} {nx g h T : Nat → Int} {b i : Nat} (hS : SplI cnt B nx g b h T made i) (h0 : g i = -1) : SplI cnt B nx g b (up1 h i (-1)) T made (i + 1) := by
  obtain ⟨h1, h2, h3, h4, h5⟩ := hS
  have hm := mx_0 h i
  refine ⟨?_, h2, fun j hj => ?_, fun c hc => ⟨(h4 c hc).1, ?_⟩, h5⟩
  · rw [mx_up1, if_neg (by omega)]; exact h1
  · by_cases e : j = i
    · subst e
      rw [up1_eq]
      exact Or.inl ⟨h0, rfl⟩
    · rw [up1_ne _ _ _ _ e, mx_congr (h := h) (fun k hk => up1_ne _ _ _ _ (by omega))]
      exact h3 j (by omega)
  · rcases (h4 c hc).2 with h6 | ⟨h6, j, a1, a2, a3⟩
    · exact Or.inl h6
    · exact Or.inr ⟨h6, j, by omega, a2, a3⟩
theorem spl_old {cnt B made : Int} {nx g h T : Nat → Int} {b i : Nat} (hw : Wire cnt nx) (hg : GrR cnt g) (hb : b ≤ 1) (hi : (i : Int) < cnt) (hS : SplI cnt B nx g b h T made i) (h0 : g i ≠ -1) (hT : B ≤ T (cellF nx g b i).toNat) : SplI cnt B nx g b (up1 h i (T (cellF nx g b i).toNat - B)) T made (i + 1) := by
  obtain ⟨h1, h2, h3, h4, h5⟩ := hS
  have hc := cell_r hw hg hi hb h0
  have h6 := (h4 (cellF nx g b i).toNat (by omega)).2
  refine ⟨?_, h2, fun j hj => ?_, fun c hc => ⟨(h4 c hc).1, ?_⟩, h5⟩
  · rw [mx_up1, if_neg (by omega)]; exact h1
  · by_cases e : j = i
    · subst e
      rw [up1_eq, mx_up]
      exact Or.inr ⟨h0, by omega, by omega, by omega⟩
    · rw [up1_ne _ _ _ _ e, mx_congr (h := h) (fun k hk => up1_ne _ _ _ _ (by omega))]
      exact h3 j (by omega)
  · rcases (h4 c hc).2 with h6 | ⟨h6, j, a1, a2, a3⟩
    · exact Or.inl h6
    · exact Or.inr ⟨h6, j, by omega, a2, a3⟩
theorem spl_new {cnt B made : Int} {nx g h T : Nat → Int} {b i : Nat} (hw : Wire cnt nx) (hg : GrR cnt g) (hb : b ≤ 1) (hi : (i : Int) < cnt) (hB : 0 ≤ B) (hS : SplI cnt B nx g b h T made i) (h0 : g i ≠ -1) (hT : T (cellF nx g b i).toNat < B) (hm : made < 100) : SplI cnt B nx g b (up1 h i (B + made - B)) (up1 T (cellF nx g b i).toNat (B + made)) (made + 1) (i + 1) := by
  obtain ⟨h1, h2, h3, h4, h5⟩ := hS
  have hc := cell_r hw hg hi hb h0
  have hm0 := mx_0 h i
  have hne : ∀ j : Nat, j < i → g j ≠ -1 → (cellF nx g b j).toNat ≠ (cellF nx g b i).toNat := fun j hj hgj q => by
    rcases h3 j hj with h6 | h6
    · exact hgj h6.1
    · rw [q] at h6; omega
  refine ⟨?_, by omega, fun j hj => ?_, fun c hc => ?_, fun c c' hc hc' h6 h7 => ?_⟩
  · rw [mx_up1, if_pos (by omega)]; omega
  · by_cases e : j = i
    · subst e
      rw [up1_eq, mx_up, up1_eq]
      exact Or.inr ⟨h0, by omega, by omega, by omega⟩
    · rw [up1_ne h _ _ _ e, mx_congr (h := h) (fun k hk => up1_ne _ _ _ _ (by omega))]
      rcases h3 j (by omega) with h6 | h6
      · exact Or.inl h6
      · right
        rw [up1_ne _ _ _ _ (hne j (by omega) h6.1)]
        exact h6
  · by_cases e : c = (cellF nx g b i).toNat
    · rw [e, up1_eq]
      exact ⟨by omega, Or.inr ⟨by omega, i, by omega, h0, rfl⟩⟩
    · rw [up1_ne _ _ _ _ e]
      refine ⟨(h4 c hc).1, ?_⟩
      rcases (h4 c hc).2 with h6 | ⟨h6, j, a1, a2, a3⟩
      · exact Or.inl h6
      · exact Or.inr ⟨by omega, j, by omega, a2, a3⟩
  · by_cases e : c = (cellF nx g b i).toNat
    · by_cases e' : c' = (cellF nx g b i).toNat
      · rw [e, e']
      · rw [e, up1_eq, up1_ne _ _ _ _ e'] at h7
        have := (h4 c' hc').2
        omega
    · rw [up1_ne _ _ _ _ e] at h6 h7
      by_cases e' : c' = (cellF nx g b i).toNat
      · rw [e', up1_eq] at h7
        have := (h4 c hc).2
        omega
      · rw [up1_ne _ _ _ _ e'] at h7
        exact h5 c c' hc hc' h6 h7
theorem spl_end {cnt B made : Int} {nx g h T k : Nat → Int} {b : Nat} (hw : Wire cnt nx) (hg : GrR cnt g) (hb : b ≤ 1) (hc : 0 ≤ cnt) (hS : SplI cnt B nx g b h T made cnt.toNat) (hk : ∀ i : Nat, (i : Int) < cnt → k i = h i) : NumP cnt k made ∧ made ≤ 100 ∧ Split1 cnt nx g k b := by
  obtain ⟨h1, h2, h3, h4, h5⟩ := hS
  have hmx : ∀ i : Nat, (i : Int) ≤ cnt → mxF k i = mxF h i := fun i hi => mx_congr (fun j hj => hk j (by omega))
  refine ⟨⟨by rw [hmx _ (by omega), h1], fun i hi => ?_⟩, h2, fun i hi => ?_, fun i j hi hj gi gj => ?_⟩
  · rw [hk i hi, hmx i (by omega)]
    have := mx_0 h i
    rcases h3 i (by omega) with h6 | h6
    · omega
    · omega
  · rw [hk i hi]
    rcases h3 i (by omega) with h6 | h6
    · exact ⟨fun _ => h6.2, fun _ => h6.1⟩
    · exact ⟨fun q => absurd q h6.1, fun q => by omega⟩
  · rw [hk i hi, hk j hj, ← cell_eq hw hg hi hj hb]
    have a1 := (h3 i (by omega)).resolve_left (fun q => gi q.1)
    have a2 := (h3 j (by omega)).resolve_left (fun q => gj q.1)
    have c1 := cell_r hw hg hi hb gi
    have c2 := cell_r hw hg hj hb gj
    constructor
    · intro q
      have := h5 (cellF nx g b i).toNat (cellF nx g b j).toNat (by omega) (by omega) (by omega) (by omega)
      omega
    · intro q
      rw [q] at a1
      omega
def Many1 (cnt : Int) (nx g : Nat → Int) (b : Nat) : Prop := ∃ v : Nat → Nat, (∀ k, k ≤ 100 → (v k : Int) < cnt ∧ g (v k) ≠ -1) ∧ ∀ j k, j < k → k ≤ 100 → ¬ (g (v j) = g (v k) ∧ gaF nx g (v j) b = gaF nx g (v k) b)
theorem spl_many {cnt B made : Int} {nx g h T : Nat → Int} {b i : Nat} (hw : Wire cnt nx) (hg : GrR cnt g) (hb : b ≤ 1) (hi : (i : Int) < cnt) (hS : SplI cnt B nx g b h T made i) (h0 : g i ≠ -1) (hT : T (cellF nx g b i).toNat < B) (hm : 100 ≤ made) : Many1 cnt nx g b := by
  obtain ⟨h1, h2, h3, h4, h5⟩ := hS
  have hf : ∀ p : Nat, ∃ j : Nat, p < 100 → j < i ∧ h j = p := fun p => by
    by_cases hp : p < 100
    · obtain ⟨j, a1, a2, -⟩ := mx_first (g := h) (n := i) (fun k hk => by
        have := mx_0 h k
        rcases h3 k hk with h6 | h6 <;> omega) p (by omega)
      exact ⟨j, fun _ => ⟨a1, a2⟩⟩
    · exact ⟨0, fun q => absurd q hp⟩
  have hv : ∀ k, k ≤ 100 → ((if k < 100 then Classical.choose (hf k) else i : Nat) : Int) < cnt ∧ g (if k < 100 then Classical.choose (hf k) else i) ≠ -1 := fun k hk => by
    by_cases e : k < 100
    · rw [if_pos e]
      have := Classical.choose_spec (hf k) e
      refine ⟨by omega, fun q => ?_⟩
      rcases h3 _ this.1 with h6 | h6
      · omega
      · exact h6.1 q
    · rw [if_neg e]
      exact ⟨hi, h0⟩
  refine ⟨fun k => if k < 100 then Classical.choose (hf k) else i, hv, fun j k hjk hk q => ?_⟩
  have q : g (if j < 100 then Classical.choose (hf j) else i) = g (if k < 100 then Classical.choose (hf k) else i) ∧ gaF nx g (if j < 100 then Classical.choose (hf j) else i) b = gaF nx g (if k < 100 then Classical.choose (hf k) else i) b := q
  rw [if_pos (show j < 100 by omega)] at q
  have sj := Classical.choose_spec (hf j) (show j < 100 by omega)
  have gj : g (Classical.choose (hf j)) ≠ -1 := fun q => by
    rcases h3 _ sj.1 with h6 | h6
    · omega
    · exact h6.1 q
  have tj := (h3 _ sj.1).resolve_left (fun q => gj q.1)
  by_cases e : k < 100
  · rw [if_pos e] at q
    have sk := Classical.choose_spec (hf k) e
    have gk : g (Classical.choose (hf k)) ≠ -1 := fun q => by
      rcases h3 _ sk.1 with h6 | h6
      · omega
      · exact h6.1 q
    have tk := (h3 _ sk.1).resolve_left (fun q => gk q.1)
    rw [(cell_eq hw hg (by omega) (by omega) hb).mpr q] at tj
    omega
  · rw [if_neg e] at q
    rw [(cell_eq hw hg (by omega) hi hb).mpr q] at tj
    omega
def SplitPost (σ τ : St) (b r : Int) : Prop := (∀ k, k ≠ 4 → k ≠ 8 → k ≠ 9 → k ≠ 10 → τ k = σ k) ∧ (∀ j, j ≠ 6 → j ≠ 8 → τ 4 j = σ 4 j) ∧ τ 4 6 = σ 4 6 + 101 ∧ (∀ c : Nat, c < 10201 → 0 ≤ τ 10 c ∧ τ 10 c < τ 4 6 + 101) ∧
  ((r = 1 ∧ NumP (σ 4 7) (τ 8) (τ 4 8) ∧ τ 4 8 ≤ 100 ∧ Split1 (σ 4 7) (σ 7) (σ 8) (τ 8) b.toNat) ∨ (r = 0 ∧ Many1 (σ 4 7) (σ 7) (σ 8) b.toNat))
def SplU (σ u : St) (b made i : Int) : Prop := (∀ k, k ≠ 4 → k ≠ 9 → k ≠ 10 → u k = σ k) ∧ u 4 = up1 (σ 4) 6 (σ 4 6 + 101) ∧ SplI (σ 4 7) (σ 4 6 + 101) (σ 7) (σ 8) b.toNat (u 9) (u 10) made i.toNat
theorem splU_set {σ u : St} {b made made' i : Int} {h T : Nat → Int} (hu : SplU σ u b made i) (hi : 0 ≤ i) (hS : SplI (σ 4 7) (σ 4 6 + 101) (σ 7) (σ 8) b.toNat h T made' (i.toNat + 1)) : SplU σ (updR (updR u 10 T) 9 h) b made' (i + 1) := by
  obtain ⟨h1, h2, h3⟩ := hu
  refine ⟨fun k k4 k9 k10 => ?_, ?_, ?_⟩
  · rw [updR_ne _ _ _ _ k9, updR_ne _ _ _ _ k10]; exact h1 k k4 k9 k10
  · rw [updR_ne _ 9 4 _ (by decide), updR_ne _ 10 4 _ (by decide)]; exact h2
  · rw [updR_eq, updR_ne _ 9 10 _ (by decide), updR_eq, show (i + 1).toNat = i.toNat + 1 by omega]; exact hS
theorem splU_set' {σ u : St} {b made made' i : Int} {h : Nat → Int} (hu : SplU σ u b made i) (hi : 0 ≤ i) (hS : SplI (σ 4 7) (σ 4 6 + 101) (σ 7) (σ 8) b.toNat h (u 10) made' (i.toNat + 1)) : SplU σ (updR u 9 h) b made' (i + 1) := by
  have := splU_set hu hi hS
  rw [updR_self] at this
  exact this
theorem splU_tab {σ u : St} {b made i : Int} (hu : SplU σ u b made i) : ∀ c : Nat, c < 10201 → 0 ≤ u 10 c ∧ u 10 c < σ 4 6 + 101 + 101 := fun c hc => by
  have := hu.2.2.2.2.2.1 c hc
  have := hu.2.2.2.1
  omega
theorem splU_end {σ u : St} {b made i : Int} (hw : Wire (σ 4 7) (σ 7)) (hg : GrR (σ 4 7) (σ 8)) (hb : 0 ≤ b ∧ b ≤ 1) (hc : 0 ≤ σ 4 7) (hu : SplU σ u b made i) (hi : i = σ 4 7) : SplitPost σ (updR (updR u 8 (va_cpy (u 9) (σ 8) 0 0 (σ 4 7).toNat)) 4 (up1 (u 4) 8 made)) b 1 := by
  have ht := splU_tab hu
  obtain ⟨h1, h2, h3⟩ := hu
  subst hi
  have h4 := spl_end (k := va_cpy (u 9) (σ 8) 0 0 (σ 4 7).toNat) hw hg (by omega) hc h3 (fun i hi => by rw [pk_cpy_in (by omega) (by omega)]; congr 1; omega)
  refine ⟨fun k k4 k8 k9 k10 => ?_, fun j j6 j8 => ?_, ?_, fun c hc => ?_, Or.inl ⟨rfl, ?_⟩⟩
  · rw [updR_ne _ _ _ _ k4, updR_ne _ _ _ _ k8]; exact h1 k k4 k9 k10
  · rw [updR_eq, up1_ne _ _ _ _ j8, h2, up1_ne _ _ _ _ j6]
  · rw [updR_eq, up1_ne _ _ _ _ (by decide), h2, up1_eq]
  · rw [updR_eq, up1_ne _ 8 6 _ (by decide), h2, up1_eq, updR_ne _ 4 10 _ (by decide), updR_ne _ 8 10 _ (by decide)]
    exact ht c hc
  · rw [updR_eq, up1_eq, updR_ne _ 4 8 _ (by decide), updR_eq]
    exact h4
theorem splU_many {σ u : St} {b made i : Int} (hw : Wire (σ 4 7) (σ 7)) (hg : GrR (σ 4 7) (σ 8)) (hb : 0 ≤ b ∧ b ≤ 1) (hi : 0 ≤ i ∧ i < σ 4 7) (hu : SplU σ u b made i) (h0 : σ 8 i.toNat ≠ -1) (hT : u 10 (cellF (σ 7) (σ 8) b.toNat i.toNat).toNat < σ 4 6 + 101) (hm : 100 ≤ made) : SplitPost σ u b 0 := by
  have ht := splU_tab hu
  obtain ⟨h1, h2, h3⟩ := hu
  refine ⟨fun k k4 k8 k9 k10 => h1 k k4 k9 k10, fun j j6 j8 => ?_, ?_, fun c hc => ?_, Or.inr ⟨rfl, spl_many hw hg (by omega) (by omega) h3 h0 hT hm⟩⟩
  · rw [h2, up1_ne _ _ _ _ j6]
  · rw [h2, up1_eq]
  · rw [h2, up1_eq]
    exact ht c hc
def s_K_split : Spec := fun as σ Q => popR as fun c0 r0 => popI r0 fun b r1 => r1 = [] ∧ c0 = 4 ∧ (0 ≤ b ∧ b ≤ 1) ∧ (0 ≤ σ 4 7 ∧ σ 4 7 ≤ 2816) ∧ (Wire (σ 4 7) (σ 7)) ∧ (GrR (σ 4 7) (σ 8)) ∧ (0 ≤ σ 4 6 ∧ σ 4 6 ≤ 1000000) ∧ (∀ c : Nat, c < 10201 → 0 ≤ σ 10 c ∧ σ 10 c < σ 4 6 + 101) ∧ ∀ τ r, SplitPost σ τ b r → Q (some (.inl r)) τ
theorem e_K_split (b : Int) (σ : St) (Q : Option AV → St → Prop) : s_K_split [.inr (.inr (some 4)), .inl b] σ Q = ((0 ≤ b ∧ b ≤ 1) ∧ (0 ≤ σ 4 7 ∧ σ 4 7 ≤ 2816) ∧ (Wire (σ 4 7) (σ 7)) ∧ (GrR (σ 4 7) (σ 8)) ∧ (0 ≤ σ 4 6 ∧ σ 4 6 ≤ 1000000) ∧ (∀ c : Nat, c < 10201 → 0 ≤ σ 10 c ∧ σ 10 c < σ 4 6 + 101) ∧ ∀ τ r, SplitPost σ τ b r → Q (some (.inl r)) τ) := by
  show ([] = [] ∧ _) = _
  simp only [true_and]
set_option maxHeartbeats 4000000 in
set_option maxRecDepth 20000 in
theorem S_K_split {l : Launch} : Sat l y_K_split b_K_split 5 (some .boolean) 1 s_K_split := by
  refine sat_of (Φ := P_K) (κ := Q_K) (Γ := [(77, 5, 2, s_K_groupAfter), (85, 1000, 0, fun _ _ _ => False)]) (rt := 3) (by decide +kernel) P_K_ok Q_K_ok (by
    refine List.forall_mem_cons.mpr ⟨?_, List.forall_mem_cons.mpr ⟨?_, fun _ h => absurd h List.not_mem_nil⟩⟩
    · exact m_K_groupAfter S_K_groupAfter (by decide) l_K_77
    · exact Or.inl ⟨rfl, l_K_85, by decide, by decide⟩) (by simp) o_K_split ?_
  intro as σ Q hh0
  obtain ⟨c0, rr0, rfl, hh1⟩ := popR_inv hh0
  obtain ⟨b, rr1, rfl, hh2⟩ := popI_inv hh1
  obtain ⟨hrE, rfl, hb, hf, hw, hg, hB, hT, hQ⟩ := hh2
  subst hrE
  clear hh0 hh1
  refine ⟨Nat.le_of_ble_eq_true rfl, [(15, mkC (fun L st u => ∃ (made i : Int) (v4 : AV), L = [.inr (.inr (some 4)), .inl b, .inl made, .inl i, v4] ∧ st = [] ∧ (0 ≤ i ∧ i ≤ σ 4 7) ∧ (SplU σ u b made i)) (fun L st u => ((2817 - gI L 3).toNat, 0, 0)))], 14, ?_, cuts1 ?_ (cuts0)⟩
  · rw [show entL 5 [.inr (.inr (some 4)), .inl b] = [.inr (.inr (some 4)), .inl b, .inr (.inr none), .inr (.inr none), .inr (.inr none)] from rfl]
    simp only [↓wpN_go, jmp_e, ↓wp_aload_n0, ↓wp_bipush, ↓wp_dup, ↓wp_getfield, ↓wp_goto, ↓wp_iadd, ↓wp_iaload, ↓wp_iastore, ↓wp_icmp_ge, ↓wp_icmp_lt, ↓wp_icmp_ne, ↓wp_iconst, ↓wp_iinc, ↓wp_iload, ↓wp_iload_n1, ↓wp_iload_n2, ↓wp_iload_n3, ↓wp_imul, ↓wp_invokestatic, ↓wp_invokevirtual, ↓wp_ireturn3, ↓wp_istore, ↓wp_istore_n2, ↓wp_istore_n3, ↓wp_isub, ↓wp_putfield, wp_nil, ↓ldI_0, ↓ldI_s, ↓ldL_0, ↓ldL_s, ↓ldR_0, ↓ldR_s, sto1_0, sto1_1, sto1_s, sto2_0, sto2_1, sto2_s, isLong_i, isLong_l, isLong_r, ↓popI_c, ↓popL_c, ↓popR_c, ↓popN_0, ↓popN_s, catS_n, catS_c, psh_s, psh_n, fldV_n, fldV_s, ↓tgt_e, sw_n, ↓sw_c, ↓lk1_h, ↓lk1_m, ↓atC_h, ↓atC_m, ↓atC_n, ltO_n, ltO_s, updR_eq, updR_ne, gI_0i, gI_0l, gI_s, ltM_iff, List.cons.injEq, Sum.inl.injEq, Sum.inr.injEq, Option.some.injEq, exists_eq_left, exists_eq_left', exists_eq_right, exists_eq_right', exists_and_left, exists_and_right, exists_eq, exists_const, and_assoc, ↓j_K_split_0, ↓j_K_split_15, ↓j_K_split_43, ↓j_K_split_85, ↓j_K_split_101, ↓j_K_split_119, ↓j_K_split_125, ↓f_K_23, ↓f_K_26, ↓f_K_29, ↓f_K_32, ↓f_K_36, ↓f_K_39, List.length_cons, List.length_nil, Nat.zero_add, Nat.reduceAdd, Int.reduceAdd, Int.reduceNeg, Int.reduceToNat, Int.reduceLE, Int.reduceLT, true_and, and_true, Nat.reduceLT, reduceIte, Nat.reduceEqDiff, ne_eq, not_false_eq_true, false_implies, true_implies, Bool.false_eq_true, reduceCtorEq, List.cons_append, List.nil_append, Nat.reduceSub, Nat.reduceLeDiff, Fin.isValue, Int.reduceNatCast', Int.zero_add, Int.add_zero, decide_true, decide_false, implies_true, forall_const, true_or, or_true, or_false, false_or, false_and, and_false, Int.toNat_natCast, ↓oF_4_0, ↓aF_5, ↓oF_4_1, ↓aF_6, ↓oF_4_2, ↓aF_7, ↓oF_4_3, ↓aF_8, ↓oF_4_4, ↓aF_9, ↓oF_4_5, ↓aF_10, ↓oF_4_6, ↓oF_4_7, ↓oF_4_8, oC_0, oC_1, oC_4, oC_11, oC_16, oC_18, oC_20, oC_23, oC_25, oC_26, oC_29, oC_31, oC_33, oC_35, oC_37, isT_29, isT_31, isT_33, isT_35, isL_16, isL_18, isL_26, ↓e_K_groupAfter]
    have h0 : SplU σ (updR σ 4 (up1 (σ 4) 6 (σ 4 6 + 101))) b 0 0 := by
      refine ⟨fun k k4 _ _ => updR_ne _ _ _ _ k4, updR_eq _ _ _, ?_⟩
      rw [updR_ne _ 4 10 _ (by decide)]
      exact spl_0 hT
    (try simp only [rI_iff, rL_iff] at *)
    repeat' (with_reducible (first | assumption | apply And.intro | intro _))
    all_goals first | omega | with_reducible assumption | exact True.intro | skip
    all_goals first
      | exact h0
      | exact ⟨_, h0⟩
  · intro L st u hI
    obtain ⟨made, i, v4, rfl, rfl, hi, hu⟩ := hI
    simp only [↓wpN_go, jmp_e, ↓wp_aload_n0, ↓wp_bipush, ↓wp_dup, ↓wp_getfield, ↓wp_goto, ↓wp_iadd, ↓wp_iaload, ↓wp_iastore, ↓wp_icmp_ge, ↓wp_icmp_lt, ↓wp_icmp_ne, ↓wp_iconst, ↓wp_iinc, ↓wp_iload, ↓wp_iload_n1, ↓wp_iload_n2, ↓wp_iload_n3, ↓wp_imul, ↓wp_invokestatic, ↓wp_invokevirtual, ↓wp_ireturn3, ↓wp_istore, ↓wp_istore_n2, ↓wp_istore_n3, ↓wp_isub, ↓wp_putfield, wp_nil, ↓ldI_0, ↓ldI_s, ↓ldL_0, ↓ldL_s, ↓ldR_0, ↓ldR_s, sto1_0, sto1_1, sto1_s, sto2_0, sto2_1, sto2_s, isLong_i, isLong_l, isLong_r, ↓popI_c, ↓popL_c, ↓popR_c, ↓popN_0, ↓popN_s, catS_n, catS_c, psh_s, psh_n, fldV_n, fldV_s, ↓tgt_e, sw_n, ↓sw_c, ↓lk1_h, ↓lk1_m, ↓atC_h, ↓atC_m, ↓atC_n, ltO_n, ltO_s, updR_eq, updR_ne, gI_0i, gI_0l, gI_s, ltM_iff, List.cons.injEq, Sum.inl.injEq, Sum.inr.injEq, Option.some.injEq, exists_eq_left, exists_eq_left', exists_eq_right, exists_eq_right', exists_and_left, exists_and_right, exists_eq, exists_const, and_assoc, ↓j_K_split_0, ↓j_K_split_15, ↓j_K_split_43, ↓j_K_split_85, ↓j_K_split_101, ↓j_K_split_119, ↓j_K_split_125, ↓f_K_23, ↓f_K_26, ↓f_K_29, ↓f_K_32, ↓f_K_36, ↓f_K_39, List.length_cons, List.length_nil, Nat.zero_add, Nat.reduceAdd, Int.reduceAdd, Int.reduceNeg, Int.reduceToNat, Int.reduceLE, Int.reduceLT, true_and, and_true, Nat.reduceLT, reduceIte, Nat.reduceEqDiff, ne_eq, not_false_eq_true, false_implies, true_implies, Bool.false_eq_true, reduceCtorEq, List.cons_append, List.nil_append, Nat.reduceSub, Nat.reduceLeDiff, Fin.isValue, Int.reduceNatCast', Int.zero_add, Int.add_zero, decide_true, decide_false, implies_true, forall_const, true_or, or_true, or_false, false_or, false_and, and_false, Int.toNat_natCast, ↓oF_4_0, ↓aF_5, ↓oF_4_1, ↓aF_6, ↓oF_4_2, ↓aF_7, ↓oF_4_3, ↓aF_8, ↓oF_4_4, ↓aF_9, ↓oF_4_5, ↓aF_10, ↓oF_4_6, ↓oF_4_7, ↓oF_4_8, oC_0, oC_1, oC_4, oC_11, oC_16, oC_18, oC_20, oC_23, oC_25, oC_26, oC_29, oC_31, oC_33, oC_35, oC_37, isT_29, isT_31, isT_33, isT_35, isL_16, isL_18, isL_26, ↓e_K_groupAfter]
    have e7 := hu.1 7 (by decide) (by decide) (by decide)
    have e8 := hu.1 8 (by decide) (by decide) (by decide)
    have e4 := hu.2.1
    have e47 : u 4 7 = σ 4 7 := by rw [e4, up1_ne _ _ _ _ (by decide)]
    have e46 : u 4 6 = σ 4 6 + 101 := by rw [e4, up1_eq]
    have ht := splU_tab hu
    have hm := hu.2.2.2.1
    have hm0 := mx_0 (u 9) i.toNat
    rw [← hu.2.2.1] at hm0
    have hgi : i < σ 4 7 → -1 ≤ σ 8 i.toNat ∧ σ 8 i.toNat ≤ 99 ∧ -1 ≤ gaF (σ 7) (σ 8) i.toNat b.toNat ∧ gaF (σ 7) (σ 8) i.toNat b.toNat ≤ 99 ∧ cellF (σ 7) (σ 8) b.toNat i.toNat = σ 8 i.toNat * 101 + gaF (σ 7) (σ 8) i.toNat b.toNat + 1 := fun h => by
      have h1 := hg i.toNat (by omega)
      have h2 := ga_r hw hg (i := i.toNat) (b := b.toNat) (by omega) (by omega)
      exact ⟨h1.1, h1.2, h2.1, h2.2, rfl⟩
    have q1 : i < σ 4 7 → σ 8 i.toNat = -1 → SplU σ (updR u 9 (up1 (u 9) i.toNat (-1))) b made (i + 1) := fun h h1 => splU_set' hu hi.1 (spl_dead hu.2.2 h1)
    have q2 : ∀ c : Int, i < σ 4 7 → ¬ σ 8 i.toNat = -1 → c = cellF (σ 7) (σ 8) b.toNat i.toNat → σ 4 6 + 101 ≤ u 10 c.toNat → SplU σ (updR u 9 (up1 (u 9) i.toNat (u 10 c.toNat - (σ 4 6 + 101)))) b made (i + 1) := fun c h h1 hc h2 => by
      subst hc
      exact splU_set' hu hi.1 (spl_old hw hg (by omega) (by omega) hu.2.2 h1 h2)
    have q3 : ∀ c : Int, i < σ 4 7 → ¬ σ 8 i.toNat = -1 → c = cellF (σ 7) (σ 8) b.toNat i.toNat → u 10 c.toNat < σ 4 6 + 101 → made < 100 → SplU σ (updR (updR u 10 (up1 (u 10) c.toNat (σ 4 6 + 101 + made))) 9 (up1 (u 9) i.toNat (σ 4 6 + 101 + made - (σ 4 6 + 101)))) b (made + 1) (i + 1) := fun c h h1 hc h2 h3 => by
      subst hc
      exact splU_set hu hi.1 (spl_new hw hg (by omega) (by omega) (by omega) hu.2.2 h1 h2 h3)
    have q4 : ∀ c : Int, i < σ 4 7 → ¬ σ 8 i.toNat = -1 → c = cellF (σ 7) (σ 8) b.toNat i.toNat → u 10 c.toNat < σ 4 6 + 101 → 100 ≤ made → Q (some (.inl 0)) u := fun c h h1 hc h2 h3 => by
      subst hc
      exact hQ _ _ (splU_many hw hg hb ⟨hi.1, h⟩ hu h1 h2 h3)
    have q5 : σ 4 7 ≤ i → Q (some (.inl 1)) (updR (updR u 8 (va_cpy (u 9) (σ 8) 0 0 (σ 4 7).toNat)) 4 (up1 (u 4) 8 made)) := fun h => hQ _ _ (splU_end hw hg hb hf.1 hu (by omega))
    simp only [e7, e8, e47, e46, up1_eq, show (0 : Int).toNat = 0 from rfl]
    have hcz : i < σ 4 7 → ¬ σ 8 i.toNat = -1 → 0 ≤ σ 8 i.toNat * 101 + gaF (σ 7) (σ 8) i.toNat b.toNat + 1 ∧ σ 8 i.toNat * 101 + gaF (σ 7) (σ 8) i.toNat b.toNat + 1 < 10201 := fun h h1 => by
      have := hgi h
      omega
    obtain ⟨cc, hcc⟩ : ∃ cc : Int, cc = σ 8 i.toNat * 101 + gaF (σ 7) (σ 8) i.toNat b.toNat + 1 := ⟨_, rfl⟩
    have hcq : i < σ 4 7 → cc = cellF (σ 7) (σ 8) b.toNat i.toNat := fun _ => hcc
    rw [← hcc] at hcz ⊢
    have hct : i < σ 4 7 → ¬ σ 8 i.toNat = -1 → 0 ≤ u 10 cc.toNat ∧ u 10 cc.toNat < σ 4 6 + 101 + 101 := fun h h1 => ht cc.toNat (by have := hcz h h1; omega)
    (try simp only [rI_iff, rL_iff] at *)
    repeat' (with_reducible (first | assumption | apply And.intro | intro _))
    all_goals first | omega | with_reducible assumption | exact True.intro | skip
    all_goals first
      | exact q5 (by assumption)
      | exact q4 cc (by assumption) (by assumption) (hcq (by assumption)) (by assumption) (by assumption)
      | exact ⟨_, q1 (by assumption) (by assumption)⟩
      | exact ⟨_, q2 cc (by assumption) (by assumption) (hcq (by assumption)) (by assumption)⟩
      | exact ⟨_, q3 cc (by assumption) (by assumption) (hcq (by assumption)) (by assumption) (by assumption)⟩
      | exact q1 (by assumption) (by assumption)
      | exact q2 cc (by assumption) (by assumption) (hcq (by assumption)) (by assumption)
      | exact q3 cc (by assumption) (by assumption) (hcq (by assumption)) (by assumption) (by assumption)
