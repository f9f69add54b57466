/-! words, languages of wires: a wire numbered by its first rows, whose states differ, is given by its language -/
def nxB (f : Nat → Int) (s : Int) (b : Bool) : Int := if s < 0 then -1 else f (2 * s.toNat + b.toNat)
def runB (f : Nat → Int) : Int → List Bool → Int
  | s, [] => s
  | s, b :: w => runB f (nxB f s b) w
theorem nxB_neg (f : Nat → Int) (b : Bool) : nxB f (-1) b = -1 := if_pos (by decide)
theorem nxB_nat (f : Nat → Int) (p : Nat) (b : Bool) : nxB f (p : Int) b = f (2 * p + b.toNat) := by
  unfold nxB
  rw [if_neg (by omega), Int.toNat_natCast]
theorem runB_neg (f : Nat → Int) : ∀ w : List Bool, runB f (-1) w = -1
  | [] => rfl
  | b :: w => by
    show runB f (nxB f (-1) b) w = -1
    rw [nxB_neg]
    exact runB_neg f w
theorem runB_cat (f : Nat → Int) : ∀ (u v : List Bool) (s : Int), runB f s (u ++ v) = runB f (runB f s u) v
  | [], _, _ => rfl
  | b :: u, v, s => runB_cat f u v (nxB f s b)
def OrdW (N : Int) (f : Nat → Int) : Prop := ∀ p : Nat, 0 < p → (p : Int) < N → ∃ π : Nat, π < 2 * p ∧ f π = p ∧ ∀ π' : Nat, π' < π → f π' < p
def SepW (N : Int) (f : Nat → Int) : Prop := ∀ p q : Nat, (p : Int) < N → (q : Int) < N → (∀ w, runB f p w = -1 ↔ runB f q w = -1) → p = q
def Canon (N : Int) (f : Nat → Int) : Prop := Wire N f ∧ OrdW N f ∧ SepW N f
def bOf (π : Nat) : Bool := decide (π % 2 = 1)
theorem bOf_eq (π : Nat) : 2 * (π / 2) + (bOf π).toNat = π := by
  unfold bOf
  by_cases h : π % 2 = 1
  · rw [decide_eq_true h]; show 2 * (π / 2) + 1 = π; omega
  · rw [decide_eq_false h]; show 2 * (π / 2) + 0 = π; omega
theorem canon_reach {N : Int} {f g : Nat → Int} (ho : OrdW N f) {K : Nat} (hK : ∀ π, π < K → f π = g π) : ∀ p : Nat, (p : Int) < N → 2 * p ≤ K → ∃ w, runB f 0 w = p ∧ runB g 0 w = p := by
  intro p
  induction p using Nat.strongRecOn with
  | _ p ih =>
    intro hp hk
    by_cases h0 : p = 0
    · subst h0
      exact ⟨[], rfl, rfl⟩
    · obtain ⟨π, h1, h2, -⟩ := ho p (by omega) hp
      obtain ⟨w, h3, h4⟩ := ih (π / 2) (by omega) (by omega) (by omega)
      refine ⟨w ++ [bOf π], ?_, ?_⟩
      · rw [runB_cat, h3]
        show nxB f ((π / 2 : Nat) : Int) (bOf π) = p
        rw [nxB_nat, bOf_eq, h2]
      · rw [runB_cat, h4]
        show nxB g ((π / 2 : Nat) : Int) (bOf π) = p
        rw [nxB_nat, bOf_eq, ← hK π (by omega), h2]
theorem canon_lt {N M : Int} {f g : Nat → Int} {π q q' : Nat} (hf : Canon N f) (hg : Canon M g) (hL : ∀ w, runB f 0 w = -1 ↔ runB g 0 w = -1) (ha : ∀ π', π' < π → f π' = g π') (hs : ∀ t, runB f q t = -1 ↔ runB g q' t = -1) (hq' : g π = q') (h : q < q') (hN : (π : Int) < 2 * N) (hM : (π : Int) < 2 * M) : False := by
  have hqM : (q' : Int) < M := by rw [← hq']; exact (hg.1 π hM).2
  have hu : ∃ u, runB f 0 u = q ∧ runB g 0 u = q := by
    by_cases h0 : q = 0
    · subst h0
      exact ⟨[], rfl, rfl⟩
    · obtain ⟨π2, h1, h2, h3⟩ := hg.2.1 q (by omega) (by omega)
      have h4 : π2 < π := by
        rcases Nat.lt_trichotomy π2 π with c | c | c
        · exact c
        · subst c; omega
        · have := h3 π c; omega
      obtain ⟨w, h5, h6⟩ := canon_reach hf.2.1 ha (π2 / 2) (by omega) (by omega)
      refine ⟨w ++ [bOf π2], ?_, ?_⟩
      · rw [runB_cat, h5]
        show nxB f ((π2 / 2 : Nat) : Int) (bOf π2) = q
        rw [nxB_nat, bOf_eq, ha π2 h4, h2]
      · rw [runB_cat, h6]
        show nxB g ((π2 / 2 : Nat) : Int) (bOf π2) = q
        rw [nxB_nat, bOf_eq, h2]
  obtain ⟨u, h5, h6⟩ := hu
  have h7 : q = q' := hg.2.2 q q' (by omega) hqM (fun t => by
    rw [← hs t, ← h6, ← runB_cat, ← hL, runB_cat, h5, h6])
  omega
theorem canon_step {N M : Int} {f g : Nat → Int} {π : Nat} (hf : Canon N f) (hg : Canon M g) (hL : ∀ w, runB f 0 w = -1 ↔ runB g 0 w = -1) (ha : ∀ π', π' < π → f π' = g π') (hN : (π : Int) < 2 * N) (hM : (π : Int) < 2 * M) : f π = g π := by
  obtain ⟨w, h1, h2⟩ := canon_reach hf.2.1 ha (π / 2) (by omega) (by omega)
  have hs : ∀ t, runB f (f π) t = -1 ↔ runB g (g π) t = -1 := fun t => by
    have h3 := hL (w ++ bOf π :: t)
    rw [runB_cat, runB_cat, h1, h2] at h3
    have e1 : runB f ((π / 2 : Nat) : Int) (bOf π :: t) = runB f (f π) t := by
      show runB f (nxB f ((π / 2 : Nat) : Int) (bOf π)) t = _
      rw [nxB_nat, bOf_eq]
    have e2 : runB g ((π / 2 : Nat) : Int) (bOf π :: t) = runB g (g π) t := by
      show runB g (nxB g ((π / 2 : Nat) : Int) (bOf π)) t = _
      rw [nxB_nat, bOf_eq]
    rw [e1, e2] at h3
    exact h3
  have h0 : f π = -1 ↔ g π = -1 := hs []
  have hf1 := hf.1 π hN
  have hg1 := hg.1 π hM
  by_cases e : f π = -1
  · rw [e, h0.mp e]
  · have e2 : ¬ g π = -1 := fun q => e (h0.mpr q)
    obtain ⟨q, hq⟩ := Int.eq_ofNat_of_zero_le (show 0 ≤ f π by omega)
    obtain ⟨q', hq'⟩ := Int.eq_ofNat_of_zero_le (show 0 ≤ g π by omega)
    rw [hq, hq'] at hs
    rw [hq, hq']
    rcases Nat.lt_trichotomy q q' with c | c | c
    · exact (canon_lt hf hg hL ha hs hq' c hN hM).elim
    · rw [c]
    · exact (canon_lt hg hf (fun w => (hL w).symm) (fun π' h => (ha π' h).symm) (fun t => (hs t).symm) hq c hM hN).elim
theorem canon_uniq {N M : Int} {f g : Nat → Int} (hf : Canon N f) (hg : Canon M g) (hN : 0 < N) (hM : 0 < M) (hL : ∀ w, runB f 0 w = -1 ↔ runB g 0 w = -1) : N = M ∧ ∀ π : Nat, (π : Int) < 2 * N → f π = g π := by
  have h1 : ∀ π : Nat, (π : Int) < 2 * N → (π : Int) < 2 * M → f π = g π := by
    intro π
    induction π using Nat.strongRecOn with
    | _ π ih =>
      intro h1 h2
      exact canon_step hf hg hL (fun π' h => ih π' h (by omega) (by omega)) h1 h2
  have h2 : N = M := by
    rcases Int.lt_trichotomy N M with c | c | c
    · obtain ⟨π, a1, a2, -⟩ := hg.2.1 N.toNat (by omega) (by omega)
      have a3 := h1 π (by omega) (by omega)
      have a4 := (hf.1 π (by omega)).2
      omega
    · exact c
    · obtain ⟨π, a1, a2, -⟩ := hf.2.1 M.toNat (by omega) (by omega)
      have a3 := h1 π (by omega) (by omega)
      have a4 := (hg.1 π (by omega)).2
      omega
  exact ⟨h2, fun π h => h1 π h (by omega)⟩
/-! what can go on for ever, by steps -/
def SvD (d : Int → Bool → Int) : Nat → Int → Prop
  | 0, s => s ≠ -1
  | n + 1, s => s ≠ -1 ∧ (SvD d n (d s false) ∨ SvD d n (d s true))
def GoodD (d : Int → Bool → Int) (s : Int) : Prop := ∀ n, SvD d n s
def LgD (d : Int → Bool → Int) : Int → List Bool → Prop
  | s, [] => GoodD d s
  | s, b :: w => GoodD d s ∧ LgD d (d s b) w
theorem SvD.ne {d : Int → Bool → Int} {n : Nat} {s : Int} (h : SvD d n s) : s ≠ -1 := by
  cases n with
  | zero => exact h
  | succ n => exact h.1
theorem GoodD.ne {d : Int → Bool → Int} {s : Int} (h : GoodD d s) : s ≠ -1 := h 0
theorem LgD.good {d : Int → Bool → Int} {s : Int} {w : List Bool} (h : LgD d s w) : GoodD d s := by
  cases w with
  | nil => exact h
  | cons b w => exact h.1
theorem goodD_up {d : Int → Bool → Int} {s : Int} (b : Bool) (h0 : s ≠ -1) (h : GoodD d (d s b)) : GoodD d s := by
  intro n
  cases n with
  | zero => exact h0
  | succ n =>
    refine ⟨h0, ?_⟩
    cases b with
    | false => exact Or.inl (h n)
    | true => exact Or.inr (h n)
theorem sv_bis {d e : Int → Bool → Int} {R : Int → Int → Prop} (h : ∀ s t, R s t → (s = -1 ∧ t = -1) ∨ (s ≠ -1 ∧ t ≠ -1 ∧ ∀ b, R (d s b) (e t b))) : ∀ (n : Nat) (s t : Int), R s t → (SvD d n s ↔ SvD e n t)
  | 0, s, t, hr => by
    rcases h s t hr with ⟨h1, h2⟩ | ⟨h1, h2, -⟩
    · exact ⟨fun q => absurd h1 q, fun q => absurd h2 q⟩
    · exact ⟨fun _ => h2, fun _ => h1⟩
  | n + 1, s, t, hr => by
    rcases h s t hr with ⟨h1, h2⟩ | ⟨h1, h2, h3⟩
    · exact ⟨fun q => absurd h1 q.1, fun q => absurd h2 q.1⟩
    · have i0 := sv_bis h n _ _ (h3 false)
      have i1 := sv_bis h n _ _ (h3 true)
      show (s ≠ -1 ∧ _) ↔ (t ≠ -1 ∧ _)
      rw [i0, i1]
      exact ⟨fun q => ⟨h2, q.2⟩, fun q => ⟨h1, q.2⟩⟩
theorem lg_bis {d e : Int → Bool → Int} {R : Int → Int → Prop} (h : ∀ s t, R s t → (s = -1 ∧ t = -1) ∨ (s ≠ -1 ∧ t ≠ -1 ∧ ∀ b, R (d s b) (e t b))) : ∀ (w : List Bool) (s t : Int), R s t → (LgD d s w ↔ LgD e t w)
  | [], s, t, hr => ⟨fun q n => (sv_bis h n s t hr).mp (q n), fun q n => (sv_bis h n s t hr).mpr (q n)⟩
  | b :: w, s, t, hr => by
    have hg : GoodD d s ↔ GoodD e t := ⟨fun q n => (sv_bis h n s t hr).mp (q n), fun q n => (sv_bis h n s t hr).mpr (q n)⟩
    show (GoodD d s ∧ _) ↔ (GoodD e t ∧ _)
    rw [hg]
    rcases h s t hr with ⟨h1, h2⟩ | ⟨h1, h2, h3⟩
    · exact ⟨fun q => absurd h2 q.1.ne, fun q => absurd h2 q.1.ne⟩
    · rw [lg_bis h w _ _ (h3 b)]
/-! places, those that are alive -/
def alN (al : Nat → Bool) (nx : Nat → Int) : Nat → Int := fun π => if nx π ≠ -1 ∧ al (nx π).toNat = true then nx π else -1
theorem alN_app (al : Nat → Bool) (nx : Nat → Int) (π : Nat) : alN al nx π = if nx π ≠ -1 ∧ al (nx π).toNat = true then nx π else -1 := (rfl)
def AliveOK (cnt : Int) (nx : Nat → Int) (al : Nat → Bool) : Prop := (∀ i : Nat, (i : Int) < cnt → al i = true → ∃ b : Bool, nx (2 * i + b.toNat) ≠ -1 ∧ al (nx (2 * i + b.toNat)).toNat = true) ∧ ∀ i : Nat, (i : Int) < cnt → al i = false → ∃ n, ¬ SvD (nxB nx) n i
theorem alive_good {cnt : Int} {nx : Nat → Int} {al : Nat → Bool} (hw : Wire cnt nx) (h : AliveOK cnt nx al) {i : Nat} (hi : (i : Int) < cnt) : al i = true ↔ GoodD (nxB nx) i := by
  have key : ∀ (n i : Nat), (i : Int) < cnt → al i = true → SvD (nxB nx) n i := by
    intro n
    induction n with
    | zero => intro i _ _; show ((i : Nat) : Int) ≠ -1; omega
    | succ n ih =>
      intro i hi ha
      refine ⟨by omega, ?_⟩
      obtain ⟨b, h1, h2⟩ := h.1 i hi ha
      have hb : b.toNat ≤ 1 := by cases b <;> decide
      have h3 := hw (2 * i + b.toNat) (by omega)
      have h4 := ih (nx (2 * i + b.toNat)).toNat (by omega) h2
      rw [Int.toNat_of_nonneg (by omega), ← nxB_nat nx i b] at h4
      cases b with
      | false => exact Or.inl h4
      | true => exact Or.inr h4
  constructor
  · exact fun ha n => key n i hi ha
  · intro hg
    cases ha : al i with
    | true => rfl
    | false =>
      obtain ⟨n, hn⟩ := h.2 i hi ha
      exact absurd (hg n) hn
theorem alN_wire {cnt : Int} {nx : Nat → Int} {al : Nat → Bool} (hw : Wire cnt nx) (hc : 0 ≤ cnt) : Wire cnt (alN al nx) := by
  intro π hπ
  have := hw π hπ
  rw [alN_app]
  split <;> omega
theorem lg_run {cnt : Int} {nx : Nat → Int} {al : Nat → Bool} (hw : Wire cnt nx) (h : AliveOK cnt nx al) : ∀ (w : List Bool) (i : Nat), (i : Int) < cnt → al i = true → (LgD (nxB nx) i w ↔ runB (alN al nx) i w ≠ -1)
  | [], i, hi, ha => ⟨fun _ => (by show ((i : Nat) : Int) ≠ -1; omega), fun _ => (alive_good hw h hi).mp ha⟩
  | b :: w, i, hi, ha => by
    have hb : b.toNat ≤ 1 := by cases b <;> decide
    have h3 := hw (2 * i + b.toNat) (by omega)
    show (GoodD (nxB nx) i ∧ LgD (nxB nx) (nxB nx i b) w) ↔ runB (alN al nx) (nxB (alN al nx) i b) w ≠ -1
    rw [nxB_nat, nxB_nat, alN_app]
    generalize nx (2 * i + b.toNat) = t at *
    have hgi := (alive_good hw h hi).mp ha
    by_cases e : t = -1
    · rw [if_neg (fun q => q.1 e), runB_neg]
      exact ⟨fun q => absurd e q.2.good.ne, fun q => absurd rfl q⟩
    · obtain ⟨j, rfl⟩ := Int.eq_ofNat_of_zero_le (show 0 ≤ t by omega)
      rw [Int.toNat_natCast]
      cases hj : al j with
      | true =>
        rw [if_pos ⟨e, rfl⟩, ← lg_run hw h w j h3.2 hj]
        exact ⟨fun q => q.2, fun q => ⟨hgi, q⟩⟩
      | false =>
        rw [if_neg (fun q => by cases q.2), runB_neg]
        refine ⟨fun q => ?_, fun q => absurd rfl q⟩
        have := (alive_good hw h h3.2).mpr q.2.good
        rw [hj] at this
        cases this
theorem dead_next {cnt : Int} {nx : Nat → Int} {al : Nat → Bool} (hw : Wire cnt nx) (h : AliveOK cnt nx al) {i : Nat} {b : Bool} (hi : (i : Int) < cnt) (h1 : nx (2 * i + b.toNat) ≠ -1) (h2 : al (nx (2 * i + b.toNat)).toNat = true) : al i = true := by
  have hb : b.toNat ≤ 1 := by cases b <;> decide
  have h3 := hw (2 * i + b.toNat) (by omega)
  refine (alive_good hw h hi).mpr (goodD_up b (by omega) ?_)
  rw [nxB_nat]
  have := (alive_good hw h (i := (nx (2 * i + b.toNat)).toNat) (by omega)).mp h2
  rw [Int.toNat_of_nonneg (by omega)] at this
  exact this
/-- every alive place is reached by way of alive ones -/
theorem alive_reach {cnt : Int} {nx : Nat → Int} {al : Nat → Bool} (hw : Wire cnt nx) (ho : OrdW cnt nx) (h : AliveOK cnt nx al) : ∀ p : Nat, (p : Int) < cnt → al p = true → ∃ w, runB (alN al nx) 0 w = p := by
  intro p
  induction p using Nat.strongRecOn with
  | _ p ih =>
    intro hp ha
    by_cases h0 : p = 0
    · subst h0
      exact ⟨[], rfl⟩
    · obtain ⟨π, h1, h2, -⟩ := ho p (by omega) hp
      have h3 : nx (2 * (π / 2) + (bOf π).toNat) = p := by rw [bOf_eq]; exact h2
      have h4 := dead_next (b := bOf π) hw h (i := π / 2) (by omega) (by rw [h3]; omega) (by rw [h3, Int.toNat_natCast]; exact ha)
      obtain ⟨w, h5⟩ := ih (π / 2) (by omega) (by omega) h4
      refine ⟨w ++ [bOf π], ?_⟩
      rw [runB_cat, h5]
      show nxB (alN al nx) ((π / 2 : Nat) : Int) (bOf π) = p
      rw [nxB_nat, alN_app, h3, if_pos ⟨by omega, by rw [Int.toNat_natCast]; exact ha⟩]
