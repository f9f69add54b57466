/-! a small machine over numbers: values are numbers or places of the world's cells, a state is a table of numbers, a method's meaning is a predicate transformer -/
abbrev AV : Type := Int ⊕ Int ⊕ Option Nat
abbrev St : Type := Nat → Nat → Int
abbrev Spec : Type := List AV → St → (Option AV → St → Prop) → Prop
abbrev Shp : Type := (Nat × List (Option Nat)) ⊕ (Nat × Nat)
abbrev M3 : Type := Nat × Nat × Nat
def conc (a : Nat → Nat) : AV → Value
  | .inl z => .int (Int32.ofInt z)
  | .inr (.inl z) => .long (Int64.ofInt z)
  | .inr (.inr (some i)) => .ref (a i)
  | .inr (.inr none) => .null
def updR (σ : St) (i : Nat) (f : Nat → Int) : St := fun k => if k = i then f else σ k
def up1 (f : Nat → Int) (j : Nat) (z : Int) : Nat → Int := fun k => if k = j then z else f k
theorem updR_eq (σ : St) (i : Nat) (f : Nat → Int) : updR σ i f i = f := if_pos rfl
theorem updR_ne (σ : St) (i k : Nat) (f : Nat → Int) (h : k ≠ i) : updR σ i f k = σ k := if_neg h
theorem up1_eq (f : Nat → Int) (j : Nat) (z : Int) : up1 f j z j = z := if_pos rfl
theorem up1_ne (f : Nat → Int) (j k : Nat) (z : Int) (h : k ≠ j) : up1 f j z k = f k := if_neg h
/-- the cells: 0 the object; its parts; the reference and its arrays -/
def SH : List Shp := [
  .inl (8, [some 1, some 4, some 11, some 16, some 18, some 20, some 23, some 25, some 31, some 33, some 35, none]),
  .inl (0, [some 2, some 3, none, none, none, none]), .inr (0, 4), .inr (0, 4),
  .inl (4, [some 5, some 6, some 7, some 8, some 9, some 10, none, none, none]), .inr (0, 2816), .inr (0, 2816), .inr (0, 5632), .inr (0, 2816), .inr (0, 2816), .inr (0, 10201),
  .inl (7, [some 12, some 13, some 14, some 15, none]), .inr (0, 200), .inr (0, 100), .inr (0, 100), .inr (0, 100),
  .inl (3, [some 17]), .inr (1, 6100), .inl (3, [some 19]), .inr (1, 6100),
  .inl (5, [some 21, some 22, none, none, none, none]), .inr (1, 8192), .inr (1, 8192),
  .inl (6, [some 24]), .inr (0, 100),
  .inl (2, [some 26, some 28, some 29, none, none, none, none]), .inl (3, [some 27]), .inr (1, 6100), .inr (0, 100), .inl (1, [some 30, none]), .inr (0, 600),
  .inl (1, [some 32, none]), .inr (0, 600), .inl (1, [some 34, none]), .inr (0, 600), .inl (1, [some 36, none]), .inr (0, 600),
  .inl (9, [none, none, none, some 38, some 39, none, some 40, none, some 41, some 42, some 43, some 44, some 45, some 46, some 47, some 48, some 49, none, some 50, some 51, some 52, some 53, some 54, some 55, some 56, some 57, none, none, some 58, some 59, some 60, some 61, none, none, none, some 62, none, some 63, none, some 64, some 65, some 66]),
  .inr (0, 4), .inr (0, 4), .inr (0, 11264), .inr (0, 11264), .inr (0, 11264), .inr (0, 11264), .inr (2, 11264), .inr (0, 11264), .inr (0, 11264), .inr (0, 101), .inr (0, 101), .inr (0, 101),
  .inr (0, 100), .inr (0, 100), .inr (0, 100), .inr (0, 100), .inr (0, 100), .inr (0, 101), .inr (0, 100), .inr (0, 100), .inr (1, 6100), .inr (0, 100), .inr (0, 100), .inr (0, 10000), .inr (2, 100), .inr (0, 240), .inr (0, 600), .inr (0, 600), .inr (0, 100)]
def fV (a : Nat → Nat) (f : Nat → Int) (k : Nat) : Option Nat → Value
  | none => .int (Int32.ofInt (f k))
  | some t => .ref (a t)
def cellE (cA : Nat → ClassId) (a : Nat → Nat) (f : Nat → Int) : Shp → va_E
  | .inl (ci, fs) => .inr (ci, fs.mapIdx (fun k q => fV a f k q))
  | .inr (0, n) => .inl (cA 0, n, .inl (fun j => Int32.ofInt (f j)))
  | .inr (1, n) => .inl (cA 1, n, .inr (.inl (fun j => Int64.ofInt (f j))))
  | .inr (_, n) => .inl (cA 2, n, .inl (fun j => Int32.ofInt (f j)))
def wsOf (cA : Nat → ClassId) (a : Nat → Nat) (σ : St) : va_W := SH.mapIdx (fun i x => (a i, cellE cA a (σ i) x))
def tysOf (cA : Nat → ClassId) : List (ClassId × FieldType) := [(cA 0, .int), (cA 1, .long), (cA 2, .boolean)]
theorem wsOf_get {cA : Nat → ClassId} {a : Nat → Nat} {σ : St} {i : Nat} {x : Shp} (h : SH[i]? = some x) : (wsOf cA a σ)[i]? = some (a i, cellE cA a (σ i) x) := by
  unfold wsOf
  rw [List.getElem?_mapIdx, h]
  rfl
theorem wsOf_inv {cA : Nat → ClassId} {a : Nat → Nat} {σ : St} {i : Nat} {q : Nat × va_E} (h : (wsOf cA a σ)[i]? = some q) : ∃ x, SH[i]? = some x ∧ q = (a i, cellE cA a (σ i) x) := by
  unfold wsOf at h
  rw [List.getElem?_mapIdx] at h
  cases hx : SH[i]? with
  | none => rw [hx] at h; cases h
  | some x => rw [hx] at h; exact ⟨x, rfl, (Option.some.inj h).symm⟩
theorem wsOf_set {cA : Nat → ClassId} {a : Nat → Nat} {σ : St} {i : Nat} {x : Shp} {f : Nat → Int} {e : va_E} (h : SH[i]? = some x) (he : cellE cA a f x = e) : (wsOf cA a σ).set i (a i, e) = wsOf cA a (updR σ i f) := by
  apply List.ext_getElem?
  intro j
  by_cases hj : j = i
  · subst hj
    rw [wsOf_get h, updR_eq, he, List.getElem?_set_self]
    exact (List.getElem?_eq_some_iff.mp (wsOf_get (cA := cA) (a := a) (σ := σ) h)).1
  · rw [List.getElem?_set_ne (Ne.symm hj)]
    unfold wsOf
    rw [List.getElem?_mapIdx, List.getElem?_mapIdx, updR_ne _ _ _ _ hj]
/-- association lists -/
def lk {β : Type} : List (Nat × β) → Nat → Option β
  | [], _ => none
  | (b, v) :: r, x => if x = b then some v else lk r x
theorem lk_mem {β : Type} {l : List (Nat × β)} {x : Nat} {v : β} (h : lk l x = some v) : (x, v) ∈ l := by
  induction l with
  | nil => cases h
  | cons q r ih =>
    obtain ⟨b, w⟩ := q
    unfold lk at h
    split at h
    · next e => subst e; cases h; exact List.mem_cons_self
    · exact List.mem_cons_of_mem _ (ih h)
def lk1 {β : Type} : List (Nat × β) → Nat → (β → Prop) → Prop := fun l x f => match lk l x with
  | some v => f v
  | none => False
theorem lk1_inv {β : Type} {l : List (Nat × β)} {x : Nat} {f : β → Prop} (h : lk1 l x f) : ∃ v, (x, v) ∈ l ∧ f v := by
  unfold lk1 at h
  split at h
  · next v e => exact ⟨v, lk_mem e, h⟩
  · exact h.elim
/-- locals -/
def isLong : AV → Bool
  | .inr (.inl _) => true
  | _ => false
def sto1 : List AV → Nat → AV → List AV
  | [], _, _ => []
  | _ :: r, 0, v => v :: r
  | x :: r, 1, v => (if isLong x then .inr (.inr none) else x) :: sto1 r 0 v
  | x :: r, n + 2, v => x :: sto1 r (n + 1) v
def sto2 : List AV → Nat → AV → List AV
  | [], _, _ => []
  | _ :: r, 0, v => v :: sto1 r 0 (.inr (.inr none))
  | x :: r, 1, v => (if isLong x then .inr (.inr none) else x) :: sto2 r 0 v
  | x :: r, n + 2, v => x :: sto2 r (n + 1) v
def lvl (a : Nat → Nat) : Nat → List AV → List (Nat × Value)
  | _, [] => []
  | i, v :: r => if v = .inr (.inr none) then lvl a (i + 1) r else (i, conc a v) :: lvl a (i + 1) r
theorem lvl_mem {a : Nat → Nat} : ∀ {L : List AV} {i : Nat} {q : Nat × Value}, q ∈ lvl a i L ↔ ∃ (j : Nat) (v : AV), L[j]? = some v ∧ v ≠ .inr (.inr none) ∧ q = (i + j, conc a v)
  | [], i, q => by simp [lvl]
  | w :: r, i, q => by
    unfold lvl
    by_cases hw : w = .inr (.inr none)
    · rw [if_pos hw, lvl_mem]
      constructor
      · rintro ⟨j, v, h1, h2, h3⟩
        exact ⟨j + 1, v, by simpa using h1, h2, by rw [h3, Nat.add_assoc, Nat.add_comm 1 j]⟩
      · rintro ⟨j, v, h1, h2, h3⟩
        cases j with
        | zero => simp at h1; exact absurd (h1.symm.trans hw) h2
        | succ j => exact ⟨j, v, by simpa using h1, h2, by rw [h3, Nat.add_assoc, Nat.add_comm 1 j]⟩
    · rw [if_neg hw, List.mem_cons, lvl_mem]
      constructor
      · rintro (rfl | ⟨j, v, h1, h2, h3⟩)
        · exact ⟨0, w, rfl, hw, rfl⟩
        · exact ⟨j + 1, v, by simpa using h1, h2, by rw [h3, Nat.add_assoc, Nat.add_comm 1 j]⟩
      · rintro ⟨j, v, h1, h2, h3⟩
        cases j with
        | zero => simp at h1; subst h1; exact Or.inl h3
        | succ j => exact Or.inr ⟨j, v, by simpa using h1, h2, by rw [h3, Nat.add_assoc, Nat.add_comm 1 j]⟩
theorem sto1_len : ∀ (L : List AV) (i : Nat) (v : AV), (sto1 L i v).length = L.length
  | [], i, v => by cases i <;> rfl
  | _ :: r, 0, v => rfl
  | x :: r, 1, v => by simp only [sto1, List.length_cons, sto1_len r 0 v]
  | x :: r, n + 2, v => by simp only [sto1, List.length_cons, sto1_len r (n + 1) v]
theorem sto2_len : ∀ (L : List AV) (i : Nat) (v : AV), (sto2 L i v).length = L.length
  | [], i, v => by cases i <;> rfl
  | _ :: r, 0, v => by simp only [sto2, List.length_cons, sto1_len r 0 _]
  | x :: r, 1, v => by simp only [sto2, List.length_cons, sto2_len r 0 v]
  | x :: r, n + 2, v => by simp only [sto2, List.length_cons, sto2_len r (n + 1) v]
theorem sto1_get : ∀ {L : List AV} {i : Nat} {v : AV} {j : Nat} {w : AV}, (sto1 L i v)[j]? = some w → (j = i ∧ w = v) ∨ w = .inr (.inr none) ∨ (j ≠ i ∧ L[j]? = some w ∧ ¬ (j + 1 = i ∧ isLong w = true))
  | [], i, v, j, w, h => by cases i <;> simp [sto1] at h
  | x :: r, 0, v, j, w, h => by
    cases j with
    | zero => simp [sto1] at h; exact Or.inl ⟨rfl, h.symm⟩
    | succ j => simp [sto1] at h; exact Or.inr (Or.inr ⟨by omega, by simpa using h, by omega⟩)
  | x :: r, 1, v, j, w, h => by
    cases j with
    | zero =>
      simp only [sto1, List.getElem?_cons_zero, Option.some.injEq] at h
      by_cases hx : isLong x = true
      · rw [if_pos hx] at h; exact Or.inr (Or.inl h.symm)
      · rw [if_neg hx] at h; subst h; exact Or.inr (Or.inr ⟨by omega, rfl, fun q => hx q.2⟩)
    | succ j =>
      have h' : (sto1 r 0 v)[j]? = some w := by simpa [sto1] using h
      rcases sto1_get h' with ⟨h1, h2⟩ | h1 | ⟨h1, h2, h3⟩
      · exact Or.inl ⟨by omega, h2⟩
      · exact Or.inr (Or.inl h1)
      · exact Or.inr (Or.inr ⟨by omega, by simpa using h2, by omega⟩)
  | x :: r, n + 2, v, j, w, h => by
    cases j with
    | zero => simp [sto1] at h; exact Or.inr (Or.inr ⟨by omega, by simpa using h, by omega⟩)
    | succ j =>
      have h' : (sto1 r (n + 1) v)[j]? = some w := by simpa [sto1] using h
      rcases sto1_get h' with ⟨h1, h2⟩ | h1 | ⟨h1, h2, h3⟩
      · exact Or.inl ⟨by omega, h2⟩
      · exact Or.inr (Or.inl h1)
      · exact Or.inr (Or.inr ⟨by omega, by simpa using h2, fun q => h3 ⟨by omega, q.2⟩⟩)
theorem sto2_get : ∀ {L : List AV} {i : Nat} {v : AV} {j : Nat} {w : AV}, (sto2 L i v)[j]? = some w → (j = i ∧ w = v) ∨ w = .inr (.inr none) ∨ (j ≠ i ∧ j ≠ i + 1 ∧ L[j]? = some w ∧ ¬ (j + 1 = i ∧ isLong w = true))
  | [], i, v, j, w, h => by cases i <;> simp [sto2] at h
  | x :: r, 0, v, j, w, h => by
    cases j with
    | zero => simp [sto2] at h; exact Or.inl ⟨rfl, h.symm⟩
    | succ j =>
      have h' : (sto1 r 0 (.inr (.inr none)))[j]? = some w := by simpa [sto2] using h
      rcases sto1_get h' with ⟨h1, h2⟩ | h1 | ⟨h1, h2, h3⟩
      · exact Or.inr (Or.inl h2)
      · exact Or.inr (Or.inl h1)
      · exact Or.inr (Or.inr ⟨by omega, by omega, by simpa using h2, by omega⟩)
  | x :: r, 1, v, j, w, h => by
    cases j with
    | zero =>
      simp only [sto2, List.getElem?_cons_zero, Option.some.injEq] at h
      by_cases hx : isLong x = true
      · rw [if_pos hx] at h; exact Or.inr (Or.inl h.symm)
      · rw [if_neg hx] at h; subst h; exact Or.inr (Or.inr ⟨by omega, by omega, rfl, fun q => hx q.2⟩)
    | succ j =>
      have h' : (sto2 r 0 v)[j]? = some w := by simpa [sto2] using h
      rcases sto2_get h' with ⟨h1, h2⟩ | h1 | ⟨h1, h2, h3, h4⟩
      · exact Or.inl ⟨by omega, h2⟩
      · exact Or.inr (Or.inl h1)
      · exact Or.inr (Or.inr ⟨by omega, by omega, by simpa using h3, by omega⟩)
  | x :: r, n + 2, v, j, w, h => by
    cases j with
    | zero => simp [sto2] at h; exact Or.inr (Or.inr ⟨by omega, by omega, by simpa using h, by omega⟩)
    | succ j =>
      have h' : (sto2 r (n + 1) v)[j]? = some w := by simpa [sto2] using h
      rcases sto2_get h' with ⟨h1, h2⟩ | h1 | ⟨h1, h2, h3, h4⟩
      · exact Or.inl ⟨by omega, h2⟩
      · exact Or.inr (Or.inl h1)
      · exact Or.inr (Or.inr ⟨by omega, by omega, by simpa using h3, fun q => h4 ⟨by omega, q.2⟩⟩)
theorem conc_cat (a : Nat → Nat) (v : AV) : (conc a v).category = if isLong v then 2 else 1 := by
  rcases v with z | z | _ | i <;> rfl
/-- what the listed locals are behind a store -/
theorem lvl_sto1 {a : Nat → Nat} {ls : Array Slot} {nL : Nat} {L : List AV} {i : Nat} {v : AV} (h : lv_has ls nL ((i, conc a v) :: (lvl a 0 L).filter (fun q => !(q.1 == i) && !(q.1 + 1 == i && q.2.category == 2)))) : lv_has ls nL (lvl a 0 (sto1 L i v)) := by
  refine ⟨h.1, h.2.1, fun q hq => h.2.2 q ?_⟩
  obtain ⟨j, w, h1, h2, rfl⟩ := lvl_mem.mp hq
  rw [Nat.zero_add]
  rcases sto1_get h1 with ⟨rfl, rfl⟩ | h3 | ⟨h3, h4, h5⟩
  · exact List.mem_cons_self
  · exact absurd h3 h2
  · refine List.mem_cons_of_mem _ (List.mem_filter.mpr ⟨lvl_mem.mpr ⟨j, w, h4, h2, by rw [Nat.zero_add]⟩, ?_⟩)
    have e := conc_cat a w
    simp only [Bool.and_eq_true, Bool.not_eq_true', beq_eq_false_iff_ne, ne_eq, Bool.and_eq_false_iff]
    refine ⟨h3, ?_⟩
    by_cases hj : j + 1 = i
    · refine Or.inr ?_
      rw [e]
      by_cases hl : isLong w = true
      · exact absurd ⟨hj, hl⟩ h5
      · rw [if_neg hl]; decide
    · exact Or.inl hj
theorem lvl_sto2 {a : Nat → Nat} {ls : Array Slot} {nL : Nat} {L : List AV} {i : Nat} {v : AV} (h : lv_has ls nL ((i, conc a v) :: (lvl a 0 L).filter (fun q => !(q.1 == i) && (!(q.1 == i + 1) && !(q.1 + 1 == i && q.2.category == 2))))) : lv_has ls nL (lvl a 0 (sto2 L i v)) := by
  refine ⟨h.1, h.2.1, fun q hq => h.2.2 q ?_⟩
  obtain ⟨j, w, h1, h2, rfl⟩ := lvl_mem.mp hq
  rw [Nat.zero_add]
  rcases sto2_get h1 with ⟨rfl, rfl⟩ | h3 | ⟨h3, h3b, h4, h5⟩
  · exact List.mem_cons_self
  · exact absurd h3 h2
  · refine List.mem_cons_of_mem _ (List.mem_filter.mpr ⟨lvl_mem.mpr ⟨j, w, h4, h2, by rw [Nat.zero_add]⟩, ?_⟩)
    have e := conc_cat a w
    simp only [Bool.and_eq_true, Bool.not_eq_true', beq_eq_false_iff_ne, ne_eq, Bool.and_eq_false_iff]
    refine ⟨h3, h3b, ?_⟩
    by_cases hj : j + 1 = i
    · refine Or.inr ?_
      rw [e]
      by_cases hl : isLong w = true
      · exact absurd ⟨hj, hl⟩ h5
      · rw [if_neg hl]; decide
    · exact Or.inl hj
theorem lvl_at {a : Nat → Nat} {ls : Array Slot} {nL : Nat} {L : List AV} {i : Nat} {v : AV} (h : lv_has ls nL (lvl a 0 L)) (hv : L[i]? = some v) (hn : v ≠ .inr (.inr none)) : ls[i]? = some (.val (conc a v)) :=
  h.2.2 (i, conc a v) (lvl_mem.mpr ⟨i, v, hv, hn, by rw [Nat.zero_add]⟩)
/-- the locals at a method's entry -/
def ent : List AV → List AV
  | [] => []
  | v :: r => if isLong v then v :: .inr (.inr none) :: ent r else v :: ent r
theorem lvl_ent (a : Nat → Nat) (n : Nat) : ∀ (as : List AV) (i : Nat), ∀ q ∈ lvl a i (ent as ++ List.replicate n (.inr (.inr none))), q ∈ lv_args i (as.map (conc a))
  | [], i, q, h => by
    obtain ⟨j, v, h1, h2, -⟩ := lvl_mem.mp h
    rw [ent, List.nil_append] at h1
    exact absurd (List.eq_of_mem_replicate (List.mem_of_getElem? h1)) h2
  | v :: r, i, q, h => by
    rw [List.map_cons, lv_args, conc_cat]
    by_cases hv : isLong v = true
    · rw [if_pos hv, if_pos rfl]
      rw [ent, if_pos hv, List.cons_append, List.cons_append, lvl] at h
      have hn : v ≠ .inr (.inr none) := by intro e; subst e; cases hv
      rw [if_neg hn, lvl, if_pos rfl] at h
      rcases List.mem_cons.mp h with h | h
      · exact List.mem_cons.mpr (Or.inl h)
      · exact List.mem_cons_of_mem _ (lvl_ent a n r (i + 2) q h)
    · rw [if_neg hv, if_neg (by decide)]
      rw [ent, if_neg hv, List.cons_append, lvl] at h
      split at h
      · exact List.mem_cons_of_mem _ (lvl_ent a n r (i + 1) q h)
      · rcases List.mem_cons.mp h with h | h
        · exact List.mem_cons.mpr (Or.inl h)
        · exact List.mem_cons_of_mem _ (lvl_ent a n r (i + 1) q h)
