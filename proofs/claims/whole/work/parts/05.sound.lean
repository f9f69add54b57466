/-! the small machine is the machine -/
/-- the words that a callee may lean on -/
def TG : List Jvm.Cond := lw_tbl.filter goodWord
theorem tg_in {w : Jvm.Cond} (i : Nat) (h : lw_tbl[i]? = some w) (hg : goodWord w = true) : w ∈ TG := List.mem_filter.mpr ⟨List.mem_of_getElem? h, hg⟩
theorem tg_good : ∀ w ∈ TG, (w.onTables && w.keeps) = true ∨ ∃ ty, w = .arrayClass ty := fun _ h => good_of_word (List.mem_filter.mp h).2
theorem tg_tbl : ∀ w ∈ TG, w ∈ lw_tbl := fun _ h => (List.mem_filter.mp h).1
def rmOf (lv : Nat) : Room := { frames := lv, cells := 0, slots := 0, locals := 36 * lv }
def aQ (D : va_G) (cA : Nat → ClassId) (a : Nat → Nat) (Q : Option AV → St → Prop) (A : Nat → Prop) : Array Value → State → Outcome → State → Prop :=
  fun _ st oc t => (∃ (r : Option AV) (u : St), oc = .returned (r.map (conc a)) ∧ Q r u ∧ va_P D CL (wsOf cA a u) t.heap ∧ va_K D CL (tysOf cA) t ∧ va_D A (wsOf cA a u)) ∧ va_F A st t
/-- a method keeps a meaning -/
def Sat (l : Launch) (y : MethodName) (bytes : ByteArray) (maxL : Nat) (ret : Option FieldType) (lv : Nat) (S : Spec) : Prop :=
  ∀ (D : va_G) (cA : Nat → ClassId) (a : Nat → Nat) (sz : Nat) (σ : St) (as : List AV) (Q : Option AV → St → Prop), S as σ Q →
    Met l y (Jvm.Cond.code y bytes maxL ret :: TG) (rmOf lv) (va_Pc (as.map (conc a)) (fun U => U.heap.size = sz ∧ va_P D CL (wsOf cA a σ) U.heap ∧ va_K D CL (tysOf cA) U ∧ va_D (fun _ => True) (wsOf cA a σ))) (aQ D cA a Q (va_A (wsOf cA a σ) sz)) 0 0 (va_A (wsOf cA a σ) sz)
def CalleeOK (l : Launch) (own : String) (R : Room) (g : Nat × Nat × Nat × Spec) : Prop :=
  (g.2.1 = 1000 ∧ Jvm.Cond.methodLink own g.1 arraycopyName ∈ TG ∧ 1 ≤ R.frames ∧ 26 ≤ R.locals) ∨
  (g.2.1 ≠ 1000 ∧ ∃ (y : MethodName) (bytes : ByteArray) (maxL : Nat) (ret : Option FieldType) (lv : Nat),
    Sat l y bytes maxL ret lv g.2.2.2 ∧ (lv + 1 ≤ R.frames ∧ 8 + (maxL + 11) + 36 * lv ≤ R.locals) ∧ Jvm.Cond.methodLink own g.1 y ∈ TG ∧ Jvm.Cond.code y bytes maxL ret ∈ TG ∧ Jvm.Cond.initialized y.cls ∈ TG ∧
    (y.cls ≠ "java/lang/invoke/MethodHandle" ∧ y.cls ≠ "java/lang/invoke/VarHandle" ∧ (parseMethodDescriptor y.desc).map (fun d => d.parameters.length) = some g.2.2.1) ∧
    ((g.2.1 = 0 ∧ Jvm.Cond.static y ∈ TG) ∨ (0 < g.2.1 ∧ Jvm.Cond.instanceMethod y ∈ TG ∧ Jvm.Cond.selects y.cls y y ∈ TG ∧ ∃ T N, CL[g.2.1 - 1]? = some (y.cls, T, N))))
def FieldOK (own : String) (q : Nat × Nat × Nat) : Prop := ∃ (C : String) (T : u_T) (N : Nat) (ty : Nat → FieldType), CL[q.2.1]? = some (C, T, N) ∧ q.2.2 < N ∧ (T q.2.2).1 = C ∧ Jvm.Cond.fieldLink own q.1 C (T q.2.2).2.1 (T q.2.2).2.2.1 ∈ TG ∧
  (∀ w ∈ u_ws C T N, w ∈ TG) ∧ (∀ k, k < N → parseFieldDescriptor (T k).2.2.1 = some (ty k)) ∧ (∀ a, a < N → ∀ b, b < N → a ≠ b → (T a).2.1 ≠ (T b).2.1) ∧ (ty q.2.2 = .int → (T q.2.2).2.2.2 = false) ∧ (ty q.2.2 = .int ∨ ∀ (i : Nat) (fs : List (Option Nat)), SH[i]? = some (.inl (q.2.1, fs)) → fs[q.2.2]? ≠ some none)
def ConstOK (own : String) (q : Nat × Int) : Prop := (q.1 < 100000 → Jvm.Cond.constant own q.1 (Int32.ofInt q.2) ∈ TG) ∧ (100000 ≤ q.1 → Jvm.Cond.constantLong own (q.1 - 100000) (Int64.ofInt q.2) ∈ TG)
theorem tbl_native : Jvm.Cond.native arraycopyName ∈ TG ∧ Jvm.Cond.static arraycopyName ∈ TG ∧ Jvm.Cond.initialized "java/lang/System" ∈ TG := ⟨tg_in (401) (by decide +kernel) (by decide +kernel), tg_in (400) (by decide +kernel) (by decide +kernel), tg_in (60) (by decide +kernel) (by decide +kernel)⟩
section SOUND
variable {p : Program} {l : Launch} {e : Env} {R : Room} {s : State} {m : MethodId} {args : Array Value} {below : List Frame} {meth : Method} {c : Code} {cells slots : Nat} {Qf : State → Prop} {cc : ByteArray} {D : va_G} {cA : Nat → ClassId} {a : Nat → Nat} {A : Nat → Prop} {H0 : Heap} {own : String} {nL : Nat} {sc : Prop}
/-- the script, where there is one -/
def Scr (sc : Prop) (s : State) (a : Nat → Nat) (A : Nat → Prop) (H0 : Heap) (σ : St) : Prop := sc → va_X (a 1000) (σ 1001 0).toNat (fun j => Int32.ofInt (σ 1000 j)) s H0 ∧ a 1000 < H0.size ∧ ¬ A (a 1000) ∧ 0 ≤ σ 1001 0 ∧ σ 1001 0 < 2147483648
def Good (p : Program) (l : Launch) (e : Env) (R : Room) (s : State) (m : MethodId) (args : Array Value) (below : List Frame) (meth : Method) (c : Code) (cells slots : Nat) (Qf : State → Prop) (D : va_G) (cA : Nat → ClassId) (a : Nat → Nat) (A : Nat → Prop) (H0 : Heap) (nL : Nat) (sc : Prop) (pc : Nat) (L st : List AV) (σ : St) : Prop :=
  ∀ (H : Heap) (locs : List Loc) (ls : Array Slot), va_P D CL (wsOf cA a σ) H → va_D A (wsOf cA a σ) → va_S A H0 H locs → lv_has ls nL (lvl a 0 L) → L.length = nL → Scr sc s a A H0 σ → W p l e R s m args below meth c H locs cells slots Qf (F0 m pc ls (st.map (conc a)))
theorem catS_eq (a : Nat → Nat) : ∀ st : List AV, ((st.map (conc a)).map fun v => v.category).sum = catS st
  | [] => rfl
  | v :: r => by rw [List.map_cons, List.map_cons, List.sum_cons, catS_eq a r, conc_cat]; rfl
theorem popI_inv {st : List AV} {f : Int → List AV → Prop} (h : popI st f) : ∃ z r, st = .inl z :: r ∧ f z r := by
  unfold popI at h; split at h
  · exact ⟨_, _, rfl, h⟩
  · exact h.elim
theorem popL_inv {st : List AV} {f : Int → List AV → Prop} (h : popL st f) : ∃ z r, st = .inr (.inl z) :: r ∧ f z r := by
  unfold popL at h; split at h
  · exact ⟨_, _, rfl, h⟩
  · exact h.elim
theorem popR_inv {st : List AV} {f : Nat → List AV → Prop} (h : popR st f) : ∃ z r, st = .inr (.inr (some z)) :: r ∧ f z r := by
  unfold popR at h; split at h
  · exact ⟨_, _, rfl, h⟩
  · exact h.elim
theorem popV_inv {st : List AV} {f : AV → List AV → Prop} (h : popV st f) : ∃ z r, st = z :: r ∧ f z r := by
  unfold popV at h; split at h
  · exact ⟨_, _, rfl, h⟩
  · exact h.elim
theorem popN_inv : ∀ (n : Nat) (as st : List AV) (f : List AV → List AV → Prop), popN n as st f → ∃ bs r, st = bs.reverse ++ r ∧ bs.length = n ∧ f (bs ++ as) r
  | 0, as, st, f, h => ⟨[], st, rfl, rfl, h⟩
  | n + 1, as, st, f, h => by
    obtain ⟨v, r, rfl, h1⟩ := popV_inv h
    obtain ⟨bs, r', rfl, h2, h3⟩ := popN_inv n (v :: as) r f h1
    exact ⟨bs ++ [v], r', by simp, by simp [h2], by simpa using h3⟩
theorem ldI_inv {L : List AV} {i : Nat} {f : Int → Prop} (h : ldI L i f) : ∃ z, L[i]? = some (.inl z) ∧ f z := by
  unfold ldI at h; split at h
  · exact ⟨_, by assumption, h⟩
  · exact h.elim
theorem ldL_inv {L : List AV} {i : Nat} {f : Int → Prop} (h : ldL L i f) : ∃ z, L[i]? = some (.inr (.inl z)) ∧ f z := by
  unfold ldL at h; split at h
  · exact ⟨_, by assumption, h⟩
  · exact h.elim
theorem ldR_inv {L : List AV} {i : Nat} {f : Nat → Prop} (h : ldR L i f) : ∃ z, L[i]? = some (.inr (.inr (some z))) ∧ f z := by
  unfold ldR at h; split at h
  · exact ⟨_, by assumption, h⟩
  · exact h.elim
theorem oF_inv {i ci k : Nat} {f : Option Nat → Prop} (h : oF i ci k f) : ∃ fs q, SH[i]? = some (.inl (ci, fs)) ∧ fs[k]? = some q ∧ f q := by
  unfold oF at h
  split at h
  · next c fs hs =>
    obtain ⟨h1, h2⟩ := h
    subst h1
    split at h2
    · next q hq => exact ⟨fs, q, hs, hq, h2⟩
    · exact h2.elim
  · exact h.elim
theorem oC_inv {i ci : Nat} (h : oC i ci) : ∃ fs, SH[i]? = some (.inl (ci, fs)) := by
  unfold oC at h
  split at h
  · next c fs hs => subst h; exact ⟨fs, hs⟩
  · exact h.elim
theorem aF_inv {i kd : Nat} {f : Nat → Prop} (h : aF i kd f) : ∃ n, SH[i]? = some (.inr (kd, n)) ∧ f n := by
  unfold aF at h
  split at h
  · next k n hs =>
    obtain ⟨h1, h2⟩ := h
    subst h1
    exact ⟨n, hs, h2⟩
  · exact h.elim
theorem aN_inv {i : Nat} {f : Nat → Prop} (h : aN i f) : ∃ k n, SH[i]? = some (.inr (k, n)) ∧ (k = 0 ∨ k = 1 ∨ k = 2) ∧ f n := by
  unfold aN at h
  split at h
  · next k n hs => exact ⟨k, n, hs, h.1, h.2⟩
  · exact h.elim
theorem SH_len : ∀ x ∈ SH, ∀ k n, x = .inr (k, n) → n ≤ 2147483647 := by
  intro x hx k n e
  have h : SH.all (fun x => match x with
    | .inr (_, n) => decide (n ≤ 2147483647)
    | _ => true) = true := by decide +kernel
  have h1 := List.all_eq_true.mp h x hx
  subst e
  simpa using h1
theorem SH_le {i k n : Nat} (h : SH[i]? = some (.inr (k, n))) : n ≤ 2147483647 := SH_len _ (List.mem_of_getElem? h) k n rfl
theorem SH_1000 {x : Shp} {i : Nat} (h : SH[i]? = some x) : i ≠ 1000 ∧ i ≠ 1001 := by
  have h1 : i < SH.length := (List.getElem?_eq_some_iff.mp h).1
  have h2 : SH.length = 67 := by decide +kernel
  omega
theorem Scr_upd {σ : St} {i : Nat} {f : Nat → Int} (h : Scr sc s a A H0 σ) {x : Shp} (hi : SH[i]? = some x) : Scr sc s a A H0 (updR σ i f) := by
  intro hs
  have h1 := h hs
  rw [updR_ne _ _ _ _ (Ne.symm (SH_1000 hi).1), updR_ne _ _ _ _ (Ne.symm (SH_1000 hi).2)]
  exact h1
theorem cell_put {f : Nat → Int} {ci k : Nat} {fs : List (Option Nat)} {z : Int} (h : fs[k]? = some none) : cellE cA a (up1 f k z) (.inl (ci, fs)) = .inr (ci, (fs.mapIdx (fun k q => fV a f k q)).set k (.int (Int32.ofInt z))) := by
  show Sum.inr (ci, _) = _
  congr 2
  apply List.ext_getElem?
  intro j
  by_cases hj : j = k
  · subst hj
    rw [List.getElem?_set_self (by rw [List.length_mapIdx]; exact (List.getElem?_eq_some_iff.mp h).1), List.getElem?_mapIdx, h]
    show some (Value.int (Int32.ofInt (up1 f j z j))) = _
    rw [up1_eq]
  · rw [List.getElem?_set_ne (Ne.symm hj), List.getElem?_mapIdx, List.getElem?_mapIdx]
    cases fs[j]? with
    | none => rfl
    | some q =>
      cases q with
      | none => show some (Value.int (Int32.ofInt (up1 f k z j))) = some (Value.int (Int32.ofInt (f j))); rw [up1_ne _ _ _ _ hj]
      | some t => rfl
theorem up1_I {f : Nat → Int} {j : Nat} {z : Int} : (fun k => Int32.ofInt (up1 f j z k)) = upd (fun k => Int32.ofInt (f k)) j (Int32.ofInt z) := by
  funext k
  unfold up1 upd
  split <;> rfl
theorem up1_L {f : Nat → Int} {j : Nat} {z : Int} : (fun k => Int64.ofInt (up1 f j z k)) = vp_updL (fun k => Int64.ofInt (f k)) j (Int64.ofInt z) := by
  funext k
  unfold up1 vp_updL
  split <;> rfl
theorem cpy_I {f g : Nat → Int} {sp dp n : Nat} : (fun k => Int32.ofInt (va_cpy f g sp dp n k)) = va_cpy (fun k => Int32.ofInt (f k)) (fun k => Int32.ofInt (g k)) sp dp n := by
  funext k
  unfold va_cpy
  split <;> rfl
end SOUND
