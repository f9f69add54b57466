/-! blocks, cuts, a method's meaning out of its conditions -/
def ltM (x y : M3) : Prop := x.1 < y.1 ∨ (x.1 = y.1 ∧ (x.2.1 < y.2.1 ∨ (x.2.1 = y.2.1 ∧ x.2.2 < y.2.2)))
theorem ltM_ind {P : M3 → Prop} (h : ∀ μ, (∀ ν, ltM ν μ → P ν) → P μ) : ∀ μ, P μ := by
  have key : ∀ (a b c : Nat), P (a, b, c) := by
    intro a
    induction a using Nat.strongRecOn with
    | _ a iha =>
      intro b
      induction b using Nat.strongRecOn with
      | _ b ihb =>
        intro c
        induction c using Nat.strongRecOn with
        | _ c ihc =>
          refine h _ fun ν hν => ?_
          obtain ⟨x, y, z⟩ := ν
          rcases hν with h1 | ⟨h1, h2 | ⟨h2, h3⟩⟩
          · exact iha x h1 y z
          · have h1 : x = a := h1
            subst h1
            exact ihb y h2 z
          · have h1 : x = a := h1
            have h2 : y = b := h2
            subst h1
            subst h2
            exact ihc z h3
  exact fun μ => key μ.1 μ.2.1 μ.2.2
def ltO (x : M3) (y : Option M3) : Prop := match y with
  | some y => ltM x y
  | none => True
abbrev Cuts : Type := List (Nat × (List AV → List AV → St → M3 → Prop))
def atC (cuts : Cuts) (μ : Option M3) (pc : Nat) (L st : List AV) (σ : St) (k : Prop) : Prop := match lk cuts pc with
  | some I => ∃ μ', ltO μ' μ ∧ I L st σ μ'
  | none => k
def wpN (sc : Prop) (Φ : List (Nat × Nat × Nat)) (κ : List (Nat × Int)) (Γ : List (Nat × Nat × Nat × Spec)) (rt : Nat) (Q : Option AV → St → Prop) (prog : List (Nat × List Instr)) (cuts : Cuts) (μ : Option M3) : Nat → Nat → List AV → List AV → St → Prop
  | 0, _, _, _, _ => False
  | n + 1, pc, L, st, σ => lk1 prog pc fun blk => wpB sc Φ κ Γ rt Q (fun pc L st σ => atC cuts μ pc L st σ (wpN sc Φ κ Γ rt Q prog cuts μ n pc L st σ)) pc blk L st σ
def jmp (sc : Prop) (Φ : List (Nat × Nat × Nat)) (κ : List (Nat × Int)) (Γ : List (Nat × Nat × Nat × Spec)) (rt : Nat) (Q : Option AV → St → Prop) (prog : List (Nat × List Instr)) (cuts : Cuts) (μ : Option M3) (n pc : Nat) (L st : List AV) (σ : St) : Prop := atC cuts μ pc L st σ (wpN sc Φ κ Γ rt Q prog cuts μ n pc L st σ)
theorem wpN_go (sc : Prop) (Φ : List (Nat × Nat × Nat)) (κ : List (Nat × Int)) (Γ : List (Nat × Nat × Nat × Spec)) (rt : Nat) (Q : Option AV → St → Prop) (prog : List (Nat × List Instr)) (cuts : Cuts) (μ : Option M3) (n pc : Nat) (L st : List AV) (σ : St) : wpN sc Φ κ Γ rt Q prog cuts μ (n + 1) pc L st σ = lk1 prog pc fun blk => wpB sc Φ κ Γ rt Q (jmp sc Φ κ Γ rt Q prog cuts μ n) pc blk L st σ := (rfl)
section LOOP
variable {p : Program} {l : Launch} {e : Env} {R : Room} {s : State} {m : MethodId} {args : Array Value} {below : List Frame} {meth : Method} {c : Code} {cells slots : Nat} {Qf : State → Prop} {cc : ByteArray} {D : va_G} {cA : Nat → ClassId} {a : Nat → Nat} {A : Nat → Prop} {H0 : Heap} {own : String} {nL : Nat} {sc : Prop}
theorem wp_ok (hx : p.tables.exec = Jvm.exec) (hb : c.code = cc) (hml : c.maxLocals = nL) (hown : s.vm.findClass own = some m.cls) (hts : ∀ w ∈ TG, w.before args s = true) (hK : va_K D CL (tysOf cA) s) (hA : ∀ q, H0.size ≤ q → A q) (hcs : cells ≤ R.cells ∧ slots ≤ R.slots)
    {Φ : List (Nat × Nat × Nat)} {κ : List (Nat × Int)} {Γ : List (Nat × Nat × Nat × Spec)} {rt : Nat} {Q : Option AV → St → Prop} (hΦ : ∀ q ∈ Φ, FieldOK own q) (hκ : ∀ q ∈ κ, ConstOK own q) (hΓ : ∀ g ∈ Γ, CalleeOK l own R g)
    (hrI : ∀ pc L z σ, decode cc pc = .ok (.ireturn, 1) → (rt = 1 ∨ (rt = 3 ∧ (z = 0 ∨ z = 1))) → Q (some (.inl z)) σ → Good p l e R s m args below meth c cells slots Qf D cA a A H0 nL sc pc L [.inl z] σ)
    (hrL : ∀ pc L z σ, decode cc pc = .ok (.lreturn, 1) → rt = 2 → Q (some (.inr (.inl z))) σ → Good p l e R s m args below meth c cells slots Qf D cA a A H0 nL sc pc L [.inr (.inl z)] σ)
    (hrV : ∀ pc L σ, decode cc pc = .ok (.return_, 1) → rt = 0 → Q none σ → Good p l e R s m args below meth c cells slots Qf D cA a A H0 nL sc pc L [] σ)
    {J : Nat → List AV → List AV → St → Prop} (hJ : ∀ pc L st σ, J pc L st σ → Good p l e R s m args below meth c cells slots Qf D cA a A H0 nL sc pc L st σ) :
    ∀ (blk : List Instr) (pc : Nat) (L st : List AV) (σ : St), okB cc pc blk = true → wpB sc Φ κ Γ rt Q J pc blk L st σ → Good p l e R s m args below meth c cells slots Qf D cA a A H0 nL sc pc L st σ
  | [], pc, L, st, σ, _, h => hJ _ _ _ _ h
  | o :: r, pc, L, st, σ, ho, h => by
    unfold okB at ho
    rw [Bool.and_eq_true] at ho
    obtain ⟨h1, h2⟩ := ho
    split at h1
    · next i n hd =>
      rw [Bool.and_eq_true, decide_eq_true_eq] at h1
      obtain ⟨rfl, h3⟩ := h1
      have h3 : isSw i = true ∨ n = ilen i := by simpa using h3
      exact stp_ok hx hb hml hown hts hK hA hcs hΦ hκ hΓ hrI hrL hrV hJ (fun L st σ hk => wp_ok hx hb hml hown hts hK hA hcs hΦ hκ hΓ hrI hrL hrV hJ r _ L st σ h2 hk) hd h3 h
    · cases h1
theorem wpN_ok (hx : p.tables.exec = Jvm.exec) (hb : c.code = cc) (hml : c.maxLocals = nL) (hown : s.vm.findClass own = some m.cls) (hts : ∀ w ∈ TG, w.before args s = true) (hK : va_K D CL (tysOf cA) s) (hA : ∀ q, H0.size ≤ q → A q) (hcs : cells ≤ R.cells ∧ slots ≤ R.slots)
    {Φ : List (Nat × Nat × Nat)} {κ : List (Nat × Int)} {Γ : List (Nat × Nat × Nat × Spec)} {rt : Nat} {Q : Option AV → St → Prop} (hΦ : ∀ q ∈ Φ, FieldOK own q) (hκ : ∀ q ∈ κ, ConstOK own q) (hΓ : ∀ g ∈ Γ, CalleeOK l own R g)
    (hrI : ∀ pc L z σ, decode cc pc = .ok (.ireturn, 1) → (rt = 1 ∨ (rt = 3 ∧ (z = 0 ∨ z = 1))) → Q (some (.inl z)) σ → Good p l e R s m args below meth c cells slots Qf D cA a A H0 nL sc pc L [.inl z] σ)
    (hrL : ∀ pc L z σ, decode cc pc = .ok (.lreturn, 1) → rt = 2 → Q (some (.inr (.inl z))) σ → Good p l e R s m args below meth c cells slots Qf D cA a A H0 nL sc pc L [.inr (.inl z)] σ)
    (hrV : ∀ pc L σ, decode cc pc = .ok (.return_, 1) → rt = 0 → Q none σ → Good p l e R s m args below meth c cells slots Qf D cA a A H0 nL sc pc L [] σ)
    {prog : List (Nat × List Instr)} (hp : ∀ q ∈ prog, okB cc q.1 q.2 = true) {cuts : Cuts} {μ : Option M3}
    (hc : ∀ q ∈ cuts, ∀ L st σ ν, ltO ν μ → q.2 L st σ ν → Good p l e R s m args below meth c cells slots Qf D cA a A H0 nL sc q.1 L st σ) :
    ∀ (n pc : Nat) (L st : List AV) (σ : St), wpN sc Φ κ Γ rt Q prog cuts μ n pc L st σ → Good p l e R s m args below meth c cells slots Qf D cA a A H0 nL sc pc L st σ
  | 0, _, _, _, _, h => h.elim
  | n + 1, pc, L, st, σ, h => by
    obtain ⟨blk, h1, h2⟩ := lk1_inv h
    refine wp_ok hx hb hml hown hts hK hA hcs hΦ hκ hΓ hrI hrL hrV (fun pc L st σ hj => ?_) blk pc L st σ (hp _ h1) h2
    unfold atC at hj
    split at hj
    · next I hI =>
      obtain ⟨ν, h3, h4⟩ := hj
      exact hc _ (lk_mem hI) L st σ ν h3 h4
    · exact wpN_ok hx hb hml hown hts hK hA hcs hΦ hκ hΓ hrI hrL hrV hp hc n pc L st σ hj
theorem cut_ok (hx : p.tables.exec = Jvm.exec) (hb : c.code = cc) (hml : c.maxLocals = nL) (hown : s.vm.findClass own = some m.cls) (hts : ∀ w ∈ TG, w.before args s = true) (hK : va_K D CL (tysOf cA) s) (hA : ∀ q, H0.size ≤ q → A q) (hcs : cells ≤ R.cells ∧ slots ≤ R.slots)
    {Φ : List (Nat × Nat × Nat)} {κ : List (Nat × Int)} {Γ : List (Nat × Nat × Nat × Spec)} {rt : Nat} {Q : Option AV → St → Prop} (hΦ : ∀ q ∈ Φ, FieldOK own q) (hκ : ∀ q ∈ κ, ConstOK own q) (hΓ : ∀ g ∈ Γ, CalleeOK l own R g)
    (hrI : ∀ pc L z σ, decode cc pc = .ok (.ireturn, 1) → (rt = 1 ∨ (rt = 3 ∧ (z = 0 ∨ z = 1))) → Q (some (.inl z)) σ → Good p l e R s m args below meth c cells slots Qf D cA a A H0 nL sc pc L [.inl z] σ)
    (hrL : ∀ pc L z σ, decode cc pc = .ok (.lreturn, 1) → rt = 2 → Q (some (.inr (.inl z))) σ → Good p l e R s m args below meth c cells slots Qf D cA a A H0 nL sc pc L [.inr (.inl z)] σ)
    (hrV : ∀ pc L σ, decode cc pc = .ok (.return_, 1) → rt = 0 → Q none σ → Good p l e R s m args below meth c cells slots Qf D cA a A H0 nL sc pc L [] σ)
    {prog : List (Nat × List Instr)} (hp : ∀ q ∈ prog, okB cc q.1 q.2 = true) {cuts : Cuts} {n : Nat}
    (hc : ∀ q ∈ cuts, ∀ L st σ ν, q.2 L st σ ν → wpN sc Φ κ Γ rt Q prog cuts (some ν) n q.1 L st σ) :
    ∀ ν, ∀ q ∈ cuts, ∀ L st σ, q.2 L st σ ν → Good p l e R s m args below meth c cells slots Qf D cA a A H0 nL sc q.1 L st σ := by
  refine ltM_ind fun ν ih q hq L st σ h => ?_
  exact wpN_ok hx hb hml hown hts hK hA hcs hΦ hκ hΓ hrI hrL hrV hp (μ := some ν) (fun q' hq' L st σ ν' h1 h2 => ih ν' h1 q' hq' L st σ h2) n _ L st σ (hc q hq L st σ ν h)
end LOOP
def entL (maxL : Nat) (as : List AV) : List AV := ent as ++ List.replicate (maxL - (ent as).length) (.inr (.inr none))
theorem ent_len (a : Nat → Nat) : ∀ as : List AV, (lg_sl (as.map (conc a))).length = (ent as).length
  | [] => rfl
  | v :: r => by
    have ih := ent_len a r
    unfold lg_sl at ih ⊢
    rw [List.map_cons, List.flatMap_cons, List.length_append, ih, conc_cat, ent]
    by_cases hv : isLong v = true
    · rw [if_pos hv, if_pos rfl, if_pos hv]
      simp only [List.length_cons, List.length_nil]
      omega
    · rw [if_neg hv, if_neg (by decide), if_neg hv]
      simp only [List.length_cons, List.length_nil]
      omega
theorem met_ofWF {l : Launch} {y : MethodName} {ws ws' : List Jvm.Cond} {rm : Room} {Pc : Array Value → State → Prop} {Qc : Array Value → State → Outcome → State → Prop} {mc ms : Nat} {free : Addr → Prop} {cc : ByteArray} {maxL : Nat} {ret : Option FieldType}
    (hy : plainFor y = true) (hw : ws = Jvm.Cond.code y cc maxL ret :: ws')
    (body : ∀ p e s m args below meth c s₁, BodyLoose p l y (headSpec ws rm) cc maxL ret e s m args below meth c s₁ → c.maxLocals = maxL → Pc args s →
      W p l e (headSpec ws rm).room s m args below meth c s.heap [] 0 0 (MQ below Qc args s mc ms free) (entryFrame m args maxL)) : Met l y ws rm Pc Qc mc ms free := by
  refine MetFree.of_bodySF (code := cc) (maxLocals := maxL) (ret := ret) hy ?_ ?_
  · intro args s m h hn
    obtain ⟨meth, c, h1, h2, h3, h4, h5, h6, -, -⟩ := Cond.code_spec hn (atoms_spec (ws := ws) h _ (by rw [hw]; exact List.mem_cons_self))
    exact ⟨meth, c, h1, h2, h3, h4, h5, h6⟩
  · intro p e s m args below meth c s₁ B hml hP _
    have hh0 : s₁.heap = s.heap := by rw [B.state]; rfl
    obtain ⟨t, a1, o, b1, b2, b3⟩ := body p e s m args below meth c s₁ B hml hP s₁ hh0 (Stand.of_body B)
    exact ⟨t, o, a1, b1, b2, ⟨b3.1, b3.2⟩⟩
set_option maxHeartbeats 1000000 in
theorem sat_of {l : Launch} {y : MethodName} {bytes : ByteArray} {maxL : Nat} {ret : Option FieldType} {lv : Nat} {S : Spec} (hy : plainFor y = true)
    {Φ : List (Nat × Nat × Nat)} {κ : List (Nat × Int)} {Γ : List (Nat × Nat × Nat × Spec)} {rt : Nat} (hΦ : ∀ q ∈ Φ, FieldOK y.cls q) (hκ : ∀ q ∈ κ, ConstOK y.cls q) (hΓ : ∀ g ∈ Γ, CalleeOK l y.cls (rmOf lv) g)
    (hrt : (rt = 0 ∧ ret = none) ∨ (rt = 1 ∧ ret = some .int) ∨ (rt = 2 ∧ ret = some .long) ∨ (rt = 3 ∧ ret = some .boolean))
    {prog : List (Nat × List Instr)} (hp : ∀ q ∈ prog, okB bytes q.1 q.2 = true)
    (vc : ∀ as σ Q, S as σ Q → (ent as).length ≤ maxL ∧ ∃ (cuts : Cuts) (n : Nat), wpN False Φ κ Γ rt Q prog cuts none n 0 (entL maxL as) [] σ ∧ ∀ q ∈ cuts, ∀ L st σ ν, q.2 L st σ ν → wpN False Φ κ Γ rt Q prog cuts (some ν) n q.1 L st σ) :
    Sat l y bytes maxL ret lv S := by
  intro D cA a sz σ as Q hS0
  obtain ⟨hlen, cuts, n, h0, hc⟩ := vc as σ Q hS0
  refine met_ofWF (cc := bytes) (maxL := maxL) (ret := ret) hy rfl ?_
  intro p e s m args below meth c s₁ B hml hv
  obtain ⟨rfl, hsz, hP, hK, hD0⟩ := hv
  have hx := B.exec
  have hb := B.bytes
  have hr := B.returns
  have hts := atoms_spec (ws := Jvm.Cond.code y bytes maxL ret :: TG) B.pre
  have hown : s.vm.findClass y.cls = some m.cls := findClass_of_methodNamed B.named
  have hlocks := B.notSynchronized
  subst hsz
  have hD := hD0.self (sz := s.heap.size)
  generalize hAe : va_A (wsOf cA a σ) s.heap.size = A at hD ⊢
  have hA : ∀ q : Nat, s.heap.size ≤ q → A q := fun q h => by rw [← hAe]; exact Or.inr h
  have hS : va_S A s.heap s.heap [] := va_S.rf
  have hl0 := lv_entry (as.map (conc a)) (n := maxL) (by rw [ent_len]; exact hlen)
  rw [lg_entry_eq]
  generalize (lg_sl (as.map (conc a)) ++ List.replicate (maxL - (lg_sl (as.map (conc a))).length) Slot.unset).toArray = ls at hl0 ⊢
  have hl : lv_has ls maxL (lvl a 0 (entL maxL as)) := ⟨hl0.1, hl0.2.1, fun q hq => hl0.2.2 q (lvl_ent a _ as 0 q hq)⟩
  have hL : (entL maxL as).length = maxL := by
    unfold entL
    rw [List.length_append, List.length_replicate]
    omega
  have hts' : ∀ w ∈ TG, w.before (as.map (conc a)).toArray s = true := fun w hw => hts w (List.mem_cons_of_mem _ hw)
  have rI' : ∀ pc L z u, decode bytes pc = .ok (.ireturn, 1) → (rt = 1 ∨ (rt = 3 ∧ (z = 0 ∨ z = 1))) → Q (some (.inl z)) u → Good p l e (rmOf lv) s m (as.map (conc a)).toArray below meth c 0 0 (MQ below (aQ D cA a Q A) (as.map (conc a)).toArray s 0 0 A) D cA a A s.heap maxL False pc L [.inl z] u := by
    intro pc L z u hd hk hq H locs ls hP hD hS hl hL _
    have post : ∀ t : State, t.heap = H → s.WarmedH t.vm → aQ D cA a Q A (as.map (conc a)).toArray s (.returned (some (.int (Int32.ofInt z)))) t := fun t ht hW => ⟨⟨some (.inl z), u, rfl, hq, by rw [ht]; exact hP, va_K.moved hW.alike hK, hD⟩, hS.F ht⟩
    rcases hk with hk | ⟨hk, hz⟩
    · have hret : ret = some .int := by rcases hrt with ⟨h1, h2⟩ | ⟨h1, h2⟩ | ⟨h1, h2⟩ | ⟨h1, h2⟩ <;> first | exact h2 | omega
      exact W.iret hx hb (hr.trans hret) post hS.2.2 hd
    · have hret : ret = some .boolean := by rcases hrt with ⟨h1, h2⟩ | ⟨h1, h2⟩ | ⟨h1, h2⟩ | ⟨h1, h2⟩ <;> first | exact h2 | omega
      exact W.zret hx hb (hr.trans hret) (zI_zbit hz) post hS.2.2 hd
  have rL' : ∀ pc L z u, decode bytes pc = .ok (.lreturn, 1) → rt = 2 → Q (some (.inr (.inl z))) u → Good p l e (rmOf lv) s m (as.map (conc a)).toArray below meth c 0 0 (MQ below (aQ D cA a Q A) (as.map (conc a)).toArray s 0 0 A) D cA a A s.heap maxL False pc L [.inr (.inl z)] u := by
    intro pc L z u hd hk hq H locs ls hP hD hS hl hL _
    have hret : ret = some .long := by rcases hrt with ⟨h1, h2⟩ | ⟨h1, h2⟩ | ⟨h1, h2⟩ | ⟨h1, h2⟩ <;> first | exact h2 | omega
    exact W.lret hx hb (hr.trans hret) (fun t ht hW => ⟨⟨some (.inr (.inl z)), u, rfl, hq, by rw [ht]; exact hP, va_K.moved hW.alike hK, hD⟩, hS.F ht⟩) hS.2.2 hd
  have rV' : ∀ pc L u, decode bytes pc = .ok (.return_, 1) → rt = 0 → Q none u → Good p l e (rmOf lv) s m (as.map (conc a)).toArray below meth c 0 0 (MQ below (aQ D cA a Q A) (as.map (conc a)).toArray s 0 0 A) D cA a A s.heap maxL False pc L [] u := by
    intro pc L u hd hk hq H locs ls hP hD hS hl hL _
    have hret : ret = none := by rcases hrt with ⟨h1, h2⟩ | ⟨h1, h2⟩ | ⟨h1, h2⟩ | ⟨h1, h2⟩ <;> first | exact h2 | omega
    exact W.vret hx hb (hr.trans hret) (fun t ht hW => ⟨⟨none, u, rfl, hq, by rw [ht]; exact hP, va_K.moved hW.alike hK, hD⟩, hS.F ht⟩) hS.2.2 hd
  have hcut := cut_ok (l := l) (e := e) (R := rmOf lv) (below := below) (meth := meth) (cells := 0) (slots := 0) (nL := maxL) (sc := False) hx hb hml hown hts' hK hA ⟨Nat.zero_le _, Nat.zero_le _⟩ hΦ hκ hΓ rI' rL' rV' hp hc
  exact wpN_ok hx hb hml hown hts' hK hA ⟨Nat.zero_le _, Nat.zero_le _⟩ hΦ hκ hΓ rI' rL' rV' hp (μ := none) (fun q hq L st σ ν _ h => hcut ν q hq L st σ h) n 0 _ [] σ h0 s.heap [] ls hP hD hS hl hL (fun z => z.elim)
