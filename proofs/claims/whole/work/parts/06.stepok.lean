/-! the small machine's step is the machine's -/
section SOUND2
variable {p : Program} {l : Launch} {e : Env} {R : Room} {s : State} {m : MethodId} {args : Array Value} {below : List Frame} {meth : Method} {c : Code} {cells slots : Nat} {Qf : State → Prop} {cc : ByteArray} {D : va_G} {cA : Nat → ClassId} {a : Nat → Nat} {A : Nat → Prop} {H0 : Heap} {own : String} {nL : Nat} {sc : Prop}
theorem aq_call {H : Heap} {locs : List Loc} {pc : Nat} {ls : Array Slot} {st0 rest : List Value} {Q : Option AV → St → Prop} {A1 : Nat → Prop} {az : Array Value} {free : Addr → Prop}
    (hr : va_Run p l e R s m args below meth c H locs cells slots 0 0 (F0 m pc ls st0) rest (aQ D cA a Q A1 az) free) (hS : va_S A H0 H locs) (hA : ∀ q, q < H.size → A1 q → A q) (hf : ∀ q, free q → A q)
    (kk : ∀ (r : Option AV) (u : St) (H1 : Heap) (locs1 : List Loc), Q r u → va_P D CL (wsOf cA a u) H1 → va_D A1 (wsOf cA a u) → va_S A H0 H1 locs1 → W p l e R s m args below meth c H1 locs1 cells slots Qf (F0 m (pc + 3) ls ((r.map (conc a)).toList ++ rest))) : W p l e R s m args below meth c H locs cells slots Qf (F0 m pc ls st0) := by
  intro T hT X
  obtain ⟨v, st₀, t, T', L, h0, X', hL, e1, e2, ⟨⟨r, u, hv, hq, hP, hK, hD⟩, hz, hk⟩, st⟩ := hr T hT X
  cases hv
  rw [h0] at hz hk
  obtain ⟨t2, a1, b1⟩ := kk r u T'.heap (locs ++ L) hq (by rw [e1]; exact hP) hD
    ⟨Nat.le_trans hS.1 (by rw [e1]; exact hz), fun q h1 h2 => by rw [e1, hk q (Nat.lt_of_lt_of_le h1 hS.1) (fun z => h2 (hA q (Nat.lt_of_lt_of_le h1 hS.1) z))]; exact hS.2.1 q h1 h2, fun q hq => by
      rcases List.mem_append.mp hq with h | h
      · exact hS.2.2 q h
      · exact hf _ (hL q h)⟩ T' rfl X'
  exact ⟨t2, st t2 a1, b1⟩
theorem ws_A {σ : St} {H : Heap} {locs : List Loc} (hD : va_D A (wsOf cA a σ)) (hS : va_S A H0 H locs) (hA : ∀ q, H0.size ≤ q → A q) : ∀ q, va_A (wsOf cA a σ) H.size q → A q := by
  intro q h
  rcases h with ⟨k, e, h⟩ | h
  · exact hD.2 k (q, e) h
  · exact hA q (Nat.le_trans hS.1 h)
theorem sw_inv {pc : Nat} {z : Int} {f : Nat → Prop} : ∀ (os : List Int) (lo : Int), sw pc z f os lo → lo ≤ z → z < lo + os.length → ∃ o, os[(z - lo).toNat]? = some o ∧ tgt pc o f
  | [], lo, _, h1, h2 => by simp at h2; omega
  | o :: os, lo, h, h1, h2 => by
    by_cases hz : z = lo
    · subst hz
      exact ⟨o, by simp, h.1 rfl⟩
    · obtain ⟨o', g1, g2⟩ := sw_inv os (lo + 1) h.2 (by omega) (by simp at h2; omega)
      refine ⟨o', ?_, g2⟩
      rw [show (z - lo).toNat = (z - (lo + 1)).toNat + 1 by omega, List.getElem?_cons_succ]
      exact g1
set_option maxHeartbeats 4000000 in
theorem stp_ok (hx : p.tables.exec = Jvm.exec) (hb : c.code = cc) (hml : c.maxLocals = nL) (hown : s.vm.findClass own = some m.cls) (hts : ∀ w ∈ TG, w.before args s = true) (hK : va_K D CL (tysOf cA) s) (hA : ∀ q, H0.size ≤ q → A q) (hcs : cells ≤ R.cells ∧ slots ≤ R.slots)
    {Φ : List (Nat × Nat × Nat)} {κ : List (Nat × Int)} {Γ : List (Nat × Nat × Nat × Spec)} {rt : Nat} {Q : Option AV → St → Prop} (hΦ : ∀ q ∈ Φ, FieldOK own q) (hκ : ∀ q ∈ κ, ConstOK own q) (hΓ : ∀ g ∈ Γ, CalleeOK l own R g)
    (hrI : ∀ pc L z σ, decode cc pc = .ok (.ireturn, 1) → (rt = 1 ∨ (rt = 3 ∧ (z = 0 ∨ z = 1))) → Q (some (.inl z)) σ → Good p l e R s m args below meth c cells slots Qf D cA a A H0 nL sc pc L [.inl z] σ)
    (hrL : ∀ pc L z σ, decode cc pc = .ok (.lreturn, 1) → rt = 2 → Q (some (.inr (.inl z))) σ → Good p l e R s m args below meth c cells slots Qf D cA a A H0 nL sc pc L [.inr (.inl z)] σ)
    (hrV : ∀ pc L σ, decode cc pc = .ok (.return_, 1) → rt = 0 → Q none σ → Good p l e R s m args below meth c cells slots Qf D cA a A H0 nL sc pc L [] σ)
    {J : Nat → List AV → List AV → St → Prop} (hJ : ∀ pc L st σ, J pc L st σ → Good p l e R s m args below meth c cells slots Qf D cA a A H0 nL sc pc L st σ)
    {pc : Nat} {o : Instr} {L st : List AV} {σ : St} {k : List AV → List AV → St → Prop} (hk : ∀ L st σ, k L st σ → Good p l e R s m args below meth c cells slots Qf D cA a A H0 nL sc (pc + ilen o) L st σ)
    {n : Nat} (hd : decode cc pc = .ok (o, n)) (hn : isSw o = true ∨ n = ilen o) (h : stp sc Φ κ Γ rt Q J pc o L st σ k) : Good p l e R s m args below meth c cells slots Qf D cA a A H0 nL sc pc L st σ := by
  have goJ : ∀ {off : Int} {L st : List AV} {σ : St}, (tgt pc off fun t => J t L st σ) → ∃ t : Nat, (pc : Int) + off = (t : Int) ∧ Good p l e R s m args below meth c cells slots Qf D cA a A H0 nL sc t L st σ := by
    intro off L st σ h
    exact ⟨((pc : Int) + off).toNat, by have := h.1; omega, hJ _ _ _ _ h.2⟩
  cases o
  case iload i =>
    have hn : n = 2 := by simpa [isSw, ilen] using hn
    subst hn
    obtain ⟨z, h1, h2⟩ := ldI_inv h
    intro H locs ls hP hD hS hl hL hsc
    refine lv_iload hx hb hd (lvl_at hl h1 (fun q => by cases q)) ?_
    exact hk _ _ _ h2 H locs ls hP hD hS hl hL hsc
  case iload_n i =>
    have hn : n = 1 := by simpa [isSw, ilen] using hn
    subst hn
    obtain ⟨z, h1, h2⟩ := ldI_inv h
    intro H locs ls hP hD hS hl hL hsc
    refine lv_iload_n hx hb hd rfl (lvl_at hl h1 (fun q => by cases q)) ?_
    exact hk _ _ _ h2 H locs ls hP hD hS hl hL hsc
  case lload i =>
    have hn : n = 2 := by simpa [isSw, ilen] using hn
    subst hn
    obtain ⟨z, h1, h2⟩ := ldL_inv h
    intro H locs ls hP hD hS hl hL hsc
    refine lv_lload hx hb hd (lvl_at hl h1 (fun q => by cases q)) ?_
    exact hk _ _ _ h2 H locs ls hP hD hS hl hL hsc
  case lload_n i =>
    have hn : n = 1 := by simpa [isSw, ilen] using hn
    subst hn
    obtain ⟨z, h1, h2⟩ := ldL_inv h
    intro H locs ls hP hD hS hl hL hsc
    refine lv_lload_n hx hb hd rfl (lvl_at hl h1 (fun q => by cases q)) ?_
    exact hk _ _ _ h2 H locs ls hP hD hS hl hL hsc
  case aload i =>
    have hn : n = 2 := by simpa [isSw, ilen] using hn
    subst hn
    obtain ⟨z, h1, h2⟩ := ldR_inv h
    intro H locs ls hP hD hS hl hL hsc
    refine lv_aload hx hb hd (lvl_at hl h1 (fun q => by cases q)) ?_
    exact hk _ _ _ h2 H locs ls hP hD hS hl hL hsc
  case aload_n i =>
    have hn : n = 1 := by simpa [isSw, ilen] using hn
    subst hn
    obtain ⟨z, h1, h2⟩ := ldR_inv h
    intro H locs ls hP hD hS hl hL hsc
    refine lv_aload_n hx hb hd rfl (lvl_at hl h1 (fun q => by cases q)) ?_
    exact hk _ _ _ h2 H locs ls hP hD hS hl hL hsc
  case istore i =>
    have hn : n = 2 := by simpa [isSw, ilen] using hn
    subst hn
    obtain ⟨z, r, rfl, h1, h2⟩ := popI_inv h
    intro H locs ls hP hD hS hl hL hsc
    refine lv_istore hx hb hd hl (by rw [← hL]; exact h1) rfl (fun ls' hl' => ?_)
    exact hk _ _ _ h2 H locs ls' hP hD hS (lvl_sto1 hl') (by rw [sto1_len]; exact hL) hsc
  case istore_n i =>
    have hn : n = 1 := by simpa [isSw, ilen] using hn
    subst hn
    obtain ⟨z, r, rfl, h1, h2⟩ := popI_inv h
    intro H locs ls hP hD hS hl hL hsc
    refine lv_istore_n hx hb hd rfl hl (by rw [← hL]; exact h1) rfl (fun ls' hl' => ?_)
    exact hk _ _ _ h2 H locs ls' hP hD hS (lvl_sto1 hl') (by rw [sto1_len]; exact hL) hsc
  case lstore i =>
    have hn : n = 2 := by simpa [isSw, ilen] using hn
    subst hn
    obtain ⟨z, r, rfl, h1, h2⟩ := popL_inv h
    intro H locs ls hP hD hS hl hL hsc
    refine lv_lstore hx hb hd hl (by rw [← hL]; exact h1) rfl (fun ls' hl' => ?_)
    exact hk _ _ _ h2 H locs ls' hP hD hS (lvl_sto2 hl') (by rw [sto2_len]; exact hL) hsc
  case lstore_n i =>
    have hn : n = 1 := by simpa [isSw, ilen] using hn
    subst hn
    obtain ⟨z, r, rfl, h1, h2⟩ := popL_inv h
    intro H locs ls hP hD hS hl hL hsc
    refine lv_lstore_n hx hb hd rfl hl (by rw [← hL]; exact h1) rfl (fun ls' hl' => ?_)
    exact hk _ _ _ h2 H locs ls' hP hD hS (lvl_sto2 hl') (by rw [sto2_len]; exact hL) hsc
  case astore i =>
    have hn : n = 2 := by simpa [isSw, ilen] using hn
    subst hn
    obtain ⟨z, r, rfl, h1, h2⟩ := popR_inv h
    intro H locs ls hP hD hS hl hL hsc
    refine lv_astore hx hb hd hl (by rw [← hL]; exact h1) rfl (fun ls' hl' => ?_)
    exact hk _ _ _ h2 H locs ls' hP hD hS (lvl_sto1 hl') (by rw [sto1_len]; exact hL) hsc
  case astore_n i =>
    have hn : n = 1 := by simpa [isSw, ilen] using hn
    subst hn
    obtain ⟨z, r, rfl, h1, h2⟩ := popR_inv h
    intro H locs ls hP hD hS hl hL hsc
    refine lv_astore_n hx hb hd rfl hl (by rw [← hL]; exact h1) rfl (fun ls' hl' => ?_)
    exact hk _ _ _ h2 H locs ls' hP hD hS (lvl_sto1 hl') (by rw [sto1_len]; exact hL) hsc
  case iconst z =>
    have hn : n = 1 := by simpa [isSw, ilen] using hn
    subst hn
    intro H locs ls hP hD hS hl hL hsc
    exact lv_iconst hx hb hd rfl (hk _ _ _ h H locs ls hP hD hS hl hL hsc)
  case bipush z =>
    have hn : n = 2 := by simpa [isSw, ilen] using hn
    subst hn
    intro H locs ls hP hD hS hl hL hsc
    exact lv_bipush hx hb hd (zI_byte h.1 h.2.1) (hk _ _ _ h.2.2 H locs ls hP hD hS hl hL hsc)
  case sipush z =>
    have hn : n = 3 := by simpa [isSw, ilen] using hn
    subst hn
    intro H locs ls hP hD hS hl hL hsc
    exact lv_sipush hx hb hd (zI_short h.1 h.2.1) (hk _ _ _ h.2.2 H locs ls hP hD hS hl hL hsc)
  case lconst z =>
    have hn : n = 1 := by simpa [isSw, ilen] using hn
    subst hn
    intro H locs ls hP hD hS hl hL hsc
    exact lv_lconst hx hb hd (Int64.ofInt_eq_ofNat).symm (hk _ _ _ h H locs ls hP hD hS hl hL hsc)
  case ldc i =>
    have hn : n = 2 := by simpa [isSw, ilen] using hn
    subst hn
    obtain ⟨h0, h⟩ := h
    obtain ⟨z, h1, h2⟩ := lk1_inv h
    intro H locs ls hP hD hS hl hL hsc
    exact lv_ldc hx hb hown (hts _ ((hκ _ h1).1 h0)) hd (hk _ _ _ h2 H locs ls hP hD hS hl hL hsc)
  case ldc_w i =>
    have hn : n = 3 := by simpa [isSw, ilen] using hn
    subst hn
    obtain ⟨h0, h⟩ := h
    obtain ⟨z, h1, h2⟩ := lk1_inv h
    intro H locs ls hP hD hS hl hL hsc
    exact lv_ldcw hx hb hown (hts _ ((hκ _ h1).1 h0)) hd (hk _ _ _ h2 H locs ls hP hD hS hl hL hsc)
  case ldc2_w i =>
    have hn : n = 3 := by simpa [isSw, ilen] using hn
    subst hn
    obtain ⟨z, h1, h2⟩ := lk1_inv h
    intro H locs ls hP hD hS hl hL hsc
    have hw := (hκ _ h1).2 (by omega)
    rw [Nat.add_sub_cancel] at hw
    exact lv_ldc2 hx hb hown (hts _ hw) hd (hk _ _ _ h2 H locs ls hP hD hS hl hL hsc)
  case iinc i z =>
    have hn : n = 3 := by simpa [isSw, ilen] using hn
    subst hn
    obtain ⟨x, h1, h2⟩ := ldI_inv h
    intro H locs ls hP hD hS hl hL hsc
    obtain ⟨q, hq⟩ := List.getElem?_of_mem (lvl_mem (a := a) (i := 0).mpr ⟨i, _, h1, (fun q => by cases q), rfl⟩)
    rw [Nat.zero_add] at hq
    exact lv_iinc hx hb hd hl hq (Int32.ofInt_add x z).symm (by rw [← hL]; exact (List.getElem?_eq_some_iff.mp h1).1) rfl (fun ls' hl' => hk _ _ _ h2 H locs ls' hP hD hS (lvl_sto1 (v := .inl (x + z)) hl') (by rw [sto1_len]; exact hL) hsc)
  case iadd =>
    have hn : n = 1 := by simpa [isSw, ilen] using hn
    subst hn
    obtain ⟨y, r, rfl, h⟩ := popI_inv h
    obtain ⟨x, r, rfl, h⟩ := popI_inv h
    intro H locs ls hP hD hS hl hL hsc
    refine lv_iadd hx hb hd ?_
    have g := hk _ _ _ h H locs ls hP hD hS hl hL hsc
    rw [List.map_cons, conc] at g
    rw [← Int32.ofInt_add]
    exact g
  case isub =>
    have hn : n = 1 := by simpa [isSw, ilen] using hn
    subst hn
    obtain ⟨y, r, rfl, h⟩ := popI_inv h
    obtain ⟨x, r, rfl, h⟩ := popI_inv h
    intro H locs ls hP hD hS hl hL hsc
    refine lv_isub hx hb hd ?_
    have g := hk _ _ _ h H locs ls hP hD hS hl hL hsc
    rw [List.map_cons, conc] at g
    rw [← Int32.ofInt_sub]
    exact g
  case imul =>
    have hn : n = 1 := by simpa [isSw, ilen] using hn
    subst hn
    obtain ⟨y, r, rfl, h⟩ := popI_inv h
    obtain ⟨x, r, rfl, h⟩ := popI_inv h
    intro H locs ls hP hD hS hl hL hsc
    refine lv_imul hx hb hd ?_
    have g := hk _ _ _ h H locs ls hP hD hS hl hL hsc
    rw [List.map_cons, conc] at g
    rw [← Int32.ofInt_mul]
    exact g
  case iand =>
    have hn : n = 1 := by simpa [isSw, ilen] using hn
    subst hn
    obtain ⟨y, r, rfl, h⟩ := popI_inv h
    obtain ⟨x, r, rfl, h⟩ := popI_inv h
    intro H locs ls hP hD hS hl hL hsc
    refine lv_iand hx hb hd ?_
    have g := hk _ _ _ h H locs ls hP hD hS hl hL hsc
    rw [List.map_cons, conc] at g
    rw [zI_and]
    exact g
  case ior =>
    have hn : n = 1 := by simpa [isSw, ilen] using hn
    subst hn
    obtain ⟨y, r, rfl, h⟩ := popI_inv h
    obtain ⟨x, r, rfl, h⟩ := popI_inv h
    intro H locs ls hP hD hS hl hL hsc
    refine lv_ior hx hb hd ?_
    have g := hk _ _ _ h H locs ls hP hD hS hl hL hsc
    rw [List.map_cons, conc] at g
    rw [zI_or]
    exact g
  case ixor =>
    have hn : n = 1 := by simpa [isSw, ilen] using hn
    subst hn
    obtain ⟨y, r, rfl, h⟩ := popI_inv h
    obtain ⟨x, r, rfl, h⟩ := popI_inv h
    intro H locs ls hP hD hS hl hL hsc
    refine lv_ixor hx hb hd ?_
    have g := hk _ _ _ h H locs ls hP hD hS hl hL hsc
    rw [List.map_cons, conc] at g
    rw [zI_xor]
    exact g
  case ladd =>
    have hn : n = 1 := by simpa [isSw, ilen] using hn
    subst hn
    obtain ⟨y, r, rfl, h⟩ := popL_inv h
    obtain ⟨x, r, rfl, h⟩ := popL_inv h
    intro H locs ls hP hD hS hl hL hsc
    refine lv_ladd hx hb hd ?_
    have g := hk _ _ _ h H locs ls hP hD hS hl hL hsc
    rw [List.map_cons, conc] at g
    rw [← Int64.ofInt_add]
    exact g
  case lsub =>
    have hn : n = 1 := by simpa [isSw, ilen] using hn
    subst hn
    obtain ⟨y, r, rfl, h⟩ := popL_inv h
    obtain ⟨x, r, rfl, h⟩ := popL_inv h
    intro H locs ls hP hD hS hl hL hsc
    refine lv_lsub hx hb hd ?_
    have g := hk _ _ _ h H locs ls hP hD hS hl hL hsc
    rw [List.map_cons, conc] at g
    rw [← Int64.ofInt_sub]
    exact g
  case lmul =>
    have hn : n = 1 := by simpa [isSw, ilen] using hn
    subst hn
    obtain ⟨y, r, rfl, h⟩ := popL_inv h
    obtain ⟨x, r, rfl, h⟩ := popL_inv h
    intro H locs ls hP hD hS hl hL hsc
    refine lv_lmul hx hb hd ?_
    have g := hk _ _ _ h H locs ls hP hD hS hl hL hsc
    rw [List.map_cons, conc] at g
    rw [← Int64.ofInt_mul]
    exact g
  case land =>
    have hn : n = 1 := by simpa [isSw, ilen] using hn
    subst hn
    obtain ⟨y, r, rfl, h⟩ := popL_inv h
    obtain ⟨x, r, rfl, h⟩ := popL_inv h
    intro H locs ls hP hD hS hl hL hsc
    refine lv_land hx hb hd ?_
    have g := hk _ _ _ h H locs ls hP hD hS hl hL hsc
    rw [List.map_cons, conc] at g
    rw [zL_and]
    exact g
  case lor =>
    have hn : n = 1 := by simpa [isSw, ilen] using hn
    subst hn
    obtain ⟨y, r, rfl, h⟩ := popL_inv h
    obtain ⟨x, r, rfl, h⟩ := popL_inv h
    intro H locs ls hP hD hS hl hL hsc
    refine lv_lor hx hb hd ?_
    have g := hk _ _ _ h H locs ls hP hD hS hl hL hsc
    rw [List.map_cons, conc] at g
    rw [zL_or]
    exact g
  case idiv =>
    have hn : n = 1 := by simpa [isSw, ilen] using hn
    subst hn
    obtain ⟨y, r, rfl, h⟩ := popI_inv h
    obtain ⟨x, r, rfl, h⟩ := popI_inv h
    intro H locs ls hP hD hS hl hL hsc
    obtain ⟨h1, h2, h3, h4, h5⟩ := h
    refine lv_idiv hx hb hd (by rw [zI_eq0 (by unfold rI; omega)]; omega) ?_
    have g := hk _ _ _ h5 H locs ls hP hD hS hl hL hsc
    rw [List.map_cons, conc] at g
    rw [zI_div h1 h2 h3 h4]
    exact g
  case irem =>
    have hn : n = 1 := by simpa [isSw, ilen] using hn
    subst hn
    obtain ⟨y, r, rfl, h⟩ := popI_inv h
    obtain ⟨x, r, rfl, h⟩ := popI_inv h
    intro H locs ls hP hD hS hl hL hsc
    obtain ⟨h1, h2, h3, h4, h5⟩ := h
    refine lv_irem hx hb hd (by rw [zI_eq0 (by unfold rI; omega)]; omega) ?_
    have g := hk _ _ _ h5 H locs ls hP hD hS hl hL hsc
    rw [List.map_cons, conc] at g
    rw [zI_rem h1 h2 h3 h4]
    exact g
  case ishl =>
    have hn : n = 1 := by simpa [isSw, ilen] using hn
    subst hn
    obtain ⟨y, r, rfl, h⟩ := popI_inv h
    obtain ⟨x, r, rfl, h⟩ := popI_inv h
    intro H locs ls hP hD hS hl hL hsc
    obtain ⟨h1, h2, h5⟩ := h
    refine lv_ishl hx hb hd ?_
    have g := hk _ _ _ h5 H locs ls hP hD hS hl hL hsc
    rw [List.map_cons, conc] at g
    rw [zI_shl h1 h2]
    exact g
  case ishr =>
    have hn : n = 1 := by simpa [isSw, ilen] using hn
    subst hn
    obtain ⟨y, r, rfl, h⟩ := popI_inv h
    obtain ⟨x, r, rfl, h⟩ := popI_inv h
    intro H locs ls hP hD hS hl hL hsc
    obtain ⟨h0, h1, h2, h5⟩ := h
    refine lv_ishr hx hb hd ?_
    have g := hk _ _ _ h5 H locs ls hP hD hS hl hL hsc
    rw [List.map_cons, conc] at g
    rw [zI_shr h0 h1 h2]
    exact g
  case iushr =>
    have hn : n = 1 := by simpa [isSw, ilen] using hn
    subst hn
    obtain ⟨y, r, rfl, h⟩ := popI_inv h
    obtain ⟨x, r, rfl, h1, h2, h5⟩ := popI_inv h
    intro H locs ls hP hD hS hl hL hsc
    exact lv_iushr hx hb hd (zI_ushr h1 h2) (hk _ _ _ h5 H locs ls hP hD hS hl hL hsc)
  case lshl =>
    have hn : n = 1 := by simpa [isSw, ilen] using hn
    subst hn
    obtain ⟨y, r, rfl, h⟩ := popI_inv h
    obtain ⟨x, r, rfl, h1, h2, h5⟩ := popL_inv h
    intro H locs ls hP hD hS hl hL hsc
    exact lv_lshl hx hb hd (zL_shl h1 h2) (hk _ _ _ h5 H locs ls hP hD hS hl hL hsc)
  case lshr =>
    have hn : n = 1 := by simpa [isSw, ilen] using hn
    subst hn
    obtain ⟨y, r, rfl, h⟩ := popI_inv h
    obtain ⟨x, r, rfl, h0, h1, h2, h5⟩ := popL_inv h
    intro H locs ls hP hD hS hl hL hsc
    exact lv_lshr hx hb hd (zL_shr h0 h1 h2) (hk _ _ _ h5 H locs ls hP hD hS hl hL hsc)
  case lushr =>
    have hn : n = 1 := by simpa [isSw, ilen] using hn
    subst hn
    obtain ⟨y, r, rfl, h⟩ := popI_inv h
    obtain ⟨x, r, rfl, h1, h2, h5⟩ := popL_inv h
    intro H locs ls hP hD hS hl hL hsc
    exact lv_lushr hx hb hd (zL_ushr h1 h2) (hk _ _ _ h5 H locs ls hP hD hS hl hL hsc)
  case ineg =>
    have hn : n = 1 := by simpa [isSw, ilen] using hn
    subst hn
    obtain ⟨x, r, rfl, h⟩ := popI_inv h
    intro H locs ls hP hD hS hl hL hsc
    refine lv_ineg hx hb hd ?_
    rw [← Int32.ofInt_neg]
    exact hk _ _ _ h H locs ls hP hD hS hl hL hsc
  case lcmp =>
    have hn : n = 1 := by simpa [isSw, ilen] using hn
    subst hn
    obtain ⟨y, r, rfl, h⟩ := popL_inv h
    obtain ⟨x, r, rfl, h1, h2, h5⟩ := popL_inv h
    intro H locs ls hP hD hS hl hL hsc
    refine W.lcmp hx hb hd ?_
    rw [zL_cmp h1 h2]
    exact hk _ _ _ h5 H locs ls hP hD hS hl hL hsc
  case i2l =>
    have hn : n = 1 := by simpa [isSw, ilen] using hn
    subst hn
    obtain ⟨x, r, rfl, h1, h5⟩ := popI_inv h
    intro H locs ls hP hD hS hl hL hsc
    exact lv_i2l hx hb hd (zI_l h1) (hk _ _ _ h5 H locs ls hP hD hS hl hL hsc)
  case l2i =>
    have hn : n = 1 := by simpa [isSw, ilen] using hn
    subst hn
    obtain ⟨x, r, rfl, h5⟩ := popL_inv h
    intro H locs ls hP hD hS hl hL hsc
    exact lv_l2i hx hb hd (zL_iw x) (hk _ _ _ h5 H locs ls hP hD hS hl hL hsc)
  case dup =>
    have hn : n = 1 := by simpa [isSw, ilen] using hn
    subst hn
    obtain ⟨v, r, rfl, h1, h5⟩ := popV_inv h
    intro H locs ls hP hD hS hl hL hsc
    exact lv_dup hx hb hd (by rw [conc_cat, h1]; rfl) (hk _ _ _ h5 H locs ls hP hD hS hl hL hsc)
  case pop =>
    have hn : n = 1 := by simpa [isSw, ilen] using hn
    subst hn
    obtain ⟨v, r, rfl, h1, h5⟩ := popV_inv h
    intro H locs ls hP hD hS hl hL hsc
    exact lv_pop hx hb hd (by rw [conc_cat, h1]; rfl) (hk _ _ _ h5 H locs ls hP hD hS hl hL hsc)
  case dup2 =>
    have hn : n = 1 := by simpa [isSw, ilen] using hn
    subst hn
    obtain ⟨v, r, rfl, h⟩ := popV_inv h
    obtain ⟨w, r, rfl, h1, h2, h5⟩ := popV_inv h
    intro H locs ls hP hD hS hl hL hsc
    exact lv_dup2_11 hx hb hd (by rw [conc_cat, h1]; rfl) (by rw [conc_cat, h2]; rfl) (hk _ _ _ h5 H locs ls hP hD hS hl hL hsc)
  case getfield x =>
    have hn : n = 3 := by simpa [isSw, ilen] using hn
    subst hn
    obtain ⟨i, r, rfl, h⟩ := popR_inv h
    obtain ⟨⟨ci, kf⟩, h1, h⟩ := lk1_inv h
    obtain ⟨fs, t, h2, h3, h5⟩ := oF_inv h
    obtain ⟨C, T, N, ty, f1, f2, f3, f4, f5, f6, f7, f8, f9⟩ := hΦ _ h1
    intro H locs ls hP hD hS hl hL hsc
    refine va_get (v := fV a (σ i) kf t) (ref := C) (Ts := TG) hx hb hts f5 hown hK hP i (wsOf_get h2) f1 kf f2 (hts _ f4) (by rw [f3]; exact fun _ q => q) (by rw [List.getElem?_mapIdx, h3]; rfl) hd ?_
    have g := hk _ _ _ h5 H locs ls hP hD hS hl hL hsc
    rw [List.map_cons] at g
    cases t with
    | none => exact g
    | some t => exact g
  case putfield x =>
    have hn : n = 3 := by simpa [isSw, ilen] using hn
    subst hn
    obtain ⟨z, r, rfl, h⟩ := popI_inv h
    obtain ⟨i, r, rfl, h⟩ := popR_inv h
    obtain ⟨⟨ci, kf⟩, h1, h⟩ := lk1_inv h
    obtain ⟨fs, t, h2, h3, h4, h5⟩ := oF_inv h
    subst h4
    obtain ⟨C, T, N, ty, f1, f2, f3, f4, f5, f6, f7, f8, f9⟩ := hΦ _ h1
    have f10 : ty kf = .int := f9.resolve_right (fun q => q i fs h2 h3)
    intro H locs ls hP hD hS hl hL hsc
    refine va_put (ref := C) (Ts := TG) (ty := .int) hx hb hts f5 ty f6 f7 hown hK hP hD hS i (wsOf_get h2) f1 kf f2 (hts _ f4) (by rw [f3]; exact fun _ q => q) (f8 f10) (by rw [f6 kf f2, f10]) rfl rfl (by rw [List.length_mapIdx]; exact (List.getElem?_eq_some_iff.mp h3).1) hd (fun H1 locs1 hP1 hD1 hS1 => ?_)
    have ew := wsOf_set (cA := cA) (a := a) (σ := σ) h2 (cell_put (cA := cA) (a := a) (f := σ i) (z := z) h3)
    have hP1 : va_P D CL (wsOf cA a (updR σ i (up1 (σ i) kf z))) H1 := by rw [← ew]; exact hP1
    have hD1 : va_D A (wsOf cA a (updR σ i (up1 (σ i) kf z))) := by rw [← ew]; exact hD1
    exact hk _ _ _ h5 H1 locs1 ls hP1 hD1 hS1 hl hL (Scr_upd hsc h2)
  case iaload =>
    have hn : n = 1 := by simpa [isSw, ilen] using hn
    subst hn
    obtain ⟨j, r, rfl, h⟩ := popI_inv h
    obtain ⟨i, r, rfl, hq⟩ := popR_inv h
    split at hq
    · next hi =>
      subst hi
      obtain ⟨h1, h3, h4, h5⟩ := hq
      intro H locs ls hP hD hS hl hL hsc
      obtain ⟨x1, x2, x3, x4, x5⟩ := hsc h1
      refine va_sld hx hb x1 x2 x3 hS (zI_in h3 (by omega) (by omega)) hd ?_
      rw [zI_clamp h3 (by omega)]
      exact hk _ _ _ h5 H locs ls hP hD hS hl hL hsc
    · obtain ⟨n, h2, h3, h4, h5⟩ := aF_inv hq
      intro H locs ls hP hD hS hl hL hsc
      have hle := SH_le h2
      refine va_iald hx hb hK hP i 0 (wsOf_get h2) rfl (zI_in h3 h4 hle) hd ?_
      rw [zI_clamp h3 (by omega)]
      exact hk _ _ _ h5 H locs ls hP hD hS hl hL hsc
  case laload =>
    have hn : n = 1 := by simpa [isSw, ilen] using hn
    subst hn
    obtain ⟨j, r, rfl, h⟩ := popI_inv h
    obtain ⟨i, r, rfl, h⟩ := popR_inv h
    obtain ⟨n, h2, h3, h4, h5⟩ := aF_inv h
    intro H locs ls hP hD hS hl hL hsc
    have hle := SH_le h2
    refine va_lald hx hb hK hP i 1 (wsOf_get h2) rfl (zI_in h3 h4 hle) hd ?_
    rw [zI_clamp h3 (by omega)]
    exact hk _ _ _ h5 H locs ls hP hD hS hl hL hsc
  case baload =>
    have hn : n = 1 := by simpa [isSw, ilen] using hn
    subst hn
    obtain ⟨j, r, rfl, h⟩ := popI_inv h
    obtain ⟨i, r, rfl, h⟩ := popR_inv h
    obtain ⟨n, h2, h3, h4, h5⟩ := aF_inv h
    intro H locs ls hP hD hS hl hL hsc
    have hle := SH_le h2
    refine va_zald hx hb hK hP i 2 (wsOf_get h2) rfl (zI_in h3 h4 hle) hd ?_
    rw [zI_clamp h3 (by omega)]
    exact hk _ _ _ h5 H locs ls hP hD hS hl hL hsc
  case iastore =>
    have hn : n = 1 := by simpa [isSw, ilen] using hn
    subst hn
    obtain ⟨z, r, rfl, h⟩ := popI_inv h
    obtain ⟨j, r, rfl, h⟩ := popI_inv h
    obtain ⟨i, r, rfl, h⟩ := popR_inv h
    obtain ⟨n, h2, h3, h4, h5⟩ := aF_inv h
    intro H locs ls hP hD hS hl hL hsc
    have hle := SH_le h2
    refine va_iast hx hb hK hP hD hS i 0 (wsOf_get h2) rfl (zI_in h3 h4 hle) hd (fun H1 locs1 hP1 hD1 hS1 => ?_)
    rw [zI_clamp h3 (by omega), ← up1_I] at hP1 hD1
    have ew := wsOf_set (cA := cA) (a := a) (σ := σ) (f := up1 (σ i) j.toNat z) h2 rfl
    have hP1 : va_P D CL (wsOf cA a (updR σ i (up1 (σ i) j.toNat z))) H1 := by rw [← ew]; exact hP1
    have hD1 : va_D A (wsOf cA a (updR σ i (up1 (σ i) j.toNat z))) := by rw [← ew]; exact hD1
    exact hk _ _ _ h5 H1 locs1 ls hP1 hD1 hS1 hl hL (Scr_upd hsc h2)
  case lastore =>
    have hn : n = 1 := by simpa [isSw, ilen] using hn
    subst hn
    obtain ⟨z, r, rfl, h⟩ := popL_inv h
    obtain ⟨j, r, rfl, h⟩ := popI_inv h
    obtain ⟨i, r, rfl, h⟩ := popR_inv h
    obtain ⟨n, h2, h3, h4, h5⟩ := aF_inv h
    intro H locs ls hP hD hS hl hL hsc
    have hle := SH_le h2
    refine va_last hx hb hK hP hD hS i 1 (wsOf_get h2) rfl (zI_in h3 h4 hle) hd (fun H1 locs1 hP1 hD1 hS1 => ?_)
    rw [zI_clamp h3 (by omega), ← up1_L] at hP1 hD1
    have ew := wsOf_set (cA := cA) (a := a) (σ := σ) (f := up1 (σ i) j.toNat z) h2 rfl
    have hP1 : va_P D CL (wsOf cA a (updR σ i (up1 (σ i) j.toNat z))) H1 := by rw [← ew]; exact hP1
    have hD1 : va_D A (wsOf cA a (updR σ i (up1 (σ i) j.toNat z))) := by rw [← ew]; exact hD1
    exact hk _ _ _ h5 H1 locs1 ls hP1 hD1 hS1 hl hL (Scr_upd hsc h2)
  case bastore =>
    have hn : n = 1 := by simpa [isSw, ilen] using hn
    subst hn
    obtain ⟨z, r, rfl, h⟩ := popI_inv h
    obtain ⟨j, r, rfl, h⟩ := popI_inv h
    obtain ⟨i, r, rfl, h⟩ := popR_inv h
    obtain ⟨n, h2, h3, h4, h6, h5⟩ := aF_inv h
    intro H locs ls hP hD hS hl hL hsc
    have hle := SH_le h2
    refine va_zast hx hb hK hP hD hS i 2 (wsOf_get h2) rfl (zI_in h3 h4 hle) hd (fun H1 locs1 hP1 hD1 hS1 => ?_)
    rw [zI_clamp h3 (by omega), zI_vbit h6, ← up1_I] at hP1 hD1
    have ew := wsOf_set (cA := cA) (a := a) (σ := σ) (f := up1 (σ i) j.toNat z) h2 rfl
    have hP1 : va_P D CL (wsOf cA a (updR σ i (up1 (σ i) j.toNat z))) H1 := by rw [← ew]; exact hP1
    have hD1 : va_D A (wsOf cA a (updR σ i (up1 (σ i) j.toNat z))) := by rw [← ew]; exact hD1
    exact hk _ _ _ h5 H1 locs1 ls hP1 hD1 hS1 hl hL (Scr_upd hsc h2)
  case arraylength =>
    have hn : n = 1 := by simpa [isSw, ilen] using hn
    subst hn
    obtain ⟨i, r, rfl, hq⟩ := popR_inv h
    split at hq
    · next hi =>
      subst hi
      obtain ⟨h1, h5⟩ := hq
      intro H locs ls hP hD hS hl hL hsc
      obtain ⟨x1, x2, x3, x4, x5⟩ := hsc h1
      refine va_slen hx hb x1 x2 x3 hS hd ?_
      rw [← Int32.ofInt_eq_ofNat, Int.toNat_of_nonneg x4]
      exact hk _ _ _ h5 H locs ls hP hD hS hl hL hsc
    · obtain ⟨kd, n, h2, h3, h5⟩ := aN_inv hq
      intro H locs ls hP hD hS hl hL hsc
      have g := hk _ _ _ h5 H locs ls hP hD hS hl hL hsc
      rcases h3 with rfl | rfl | rfl
      · exact va_alen hx hb hK hP i 0 (wsOf_get h2) (ty := .int) rfl (Int32.ofInt_eq_ofNat).symm hd g
      · exact va_alen hx hb hK hP i 1 (wsOf_get h2) (ty := .long) rfl (Int32.ofInt_eq_ofNat).symm hd g
      · exact va_alen hx hb hK hP i 2 (wsOf_get h2) (ty := .boolean) rfl (Int32.ofInt_eq_ofNat).symm hd g
  case goto off =>
    have hn : n = 3 := by simpa [isSw, ilen] using hn
    subst hn
    obtain ⟨t, h1, h2⟩ := goJ h
    intro H locs ls hP hD hS hl hL hsc
    exact lv_goto hx hb hd h1 (h2 H locs ls hP hD hS hl hL hsc)
  case ifCond cond off =>
    have hn : n = 3 := by simpa [isSw, ilen] using hn
    subst hn
    have e1 : (pc : Int) + off = (((pc : Int) + off).toNat : Int) := by have := h.1; omega
    obtain ⟨z, r, rfl, h1, h2⟩ := popI_inv h.2
    intro H locs ls hP hD hS hl hL hsc
    cases cond with
    | eq =>
      refine lv_if_eq hx hb hd e1 (fun q => hJ _ _ _ _ (h2.1 ?_) H locs ls hP hD hS hl hL hsc) (fun q => hk _ _ _ (h2.2 ?_) H locs ls hP hD hS hl hL hsc)
      · simp only [zI_eq0 h1, zI_lt0 h1, zI_0le h1, zI_0lt h1, zI_le0 h1, ge_iff_le, gt_iff_lt] at q; omega
      · simp only [zI_eq0 h1, zI_lt0 h1, zI_0le h1, zI_0lt h1, zI_le0 h1, ge_iff_le, gt_iff_lt] at q; omega
    | ne =>
      refine lv_if_ne hx hb hd e1 (fun q => hJ _ _ _ _ (h2.1 ?_) H locs ls hP hD hS hl hL hsc) (fun q => hk _ _ _ (h2.2 ?_) H locs ls hP hD hS hl hL hsc)
      · simp only [zI_eq0 h1, zI_lt0 h1, zI_0le h1, zI_0lt h1, zI_le0 h1, ge_iff_le, gt_iff_lt] at q; omega
      · simp only [zI_eq0 h1, zI_lt0 h1, zI_0le h1, zI_0lt h1, zI_le0 h1, ge_iff_le, gt_iff_lt] at q; omega
    | lt =>
      refine lv_if_lt hx hb hd e1 (fun q => hJ _ _ _ _ (h2.1 ?_) H locs ls hP hD hS hl hL hsc) (fun q => hk _ _ _ (h2.2 ?_) H locs ls hP hD hS hl hL hsc)
      · simp only [zI_eq0 h1, zI_lt0 h1, zI_0le h1, zI_0lt h1, zI_le0 h1, ge_iff_le, gt_iff_lt] at q; omega
      · simp only [zI_eq0 h1, zI_lt0 h1, zI_0le h1, zI_0lt h1, zI_le0 h1, ge_iff_le, gt_iff_lt] at q; omega
    | ge =>
      refine lv_if_ge hx hb hd e1 (fun q => hJ _ _ _ _ (h2.1 ?_) H locs ls hP hD hS hl hL hsc) (fun q => hk _ _ _ (h2.2 ?_) H locs ls hP hD hS hl hL hsc)
      · simp only [zI_eq0 h1, zI_lt0 h1, zI_0le h1, zI_0lt h1, zI_le0 h1, ge_iff_le, gt_iff_lt] at q; omega
      · simp only [zI_eq0 h1, zI_lt0 h1, zI_0le h1, zI_0lt h1, zI_le0 h1, ge_iff_le, gt_iff_lt] at q; omega
    | gt =>
      refine lv_if_gt hx hb hd e1 (fun q => hJ _ _ _ _ (h2.1 ?_) H locs ls hP hD hS hl hL hsc) (fun q => hk _ _ _ (h2.2 ?_) H locs ls hP hD hS hl hL hsc)
      · simp only [zI_eq0 h1, zI_lt0 h1, zI_0le h1, zI_0lt h1, zI_le0 h1, ge_iff_le, gt_iff_lt] at q; omega
      · simp only [zI_eq0 h1, zI_lt0 h1, zI_0le h1, zI_0lt h1, zI_le0 h1, ge_iff_le, gt_iff_lt] at q; omega
    | le =>
      refine lv_if_le hx hb hd e1 (fun q => hJ _ _ _ _ (h2.1 ?_) H locs ls hP hD hS hl hL hsc) (fun q => hk _ _ _ (h2.2 ?_) H locs ls hP hD hS hl hL hsc)
      · simp only [zI_eq0 h1, zI_lt0 h1, zI_0le h1, zI_0lt h1, zI_le0 h1, ge_iff_le, gt_iff_lt] at q; omega
      · simp only [zI_eq0 h1, zI_lt0 h1, zI_0le h1, zI_0lt h1, zI_le0 h1, ge_iff_le, gt_iff_lt] at q; omega
  case if_icmp cond off =>
    have hn : n = 3 := by simpa [isSw, ilen] using hn
    subst hn
    have e1 : (pc : Int) + off = (((pc : Int) + off).toNat : Int) := by have := h.1; omega
    obtain ⟨y, r, rfl, hq⟩ := popI_inv h.2
    obtain ⟨x, r, rfl, h1, h0, h2⟩ := popI_inv hq
    intro H locs ls hP hD hS hl hL hsc
    cases cond with
    | eq =>
      refine lv_icmp_eq hx hb hd e1 (fun q => hJ _ _ _ _ (h2.1 ?_) H locs ls hP hD hS hl hL hsc) (fun q => hk _ _ _ (h2.2 ?_) H locs ls hP hD hS hl hL hsc)
      · simp only [zI_eq h1 h0, zI_lt h1 h0, zI_lt h0 h1, zI_le h1 h0, zI_le h0 h1, ge_iff_le, gt_iff_lt] at q; omega
      · simp only [zI_eq h1 h0, zI_lt h1 h0, zI_lt h0 h1, zI_le h1 h0, zI_le h0 h1, ge_iff_le, gt_iff_lt] at q; omega
    | ne =>
      refine lv_icmp_ne hx hb hd e1 (fun q => hJ _ _ _ _ (h2.1 ?_) H locs ls hP hD hS hl hL hsc) (fun q => hk _ _ _ (h2.2 ?_) H locs ls hP hD hS hl hL hsc)
      · simp only [zI_eq h1 h0, zI_lt h1 h0, zI_lt h0 h1, zI_le h1 h0, zI_le h0 h1, ge_iff_le, gt_iff_lt] at q; omega
      · simp only [zI_eq h1 h0, zI_lt h1 h0, zI_lt h0 h1, zI_le h1 h0, zI_le h0 h1, ge_iff_le, gt_iff_lt] at q; omega
    | lt =>
      refine lv_icmp_lt hx hb hd e1 (fun q => hJ _ _ _ _ (h2.1 ?_) H locs ls hP hD hS hl hL hsc) (fun q => hk _ _ _ (h2.2 ?_) H locs ls hP hD hS hl hL hsc)
      · simp only [zI_eq h1 h0, zI_lt h1 h0, zI_lt h0 h1, zI_le h1 h0, zI_le h0 h1, ge_iff_le, gt_iff_lt] at q; omega
      · simp only [zI_eq h1 h0, zI_lt h1 h0, zI_lt h0 h1, zI_le h1 h0, zI_le h0 h1, ge_iff_le, gt_iff_lt] at q; omega
    | ge =>
      refine lv_icmp_ge hx hb hd e1 (fun q => hJ _ _ _ _ (h2.1 ?_) H locs ls hP hD hS hl hL hsc) (fun q => hk _ _ _ (h2.2 ?_) H locs ls hP hD hS hl hL hsc)
      · simp only [zI_eq h1 h0, zI_lt h1 h0, zI_lt h0 h1, zI_le h1 h0, zI_le h0 h1, ge_iff_le, gt_iff_lt] at q; omega
      · simp only [zI_eq h1 h0, zI_lt h1 h0, zI_lt h0 h1, zI_le h1 h0, zI_le h0 h1, ge_iff_le, gt_iff_lt] at q; omega
    | gt =>
      refine lv_icmp_gt hx hb hd e1 (fun q => hJ _ _ _ _ (h2.1 ?_) H locs ls hP hD hS hl hL hsc) (fun q => hk _ _ _ (h2.2 ?_) H locs ls hP hD hS hl hL hsc)
      · simp only [zI_eq h1 h0, zI_lt h1 h0, zI_lt h0 h1, zI_le h1 h0, zI_le h0 h1, ge_iff_le, gt_iff_lt] at q; omega
      · simp only [zI_eq h1 h0, zI_lt h1 h0, zI_lt h0 h1, zI_le h1 h0, zI_le h0 h1, ge_iff_le, gt_iff_lt] at q; omega
    | le =>
      refine lv_icmp_le hx hb hd e1 (fun q => hJ _ _ _ _ (h2.1 ?_) H locs ls hP hD hS hl hL hsc) (fun q => hk _ _ _ (h2.2 ?_) H locs ls hP hD hS hl hL hsc)
      · simp only [zI_eq h1 h0, zI_lt h1 h0, zI_lt h0 h1, zI_le h1 h0, zI_le h0 h1, ge_iff_le, gt_iff_lt] at q; omega
      · simp only [zI_eq h1 h0, zI_lt h1 h0, zI_lt h0 h1, zI_le h1 h0, zI_le h0 h1, ge_iff_le, gt_iff_lt] at q; omega
  case tableswitch d lo hi offs =>
    obtain ⟨z, r, rfl, h1, h2, h3, h4⟩ := popI_inv h
    intro H locs ls hP hD hS hl hL hsc
    by_cases hz : z < lo ∨ hi < z
    · obtain ⟨t, e1, e2⟩ := goJ (h3 hz)
      exact lv_tableOut hx hb hd (by rw [zI_toInt h1]; exact hz) e1 (e2 H locs ls hP hD hS hl hL hsc)
    · obtain ⟨o, g1, g2⟩ := sw_inv _ _ h4 (by omega) (by simp; omega)
      obtain ⟨t, e1, e2⟩ := goJ g2
      refine lv_tableIn hx hb hd (by rw [zI_toInt h1]; omega) (by rw [zI_toInt h1]; omega) (off := o) ?_ e1 (e2 H locs ls hP hD hS hl hL hsc)
      rw [zI_toInt h1, ← Array.getElem?_toList]
      exact g1
  case ireturn =>
    have hn : n = 1 := by simpa [isSw, ilen] using hn
    subst hn
    obtain ⟨z, r, rfl, h1, h2, h3⟩ := popI_inv h
    subst h1
    exact hrI _ _ _ _ hd h2 h3
  case lreturn =>
    have hn : n = 1 := by simpa [isSw, ilen] using hn
    subst hn
    obtain ⟨z, r, rfl, h1, h2, h3⟩ := popL_inv h
    subst h1
    exact hrL _ _ _ _ hd h2 h3
  case return_ =>
    have hn : n = 1 := by simpa [isSw, ilen] using hn
    subst hn
    obtain ⟨h1, h2, h3⟩ := h
    subst h1
    exact hrV _ _ _ hd h2 h3
  case invokestatic x =>
    have hn : n = 3 := by simpa [isSw, ilen] using hn
    subst hn
    obtain ⟨g, h1, hq⟩ := lk1_inv h
    split at hq
    · next hg =>
      obtain ⟨n, r, rfl, hq1⟩ := popI_inv hq
      obtain ⟨dp, r, rfl, hq2⟩ := popI_inv hq1
      obtain ⟨d, r, rfl, hq3⟩ := popR_inv hq2
      obtain ⟨sp, r, rfl, hq4⟩ := popI_inv hq3
      obtain ⟨q, r, rfl, hq5⟩ := popR_inv hq4
      obtain ⟨nq, k1, hq6⟩ := aF_inv hq5
      obtain ⟨nd, k2, k3, k4, k5, k6, k7, k8, k9⟩ := aF_inv hq6
      have g1 := (hΓ _ h1).resolve_right (fun q => q.1 hg)
      intro H locs ls hP hD hS hl hL hsc
      have l1 := SH_le k1
      have l2 := SH_le k2
      have i0 := zI_0le (x := n) (by unfold rI; omega)
      refine va_copyi hx hb (by rw [hml, hl.1]) hown (hts _ g1.2.1) (hts _ tbl_native.1) (hts _ tbl_native.2.1) (hts _ tbl_native.2.2) hK hP hD hS q d 0 0 (wsOf_get k1) (wsOf_get k2) (ty := .int) rfl rfl rfl (by rw [zI_lt0 (by unfold rI; omega)]; omega) (by rw [zI_lt0 (by unfold rI; omega)]; omega) (by rw [zI_lt0 (by unfold rI; omega)]; omega) (by rw [zI_clamp k6 (by omega), zI_clamp k4 (by omega)]; omega) (by rw [zI_clamp k5 (by omega), zI_clamp k4 (by omega)]; omega) (fun _ _ => rfl) g1.2.2.1 ?_ hd (fun H1 locs1 hP1 hD1 hS1 => ?_)
      · rw [catS_eq]
        have := g1.2.2.2
        have e : nativeFrameWords "java/lang/System" "arraycopy" 5 = 7 := by decide +kernel
        omega
      · rw [zI_clamp k6 (by omega), zI_clamp k5 (by omega), zI_clamp k4 (by omega), ← cpy_I] at hP1 hD1
        have ew := wsOf_set (cA := cA) (a := a) (σ := σ) (f := va_cpy (σ q) (σ d) sp.toNat dp.toNat n.toNat) k2 rfl
        have hP1 : va_P D CL (wsOf cA a (updR σ d (va_cpy (σ q) (σ d) sp.toNat dp.toNat n.toNat))) H1 := by rw [← ew]; exact hP1
        have hD1 : va_D A (wsOf cA a (updR σ d (va_cpy (σ q) (σ d) sp.toNat dp.toNat n.toNat))) := by rw [← ew]; exact hD1
        exact hk _ _ _ k9 H1 locs1 ls hP1 hD1 hS1 hl hL (Scr_upd hsc k2)
    · next hg =>
      obtain ⟨bs, r, rfl, hn, h0, h2, h3⟩ := popN_inv _ _ _ _ hq
      rw [List.append_nil] at h3
      obtain ⟨-, y, bytes, maxL, ret, lv, k1, k2, k3, k4, k5, k6, k7⟩ := (hΓ _ h1).resolve_left (fun q => hg q.1)
      have k7 := k7.resolve_right (fun q => by have := q.1; dsimp only at this; omega)
      intro H locs ls hP hD hS hl hL hsc
      have hrun := va_runS (l := l) (p := p) (e := e) (R := R) (below := below) (meth := meth) (H := H) (locs := locs) (cells := cells) (slots := slots) (g := F0 m pc ls ((bs.reverse ++ r).map (conc a))) (As := bs.map (conc a)) (rest := r.map (conc a)) (Ts := TG) ⟨hx, hb, hml, hown, hts⟩ (k1 D cA a H.size σ bs _ h3)
        ⟨callB_of (own := own) (index := x) g.2.1 hts (fun w hw => (List.mem_cons.mp hw).elim (fun q => q ▸ ⟨k4, tg_good _ k4⟩) (fun q => ⟨q, tg_good _ q⟩)) rfl rfl rfl (hts _ k5) (hts _ k3) k6 k2, hts _ k7.2⟩
        ⟨fun _ U g mk q => ⟨q.1, q.2.1, q.2.2.1, va_K.moved (u := U) (U := U.calling g mk _) (Vm.Alike.refl U.vm) q.2.2.2.1, q.2.2.2.2⟩,  fun U hU hW => ⟨by simp [conc], by rw [hU], by rw [hU]; exact hP, va_K.moved hW.alike hK, ⟨hD.1, fun _ _ _ => trivial⟩⟩⟩
        rfl (by rw [List.length_map]; exact hn) hl.1 (by simp) (by rw [catS_eq]; show 2 * 0 + _ ≤ 8; omega) hd hcs
      have hA1 := ws_A hD hS hA
      refine aq_call hrun hS (fun q _ h9 => hA1 q h9) hA1 (fun r' u H1 locs1 hq hP1 hD1 hS1 => ?_)
      have g := hk _ _ _ hq.2 H1 locs1 ls hP1 (hD1.weaken (fun _ q _ h9 => hA1 q.1 h9)) hS1 hl hL (fun z => by rw [(hq.1 z).1, (hq.1 z).2]; exact hsc z)
      cases r' with
      | none => exact g
      | some v => exact g
  case invokevirtual x =>
    have hn : n = 3 := by simpa [isSw, ilen] using hn
    subst hn
    obtain ⟨g, h1, hq⟩ := lk1_inv h
    obtain ⟨bs, r, rfl, hn, hq⟩ := popN_inv _ _ _ _ hq
    rw [List.append_nil] at hq
    obtain ⟨i, r, rfl, h0, h01, h2, h3⟩ := popR_inv hq
    obtain ⟨fs, hsh⟩ := oC_inv h01
    have hg : g.1 ≠ 1000 := by
      intro q
      rw [q] at hsh
      have := (by decide +kernel : SH.all (fun x => match x with | .inl (c, _) => decide (c < 10) | _ => true) = true)
      have := List.all_eq_true.mp this _ (List.mem_of_getElem? hsh)
      simp at this
    obtain ⟨-, y, bytes, maxL, ret, lv, k1, k2, k3, k4, k5, k6, k7⟩ := (hΓ _ h1).resolve_left (fun q => hg q.1)
    obtain ⟨-, k7, k8, T, N, k9⟩ := k7.resolve_left (fun q => by have := q.1; dsimp only at this; omega)
    intro H locs ls hP hD hS hl hL hsc
    have hrecv : ∃ cellB : Cell, H[a i]? = some cellB ∧ cellB.vm.isStatics = false ∧ s.vm.findClass y.cls = some cellB.cls := by
      obtain ⟨r9, e1, cell, q1, q2, q3, q4⟩ := hP i _ (wsOf_get hsh)
      have hr9 : r9 = (y.cls, T, N) := Option.some.inj (e1.symm.trans k9)
      subst hr9
      obtain ⟨hS9, hfc, kC, hkC, hkind⟩ := hK.1 _ _ k9
      exact ⟨cell, q1, by rw [q3]; rfl, by rw [q2]; exact hfc⟩
    have hrun := va_runV (l := l) (p := p) (e := e) (R := R) (below := below) (meth := meth) (H := H) (locs := locs) (cells := cells) (slots := slots) (g := F0 m pc ls ((bs.reverse ++ .inr (.inr (some i)) :: r).map (conc a))) (b := a i) (C := y.cls) (As := bs.map (conc a)) (rest := r.map (conc a)) (Ts := TG) ⟨hx, hb, hml, hown, hts⟩ (k1 D cA a H.size σ _ _ h3)
      ⟨callB_of (own := own) (index := x) g.2.1 hts (fun w hw => (List.mem_cons.mp hw).elim (fun q => q ▸ ⟨k4, tg_good _ k4⟩) (fun q => ⟨q, tg_good _ q⟩)) rfl rfl rfl (hts _ k5) (hts _ k3) k6 k2, hts _ k7, hts _ k8⟩
      ⟨fun _ U g mk q => ⟨q.1, q.2.1, q.2.2.1, va_K.moved (u := U) (U := U.calling g mk _) (Vm.Alike.refl U.vm) q.2.2.2.1, q.2.2.2.2⟩, hrecv, fun U hU hW => ⟨by simp [conc], by rw [hU], by rw [hU]; exact hP, va_K.moved hW.alike hK, ⟨hD.1, fun _ _ _ => trivial⟩⟩⟩
      rfl (by rw [List.length_map]; exact hn) hl.1 (by simp [conc]) (by rw [catS_eq]; show 2 * 0 + _ ≤ 8; omega) hd hcs
    have hA1 := ws_A hD hS hA
    refine aq_call hrun hS (fun q _ h9 => hA1 q h9) hA1 (fun r' u H1 locs1 hq hP1 hD1 hS1 => ?_)
    have g := hk _ _ _ hq.2 H1 locs1 ls hP1 (hD1.weaken (fun _ q _ h9 => hA1 q.1 h9)) hS1 hl hL (fun z => by rw [(hq.1 z).1, (hq.1 z).2]; exact hsc z)
    cases r' with
    | none => exact g
    | some v => exact g
  all_goals exact h.elim
end SOUND2
