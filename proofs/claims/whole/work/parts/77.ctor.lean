/-! constructors: rows for the three things that they do -/
theorem oi_tg : Jvm.Cond.instanceMethod Lib.objectInit ∈ TG := tg_in 68 (by decide +kernel) (by decide +kernel)
theorem oi_code : Jvm.Cond.code Lib.objectInit ⟨#[0xb1]⟩ 1 none ∈ TG := tg_in 69 (by decide +kernel) (by decide +kernel)
/-- a constructor: out of a new object comes a world -/
def NwL (ns : List (String × Nat × MethodName)) (U : State) : Prop := ∀ n ∈ ns, va_Nw (.methodLinkNest n.1 n.2.1 n.2.2 "EvenWire") U
theorem NwL.call {ns : List (String × Nat × MethodName)} {U V : State} (h : NwL ns U) (e : U.vm = V.vm) : NwL ns V := fun n hn => va_Nw.same rfl e (h n hn)
theorem NwL.warm {ns : List (String × Nat × MethodName)} {s U : State} (h : NwL ns s) (hW : s.WarmedH U.vm) : NwL ns U := fun n hn => va_Nw.warmM hW (h n hn)
def Ct (l : Launch) (y : MethodName) (bytes : ByteArray) (lv mc ms : Nat) (ci : Nat) (fs : List Value) (ns : List (String × Nat × MethodName)) (B : (Nat → ClassId) → Nat → va_W → Prop) : Prop :=
  ∀ (D : va_G) (cA : Nat → ClassId) (h sz : Nat), Met l y (Jvm.Cond.code y bytes 1 none :: TG) ({ frames := lv, cells := mc, slots := ms, locals := 36 * lv }) (va_Pc [.ref h] (fun U => U.heap.size = sz ∧ va_P D CL [(h, .inr (ci, fs))] U.heap ∧ va_K D CL (tysOf cA) U ∧ va_D (fun _ => True) [(h, .inr (ci, fs))] ∧ NwL ns U)) (va_Qv (B cA h) (fun w t => va_P D CL w t.heap ∧ va_K D CL (tysOf cA) t ∧ va_D (va_A [(h, .inr (ci, fs))] sz) w) (va_A [(h, .inr (ci, fs))] sz)) mc ms (va_A [(h, .inr (ci, fs))] sz)
section CTOR
variable {p : Program} {l : Launch} {e : Env} {R : Room} {s : State} {m : MethodId} {args : Array Value} {below : List Frame} {meth : Method} {c : Code} {cells slots : Nat} {Q : State → Prop} {cc : ByteArray} {D : va_G} {cA : Nat → ClassId} {A : Nat → Prop} {H0 H : Heap} {locs : List Loc} {own : String} {nL pc h : Nat} {ls : Array Slot} {rest : List Value} {ws : va_W}
def En (p : Program) (s : State) (m : MethodId) (args : Array Value) (c : Code) (cc : ByteArray) (D : va_G) (cA : Nat → ClassId) (A : Nat → Prop) (H0 : Heap) (own : String) (nL : Nat) : Prop :=
  p.tables.exec = Jvm.exec ∧ c.code = cc ∧ c.maxLocals = nL ∧ s.vm.findClass own = some m.cls ∧ (∀ w ∈ TG, w.before args s = true) ∧ va_K D CL (tysOf cA) s ∧ ∀ q : Nat, H0.size ≤ q → A q
def Wd (D : va_G) (A : Nat → Prop) (H0 : Heap) (ws : va_W) (H : Heap) (locs : List Loc) : Prop := va_P D CL ws H ∧ va_D A ws ∧ va_S A H0 H locs
theorem cn_put (E : En p s m args c cc D cA A H0 own nL) {ci : Nat} {fs : List Value} (hW : Wd D A H0 ((h, .inr (ci, fs)) :: ws) H locs) {C : String} {T : u_T} {N k idx : Nat} {ty0 : Nat → FieldType} (hc : CL[ci]? = some (C, T, N)) (hin : ∀ w ∈ u_ws C T N, w ∈ TG) (hty : ∀ k, k < N → parseFieldDescriptor (T k).2.2.1 = some (ty0 k)) (hnm : ∀ a, a < N → ∀ b, b < N → a ≠ b → (T a).2.1 ≠ (T b).2.1)
    (hk : k < N) (hC : (T k).1 = C) (hlink : Jvm.Cond.fieldLink own idx C (T k).2.1 (T k).2.2.1 ∈ TG) (hfin : (T k).2.2.2 = false ∨ ((T k).2.2.2 = true ∧ meth.name = "<init>" ∧ C = own)) {v : Value} (hn : narrow (ty0 k) v = v) (hfit : fits (ty0 k) v = true) {fs' : List Value} (hl : k < fs.length) (he : fs.set k v = fs')
    (dg : decode cc pc = .ok (.putfield idx, 3))
    (kk : ∀ (H1 : Heap) (locs1 : List Loc), Wd D A H0 ((h, .inr (ci, fs')) :: ws) H1 locs1 → W p l e R s m args below meth c H1 locs1 cells slots Q (F0 m (pc + 3) ls rest)) : W p l e R s m args below meth c H locs cells slots Q (F0 m pc ls (v :: .ref h :: rest)) := by
  obtain ⟨hx, hb, hml, hown, hts, hK, hA⟩ := E
  obtain ⟨hP, hD, hS⟩ := hW
  subst he
  have hsame : ∀ x, s.fieldFound? (T k).1 (T k).2.1 (T k).2.2.1 = some x → s.fieldFound? C (T k).2.1 (T k).2.2.1 = some x := fun x hx => by rw [← hC]; exact hx
  rcases hfin with hf | ⟨hf, hi, ho⟩
  · exact va_put hx hb hts hin ty0 hty hnm hown hK hP hD hS 0 rfl hc k hk (hts _ hlink) hsame hf (hty k hk) hn hfit hl dg (fun H1 locs1 a1 a2 a3 => kk H1 locs1 ⟨a1, a2, a3⟩)
  · exact va_putF hx hb hts hin ty0 hty hnm hown hK hP hD hS 0 rfl hc k hk (hts _ hlink) hsame hf hi (hC.trans ho) (hty k hk) hn hfit hl dg (fun H1 locs1 a1 a2 a3 => kk H1 locs1 ⟨a1, a2, a3⟩)
theorem cn_newa (E : En p s m args c cc D cA A H0 own nL) {atype : ArrayType} {ty : FieldType} {k : Nat} (hty : newarray.typeOf atype = ty) (harr : Jvm.Cond.arrayClass (newarray.typeOf atype) ∈ TG) (hk : (tysOf cA)[k]? = some (cA k, ty)) (hra : ∀ (U : State) (z : ClassId), va_RA U z ty → U.vm.findClass ("[" ++ ty.toString) = some z)
    {n : Int32} {N' : Nat} {a0 : vp_A} (ha : ∀ z : ClassId, vp_cell z a0 = arrV z N' (fun _ => defaultValue ty)) (hn : ¬ n < 0) (hN : n.toNatClampNeg = N') (hbytes : N' * componentBytes ty ≤ 536870912) (hcells : cells + 1 ≤ R.cells) (hslots : slots + N' ≤ R.slots)
    (hW : Wd D A H0 ws H locs) (dg : decode cc pc = .ok (.newarray atype, 2))
    (kk : ∀ (q : Nat) (H1 : Heap), Wd D A H0 (ws ++ [(q, .inl (cA k, a0))]) H1 locs → W p l e R s m args below meth c H1 locs (cells + 1) (slots + N') Q (F0 m (pc + 2) ls (.ref q :: rest))) : W p l e R s m args below meth c H locs cells slots Q (F0 m pc ls (.int n :: rest)) := by
  obtain ⟨hx, hb, hml, hown, hts, hK, hA⟩ := E
  obtain ⟨hP, hD, hS⟩ := hW
  refine va_newa hx hb (hts _ harr) hty hK hP hD hS hA ha hn hN hbytes hcells hslots dg (fun q z H1 hK1 hP1 hD1 hS1 => ?_)
  have h1 := hra _ _ (hK1.2 3 (z, ty) rfl).2
  have h2 := hra _ _ (hK.2 k _ hk).2
  have e : z = cA k := Option.some.inj (h1.symm.trans h2)
  subst e
  exact kk q H1 ⟨hP1, hD1, hS1⟩
theorem cn_init (E : En p s m args c cc D cA A H0 own 1) {idx a : Nat} (hlink : Jvm.Cond.methodLink own idx Lib.objectInit ∈ TG) (hR : 1 ≤ R.frames ∧ 12 ≤ R.locals) (hsz : ls.size = 1) (dg : decode cc pc = .ok (.invokespecial idx, 3))
    (kk : W p l e R s m args below meth c H locs cells slots Q (F0 m (pc + 3) ls [])) : W p l e R s m args below meth c H locs cells slots Q (F0 m pc ls [.ref a]) := by
  obtain ⟨hx, hb, hml, hown, hts, hK, hA⟩ := E
  refine W.objInit hx hb hown (hts _ hlink) (hts _ oi_tg) (hts _ oi_code) rfl (by rw [hml]; exact hsz) rfl dg hR.1 (by show 2 * 0 + 0 + 12 ≤ R.locals; omega) ?_
  exact W.eq (g2 := F0 m (pc + 3) ls []) rfl kk
/-- behind a call on the world's last cell -/
theorem join_last {A0 : Nat → Prop} {H1 : Heap} {x : Nat × va_E} {w1 : va_W} (hP : va_P D CL (ws ++ [x]) H) (hD : va_D A0 (ws ++ [x])) (hk : ∀ q : Nat, q < H.size → ¬ va_A [x] H.size q → H1[q]? = H[q]?) (hF : ∀ q, va_A [x] H.size q → A0 q) (hP1 : va_P D CL w1 H1) (hD1 : va_D (va_A [x] H.size) w1) : va_P D CL (ws ++ w1) H1 ∧ va_D A0 (ws ++ w1) := by
  have at1 : ∀ (k : Nat) (q : Nat × va_E), ws[k]? = some q → (ws ++ [x])[k]? = some q := fun k q hq => by
    rw [List.getElem?_append_left (List.getElem?_eq_some_iff.mp hq).1]
    exact hq
  have atx : (ws ++ [x])[ws.length]? = some x := by simp
  have apart : ∀ (k : Nat) (q : Nat × va_E), ws[k]? = some q → q.1 < H.size ∧ ¬ va_A [x] H.size q.1 := by
    intro k q hq
    have hl := (hP k q (at1 k q hq)).lt
    refine ⟨hl, fun h => ?_⟩
    rcases h with ⟨j, z, h⟩ | h
    · have hj : j < 1 := (List.getElem?_eq_some_iff.mp h).1
      rw [show j = 0 by omega] at h
      have h2 : x = (q.1, z) := Option.some.inj h
      have h3 := hD.1 k ws.length q x (at1 k q hq) atx (by rw [h2])
      have h4 := (List.getElem?_eq_some_iff.mp hq).1
      omega
    · omega
  refine ⟨va_P.app (fun k q hq => (hP k q (at1 k q hq)).kept (hk _ (apart k q hq).1 (apart k q hq).2)) hP1, va_D.app ⟨fun i j u v hu hv => hD.1 i j u v (at1 i u hu) (at1 j v hv), fun k q hq => hD.2 k q (at1 k q hq)⟩ (hD1.weaken (fun k q hq h => hF _ h)) (fun i j u v hu hv h => ?_)⟩
  exact (apart i u hu).2 (by rw [h]; exact hD1.2 j v hv)
theorem cn_make (E : En p s m args c cc D cA A H0 own nL) {C : String} {T : u_T} {N ci i1 i2 : Nat} {ty0 : Nat → FieldType} (hc : CL[ci]? = some (C, T, N)) (hin : ∀ w ∈ u_ws C T N, w ∈ TG) (hty : ∀ k, k < N → parseFieldDescriptor (T k).2.2.1 = some (ty0 k)) {fs : List Value} (hfs : ∀ j, j < N → defaultValue (ty0 j) = vp_V fs j)
    (h1 : Jvm.Cond.classLink own i1 C ∈ TG) (h2 : Jvm.Cond.instantiable C N ∈ TG) (h3 : Jvm.Cond.initialized C ∈ TG) {y : MethodName} {bytes : ByteArray} {lv mc ms : Nat} {B : (Nat → ClassId) → Nat → va_W → Prop} {ns : List (String × Nat × MethodName)} (hM : Ct l y bytes lv mc ms ci fs ns B) (hns : NwL ns s) (hyc : y.cls = C) (hyn : y.name = "<init>") (h4 : Jvm.Cond.methodLink own i2 y ∈ TG) (h5 : Jvm.Cond.instanceMethod y ∈ TG) (h6 : Jvm.Cond.code y bytes 1 none ∈ TG)
    (hpar : y.cls ≠ "java/lang/invoke/MethodHandle" ∧ y.cls ≠ "java/lang/invoke/VarHandle" ∧ (parseMethodDescriptor y.desc).map (fun d => d.parameters.length) = some 0) (hR : lv + 1 ≤ R.frames ∧ 8 + (1 + 11) + 36 * lv ≤ R.locals)
    (hcat : (((Value.ref 0 : Value) :: rest).map fun v => v.category).sum ≤ 8) (hcells : cells + 1 + mc ≤ R.cells) (hslots : slots + N + ms ≤ R.slots) (hsz : ls.size = nL)
    (hW : Wd D A H0 ws H locs) (d1 : decode cc pc = .ok (.new i1, 3)) (d2 : decode cc (pc + 3) = .ok (.dup, 1)) (d3 : decode cc (pc + 4) = .ok (.invokespecial i2, 3))
    (kk : ∀ (q : Nat) (w1 : va_W) (H1 : Heap) (locs1 : List Loc), B cA q w1 → Wd D A H0 (ws ++ w1) H1 locs1 → W p l e R s m args below meth c H1 locs1 (cells + 1 + mc) (slots + N + ms) Q (F0 m (pc + 7) ls (.ref q :: rest))) : W p l e R s m args below meth c H locs cells slots Q (F0 m pc ls rest) := by
  obtain ⟨hx, hb, hml, hown, hts, hK, hA⟩ := E
  obtain ⟨hP, hD, hS⟩ := hW
  refine va_new (ci := ci) (fs := fs) hx hb hts hin ty0 hty hown (hts _ h1) (hts _ h2) (hts _ h3) hK hP hD hS hA hc hfs (by omega) (by omega) d1 (fun q H hP hD hS => ?_)
  refine lv_dup hx hb d2 rfl ?_
  have hPc : va_P D CL [(q, .inr (ci, fs))] H := hP.sub [ws.length] (by simp)
  have hDc : va_D A [(q, .inr (ci, fs))] := hD.sub [ws.length] rfl (by simp)
  have hFc := va_free (wc := [(q, .inr (ci, fs))]) hD hS hA [ws.length] (by simp)
  refine va_callv (va_runI (As := []) (rest := .ref q :: rest) ⟨hx, hb, hml, hown, hts⟩ (hM D cA q H.size) (cwI 0 hts (fun w hw => (List.mem_cons.mp hw).elim (fun q => q ▸ ⟨h6, tg_good _ h6⟩) (fun q => ⟨q, tg_good _ q⟩)) rfl rfl rfl (hts _ (by rw [hyc]; exact h3)) (hts _ h4) (hts _ h5) hyn hpar hR)
    ⟨fun a U g mk q => by obtain ⟨q0, q1, qP, qK, qD, qN⟩ := q; exact ⟨q0, q1, qP, va_K.moved (u := U) (U := U.calling g mk a) (Vm.Alike.refl U.vm) qK, qD, qN.call rfl⟩, fun U hU hW => ⟨rfl, by rw [hU], by rw [hU]; exact hPc, va_K.moved hW.alike hK, hDc.weaken (fun _ _ _ _ => trivial), hns.warm hW⟩⟩ rfl rfl hsz rfl (lv_room hcat) d3 ⟨hcells, hslots⟩) hS (fun q _ h => hFc q h) hFc (fun u t H1 locs1 ht hvm hw hB hz1 hk1 hS => ?_)
  obtain ⟨hP1, hK1, hD1⟩ := hB
  rw [ht] at hP1
  obtain ⟨hP2, hD2⟩ := join_last hP hD hk1 hFc hP1 hD1
  exact kk q u H1 locs1 hw ⟨hP2, hD2, hS⟩
theorem cn_makeN (E : En p s m args c cc D cA A H0 own nL) {C : String} {T : u_T} {N ci i1 i2 : Nat} {ty0 : Nat → FieldType} (hc : CL[ci]? = some (C, T, N)) (hin : ∀ w ∈ u_ws C T N, w ∈ TG) (hty : ∀ k, k < N → parseFieldDescriptor (T k).2.2.1 = some (ty0 k)) {fs : List Value} (hfs : ∀ j, j < N → defaultValue (ty0 j) = vp_V fs j)
    (h1 : Jvm.Cond.classLink own i1 C ∈ TG) (h2 : Jvm.Cond.instantiable C N ∈ TG) (h3 : Jvm.Cond.initialized C ∈ TG) {y : MethodName} {bytes : ByteArray} {lv mc ms : Nat} {B : (Nat → ClassId) → Nat → va_W → Prop} {ns : List (String × Nat × MethodName)} (hM : Ct l y bytes lv mc ms ci fs ns B) (hns : NwL ns s) (hyc : y.cls = C) (hyn : y.name = "<init>") (h4 : va_Nw (.methodLinkNest own i2 y "EvenWire") s) (h5 : Jvm.Cond.instanceMethod y ∈ TG) (h6 : Jvm.Cond.code y bytes 1 none ∈ TG)
    (hpar : y.cls ≠ "java/lang/invoke/MethodHandle" ∧ y.cls ≠ "java/lang/invoke/VarHandle" ∧ (parseMethodDescriptor y.desc).map (fun d => d.parameters.length) = some 0) (hR : lv + 1 ≤ R.frames ∧ 8 + (1 + 11) + 36 * lv ≤ R.locals)
    (hcat : (((Value.ref 0 : Value) :: rest).map fun v => v.category).sum ≤ 8) (hcells : cells + 1 + mc ≤ R.cells) (hslots : slots + N + ms ≤ R.slots) (hsz : ls.size = nL)
    (hW : Wd D A H0 ws H locs) (d1 : decode cc pc = .ok (.new i1, 3)) (d2 : decode cc (pc + 3) = .ok (.dup, 1)) (d3 : decode cc (pc + 4) = .ok (.invokespecial i2, 3))
    (kk : ∀ (q : Nat) (w1 : va_W) (H1 : Heap) (locs1 : List Loc), B cA q w1 → Wd D A H0 (ws ++ w1) H1 locs1 → W p l e R s m args below meth c H1 locs1 (cells + 1 + mc) (slots + N + ms) Q (F0 m (pc + 7) ls (.ref q :: rest))) : W p l e R s m args below meth c H locs cells slots Q (F0 m pc ls rest) := by
  obtain ⟨hx, hb, hml, hown, hts, hK, hA⟩ := E
  obtain ⟨hP, hD, hS⟩ := hW
  refine va_new (ci := ci) (fs := fs) hx hb hts hin ty0 hty hown (hts _ h1) (hts _ h2) (hts _ h3) hK hP hD hS hA hc hfs (by omega) (by omega) d1 (fun q H hP hD hS => ?_)
  refine lv_dup hx hb d2 rfl ?_
  have hPc : va_P D CL [(q, .inr (ci, fs))] H := hP.sub [ws.length] (by simp)
  have hDc : va_D A [(q, .inr (ci, fs))] := hD.sub [ws.length] rfl (by simp)
  have hFc := va_free (wc := [(q, .inr (ci, fs))]) hD hS hA [ws.length] (by simp)
  refine va_callv (va_runIN (As := []) (rest := .ref q :: rest) ⟨hx, hb, hml, hown, hts⟩ (hM D cA q H.size) ⟨va_cnB 0 hts (fun w hw => (List.mem_cons.mp hw).elim (fun q => q ▸ ⟨h6, tg_good _ h6⟩) (fun q => ⟨q, tg_good _ q⟩)) rfl rfl rfl h4 (hts _ (by rw [hyc]; exact h3)) hpar hR, hyn, hts _ h5⟩
    ⟨fun a U g mk q => by obtain ⟨q0, q1, qP, qK, qD, qN⟩ := q; exact ⟨q0, q1, qP, va_K.moved (u := U) (U := U.calling g mk a) (Vm.Alike.refl U.vm) qK, qD, qN.call rfl⟩, fun U hU hW => ⟨rfl, by rw [hU], by rw [hU]; exact hPc, va_K.moved hW.alike hK, hDc.weaken (fun _ _ _ _ => trivial), hns.warm hW⟩⟩ rfl rfl hsz rfl (lv_room hcat) d3 ⟨hcells, hslots⟩) hS (fun q _ h => hFc q h) hFc (fun u t H1 locs1 ht hvm hw hB hz1 hk1 hS => ?_)
  obtain ⟨hP1, hK1, hD1⟩ := hB
  rw [ht] at hP1
  obtain ⟨hP2, hD2⟩ := join_last hP hD hk1 hFc hP1 hD1
  exact kk q u H1 locs1 hw ⟨hP2, hD2, hS⟩
end CTOR
def yI_T : MethodName := ⟨RX1, "<init>", "()V"⟩
abbrev bI_T : ByteArray := prog_3_method_1_code
theorem dI_T_0 : decode bI_T 0 = .ok (.aload_n 0, 1) := by decide +kernel
theorem dI_T_1 : decode bI_T 1 = .ok (.invokespecial 3, 3) := by decide +kernel
theorem dI_T_4 : decode bI_T 4 = .ok (.aload_n 0, 1) := by decide +kernel
theorem dI_T_5 : decode bI_T 5 = .ok (.sipush 600, 3) := by decide +kernel
theorem dI_T_8 : decode bI_T 8 = .ok (.newarray .int, 2) := by decide +kernel
theorem dI_T_10 : decode bI_T 10 = .ok (.putfield 9, 3) := by decide +kernel
theorem dI_T_13 : decode bI_T 13 = .ok (.aload_n 0, 1) := by decide +kernel
theorem dI_T_14 : decode bI_T 14 = .ok (.iconst 0, 1) := by decide +kernel
theorem dI_T_15 : decode bI_T 15 = .ok (.putfield 15, 3) := by decide +kernel
theorem dI_T_18 : decode bI_T 18 = .ok (.return_, 1) := by decide +kernel
theorem df_T : ∀ j, j < 2 → defaultValue (tyX1 j) = vp_V [.null, .int (Int32.ofInt 0)] j := fun j hj => match j, hj with
  | 0, _ => rfl
  | 1, _ => rfl
  | j + 2, hj => absurd hj (by omega)
def WI_T (cA : Nat → ClassId) (h : Nat) (w : va_W) : Prop := ∃ q1 : Nat, w = [(h, .inr (1, [.ref q1, .int (Int32.ofInt 0)])), (q1, .inl (cA 0, 600, .inl (fun _ => Int32.ofInt 0)))]
set_option maxHeartbeats 4000000 in
set_option maxRecDepth 100000 in
theorem ct_T {l : Launch} : Ct l yI_T bI_T 1 1 600 1 [.null, .int (Int32.ofInt 0)] [] WI_T := by
  intro D cA h sz
  refine Met.ofW (cc := bI_T) (maxL := 1) (ret := none) (by decide) rfl ?_
  intro p e s m args below meth c s₁ B hml hv
  obtain ⟨rfl, hsz, hP, hK, hD0, hNw⟩ := hv
  have hx := B.exec
  have hb := B.bytes
  have hr := B.returns
  have hts0 := atoms_spec (ws := Jvm.Cond.code yI_T bI_T 1 none :: TG) B.pre
  have hown : s.vm.findClass RX1 = some m.cls := findClass_of_methodNamed B.named
  have hlocks := B.notSynchronized
  have hin : meth.name = "<init>" := (name_of_methodNamed B.named B.method).1
  subst hsz
  have hD := hD0.self (sz := s.heap.size)
  generalize hAe : va_A [(h, .inr (1, [.null, .int (Int32.ofInt 0)]))] s.heap.size = A at hD ⊢
  have hA : ∀ q : Nat, s.heap.size ≤ q → A q := fun q h => by rw [← hAe]; exact Or.inr h
  have hS : va_S A s.heap s.heap [] := va_S.rf
  have hl := lv_entry ([.ref h]) (n := 1) (Nat.le_of_ble_eq_true rfl)
  rw [lg_entry_eq]
  generalize (lg_sl ([.ref h]) ++ List.replicate (1 - (lg_sl ([.ref h])).length) Slot.unset).toArray = ls at hl ⊢
  have hl : lv_has ls 1 [(0, .ref h)] := hl
  have hts : ∀ w ∈ TG, w.before ([Value.ref h]).toArray s = true := fun w hw => hts0 w (List.mem_cons_of_mem _ hw)
  have En0 : En p s m ([Value.ref h]).toArray c bI_T D cA A s.heap RX1 1 := ⟨hx, hb, hml, hown, hts, hK, hA⟩
  have hW : Wd D A s.heap [(h, .inr (1, [.null, .int (Int32.ofInt 0)]))] s.heap [] := ⟨hP, hD, hS⟩
  refine lv_aload_n hx hb dI_T_0 rfl (lv_at hl 0 rfl) ?_
  refine cn_init En0 (tg_in 211 (by decide +kernel) (by decide +kernel)) ⟨Nat.le_of_ble_eq_true rfl, Nat.le_of_ble_eq_true rfl⟩ hl.1 dI_T_1 ?_
  refine lv_aload_n hx hb dI_T_4 rfl (lv_at hl 0 rfl) ?_
  refine lv_sipush (v := Int32.ofInt 600) hx hb dI_T_5 (by decide +kernel) ?_
  refine cn_newa (k := 0) (ty := .int) (atype := .int) (N' := 600) (a0 := (600, .inl (fun _ => Int32.ofInt 0))) En0 rfl (tg_in 95 (by decide +kernel) (by decide +kernel)) rfl (fun _ _ h => h) (fun _ => rfl) (by decide +kernel) (by decide +kernel) (Nat.le_of_ble_eq_true rfl) (Nat.le_of_ble_eq_true rfl) (Nat.le_of_ble_eq_true rfl) hW dI_T_8 (fun q1 H hW => ?_)
  refine cn_put (ty0 := tyX1) (k := 0) (C := RX1) (T := TX1) (N := 2) (ci := 1) (fs := [.null, .int (Int32.ofInt 0)]) (fs' := [.ref q1, .int (Int32.ofInt 0)]) En0 hW rfl in_T tyX1_ok nmX1 (Nat.le_of_ble_eq_true rfl) rfl (tg_in 212 (by decide +kernel) (by decide +kernel)) (Or.inr ⟨rfl, hin, rfl⟩) rfl rfl (Nat.le_of_ble_eq_true rfl) rfl dI_T_10 (fun H locs hW => ?_)
  refine lv_aload_n hx hb dI_T_13 rfl (lv_at hl 0 rfl) ?_
  refine lv_iconst (v := Int32.ofInt 0) hx hb dI_T_14 (by decide +kernel) ?_
  refine cn_put (ty0 := tyX1) (k := 1) (C := RX1) (T := TX1) (N := 2) (ci := 1) (fs := [.ref q1, .int (Int32.ofInt 0)]) (fs' := [.ref q1, .int (Int32.ofInt 0)]) En0 hW rfl in_T tyX1_ok nmX1 (Nat.le_of_ble_eq_true rfl) rfl (tg_in 213 (by decide +kernel) (by decide +kernel)) (Or.inl rfl) rfl rfl (Nat.le_of_ble_eq_true rfl) rfl dI_T_15 (fun H locs hW => ?_)
  obtain ⟨hP, hD, hS⟩ := hW
  try simp only [List.append_eq, List.nil_append, List.cons_append, List.append_assoc] at hP hD
  refine W.widen (k := 1) (n := 600) (Nat.le_of_ble_eq_true rfl) (Nat.le_of_ble_eq_true rfl) ?_
  exact W.vret hx hb hr (fun t ht hW => ⟨⟨_, rfl, ⟨q1, rfl⟩, by rw [ht]; exact hP, va_K.moved hW.alike hK, hD⟩, hS.F ht⟩) hS.2.2 dI_T_18
def yI_L : MethodName := ⟨RX3, "<init>", "()V"⟩
abbrev bI_L : ByteArray := prog_5_method_1_code
theorem dI_L_0 : decode bI_L 0 = .ok (.aload_n 0, 1) := by decide +kernel
theorem dI_L_1 : decode bI_L 1 = .ok (.invokespecial 3, 3) := by decide +kernel
theorem dI_L_4 : decode bI_L 4 = .ok (.aload_n 0, 1) := by decide +kernel
theorem dI_L_5 : decode bI_L 5 = .ok (.sipush 6100, 3) := by decide +kernel
theorem dI_L_8 : decode bI_L 8 = .ok (.newarray .long, 2) := by decide +kernel
theorem dI_L_10 : decode bI_L 10 = .ok (.putfield 11, 3) := by decide +kernel
theorem dI_L_13 : decode bI_L 13 = .ok (.return_, 1) := by decide +kernel
theorem df_L : ∀ j, j < 1 → defaultValue (tyX3 j) = vp_V [.null] j := fun j hj => match j, hj with
  | 0, _ => rfl
  | j + 1, hj => absurd hj (by omega)
def WI_L (cA : Nat → ClassId) (h : Nat) (w : va_W) : Prop := ∃ q1 : Nat, w = [(h, .inr (3, [.ref q1])), (q1, .inl (cA 1, 6100, .inr (.inl (fun _ => Int64.ofInt 0))))]
set_option maxHeartbeats 4000000 in
set_option maxRecDepth 100000 in
theorem ct_L {l : Launch} : Ct l yI_L bI_L 1 1 6100 3 [.null] [] WI_L := by
  intro D cA h sz
  refine Met.ofW (cc := bI_L) (maxL := 1) (ret := none) (by decide) rfl ?_
  intro p e s m args below meth c s₁ B hml hv
  obtain ⟨rfl, hsz, hP, hK, hD0, hNw⟩ := hv
  have hx := B.exec
  have hb := B.bytes
  have hr := B.returns
  have hts0 := atoms_spec (ws := Jvm.Cond.code yI_L bI_L 1 none :: TG) B.pre
  have hown : s.vm.findClass RX3 = some m.cls := findClass_of_methodNamed B.named
  have hlocks := B.notSynchronized
  have hin : meth.name = "<init>" := (name_of_methodNamed B.named B.method).1
  subst hsz
  have hD := hD0.self (sz := s.heap.size)
  generalize hAe : va_A [(h, .inr (3, [.null]))] s.heap.size = A at hD ⊢
  have hA : ∀ q : Nat, s.heap.size ≤ q → A q := fun q h => by rw [← hAe]; exact Or.inr h
  have hS : va_S A s.heap s.heap [] := va_S.rf
  have hl := lv_entry ([.ref h]) (n := 1) (Nat.le_of_ble_eq_true rfl)
  rw [lg_entry_eq]
  generalize (lg_sl ([.ref h]) ++ List.replicate (1 - (lg_sl ([.ref h])).length) Slot.unset).toArray = ls at hl ⊢
  have hl : lv_has ls 1 [(0, .ref h)] := hl
  have hts : ∀ w ∈ TG, w.before ([Value.ref h]).toArray s = true := fun w hw => hts0 w (List.mem_cons_of_mem _ hw)
  have En0 : En p s m ([Value.ref h]).toArray c bI_L D cA A s.heap RX3 1 := ⟨hx, hb, hml, hown, hts, hK, hA⟩
  have hW : Wd D A s.heap [(h, .inr (3, [.null]))] s.heap [] := ⟨hP, hD, hS⟩
  refine lv_aload_n hx hb dI_L_0 rfl (lv_at hl 0 rfl) ?_
  refine cn_init En0 (tg_in 157 (by decide +kernel) (by decide +kernel)) ⟨Nat.le_of_ble_eq_true rfl, Nat.le_of_ble_eq_true rfl⟩ hl.1 dI_L_1 ?_
  refine lv_aload_n hx hb dI_L_4 rfl (lv_at hl 0 rfl) ?_
  refine lv_sipush (v := Int32.ofInt 6100) hx hb dI_L_5 (by decide +kernel) ?_
  refine cn_newa (k := 1) (ty := .long) (atype := .long) (N' := 6100) (a0 := (6100, .inr (.inl (fun _ => Int64.ofInt 0)))) En0 rfl (tg_in 162 (by decide +kernel) (by decide +kernel)) rfl (fun _ _ h => h) (fun _ => rfl) (by decide +kernel) (by decide +kernel) (Nat.le_of_ble_eq_true rfl) (Nat.le_of_ble_eq_true rfl) (Nat.le_of_ble_eq_true rfl) hW dI_L_8 (fun q1 H hW => ?_)
  refine cn_put (ty0 := tyX3) (k := 0) (C := RX3) (T := TX3) (N := 1) (ci := 3) (fs := [.null]) (fs' := [.ref q1]) En0 hW rfl in_L tyX3_ok nmX3 (Nat.le_of_ble_eq_true rfl) rfl (tg_in 158 (by decide +kernel) (by decide +kernel)) (Or.inr ⟨rfl, hin, rfl⟩) rfl rfl (Nat.le_of_ble_eq_true rfl) rfl dI_L_10 (fun H locs hW => ?_)
  obtain ⟨hP, hD, hS⟩ := hW
  try simp only [List.append_eq, List.nil_append, List.cons_append, List.append_assoc] at hP hD
  refine W.widen (k := 1) (n := 6100) (Nat.le_of_ble_eq_true rfl) (Nat.le_of_ble_eq_true rfl) ?_
  exact W.vret hx hb hr (fun t ht hW => ⟨⟨_, rfl, ⟨q1, rfl⟩, by rw [ht]; exact hP, va_K.moved hW.alike hK, hD⟩, hS.F ht⟩) hS.2.2 dI_L_13
def yI_G : MethodName := ⟨RX6, "<init>", "()V"⟩
abbrev bI_G : ByteArray := prog_8_method_1_code
theorem dI_G_0 : decode bI_G 0 = .ok (.aload_n 0, 1) := by decide +kernel
theorem dI_G_1 : decode bI_G 1 = .ok (.invokespecial 3, 3) := by decide +kernel
theorem dI_G_4 : decode bI_G 4 = .ok (.aload_n 0, 1) := by decide +kernel
theorem dI_G_5 : decode bI_G 5 = .ok (.bipush 100, 2) := by decide +kernel
theorem dI_G_7 : decode bI_G 7 = .ok (.newarray .int, 2) := by decide +kernel
theorem dI_G_9 : decode bI_G 9 = .ok (.putfield 9, 3) := by decide +kernel
theorem dI_G_12 : decode bI_G 12 = .ok (.return_, 1) := by decide +kernel
theorem df_G : ∀ j, j < 1 → defaultValue (tyX6 j) = vp_V [.null] j := fun j hj => match j, hj with
  | 0, _ => rfl
  | j + 1, hj => absurd hj (by omega)
def WI_G (cA : Nat → ClassId) (h : Nat) (w : va_W) : Prop := ∃ q1 : Nat, w = [(h, .inr (6, [.ref q1])), (q1, .inl (cA 0, 100, .inl (fun _ => Int32.ofInt 0)))]
set_option maxHeartbeats 4000000 in
set_option maxRecDepth 100000 in
theorem ct_G {l : Launch} : Ct l yI_G bI_G 1 1 100 6 [.null] [] WI_G := by
  intro D cA h sz
  refine Met.ofW (cc := bI_G) (maxL := 1) (ret := none) (by decide) rfl ?_
  intro p e s m args below meth c s₁ B hml hv
  obtain ⟨rfl, hsz, hP, hK, hD0, hNw⟩ := hv
  have hx := B.exec
  have hb := B.bytes
  have hr := B.returns
  have hts0 := atoms_spec (ws := Jvm.Cond.code yI_G bI_G 1 none :: TG) B.pre
  have hown : s.vm.findClass RX6 = some m.cls := findClass_of_methodNamed B.named
  have hlocks := B.notSynchronized
  have hin : meth.name = "<init>" := (name_of_methodNamed B.named B.method).1
  subst hsz
  have hD := hD0.self (sz := s.heap.size)
  generalize hAe : va_A [(h, .inr (6, [.null]))] s.heap.size = A at hD ⊢
  have hA : ∀ q : Nat, s.heap.size ≤ q → A q := fun q h => by rw [← hAe]; exact Or.inr h
  have hS : va_S A s.heap s.heap [] := va_S.rf
  have hl := lv_entry ([.ref h]) (n := 1) (Nat.le_of_ble_eq_true rfl)
  rw [lg_entry_eq]
  generalize (lg_sl ([.ref h]) ++ List.replicate (1 - (lg_sl ([.ref h])).length) Slot.unset).toArray = ls at hl ⊢
  have hl : lv_has ls 1 [(0, .ref h)] := hl
  have hts : ∀ w ∈ TG, w.before ([Value.ref h]).toArray s = true := fun w hw => hts0 w (List.mem_cons_of_mem _ hw)
  have En0 : En p s m ([Value.ref h]).toArray c bI_G D cA A s.heap RX6 1 := ⟨hx, hb, hml, hown, hts, hK, hA⟩
  have hW : Wd D A s.heap [(h, .inr (6, [.null]))] s.heap [] := ⟨hP, hD, hS⟩
  refine lv_aload_n hx hb dI_G_0 rfl (lv_at hl 0 rfl) ?_
  refine cn_init En0 (tg_in 193 (by decide +kernel) (by decide +kernel)) ⟨Nat.le_of_ble_eq_true rfl, Nat.le_of_ble_eq_true rfl⟩ hl.1 dI_G_1 ?_
  refine lv_aload_n hx hb dI_G_4 rfl (lv_at hl 0 rfl) ?_
  refine lv_bipush (v := Int32.ofInt 100) hx hb dI_G_5 (by decide +kernel) ?_
  refine cn_newa (k := 0) (ty := .int) (atype := .int) (N' := 100) (a0 := (100, .inl (fun _ => Int32.ofInt 0))) En0 rfl (tg_in 95 (by decide +kernel) (by decide +kernel)) rfl (fun _ _ h => h) (fun _ => rfl) (by decide +kernel) (by decide +kernel) (Nat.le_of_ble_eq_true rfl) (Nat.le_of_ble_eq_true rfl) (Nat.le_of_ble_eq_true rfl) hW dI_G_7 (fun q1 H hW => ?_)
  refine cn_put (ty0 := tyX6) (k := 0) (C := RX6) (T := TX6) (N := 1) (ci := 6) (fs := [.null]) (fs' := [.ref q1]) En0 hW rfl in_G tyX6_ok nmX6 (Nat.le_of_ble_eq_true rfl) rfl (tg_in 194 (by decide +kernel) (by decide +kernel)) (Or.inr ⟨rfl, hin, rfl⟩) rfl rfl (Nat.le_of_ble_eq_true rfl) rfl dI_G_9 (fun H locs hW => ?_)
  obtain ⟨hP, hD, hS⟩ := hW
  try simp only [List.append_eq, List.nil_append, List.cons_append, List.append_assoc] at hP hD
  refine W.widen (k := 1) (n := 100) (Nat.le_of_ble_eq_true rfl) (Nat.le_of_ble_eq_true rfl) ?_
  exact W.vret hx hb hr (fun t ht hW => ⟨⟨_, rfl, ⟨q1, rfl⟩, by rw [ht]; exact hP, va_K.moved hW.alike hK, hD⟩, hS.F ht⟩) hS.2.2 dI_G_12
def yI_S : MethodName := ⟨RX5, "<init>", "()V"⟩
abbrev bI_S : ByteArray := prog_7_method_1_code
theorem dI_S_0 : decode bI_S 0 = .ok (.aload_n 0, 1) := by decide +kernel
theorem dI_S_1 : decode bI_S 1 = .ok (.invokespecial 3, 3) := by decide +kernel
theorem dI_S_4 : decode bI_S 4 = .ok (.aload_n 0, 1) := by decide +kernel
theorem dI_S_5 : decode bI_S 5 = .ok (.sipush 8192, 3) := by decide +kernel
theorem dI_S_8 : decode bI_S 8 = .ok (.newarray .long, 2) := by decide +kernel
theorem dI_S_10 : decode bI_S 10 = .ok (.putfield 11, 3) := by decide +kernel
theorem dI_S_13 : decode bI_S 13 = .ok (.aload_n 0, 1) := by decide +kernel
theorem dI_S_14 : decode bI_S 14 = .ok (.sipush 8192, 3) := by decide +kernel
theorem dI_S_17 : decode bI_S 17 = .ok (.newarray .long, 2) := by decide +kernel
theorem dI_S_19 : decode bI_S 19 = .ok (.putfield 15, 3) := by decide +kernel
theorem dI_S_22 : decode bI_S 22 = .ok (.aload_n 0, 1) := by decide +kernel
theorem dI_S_23 : decode bI_S 23 = .ok (.iconst 0, 1) := by decide +kernel
theorem dI_S_24 : decode bI_S 24 = .ok (.putfield 18, 3) := by decide +kernel
theorem dI_S_27 : decode bI_S 27 = .ok (.aload_n 0, 1) := by decide +kernel
theorem dI_S_28 : decode bI_S 28 = .ok (.iconst (-1), 1) := by decide +kernel
theorem dI_S_29 : decode bI_S 29 = .ok (.putfield 22, 3) := by decide +kernel
theorem dI_S_32 : decode bI_S 32 = .ok (.aload_n 0, 1) := by decide +kernel
theorem dI_S_33 : decode bI_S 33 = .ok (.iconst 0, 1) := by decide +kernel
theorem dI_S_34 : decode bI_S 34 = .ok (.putfield 25, 3) := by decide +kernel
theorem dI_S_37 : decode bI_S 37 = .ok (.aload_n 0, 1) := by decide +kernel
theorem dI_S_38 : decode bI_S 38 = .ok (.iconst 0, 1) := by decide +kernel
theorem dI_S_39 : decode bI_S 39 = .ok (.putfield 28, 3) := by decide +kernel
theorem dI_S_42 : decode bI_S 42 = .ok (.return_, 1) := by decide +kernel
theorem df_S : ∀ j, j < 6 → defaultValue (tyX5 j) = vp_V [.null, .null, .int (Int32.ofInt 0), .int (Int32.ofInt 0), .int (Int32.ofInt 0), .int (Int32.ofInt 0)] j := fun j hj => match j, hj with
  | 0, _ => rfl
  | 1, _ => rfl
  | 2, _ => rfl
  | 3, _ => rfl
  | 4, _ => rfl
  | 5, _ => rfl
  | j + 6, hj => absurd hj (by omega)
def WI_S (cA : Nat → ClassId) (h : Nat) (w : va_W) : Prop := ∃ q1 q2 : Nat, w = [(h, .inr (5, [.ref q1, .ref q2, .int (Int32.ofInt 0), .int (Int32.ofInt (-1)), .int (Int32.ofInt 0), .int (Int32.ofInt 0)])), (q1, .inl (cA 1, 8192, .inr (.inl (fun _ => Int64.ofInt 0)))), (q2, .inl (cA 1, 8192, .inr (.inl (fun _ => Int64.ofInt 0))))]
set_option maxHeartbeats 4000000 in
set_option maxRecDepth 100000 in
theorem ct_S {l : Launch} : Ct l yI_S bI_S 1 2 16384 5 [.null, .null, .int (Int32.ofInt 0), .int (Int32.ofInt 0), .int (Int32.ofInt 0), .int (Int32.ofInt 0)] [] WI_S := by
  intro D cA h sz
  refine Met.ofW (cc := bI_S) (maxL := 1) (ret := none) (by decide) rfl ?_
  intro p e s m args below meth c s₁ B hml hv
  obtain ⟨rfl, hsz, hP, hK, hD0, hNw⟩ := hv
  have hx := B.exec
  have hb := B.bytes
  have hr := B.returns
  have hts0 := atoms_spec (ws := Jvm.Cond.code yI_S bI_S 1 none :: TG) B.pre
  have hown : s.vm.findClass RX5 = some m.cls := findClass_of_methodNamed B.named
  have hlocks := B.notSynchronized
  have hin : meth.name = "<init>" := (name_of_methodNamed B.named B.method).1
  subst hsz
  have hD := hD0.self (sz := s.heap.size)
  generalize hAe : va_A [(h, .inr (5, [.null, .null, .int (Int32.ofInt 0), .int (Int32.ofInt 0), .int (Int32.ofInt 0), .int (Int32.ofInt 0)]))] s.heap.size = A at hD ⊢
  have hA : ∀ q : Nat, s.heap.size ≤ q → A q := fun q h => by rw [← hAe]; exact Or.inr h
  have hS : va_S A s.heap s.heap [] := va_S.rf
  have hl := lv_entry ([.ref h]) (n := 1) (Nat.le_of_ble_eq_true rfl)
  rw [lg_entry_eq]
  generalize (lg_sl ([.ref h]) ++ List.replicate (1 - (lg_sl ([.ref h])).length) Slot.unset).toArray = ls at hl ⊢
  have hl : lv_has ls 1 [(0, .ref h)] := hl
  have hts : ∀ w ∈ TG, w.before ([Value.ref h]).toArray s = true := fun w hw => hts0 w (List.mem_cons_of_mem _ hw)
  have En0 : En p s m ([Value.ref h]).toArray c bI_S D cA A s.heap RX5 1 := ⟨hx, hb, hml, hown, hts, hK, hA⟩
  have hW : Wd D A s.heap [(h, .inr (5, [.null, .null, .int (Int32.ofInt 0), .int (Int32.ofInt 0), .int (Int32.ofInt 0), .int (Int32.ofInt 0)]))] s.heap [] := ⟨hP, hD, hS⟩
  refine lv_aload_n hx hb dI_S_0 rfl (lv_at hl 0 rfl) ?_
  refine cn_init En0 (tg_in 168 (by decide +kernel) (by decide +kernel)) ⟨Nat.le_of_ble_eq_true rfl, Nat.le_of_ble_eq_true rfl⟩ hl.1 dI_S_1 ?_
  refine lv_aload_n hx hb dI_S_4 rfl (lv_at hl 0 rfl) ?_
  refine lv_sipush (v := Int32.ofInt 8192) hx hb dI_S_5 (by decide +kernel) ?_
  refine cn_newa (k := 1) (ty := .long) (atype := .long) (N' := 8192) (a0 := (8192, .inr (.inl (fun _ => Int64.ofInt 0)))) En0 rfl (tg_in 162 (by decide +kernel) (by decide +kernel)) rfl (fun _ _ h => h) (fun _ => rfl) (by decide +kernel) (by decide +kernel) (Nat.le_of_ble_eq_true rfl) (Nat.le_of_ble_eq_true rfl) (Nat.le_of_ble_eq_true rfl) hW dI_S_8 (fun q1 H hW => ?_)
  refine cn_put (ty0 := tyX5) (k := 0) (C := RX5) (T := TX5) (N := 6) (ci := 5) (fs := [.null, .null, .int (Int32.ofInt 0), .int (Int32.ofInt 0), .int (Int32.ofInt 0), .int (Int32.ofInt 0)]) (fs' := [.ref q1, .null, .int (Int32.ofInt 0), .int (Int32.ofInt 0), .int (Int32.ofInt 0), .int (Int32.ofInt 0)]) En0 hW rfl in_S tyX5_ok nmX5 (Nat.le_of_ble_eq_true rfl) rfl (tg_in 169 (by decide +kernel) (by decide +kernel)) (Or.inr ⟨rfl, hin, rfl⟩) rfl rfl (Nat.le_of_ble_eq_true rfl) rfl dI_S_10 (fun H locs hW => ?_)
  refine lv_aload_n hx hb dI_S_13 rfl (lv_at hl 0 rfl) ?_
  refine lv_sipush (v := Int32.ofInt 8192) hx hb dI_S_14 (by decide +kernel) ?_
  refine cn_newa (k := 1) (ty := .long) (atype := .long) (N' := 8192) (a0 := (8192, .inr (.inl (fun _ => Int64.ofInt 0)))) En0 rfl (tg_in 162 (by decide +kernel) (by decide +kernel)) rfl (fun _ _ h => h) (fun _ => rfl) (by decide +kernel) (by decide +kernel) (Nat.le_of_ble_eq_true rfl) (Nat.le_of_ble_eq_true rfl) (Nat.le_of_ble_eq_true rfl) hW dI_S_17 (fun q2 H hW => ?_)
  refine cn_put (ty0 := tyX5) (k := 1) (C := RX5) (T := TX5) (N := 6) (ci := 5) (fs := [.ref q1, .null, .int (Int32.ofInt 0), .int (Int32.ofInt 0), .int (Int32.ofInt 0), .int (Int32.ofInt 0)]) (fs' := [.ref q1, .ref q2, .int (Int32.ofInt 0), .int (Int32.ofInt 0), .int (Int32.ofInt 0), .int (Int32.ofInt 0)]) En0 hW rfl in_S tyX5_ok nmX5 (Nat.le_of_ble_eq_true rfl) rfl (tg_in 170 (by decide +kernel) (by decide +kernel)) (Or.inr ⟨rfl, hin, rfl⟩) rfl rfl (Nat.le_of_ble_eq_true rfl) rfl dI_S_19 (fun H locs hW => ?_)
  refine lv_aload_n hx hb dI_S_22 rfl (lv_at hl 0 rfl) ?_
  refine lv_iconst (v := Int32.ofInt 0) hx hb dI_S_23 (by decide +kernel) ?_
  refine cn_put (ty0 := tyX5) (k := 2) (C := RX5) (T := TX5) (N := 6) (ci := 5) (fs := [.ref q1, .ref q2, .int (Int32.ofInt 0), .int (Int32.ofInt 0), .int (Int32.ofInt 0), .int (Int32.ofInt 0)]) (fs' := [.ref q1, .ref q2, .int (Int32.ofInt 0), .int (Int32.ofInt 0), .int (Int32.ofInt 0), .int (Int32.ofInt 0)]) En0 hW rfl in_S tyX5_ok nmX5 (Nat.le_of_ble_eq_true rfl) rfl (tg_in 171 (by decide +kernel) (by decide +kernel)) (Or.inl rfl) rfl rfl (Nat.le_of_ble_eq_true rfl) rfl dI_S_24 (fun H locs hW => ?_)
  refine lv_aload_n hx hb dI_S_27 rfl (lv_at hl 0 rfl) ?_
  refine lv_iconst (v := Int32.ofInt (-1)) hx hb dI_S_28 (by decide +kernel) ?_
  refine cn_put (ty0 := tyX5) (k := 3) (C := RX5) (T := TX5) (N := 6) (ci := 5) (fs := [.ref q1, .ref q2, .int (Int32.ofInt 0), .int (Int32.ofInt 0), .int (Int32.ofInt 0), .int (Int32.ofInt 0)]) (fs' := [.ref q1, .ref q2, .int (Int32.ofInt 0), .int (Int32.ofInt (-1)), .int (Int32.ofInt 0), .int (Int32.ofInt 0)]) En0 hW rfl in_S tyX5_ok nmX5 (Nat.le_of_ble_eq_true rfl) rfl (tg_in 172 (by decide +kernel) (by decide +kernel)) (Or.inl rfl) rfl rfl (Nat.le_of_ble_eq_true rfl) rfl dI_S_29 (fun H locs hW => ?_)
  refine lv_aload_n hx hb dI_S_32 rfl (lv_at hl 0 rfl) ?_
  refine lv_iconst (v := Int32.ofInt 0) hx hb dI_S_33 (by decide +kernel) ?_
  refine cn_put (ty0 := tyX5) (k := 4) (C := RX5) (T := TX5) (N := 6) (ci := 5) (fs := [.ref q1, .ref q2, .int (Int32.ofInt 0), .int (Int32.ofInt (-1)), .int (Int32.ofInt 0), .int (Int32.ofInt 0)]) (fs' := [.ref q1, .ref q2, .int (Int32.ofInt 0), .int (Int32.ofInt (-1)), .int (Int32.ofInt 0), .int (Int32.ofInt 0)]) En0 hW rfl in_S tyX5_ok nmX5 (Nat.le_of_ble_eq_true rfl) rfl (tg_in 173 (by decide +kernel) (by decide +kernel)) (Or.inl rfl) rfl rfl (Nat.le_of_ble_eq_true rfl) rfl dI_S_34 (fun H locs hW => ?_)
  refine lv_aload_n hx hb dI_S_37 rfl (lv_at hl 0 rfl) ?_
  refine lv_iconst (v := Int32.ofInt 0) hx hb dI_S_38 (by decide +kernel) ?_
  refine cn_put (ty0 := tyX5) (k := 5) (C := RX5) (T := TX5) (N := 6) (ci := 5) (fs := [.ref q1, .ref q2, .int (Int32.ofInt 0), .int (Int32.ofInt (-1)), .int (Int32.ofInt 0), .int (Int32.ofInt 0)]) (fs' := [.ref q1, .ref q2, .int (Int32.ofInt 0), .int (Int32.ofInt (-1)), .int (Int32.ofInt 0), .int (Int32.ofInt 0)]) En0 hW rfl in_S tyX5_ok nmX5 (Nat.le_of_ble_eq_true rfl) rfl (tg_in 174 (by decide +kernel) (by decide +kernel)) (Or.inl rfl) rfl rfl (Nat.le_of_ble_eq_true rfl) rfl dI_S_39 (fun H locs hW => ?_)
  obtain ⟨hP, hD, hS⟩ := hW
  try simp only [List.append_eq, List.nil_append, List.cons_append, List.append_assoc] at hP hD
  refine W.widen (k := 2) (n := 16384) (Nat.le_of_ble_eq_true rfl) (Nat.le_of_ble_eq_true rfl) ?_
  exact W.vret hx hb hr (fun t ht hW => ⟨⟨_, rfl, ⟨q1, q2, rfl⟩, by rw [ht]; exact hP, va_K.moved hW.alike hK, hD⟩, hS.F ht⟩) hS.2.2 dI_S_42
def yI_B : MethodName := ⟨RX0, "<init>", "()V"⟩
abbrev bI_B : ByteArray := prog_2_method_1_code
theorem dI_B_0 : decode bI_B 0 = .ok (.aload_n 0, 1) := by decide +kernel
theorem dI_B_1 : decode bI_B 1 = .ok (.invokespecial 5, 3) := by decide +kernel
theorem dI_B_4 : decode bI_B 4 = .ok (.aload_n 0, 1) := by decide +kernel
theorem dI_B_5 : decode bI_B 5 = .ok (.iconst 4, 1) := by decide +kernel
theorem dI_B_6 : decode bI_B 6 = .ok (.newarray .int, 2) := by decide +kernel
theorem dI_B_8 : decode bI_B 8 = .ok (.putfield 11, 3) := by decide +kernel
theorem dI_B_11 : decode bI_B 11 = .ok (.aload_n 0, 1) := by decide +kernel
theorem dI_B_12 : decode bI_B 12 = .ok (.iconst 4, 1) := by decide +kernel
theorem dI_B_13 : decode bI_B 13 = .ok (.newarray .int, 2) := by decide +kernel
theorem dI_B_15 : decode bI_B 15 = .ok (.putfield 15, 3) := by decide +kernel
theorem dI_B_18 : decode bI_B 18 = .ok (.aload_n 0, 1) := by decide +kernel
theorem dI_B_19 : decode bI_B 19 = .ok (.iconst 0, 1) := by decide +kernel
theorem dI_B_20 : decode bI_B 20 = .ok (.putfield 18, 3) := by decide +kernel
theorem dI_B_23 : decode bI_B 23 = .ok (.aload_n 0, 1) := by decide +kernel
theorem dI_B_24 : decode bI_B 24 = .ok (.iconst 0, 1) := by decide +kernel
theorem dI_B_25 : decode bI_B 25 = .ok (.putfield 22, 3) := by decide +kernel
theorem dI_B_28 : decode bI_B 28 = .ok (.aload_n 0, 1) := by decide +kernel
theorem dI_B_29 : decode bI_B 29 = .ok (.iconst (-1), 1) := by decide +kernel
theorem dI_B_30 : decode bI_B 30 = .ok (.putfield 25, 3) := by decide +kernel
theorem dI_B_33 : decode bI_B 33 = .ok (.aload_n 0, 1) := by decide +kernel
theorem dI_B_34 : decode bI_B 34 = .ok (.iconst (-1), 1) := by decide +kernel
theorem dI_B_35 : decode bI_B 35 = .ok (.putfield 28, 3) := by decide +kernel
theorem dI_B_38 : decode bI_B 38 = .ok (.return_, 1) := by decide +kernel
theorem df_B : ∀ j, j < 6 → defaultValue (tyX0 j) = vp_V [.null, .null, .int (Int32.ofInt 0), .int (Int32.ofInt 0), .int (Int32.ofInt 0), .int (Int32.ofInt 0)] j := fun j hj => match j, hj with
  | 0, _ => rfl
  | 1, _ => rfl
  | 2, _ => rfl
  | 3, _ => rfl
  | 4, _ => rfl
  | 5, _ => rfl
  | j + 6, hj => absurd hj (by omega)
def WI_B (cA : Nat → ClassId) (h : Nat) (w : va_W) : Prop := ∃ q1 q2 : Nat, w = [(h, .inr (0, [.ref q1, .ref q2, .int (Int32.ofInt 0), .int (Int32.ofInt 0), .int (Int32.ofInt (-1)), .int (Int32.ofInt (-1))])), (q1, .inl (cA 0, 4, .inl (fun _ => Int32.ofInt 0))), (q2, .inl (cA 0, 4, .inl (fun _ => Int32.ofInt 0)))]
set_option maxHeartbeats 4000000 in
set_option maxRecDepth 100000 in
theorem ct_B {l : Launch} : Ct l yI_B bI_B 1 2 8 0 [.null, .null, .int (Int32.ofInt 0), .int (Int32.ofInt 0), .int (Int32.ofInt 0), .int (Int32.ofInt 0)] [] WI_B := by
  intro D cA h sz
  refine Met.ofW (cc := bI_B) (maxL := 1) (ret := none) (by decide) rfl ?_
  intro p e s m args below meth c s₁ B hml hv
  obtain ⟨rfl, hsz, hP, hK, hD0, hNw⟩ := hv
  have hx := B.exec
  have hb := B.bytes
  have hr := B.returns
  have hts0 := atoms_spec (ws := Jvm.Cond.code yI_B bI_B 1 none :: TG) B.pre
  have hown : s.vm.findClass RX0 = some m.cls := findClass_of_methodNamed B.named
  have hlocks := B.notSynchronized
  have hin : meth.name = "<init>" := (name_of_methodNamed B.named B.method).1
  subst hsz
  have hD := hD0.self (sz := s.heap.size)
  generalize hAe : va_A [(h, .inr (0, [.null, .null, .int (Int32.ofInt 0), .int (Int32.ofInt 0), .int (Int32.ofInt 0), .int (Int32.ofInt 0)]))] s.heap.size = A at hD ⊢
  have hA : ∀ q : Nat, s.heap.size ≤ q → A q := fun q h => by rw [← hAe]; exact Or.inr h
  have hS : va_S A s.heap s.heap [] := va_S.rf
  have hl := lv_entry ([.ref h]) (n := 1) (Nat.le_of_ble_eq_true rfl)
  rw [lg_entry_eq]
  generalize (lg_sl ([.ref h]) ++ List.replicate (1 - (lg_sl ([.ref h])).length) Slot.unset).toArray = ls at hl ⊢
  have hl : lv_has ls 1 [(0, .ref h)] := hl
  have hts : ∀ w ∈ TG, w.before ([Value.ref h]).toArray s = true := fun w hw => hts0 w (List.mem_cons_of_mem _ hw)
  have En0 : En p s m ([Value.ref h]).toArray c bI_B D cA A s.heap RX0 1 := ⟨hx, hb, hml, hown, hts, hK, hA⟩
  have hW : Wd D A s.heap [(h, .inr (0, [.null, .null, .int (Int32.ofInt 0), .int (Int32.ofInt 0), .int (Int32.ofInt 0), .int (Int32.ofInt 0)]))] s.heap [] := ⟨hP, hD, hS⟩
  refine lv_aload_n hx hb dI_B_0 rfl (lv_at hl 0 rfl) ?_
  refine cn_init En0 (tg_in 75 (by decide +kernel) (by decide +kernel)) ⟨Nat.le_of_ble_eq_true rfl, Nat.le_of_ble_eq_true rfl⟩ hl.1 dI_B_1 ?_
  refine lv_aload_n hx hb dI_B_4 rfl (lv_at hl 0 rfl) ?_
  refine lv_iconst (v := Int32.ofInt 4) hx hb dI_B_5 (by decide +kernel) ?_
  refine cn_newa (k := 0) (ty := .int) (atype := .int) (N' := 4) (a0 := (4, .inl (fun _ => Int32.ofInt 0))) En0 rfl (tg_in 95 (by decide +kernel) (by decide +kernel)) rfl (fun _ _ h => h) (fun _ => rfl) (by decide +kernel) (by decide +kernel) (Nat.le_of_ble_eq_true rfl) (Nat.le_of_ble_eq_true rfl) (Nat.le_of_ble_eq_true rfl) hW dI_B_6 (fun q1 H hW => ?_)
  refine cn_put (ty0 := tyX0) (k := 0) (C := RX0) (T := TX0) (N := 6) (ci := 0) (fs := [.null, .null, .int (Int32.ofInt 0), .int (Int32.ofInt 0), .int (Int32.ofInt 0), .int (Int32.ofInt 0)]) (fs' := [.ref q1, .null, .int (Int32.ofInt 0), .int (Int32.ofInt 0), .int (Int32.ofInt 0), .int (Int32.ofInt 0)]) En0 hW rfl in_B tyX0_ok nmX0 (Nat.le_of_ble_eq_true rfl) rfl (tg_in 76 (by decide +kernel) (by decide +kernel)) (Or.inr ⟨rfl, hin, rfl⟩) rfl rfl (Nat.le_of_ble_eq_true rfl) rfl dI_B_8 (fun H locs hW => ?_)
  refine lv_aload_n hx hb dI_B_11 rfl (lv_at hl 0 rfl) ?_
  refine lv_iconst (v := Int32.ofInt 4) hx hb dI_B_12 (by decide +kernel) ?_
  refine cn_newa (k := 0) (ty := .int) (atype := .int) (N' := 4) (a0 := (4, .inl (fun _ => Int32.ofInt 0))) En0 rfl (tg_in 95 (by decide +kernel) (by decide +kernel)) rfl (fun _ _ h => h) (fun _ => rfl) (by decide +kernel) (by decide +kernel) (Nat.le_of_ble_eq_true rfl) (Nat.le_of_ble_eq_true rfl) (Nat.le_of_ble_eq_true rfl) hW dI_B_13 (fun q2 H hW => ?_)
  refine cn_put (ty0 := tyX0) (k := 1) (C := RX0) (T := TX0) (N := 6) (ci := 0) (fs := [.ref q1, .null, .int (Int32.ofInt 0), .int (Int32.ofInt 0), .int (Int32.ofInt 0), .int (Int32.ofInt 0)]) (fs' := [.ref q1, .ref q2, .int (Int32.ofInt 0), .int (Int32.ofInt 0), .int (Int32.ofInt 0), .int (Int32.ofInt 0)]) En0 hW rfl in_B tyX0_ok nmX0 (Nat.le_of_ble_eq_true rfl) rfl (tg_in 77 (by decide +kernel) (by decide +kernel)) (Or.inr ⟨rfl, hin, rfl⟩) rfl rfl (Nat.le_of_ble_eq_true rfl) rfl dI_B_15 (fun H locs hW => ?_)
  refine lv_aload_n hx hb dI_B_18 rfl (lv_at hl 0 rfl) ?_
  refine lv_iconst (v := Int32.ofInt 0) hx hb dI_B_19 (by decide +kernel) ?_
  refine cn_put (ty0 := tyX0) (k := 2) (C := RX0) (T := TX0) (N := 6) (ci := 0) (fs := [.ref q1, .ref q2, .int (Int32.ofInt 0), .int (Int32.ofInt 0), .int (Int32.ofInt 0), .int (Int32.ofInt 0)]) (fs' := [.ref q1, .ref q2, .int (Int32.ofInt 0), .int (Int32.ofInt 0), .int (Int32.ofInt 0), .int (Int32.ofInt 0)]) En0 hW rfl in_B tyX0_ok nmX0 (Nat.le_of_ble_eq_true rfl) rfl (tg_in 78 (by decide +kernel) (by decide +kernel)) (Or.inl rfl) rfl rfl (Nat.le_of_ble_eq_true rfl) rfl dI_B_20 (fun H locs hW => ?_)
  refine lv_aload_n hx hb dI_B_23 rfl (lv_at hl 0 rfl) ?_
  refine lv_iconst (v := Int32.ofInt 0) hx hb dI_B_24 (by decide +kernel) ?_
  refine cn_put (ty0 := tyX0) (k := 3) (C := RX0) (T := TX0) (N := 6) (ci := 0) (fs := [.ref q1, .ref q2, .int (Int32.ofInt 0), .int (Int32.ofInt 0), .int (Int32.ofInt 0), .int (Int32.ofInt 0)]) (fs' := [.ref q1, .ref q2, .int (Int32.ofInt 0), .int (Int32.ofInt 0), .int (Int32.ofInt 0), .int (Int32.ofInt 0)]) En0 hW rfl in_B tyX0_ok nmX0 (Nat.le_of_ble_eq_true rfl) rfl (tg_in 79 (by decide +kernel) (by decide +kernel)) (Or.inl rfl) rfl rfl (Nat.le_of_ble_eq_true rfl) rfl dI_B_25 (fun H locs hW => ?_)
  refine lv_aload_n hx hb dI_B_28 rfl (lv_at hl 0 rfl) ?_
  refine lv_iconst (v := Int32.ofInt (-1)) hx hb dI_B_29 (by decide +kernel) ?_
  refine cn_put (ty0 := tyX0) (k := 4) (C := RX0) (T := TX0) (N := 6) (ci := 0) (fs := [.ref q1, .ref q2, .int (Int32.ofInt 0), .int (Int32.ofInt 0), .int (Int32.ofInt 0), .int (Int32.ofInt 0)]) (fs' := [.ref q1, .ref q2, .int (Int32.ofInt 0), .int (Int32.ofInt 0), .int (Int32.ofInt (-1)), .int (Int32.ofInt 0)]) En0 hW rfl in_B tyX0_ok nmX0 (Nat.le_of_ble_eq_true rfl) rfl (tg_in 80 (by decide +kernel) (by decide +kernel)) (Or.inl rfl) rfl rfl (Nat.le_of_ble_eq_true rfl) rfl dI_B_30 (fun H locs hW => ?_)
  refine lv_aload_n hx hb dI_B_33 rfl (lv_at hl 0 rfl) ?_
  refine lv_iconst (v := Int32.ofInt (-1)) hx hb dI_B_34 (by decide +kernel) ?_
  refine cn_put (ty0 := tyX0) (k := 5) (C := RX0) (T := TX0) (N := 6) (ci := 0) (fs := [.ref q1, .ref q2, .int (Int32.ofInt 0), .int (Int32.ofInt 0), .int (Int32.ofInt (-1)), .int (Int32.ofInt 0)]) (fs' := [.ref q1, .ref q2, .int (Int32.ofInt 0), .int (Int32.ofInt 0), .int (Int32.ofInt (-1)), .int (Int32.ofInt (-1))]) En0 hW rfl in_B tyX0_ok nmX0 (Nat.le_of_ble_eq_true rfl) rfl (tg_in 81 (by decide +kernel) (by decide +kernel)) (Or.inl rfl) rfl rfl (Nat.le_of_ble_eq_true rfl) rfl dI_B_35 (fun H locs hW => ?_)
  obtain ⟨hP, hD, hS⟩ := hW
  try simp only [List.append_eq, List.nil_append, List.cons_append, List.append_assoc] at hP hD
  refine W.widen (k := 2) (n := 8) (Nat.le_of_ble_eq_true rfl) (Nat.le_of_ble_eq_true rfl) ?_
  exact W.vret hx hb hr (fun t ht hW => ⟨⟨_, rfl, ⟨q1, q2, rfl⟩, by rw [ht]; exact hP, va_K.moved hW.alike hK, hD⟩, hS.F ht⟩) hS.2.2 dI_B_38
def yI_W : MethodName := ⟨RX7, "<init>", "()V"⟩
abbrev bI_W : ByteArray := prog_9_method_1_code
theorem dI_W_0 : decode bI_W 0 = .ok (.aload_n 0, 1) := by decide +kernel
theorem dI_W_1 : decode bI_W 1 = .ok (.invokespecial 3, 3) := by decide +kernel
theorem dI_W_4 : decode bI_W 4 = .ok (.aload_n 0, 1) := by decide +kernel
theorem dI_W_5 : decode bI_W 5 = .ok (.sipush 200, 3) := by decide +kernel
theorem dI_W_8 : decode bI_W 8 = .ok (.newarray .int, 2) := by decide +kernel
theorem dI_W_10 : decode bI_W 10 = .ok (.putfield 9, 3) := by decide +kernel
theorem dI_W_13 : decode bI_W 13 = .ok (.aload_n 0, 1) := by decide +kernel
theorem dI_W_14 : decode bI_W 14 = .ok (.bipush 100, 2) := by decide +kernel
theorem dI_W_16 : decode bI_W 16 = .ok (.newarray .int, 2) := by decide +kernel
theorem dI_W_18 : decode bI_W 18 = .ok (.putfield 15, 3) := by decide +kernel
theorem dI_W_21 : decode bI_W 21 = .ok (.aload_n 0, 1) := by decide +kernel
theorem dI_W_22 : decode bI_W 22 = .ok (.bipush 100, 2) := by decide +kernel
theorem dI_W_24 : decode bI_W 24 = .ok (.newarray .int, 2) := by decide +kernel
theorem dI_W_26 : decode bI_W 26 = .ok (.putfield 18, 3) := by decide +kernel
theorem dI_W_29 : decode bI_W 29 = .ok (.aload_n 0, 1) := by decide +kernel
theorem dI_W_30 : decode bI_W 30 = .ok (.bipush 100, 2) := by decide +kernel
theorem dI_W_32 : decode bI_W 32 = .ok (.newarray .int, 2) := by decide +kernel
theorem dI_W_34 : decode bI_W 34 = .ok (.putfield 21, 3) := by decide +kernel
theorem dI_W_37 : decode bI_W 37 = .ok (.aload_n 0, 1) := by decide +kernel
theorem dI_W_38 : decode bI_W 38 = .ok (.iconst 0, 1) := by decide +kernel
theorem dI_W_39 : decode bI_W 39 = .ok (.putfield 24, 3) := by decide +kernel
theorem dI_W_42 : decode bI_W 42 = .ok (.return_, 1) := by decide +kernel
theorem df_W : ∀ j, j < 5 → defaultValue (tyX7 j) = vp_V [.null, .null, .null, .null, .int (Int32.ofInt 0)] j := fun j hj => match j, hj with
  | 0, _ => rfl
  | 1, _ => rfl
  | 2, _ => rfl
  | 3, _ => rfl
  | 4, _ => rfl
  | j + 5, hj => absurd hj (by omega)
def WI_W (cA : Nat → ClassId) (h : Nat) (w : va_W) : Prop := ∃ q1 q2 q3 q4 : Nat, w = [(h, .inr (7, [.ref q1, .ref q2, .ref q3, .ref q4, .int (Int32.ofInt 0)])), (q1, .inl (cA 0, 200, .inl (fun _ => Int32.ofInt 0))), (q2, .inl (cA 0, 100, .inl (fun _ => Int32.ofInt 0))), (q3, .inl (cA 0, 100, .inl (fun _ => Int32.ofInt 0))), (q4, .inl (cA 0, 100, .inl (fun _ => Int32.ofInt 0)))]
set_option maxHeartbeats 4000000 in
set_option maxRecDepth 100000 in
theorem ct_W {l : Launch} : Ct l yI_W bI_W 1 4 500 7 [.null, .null, .null, .null, .int (Int32.ofInt 0)] [] WI_W := by
  intro D cA h sz
  refine Met.ofW (cc := bI_W) (maxL := 1) (ret := none) (by decide) rfl ?_
  intro p e s m args below meth c s₁ B hml hv
  obtain ⟨rfl, hsz, hP, hK, hD0, hNw⟩ := hv
  have hx := B.exec
  have hb := B.bytes
  have hr := B.returns
  have hts0 := atoms_spec (ws := Jvm.Cond.code yI_W bI_W 1 none :: TG) B.pre
  have hown : s.vm.findClass RX7 = some m.cls := findClass_of_methodNamed B.named
  have hlocks := B.notSynchronized
  have hin : meth.name = "<init>" := (name_of_methodNamed B.named B.method).1
  subst hsz
  have hD := hD0.self (sz := s.heap.size)
  generalize hAe : va_A [(h, .inr (7, [.null, .null, .null, .null, .int (Int32.ofInt 0)]))] s.heap.size = A at hD ⊢
  have hA : ∀ q : Nat, s.heap.size ≤ q → A q := fun q h => by rw [← hAe]; exact Or.inr h
  have hS : va_S A s.heap s.heap [] := va_S.rf
  have hl := lv_entry ([.ref h]) (n := 1) (Nat.le_of_ble_eq_true rfl)
  rw [lg_entry_eq]
  generalize (lg_sl ([.ref h]) ++ List.replicate (1 - (lg_sl ([.ref h])).length) Slot.unset).toArray = ls at hl ⊢
  have hl : lv_has ls 1 [(0, .ref h)] := hl
  have hts : ∀ w ∈ TG, w.before ([Value.ref h]).toArray s = true := fun w hw => hts0 w (List.mem_cons_of_mem _ hw)
  have En0 : En p s m ([Value.ref h]).toArray c bI_W D cA A s.heap RX7 1 := ⟨hx, hb, hml, hown, hts, hK, hA⟩
  have hW : Wd D A s.heap [(h, .inr (7, [.null, .null, .null, .null, .int (Int32.ofInt 0)]))] s.heap [] := ⟨hP, hD, hS⟩
  refine lv_aload_n hx hb dI_W_0 rfl (lv_at hl 0 rfl) ?_
  refine cn_init En0 (tg_in 135 (by decide +kernel) (by decide +kernel)) ⟨Nat.le_of_ble_eq_true rfl, Nat.le_of_ble_eq_true rfl⟩ hl.1 dI_W_1 ?_
  refine lv_aload_n hx hb dI_W_4 rfl (lv_at hl 0 rfl) ?_
  refine lv_sipush (v := Int32.ofInt 200) hx hb dI_W_5 (by decide +kernel) ?_
  refine cn_newa (k := 0) (ty := .int) (atype := .int) (N' := 200) (a0 := (200, .inl (fun _ => Int32.ofInt 0))) En0 rfl (tg_in 95 (by decide +kernel) (by decide +kernel)) rfl (fun _ _ h => h) (fun _ => rfl) (by decide +kernel) (by decide +kernel) (Nat.le_of_ble_eq_true rfl) (Nat.le_of_ble_eq_true rfl) (Nat.le_of_ble_eq_true rfl) hW dI_W_8 (fun q1 H hW => ?_)
  refine cn_put (ty0 := tyX7) (k := 0) (C := RX7) (T := TX7) (N := 5) (ci := 7) (fs := [.null, .null, .null, .null, .int (Int32.ofInt 0)]) (fs' := [.ref q1, .null, .null, .null, .int (Int32.ofInt 0)]) En0 hW rfl in_W tyX7_ok nmX7 (Nat.le_of_ble_eq_true rfl) rfl (tg_in 136 (by decide +kernel) (by decide +kernel)) (Or.inr ⟨rfl, hin, rfl⟩) rfl rfl (Nat.le_of_ble_eq_true rfl) rfl dI_W_10 (fun H locs hW => ?_)
  refine lv_aload_n hx hb dI_W_13 rfl (lv_at hl 0 rfl) ?_
  refine lv_bipush (v := Int32.ofInt 100) hx hb dI_W_14 (by decide +kernel) ?_
  refine cn_newa (k := 0) (ty := .int) (atype := .int) (N' := 100) (a0 := (100, .inl (fun _ => Int32.ofInt 0))) En0 rfl (tg_in 95 (by decide +kernel) (by decide +kernel)) rfl (fun _ _ h => h) (fun _ => rfl) (by decide +kernel) (by decide +kernel) (Nat.le_of_ble_eq_true rfl) (Nat.le_of_ble_eq_true rfl) (Nat.le_of_ble_eq_true rfl) hW dI_W_16 (fun q2 H hW => ?_)
  refine cn_put (ty0 := tyX7) (k := 1) (C := RX7) (T := TX7) (N := 5) (ci := 7) (fs := [.ref q1, .null, .null, .null, .int (Int32.ofInt 0)]) (fs' := [.ref q1, .ref q2, .null, .null, .int (Int32.ofInt 0)]) En0 hW rfl in_W tyX7_ok nmX7 (Nat.le_of_ble_eq_true rfl) rfl (tg_in 137 (by decide +kernel) (by decide +kernel)) (Or.inr ⟨rfl, hin, rfl⟩) rfl rfl (Nat.le_of_ble_eq_true rfl) rfl dI_W_18 (fun H locs hW => ?_)
  refine lv_aload_n hx hb dI_W_21 rfl (lv_at hl 0 rfl) ?_
  refine lv_bipush (v := Int32.ofInt 100) hx hb dI_W_22 (by decide +kernel) ?_
  refine cn_newa (k := 0) (ty := .int) (atype := .int) (N' := 100) (a0 := (100, .inl (fun _ => Int32.ofInt 0))) En0 rfl (tg_in 95 (by decide +kernel) (by decide +kernel)) rfl (fun _ _ h => h) (fun _ => rfl) (by decide +kernel) (by decide +kernel) (Nat.le_of_ble_eq_true rfl) (Nat.le_of_ble_eq_true rfl) (Nat.le_of_ble_eq_true rfl) hW dI_W_24 (fun q3 H hW => ?_)
  refine cn_put (ty0 := tyX7) (k := 2) (C := RX7) (T := TX7) (N := 5) (ci := 7) (fs := [.ref q1, .ref q2, .null, .null, .int (Int32.ofInt 0)]) (fs' := [.ref q1, .ref q2, .ref q3, .null, .int (Int32.ofInt 0)]) En0 hW rfl in_W tyX7_ok nmX7 (Nat.le_of_ble_eq_true rfl) rfl (tg_in 138 (by decide +kernel) (by decide +kernel)) (Or.inr ⟨rfl, hin, rfl⟩) rfl rfl (Nat.le_of_ble_eq_true rfl) rfl dI_W_26 (fun H locs hW => ?_)
  refine lv_aload_n hx hb dI_W_29 rfl (lv_at hl 0 rfl) ?_
  refine lv_bipush (v := Int32.ofInt 100) hx hb dI_W_30 (by decide +kernel) ?_
  refine cn_newa (k := 0) (ty := .int) (atype := .int) (N' := 100) (a0 := (100, .inl (fun _ => Int32.ofInt 0))) En0 rfl (tg_in 95 (by decide +kernel) (by decide +kernel)) rfl (fun _ _ h => h) (fun _ => rfl) (by decide +kernel) (by decide +kernel) (Nat.le_of_ble_eq_true rfl) (Nat.le_of_ble_eq_true rfl) (Nat.le_of_ble_eq_true rfl) hW dI_W_32 (fun q4 H hW => ?_)
  refine cn_put (ty0 := tyX7) (k := 3) (C := RX7) (T := TX7) (N := 5) (ci := 7) (fs := [.ref q1, .ref q2, .ref q3, .null, .int (Int32.ofInt 0)]) (fs' := [.ref q1, .ref q2, .ref q3, .ref q4, .int (Int32.ofInt 0)]) En0 hW rfl in_W tyX7_ok nmX7 (Nat.le_of_ble_eq_true rfl) rfl (tg_in 139 (by decide +kernel) (by decide +kernel)) (Or.inr ⟨rfl, hin, rfl⟩) rfl rfl (Nat.le_of_ble_eq_true rfl) rfl dI_W_34 (fun H locs hW => ?_)
  refine lv_aload_n hx hb dI_W_37 rfl (lv_at hl 0 rfl) ?_
  refine lv_iconst (v := Int32.ofInt 0) hx hb dI_W_38 (by decide +kernel) ?_
  refine cn_put (ty0 := tyX7) (k := 4) (C := RX7) (T := TX7) (N := 5) (ci := 7) (fs := [.ref q1, .ref q2, .ref q3, .ref q4, .int (Int32.ofInt 0)]) (fs' := [.ref q1, .ref q2, .ref q3, .ref q4, .int (Int32.ofInt 0)]) En0 hW rfl in_W tyX7_ok nmX7 (Nat.le_of_ble_eq_true rfl) rfl (tg_in 140 (by decide +kernel) (by decide +kernel)) (Or.inl rfl) rfl rfl (Nat.le_of_ble_eq_true rfl) rfl dI_W_39 (fun H locs hW => ?_)
  obtain ⟨hP, hD, hS⟩ := hW
  try simp only [List.append_eq, List.nil_append, List.cons_append, List.append_assoc] at hP hD
  refine W.widen (k := 4) (n := 500) (Nat.le_of_ble_eq_true rfl) (Nat.le_of_ble_eq_true rfl) ?_
  exact W.vret hx hb hr (fun t ht hW => ⟨⟨_, rfl, ⟨q1, q2, q3, q4, rfl⟩, by rw [ht]; exact hP, va_K.moved hW.alike hK, hD⟩, hS.F ht⟩) hS.2.2 dI_W_42
def yI_K : MethodName := ⟨RX4, "<init>", "()V"⟩
abbrev bI_K : ByteArray := prog_6_method_1_code
theorem dI_K_0 : decode bI_K 0 = .ok (.aload_n 0, 1) := by decide +kernel
theorem dI_K_1 : decode bI_K 1 = .ok (.invokespecial 3, 3) := by decide +kernel
theorem dI_K_4 : decode bI_K 4 = .ok (.aload_n 0, 1) := by decide +kernel
theorem dI_K_5 : decode bI_K 5 = .ok (.sipush 2816, 3) := by decide +kernel
theorem dI_K_8 : decode bI_K 8 = .ok (.newarray .int, 2) := by decide +kernel
theorem dI_K_10 : decode bI_K 10 = .ok (.putfield 11, 3) := by decide +kernel
theorem dI_K_13 : decode bI_K 13 = .ok (.aload_n 0, 1) := by decide +kernel
theorem dI_K_14 : decode bI_K 14 = .ok (.sipush 2816, 3) := by decide +kernel
theorem dI_K_17 : decode bI_K 17 = .ok (.newarray .int, 2) := by decide +kernel
theorem dI_K_19 : decode bI_K 19 = .ok (.putfield 17, 3) := by decide +kernel
theorem dI_K_22 : decode bI_K 22 = .ok (.aload_n 0, 1) := by decide +kernel
theorem dI_K_23 : decode bI_K 23 = .ok (.sipush 5632, 3) := by decide +kernel
theorem dI_K_26 : decode bI_K 26 = .ok (.newarray .int, 2) := by decide +kernel
theorem dI_K_28 : decode bI_K 28 = .ok (.putfield 20, 3) := by decide +kernel
theorem dI_K_31 : decode bI_K 31 = .ok (.aload_n 0, 1) := by decide +kernel
theorem dI_K_32 : decode bI_K 32 = .ok (.sipush 2816, 3) := by decide +kernel
theorem dI_K_35 : decode bI_K 35 = .ok (.newarray .int, 2) := by decide +kernel
theorem dI_K_37 : decode bI_K 37 = .ok (.putfield 23, 3) := by decide +kernel
theorem dI_K_40 : decode bI_K 40 = .ok (.aload_n 0, 1) := by decide +kernel
theorem dI_K_41 : decode bI_K 41 = .ok (.sipush 2816, 3) := by decide +kernel
theorem dI_K_44 : decode bI_K 44 = .ok (.newarray .int, 2) := by decide +kernel
theorem dI_K_46 : decode bI_K 46 = .ok (.putfield 26, 3) := by decide +kernel
theorem dI_K_49 : decode bI_K 49 = .ok (.aload_n 0, 1) := by decide +kernel
theorem dI_K_50 : decode bI_K 50 = .ok (.sipush 10201, 3) := by decide +kernel
theorem dI_K_53 : decode bI_K 53 = .ok (.newarray .int, 2) := by decide +kernel
theorem dI_K_55 : decode bI_K 55 = .ok (.putfield 29, 3) := by decide +kernel
theorem dI_K_58 : decode bI_K 58 = .ok (.aload_n 0, 1) := by decide +kernel
theorem dI_K_59 : decode bI_K 59 = .ok (.iconst 0, 1) := by decide +kernel
theorem dI_K_60 : decode bI_K 60 = .ok (.putfield 32, 3) := by decide +kernel
theorem dI_K_63 : decode bI_K 63 = .ok (.aload_n 0, 1) := by decide +kernel
theorem dI_K_64 : decode bI_K 64 = .ok (.iconst 0, 1) := by decide +kernel
theorem dI_K_65 : decode bI_K 65 = .ok (.putfield 36, 3) := by decide +kernel
theorem dI_K_68 : decode bI_K 68 = .ok (.aload_n 0, 1) := by decide +kernel
theorem dI_K_69 : decode bI_K 69 = .ok (.iconst 0, 1) := by decide +kernel
theorem dI_K_70 : decode bI_K 70 = .ok (.putfield 39, 3) := by decide +kernel
theorem dI_K_73 : decode bI_K 73 = .ok (.return_, 1) := by decide +kernel
theorem df_K : ∀ j, j < 9 → defaultValue (tyX4 j) = vp_V [.null, .null, .null, .null, .null, .null, .int (Int32.ofInt 0), .int (Int32.ofInt 0), .int (Int32.ofInt 0)] j := fun j hj => match j, hj with
  | 0, _ => rfl
  | 1, _ => rfl
  | 2, _ => rfl
  | 3, _ => rfl
  | 4, _ => rfl
  | 5, _ => rfl
  | 6, _ => rfl
  | 7, _ => rfl
  | 8, _ => rfl
  | j + 9, hj => absurd hj (by omega)
def WI_K (cA : Nat → ClassId) (h : Nat) (w : va_W) : Prop := ∃ q1 q2 q3 q4 q5 q6 : Nat, w = [(h, .inr (4, [.ref q1, .ref q2, .ref q3, .ref q4, .ref q5, .ref q6, .int (Int32.ofInt 0), .int (Int32.ofInt 0), .int (Int32.ofInt 0)])), (q1, .inl (cA 0, 2816, .inl (fun _ => Int32.ofInt 0))), (q2, .inl (cA 0, 2816, .inl (fun _ => Int32.ofInt 0))), (q3, .inl (cA 0, 5632, .inl (fun _ => Int32.ofInt 0))), (q4, .inl (cA 0, 2816, .inl (fun _ => Int32.ofInt 0))), (q5, .inl (cA 0, 2816, .inl (fun _ => Int32.ofInt 0))), (q6, .inl (cA 0, 10201, .inl (fun _ => Int32.ofInt 0)))]
set_option maxHeartbeats 4000000 in
set_option maxRecDepth 100000 in
theorem ct_K {l : Launch} : Ct l yI_K bI_K 1 6 27097 4 [.null, .null, .null, .null, .null, .null, .int (Int32.ofInt 0), .int (Int32.ofInt 0), .int (Int32.ofInt 0)] [] WI_K := by
  intro D cA h sz
  refine Met.ofW (cc := bI_K) (maxL := 1) (ret := none) (by decide) rfl ?_
  intro p e s m args below meth c s₁ B hml hv
  obtain ⟨rfl, hsz, hP, hK, hD0, hNw⟩ := hv
  have hx := B.exec
  have hb := B.bytes
  have hr := B.returns
  have hts0 := atoms_spec (ws := Jvm.Cond.code yI_K bI_K 1 none :: TG) B.pre
  have hown : s.vm.findClass RX4 = some m.cls := findClass_of_methodNamed B.named
  have hlocks := B.notSynchronized
  have hin : meth.name = "<init>" := (name_of_methodNamed B.named B.method).1
  subst hsz
  have hD := hD0.self (sz := s.heap.size)
  generalize hAe : va_A [(h, .inr (4, [.null, .null, .null, .null, .null, .null, .int (Int32.ofInt 0), .int (Int32.ofInt 0), .int (Int32.ofInt 0)]))] s.heap.size = A at hD ⊢
  have hA : ∀ q : Nat, s.heap.size ≤ q → A q := fun q h => by rw [← hAe]; exact Or.inr h
  have hS : va_S A s.heap s.heap [] := va_S.rf
  have hl := lv_entry ([.ref h]) (n := 1) (Nat.le_of_ble_eq_true rfl)
  rw [lg_entry_eq]
  generalize (lg_sl ([.ref h]) ++ List.replicate (1 - (lg_sl ([.ref h])).length) Slot.unset).toArray = ls at hl ⊢
  have hl : lv_has ls 1 [(0, .ref h)] := hl
  have hts : ∀ w ∈ TG, w.before ([Value.ref h]).toArray s = true := fun w hw => hts0 w (List.mem_cons_of_mem _ hw)
  have En0 : En p s m ([Value.ref h]).toArray c bI_K D cA A s.heap RX4 1 := ⟨hx, hb, hml, hown, hts, hK, hA⟩
  have hW : Wd D A s.heap [(h, .inr (4, [.null, .null, .null, .null, .null, .null, .int (Int32.ofInt 0), .int (Int32.ofInt 0), .int (Int32.ofInt 0)]))] s.heap [] := ⟨hP, hD, hS⟩
  refine lv_aload_n hx hb dI_K_0 rfl (lv_at hl 0 rfl) ?_
  refine cn_init En0 (tg_in 101 (by decide +kernel) (by decide +kernel)) ⟨Nat.le_of_ble_eq_true rfl, Nat.le_of_ble_eq_true rfl⟩ hl.1 dI_K_1 ?_
  refine lv_aload_n hx hb dI_K_4 rfl (lv_at hl 0 rfl) ?_
  refine lv_sipush (v := Int32.ofInt 2816) hx hb dI_K_5 (by decide +kernel) ?_
  refine cn_newa (k := 0) (ty := .int) (atype := .int) (N' := 2816) (a0 := (2816, .inl (fun _ => Int32.ofInt 0))) En0 rfl (tg_in 95 (by decide +kernel) (by decide +kernel)) rfl (fun _ _ h => h) (fun _ => rfl) (by decide +kernel) (by decide +kernel) (Nat.le_of_ble_eq_true rfl) (Nat.le_of_ble_eq_true rfl) (Nat.le_of_ble_eq_true rfl) hW dI_K_8 (fun q1 H hW => ?_)
  refine cn_put (ty0 := tyX4) (k := 0) (C := RX4) (T := TX4) (N := 9) (ci := 4) (fs := [.null, .null, .null, .null, .null, .null, .int (Int32.ofInt 0), .int (Int32.ofInt 0), .int (Int32.ofInt 0)]) (fs' := [.ref q1, .null, .null, .null, .null, .null, .int (Int32.ofInt 0), .int (Int32.ofInt 0), .int (Int32.ofInt 0)]) En0 hW rfl in_K tyX4_ok nmX4 (Nat.le_of_ble_eq_true rfl) rfl (tg_in 102 (by decide +kernel) (by decide +kernel)) (Or.inr ⟨rfl, hin, rfl⟩) rfl rfl (Nat.le_of_ble_eq_true rfl) rfl dI_K_10 (fun H locs hW => ?_)
  refine lv_aload_n hx hb dI_K_13 rfl (lv_at hl 0 rfl) ?_
  refine lv_sipush (v := Int32.ofInt 2816) hx hb dI_K_14 (by decide +kernel) ?_
  refine cn_newa (k := 0) (ty := .int) (atype := .int) (N' := 2816) (a0 := (2816, .inl (fun _ => Int32.ofInt 0))) En0 rfl (tg_in 95 (by decide +kernel) (by decide +kernel)) rfl (fun _ _ h => h) (fun _ => rfl) (by decide +kernel) (by decide +kernel) (Nat.le_of_ble_eq_true rfl) (Nat.le_of_ble_eq_true rfl) (Nat.le_of_ble_eq_true rfl) hW dI_K_17 (fun q2 H hW => ?_)
  refine cn_put (ty0 := tyX4) (k := 1) (C := RX4) (T := TX4) (N := 9) (ci := 4) (fs := [.ref q1, .null, .null, .null, .null, .null, .int (Int32.ofInt 0), .int (Int32.ofInt 0), .int (Int32.ofInt 0)]) (fs' := [.ref q1, .ref q2, .null, .null, .null, .null, .int (Int32.ofInt 0), .int (Int32.ofInt 0), .int (Int32.ofInt 0)]) En0 hW rfl in_K tyX4_ok nmX4 (Nat.le_of_ble_eq_true rfl) rfl (tg_in 103 (by decide +kernel) (by decide +kernel)) (Or.inr ⟨rfl, hin, rfl⟩) rfl rfl (Nat.le_of_ble_eq_true rfl) rfl dI_K_19 (fun H locs hW => ?_)
  refine lv_aload_n hx hb dI_K_22 rfl (lv_at hl 0 rfl) ?_
  refine lv_sipush (v := Int32.ofInt 5632) hx hb dI_K_23 (by decide +kernel) ?_
  refine cn_newa (k := 0) (ty := .int) (atype := .int) (N' := 5632) (a0 := (5632, .inl (fun _ => Int32.ofInt 0))) En0 rfl (tg_in 95 (by decide +kernel) (by decide +kernel)) rfl (fun _ _ h => h) (fun _ => rfl) (by decide +kernel) (by decide +kernel) (Nat.le_of_ble_eq_true rfl) (Nat.le_of_ble_eq_true rfl) (Nat.le_of_ble_eq_true rfl) hW dI_K_26 (fun q3 H hW => ?_)
  refine cn_put (ty0 := tyX4) (k := 2) (C := RX4) (T := TX4) (N := 9) (ci := 4) (fs := [.ref q1, .ref q2, .null, .null, .null, .null, .int (Int32.ofInt 0), .int (Int32.ofInt 0), .int (Int32.ofInt 0)]) (fs' := [.ref q1, .ref q2, .ref q3, .null, .null, .null, .int (Int32.ofInt 0), .int (Int32.ofInt 0), .int (Int32.ofInt 0)]) En0 hW rfl in_K tyX4_ok nmX4 (Nat.le_of_ble_eq_true rfl) rfl (tg_in 104 (by decide +kernel) (by decide +kernel)) (Or.inr ⟨rfl, hin, rfl⟩) rfl rfl (Nat.le_of_ble_eq_true rfl) rfl dI_K_28 (fun H locs hW => ?_)
  refine lv_aload_n hx hb dI_K_31 rfl (lv_at hl 0 rfl) ?_
  refine lv_sipush (v := Int32.ofInt 2816) hx hb dI_K_32 (by decide +kernel) ?_
  refine cn_newa (k := 0) (ty := .int) (atype := .int) (N' := 2816) (a0 := (2816, .inl (fun _ => Int32.ofInt 0))) En0 rfl (tg_in 95 (by decide +kernel) (by decide +kernel)) rfl (fun _ _ h => h) (fun _ => rfl) (by decide +kernel) (by decide +kernel) (Nat.le_of_ble_eq_true rfl) (Nat.le_of_ble_eq_true rfl) (Nat.le_of_ble_eq_true rfl) hW dI_K_35 (fun q4 H hW => ?_)
  refine cn_put (ty0 := tyX4) (k := 3) (C := RX4) (T := TX4) (N := 9) (ci := 4) (fs := [.ref q1, .ref q2, .ref q3, .null, .null, .null, .int (Int32.ofInt 0), .int (Int32.ofInt 0), .int (Int32.ofInt 0)]) (fs' := [.ref q1, .ref q2, .ref q3, .ref q4, .null, .null, .int (Int32.ofInt 0), .int (Int32.ofInt 0), .int (Int32.ofInt 0)]) En0 hW rfl in_K tyX4_ok nmX4 (Nat.le_of_ble_eq_true rfl) rfl (tg_in 105 (by decide +kernel) (by decide +kernel)) (Or.inr ⟨rfl, hin, rfl⟩) rfl rfl (Nat.le_of_ble_eq_true rfl) rfl dI_K_37 (fun H locs hW => ?_)
  refine lv_aload_n hx hb dI_K_40 rfl (lv_at hl 0 rfl) ?_
  refine lv_sipush (v := Int32.ofInt 2816) hx hb dI_K_41 (by decide +kernel) ?_
  refine cn_newa (k := 0) (ty := .int) (atype := .int) (N' := 2816) (a0 := (2816, .inl (fun _ => Int32.ofInt 0))) En0 rfl (tg_in 95 (by decide +kernel) (by decide +kernel)) rfl (fun _ _ h => h) (fun _ => rfl) (by decide +kernel) (by decide +kernel) (Nat.le_of_ble_eq_true rfl) (Nat.le_of_ble_eq_true rfl) (Nat.le_of_ble_eq_true rfl) hW dI_K_44 (fun q5 H hW => ?_)
  refine cn_put (ty0 := tyX4) (k := 4) (C := RX4) (T := TX4) (N := 9) (ci := 4) (fs := [.ref q1, .ref q2, .ref q3, .ref q4, .null, .null, .int (Int32.ofInt 0), .int (Int32.ofInt 0), .int (Int32.ofInt 0)]) (fs' := [.ref q1, .ref q2, .ref q3, .ref q4, .ref q5, .null, .int (Int32.ofInt 0), .int (Int32.ofInt 0), .int (Int32.ofInt 0)]) En0 hW rfl in_K tyX4_ok nmX4 (Nat.le_of_ble_eq_true rfl) rfl (tg_in 106 (by decide +kernel) (by decide +kernel)) (Or.inr ⟨rfl, hin, rfl⟩) rfl rfl (Nat.le_of_ble_eq_true rfl) rfl dI_K_46 (fun H locs hW => ?_)
  refine lv_aload_n hx hb dI_K_49 rfl (lv_at hl 0 rfl) ?_
  refine lv_sipush (v := Int32.ofInt 10201) hx hb dI_K_50 (by decide +kernel) ?_
  refine cn_newa (k := 0) (ty := .int) (atype := .int) (N' := 10201) (a0 := (10201, .inl (fun _ => Int32.ofInt 0))) En0 rfl (tg_in 95 (by decide +kernel) (by decide +kernel)) rfl (fun _ _ h => h) (fun _ => rfl) (by decide +kernel) (by decide +kernel) (Nat.le_of_ble_eq_true rfl) (Nat.le_of_ble_eq_true rfl) (Nat.le_of_ble_eq_true rfl) hW dI_K_53 (fun q6 H hW => ?_)
  refine cn_put (ty0 := tyX4) (k := 5) (C := RX4) (T := TX4) (N := 9) (ci := 4) (fs := [.ref q1, .ref q2, .ref q3, .ref q4, .ref q5, .null, .int (Int32.ofInt 0), .int (Int32.ofInt 0), .int (Int32.ofInt 0)]) (fs' := [.ref q1, .ref q2, .ref q3, .ref q4, .ref q5, .ref q6, .int (Int32.ofInt 0), .int (Int32.ofInt 0), .int (Int32.ofInt 0)]) En0 hW rfl in_K tyX4_ok nmX4 (Nat.le_of_ble_eq_true rfl) rfl (tg_in 107 (by decide +kernel) (by decide +kernel)) (Or.inr ⟨rfl, hin, rfl⟩) rfl rfl (Nat.le_of_ble_eq_true rfl) rfl dI_K_55 (fun H locs hW => ?_)
  refine lv_aload_n hx hb dI_K_58 rfl (lv_at hl 0 rfl) ?_
  refine lv_iconst (v := Int32.ofInt 0) hx hb dI_K_59 (by decide +kernel) ?_
  refine cn_put (ty0 := tyX4) (k := 6) (C := RX4) (T := TX4) (N := 9) (ci := 4) (fs := [.ref q1, .ref q2, .ref q3, .ref q4, .ref q5, .ref q6, .int (Int32.ofInt 0), .int (Int32.ofInt 0), .int (Int32.ofInt 0)]) (fs' := [.ref q1, .ref q2, .ref q3, .ref q4, .ref q5, .ref q6, .int (Int32.ofInt 0), .int (Int32.ofInt 0), .int (Int32.ofInt 0)]) En0 hW rfl in_K tyX4_ok nmX4 (Nat.le_of_ble_eq_true rfl) rfl (tg_in 108 (by decide +kernel) (by decide +kernel)) (Or.inl rfl) rfl rfl (Nat.le_of_ble_eq_true rfl) rfl dI_K_60 (fun H locs hW => ?_)
  refine lv_aload_n hx hb dI_K_63 rfl (lv_at hl 0 rfl) ?_
  refine lv_iconst (v := Int32.ofInt 0) hx hb dI_K_64 (by decide +kernel) ?_
  refine cn_put (ty0 := tyX4) (k := 7) (C := RX4) (T := TX4) (N := 9) (ci := 4) (fs := [.ref q1, .ref q2, .ref q3, .ref q4, .ref q5, .ref q6, .int (Int32.ofInt 0), .int (Int32.ofInt 0), .int (Int32.ofInt 0)]) (fs' := [.ref q1, .ref q2, .ref q3, .ref q4, .ref q5, .ref q6, .int (Int32.ofInt 0), .int (Int32.ofInt 0), .int (Int32.ofInt 0)]) En0 hW rfl in_K tyX4_ok nmX4 (Nat.le_of_ble_eq_true rfl) rfl (tg_in 109 (by decide +kernel) (by decide +kernel)) (Or.inl rfl) rfl rfl (Nat.le_of_ble_eq_true rfl) rfl dI_K_65 (fun H locs hW => ?_)
  refine lv_aload_n hx hb dI_K_68 rfl (lv_at hl 0 rfl) ?_
  refine lv_iconst (v := Int32.ofInt 0) hx hb dI_K_69 (by decide +kernel) ?_
  refine cn_put (ty0 := tyX4) (k := 8) (C := RX4) (T := TX4) (N := 9) (ci := 4) (fs := [.ref q1, .ref q2, .ref q3, .ref q4, .ref q5, .ref q6, .int (Int32.ofInt 0), .int (Int32.ofInt 0), .int (Int32.ofInt 0)]) (fs' := [.ref q1, .ref q2, .ref q3, .ref q4, .ref q5, .ref q6, .int (Int32.ofInt 0), .int (Int32.ofInt 0), .int (Int32.ofInt 0)]) En0 hW rfl in_K tyX4_ok nmX4 (Nat.le_of_ble_eq_true rfl) rfl (tg_in 110 (by decide +kernel) (by decide +kernel)) (Or.inl rfl) rfl rfl (Nat.le_of_ble_eq_true rfl) rfl dI_K_70 (fun H locs hW => ?_)
  obtain ⟨hP, hD, hS⟩ := hW
  try simp only [List.append_eq, List.nil_append, List.cons_append, List.append_assoc] at hP hD
  refine W.widen (k := 6) (n := 27097) (Nat.le_of_ble_eq_true rfl) (Nat.le_of_ble_eq_true rfl) ?_
  exact W.vret hx hb hr (fun t ht hW => ⟨⟨_, rfl, ⟨q1, q2, q3, q4, q5, q6, rfl⟩, by rw [ht]; exact hP, va_K.moved hW.alike hK, hD⟩, hS.F ht⟩) hS.2.2 dI_K_73
def yI_C : MethodName := ⟨RX2, "<init>", "()V"⟩
abbrev bI_C : ByteArray := prog_4_method_1_code
theorem dI_C_0 : decode bI_C 0 = .ok (.aload_n 0, 1) := by decide +kernel
theorem dI_C_1 : decode bI_C 1 = .ok (.invokespecial 3, 3) := by decide +kernel
theorem dI_C_4 : decode bI_C 4 = .ok (.aload_n 0, 1) := by decide +kernel
theorem dI_C_5 : decode bI_C 5 = .ok (.new 9, 3) := by decide +kernel
theorem dI_C_8 : decode bI_C 8 = .ok (.dup, 1) := by decide +kernel
theorem dI_C_9 : decode bI_C 9 = .ok (.invokespecial 11, 3) := by decide +kernel
theorem dI_C_12 : decode bI_C 12 = .ok (.putfield 12, 3) := by decide +kernel
theorem dI_C_15 : decode bI_C 15 = .ok (.aload_n 0, 1) := by decide +kernel
theorem dI_C_16 : decode bI_C 16 = .ok (.bipush 100, 2) := by decide +kernel
theorem dI_C_18 : decode bI_C 18 = .ok (.newarray .int, 2) := by decide +kernel
theorem dI_C_20 : decode bI_C 20 = .ok (.putfield 18, 3) := by decide +kernel
theorem dI_C_23 : decode bI_C 23 = .ok (.aload_n 0, 1) := by decide +kernel
theorem dI_C_24 : decode bI_C 24 = .ok (.new 22, 3) := by decide +kernel
theorem dI_C_27 : decode bI_C 27 = .ok (.dup, 1) := by decide +kernel
theorem dI_C_28 : decode bI_C 28 = .ok (.invokespecial 24, 3) := by decide +kernel
theorem dI_C_31 : decode bI_C 31 = .ok (.putfield 25, 3) := by decide +kernel
theorem dI_C_34 : decode bI_C 34 = .ok (.aload_n 0, 1) := by decide +kernel
theorem dI_C_35 : decode bI_C 35 = .ok (.iconst 0, 1) := by decide +kernel
theorem dI_C_36 : decode bI_C 36 = .ok (.putfield 29, 3) := by decide +kernel
theorem dI_C_39 : decode bI_C 39 = .ok (.aload_n 0, 1) := by decide +kernel
theorem dI_C_40 : decode bI_C 40 = .ok (.iconst 0, 1) := by decide +kernel
theorem dI_C_41 : decode bI_C 41 = .ok (.putfield 33, 3) := by decide +kernel
theorem dI_C_44 : decode bI_C 44 = .ok (.aload_n 0, 1) := by decide +kernel
theorem dI_C_45 : decode bI_C 45 = .ok (.iconst 0, 1) := by decide +kernel
theorem dI_C_46 : decode bI_C 46 = .ok (.putfield 36, 3) := by decide +kernel
theorem dI_C_49 : decode bI_C 49 = .ok (.aload_n 0, 1) := by decide +kernel
theorem dI_C_50 : decode bI_C 50 = .ok (.iconst (-1), 1) := by decide +kernel
theorem dI_C_51 : decode bI_C 51 = .ok (.putfield 39, 3) := by decide +kernel
theorem dI_C_54 : decode bI_C 54 = .ok (.return_, 1) := by decide +kernel
theorem df_C : ∀ j, j < 7 → defaultValue (tyX2 j) = vp_V [.null, .null, .null, .int (Int32.ofInt 0), .int (Int32.ofInt 0), .int (Int32.ofInt 0), .int (Int32.ofInt 0)] j := fun j hj => match j, hj with
  | 0, _ => rfl
  | 1, _ => rfl
  | 2, _ => rfl
  | 3, _ => rfl
  | 4, _ => rfl
  | 5, _ => rfl
  | 6, _ => rfl
  | j + 7, hj => absurd hj (by omega)
def WI_C (cA : Nat → ClassId) (h : Nat) (w : va_W) : Prop := ∃ q1 q2 q3 q4 q5 : Nat, w = [(h, .inr (2, [.ref q1, .ref q3, .ref q4, .int (Int32.ofInt 0), .int (Int32.ofInt 0), .int (Int32.ofInt 0), .int (Int32.ofInt (-1))])), (q1, .inr (3, [.ref q2])), (q2, .inl (cA 1, 6100, .inr (.inl (fun _ => Int64.ofInt 0)))), (q3, .inl (cA 0, 100, .inl (fun _ => Int32.ofInt 0))), (q4, .inr (1, [.ref q5, .int (Int32.ofInt 0)])), (q5, .inl (cA 0, 600, .inl (fun _ => Int32.ofInt 0)))]
set_option maxHeartbeats 4000000 in
set_option maxRecDepth 100000 in
theorem ct_C {l : Launch} : Ct l yI_C bI_C 2 5 6803 2 [.null, .null, .null, .int (Int32.ofInt 0), .int (Int32.ofInt 0), .int (Int32.ofInt 0), .int (Int32.ofInt 0)] [(RX2, 11, yI_L), (RX2, 24, yI_T)] WI_C := by
  intro D cA h sz
  refine Met.ofW (cc := bI_C) (maxL := 1) (ret := none) (by decide) rfl ?_
  intro p e s m args below meth c s₁ B hml hv
  obtain ⟨rfl, hsz, hP, hK, hD0, hNw⟩ := hv
  have hx := B.exec
  have hb := B.bytes
  have hr := B.returns
  have hts0 := atoms_spec (ws := Jvm.Cond.code yI_C bI_C 1 none :: TG) B.pre
  have hown : s.vm.findClass RX2 = some m.cls := findClass_of_methodNamed B.named
  have hlocks := B.notSynchronized
  have hin : meth.name = "<init>" := (name_of_methodNamed B.named B.method).1
  subst hsz
  have hD := hD0.self (sz := s.heap.size)
  generalize hAe : va_A [(h, .inr (2, [.null, .null, .null, .int (Int32.ofInt 0), .int (Int32.ofInt 0), .int (Int32.ofInt 0), .int (Int32.ofInt 0)]))] s.heap.size = A at hD ⊢
  have hA : ∀ q : Nat, s.heap.size ≤ q → A q := fun q h => by rw [← hAe]; exact Or.inr h
  have hS : va_S A s.heap s.heap [] := va_S.rf
  have hl := lv_entry ([.ref h]) (n := 1) (Nat.le_of_ble_eq_true rfl)
  rw [lg_entry_eq]
  generalize (lg_sl ([.ref h]) ++ List.replicate (1 - (lg_sl ([.ref h])).length) Slot.unset).toArray = ls at hl ⊢
  have hl : lv_has ls 1 [(0, .ref h)] := hl
  have hts : ∀ w ∈ TG, w.before ([Value.ref h]).toArray s = true := fun w hw => hts0 w (List.mem_cons_of_mem _ hw)
  have En0 : En p s m ([Value.ref h]).toArray c bI_C D cA A s.heap RX2 1 := ⟨hx, hb, hml, hown, hts, hK, hA⟩
  have hW : Wd D A s.heap [(h, .inr (2, [.null, .null, .null, .int (Int32.ofInt 0), .int (Int32.ofInt 0), .int (Int32.ofInt 0), .int (Int32.ofInt 0)]))] s.heap [] := ⟨hP, hD, hS⟩
  refine lv_aload_n hx hb dI_C_0 rfl (lv_at hl 0 rfl) ?_
  refine cn_init En0 (tg_in 203 (by decide +kernel) (by decide +kernel)) ⟨Nat.le_of_ble_eq_true rfl, Nat.le_of_ble_eq_true rfl⟩ hl.1 dI_C_1 ?_
  refine lv_aload_n hx hb dI_C_4 rfl (lv_at hl 0 rfl) ?_
  refine cn_makeN (ty0 := tyX3) En0 (C := RX3) (T := TX3) (N := 1) (ci := 3) rfl in_L tyX3_ok df_L (tg_in 204 (by decide +kernel) (by decide +kernel)) (tg_in 153 (by decide +kernel) (by decide +kernel)) (tg_in 50 (by decide +kernel) (by decide +kernel)) (ct_L (l := l)) (fun _ h => absurd h List.not_mem_nil) rfl rfl (hNw (RX2, 11, yI_L) (List.mem_of_getElem? (i := 0) rfl)) (tg_in 155 (by decide +kernel) (by decide +kernel)) (tg_in 156 (by decide +kernel) (by decide +kernel)) (by decide +kernel) ⟨Nat.le_of_ble_eq_true rfl, Nat.le_of_ble_eq_true rfl⟩ (Nat.le_of_ble_eq_true rfl) (Nat.le_of_ble_eq_true rfl) (Nat.le_of_ble_eq_true rfl) hl.1 hW dI_C_5 dI_C_8 dI_C_9 (fun q1 w H locs hw hW => ?_)
  obtain ⟨q2, rfl⟩ := hw
  refine cn_put (ty0 := tyX2) (k := 0) (C := RX2) (T := TX2) (N := 7) (ci := 2) (fs := [.null, .null, .null, .int (Int32.ofInt 0), .int (Int32.ofInt 0), .int (Int32.ofInt 0), .int (Int32.ofInt 0)]) (fs' := [.ref q1, .null, .null, .int (Int32.ofInt 0), .int (Int32.ofInt 0), .int (Int32.ofInt 0), .int (Int32.ofInt 0)]) En0 hW rfl in_C tyX2_ok nmX2 (Nat.le_of_ble_eq_true rfl) rfl (tg_in 219 (by decide +kernel) (by decide +kernel)) (Or.inr ⟨rfl, hin, rfl⟩) rfl rfl (Nat.le_of_ble_eq_true rfl) rfl dI_C_12 (fun H locs hW => ?_)
  refine lv_aload_n hx hb dI_C_15 rfl (lv_at hl 0 rfl) ?_
  refine lv_bipush (v := Int32.ofInt 100) hx hb dI_C_16 (by decide +kernel) ?_
  refine cn_newa (k := 0) (ty := .int) (atype := .int) (N' := 100) (a0 := (100, .inl (fun _ => Int32.ofInt 0))) En0 rfl (tg_in 95 (by decide +kernel) (by decide +kernel)) rfl (fun _ _ h => h) (fun _ => rfl) (by decide +kernel) (by decide +kernel) (Nat.le_of_ble_eq_true rfl) (Nat.le_of_ble_eq_true rfl) (Nat.le_of_ble_eq_true rfl) hW dI_C_18 (fun q3 H hW => ?_)
  refine cn_put (ty0 := tyX2) (k := 1) (C := RX2) (T := TX2) (N := 7) (ci := 2) (fs := [.ref q1, .null, .null, .int (Int32.ofInt 0), .int (Int32.ofInt 0), .int (Int32.ofInt 0), .int (Int32.ofInt 0)]) (fs' := [.ref q1, .ref q3, .null, .int (Int32.ofInt 0), .int (Int32.ofInt 0), .int (Int32.ofInt 0), .int (Int32.ofInt 0)]) En0 hW rfl in_C tyX2_ok nmX2 (Nat.le_of_ble_eq_true rfl) rfl (tg_in 220 (by decide +kernel) (by decide +kernel)) (Or.inr ⟨rfl, hin, rfl⟩) rfl rfl (Nat.le_of_ble_eq_true rfl) rfl dI_C_20 (fun H locs hW => ?_)
  refine lv_aload_n hx hb dI_C_23 rfl (lv_at hl 0 rfl) ?_
  refine cn_makeN (ty0 := tyX1) En0 (C := RX1) (T := TX1) (N := 2) (ci := 1) rfl in_T tyX1_ok df_T (tg_in 206 (by decide +kernel) (by decide +kernel)) (tg_in 207 (by decide +kernel) (by decide +kernel)) (tg_in 54 (by decide +kernel) (by decide +kernel)) (ct_T (l := l)) (fun _ h => absurd h List.not_mem_nil) rfl rfl (hNw (RX2, 24, yI_T) (List.mem_of_getElem? (i := 1) rfl)) (tg_in 209 (by decide +kernel) (by decide +kernel)) (tg_in 210 (by decide +kernel) (by decide +kernel)) (by decide +kernel) ⟨Nat.le_of_ble_eq_true rfl, Nat.le_of_ble_eq_true rfl⟩ (Nat.le_of_ble_eq_true rfl) (Nat.le_of_ble_eq_true rfl) (Nat.le_of_ble_eq_true rfl) hl.1 hW dI_C_24 dI_C_27 dI_C_28 (fun q4 w H locs hw hW => ?_)
  obtain ⟨q5, rfl⟩ := hw
  refine cn_put (ty0 := tyX2) (k := 2) (C := RX2) (T := TX2) (N := 7) (ci := 2) (fs := [.ref q1, .ref q3, .null, .int (Int32.ofInt 0), .int (Int32.ofInt 0), .int (Int32.ofInt 0), .int (Int32.ofInt 0)]) (fs' := [.ref q1, .ref q3, .ref q4, .int (Int32.ofInt 0), .int (Int32.ofInt 0), .int (Int32.ofInt 0), .int (Int32.ofInt 0)]) En0 hW rfl in_C tyX2_ok nmX2 (Nat.le_of_ble_eq_true rfl) rfl (tg_in 221 (by decide +kernel) (by decide +kernel)) (Or.inr ⟨rfl, hin, rfl⟩) rfl rfl (Nat.le_of_ble_eq_true rfl) rfl dI_C_31 (fun H locs hW => ?_)
  refine lv_aload_n hx hb dI_C_34 rfl (lv_at hl 0 rfl) ?_
  refine lv_iconst (v := Int32.ofInt 0) hx hb dI_C_35 (by decide +kernel) ?_
  refine cn_put (ty0 := tyX2) (k := 3) (C := RX2) (T := TX2) (N := 7) (ci := 2) (fs := [.ref q1, .ref q3, .ref q4, .int (Int32.ofInt 0), .int (Int32.ofInt 0), .int (Int32.ofInt 0), .int (Int32.ofInt 0)]) (fs' := [.ref q1, .ref q3, .ref q4, .int (Int32.ofInt 0), .int (Int32.ofInt 0), .int (Int32.ofInt 0), .int (Int32.ofInt 0)]) En0 hW rfl in_C tyX2_ok nmX2 (Nat.le_of_ble_eq_true rfl) rfl (tg_in 222 (by decide +kernel) (by decide +kernel)) (Or.inl rfl) rfl rfl (Nat.le_of_ble_eq_true rfl) rfl dI_C_36 (fun H locs hW => ?_)
  refine lv_aload_n hx hb dI_C_39 rfl (lv_at hl 0 rfl) ?_
  refine lv_iconst (v := Int32.ofInt 0) hx hb dI_C_40 (by decide +kernel) ?_
  refine cn_put (ty0 := tyX2) (k := 4) (C := RX2) (T := TX2) (N := 7) (ci := 2) (fs := [.ref q1, .ref q3, .ref q4, .int (Int32.ofInt 0), .int (Int32.ofInt 0), .int (Int32.ofInt 0), .int (Int32.ofInt 0)]) (fs' := [.ref q1, .ref q3, .ref q4, .int (Int32.ofInt 0), .int (Int32.ofInt 0), .int (Int32.ofInt 0), .int (Int32.ofInt 0)]) En0 hW rfl in_C tyX2_ok nmX2 (Nat.le_of_ble_eq_true rfl) rfl (tg_in 223 (by decide +kernel) (by decide +kernel)) (Or.inl rfl) rfl rfl (Nat.le_of_ble_eq_true rfl) rfl dI_C_41 (fun H locs hW => ?_)
  refine lv_aload_n hx hb dI_C_44 rfl (lv_at hl 0 rfl) ?_
  refine lv_iconst (v := Int32.ofInt 0) hx hb dI_C_45 (by decide +kernel) ?_
  refine cn_put (ty0 := tyX2) (k := 5) (C := RX2) (T := TX2) (N := 7) (ci := 2) (fs := [.ref q1, .ref q3, .ref q4, .int (Int32.ofInt 0), .int (Int32.ofInt 0), .int (Int32.ofInt 0), .int (Int32.ofInt 0)]) (fs' := [.ref q1, .ref q3, .ref q4, .int (Int32.ofInt 0), .int (Int32.ofInt 0), .int (Int32.ofInt 0), .int (Int32.ofInt 0)]) En0 hW rfl in_C tyX2_ok nmX2 (Nat.le_of_ble_eq_true rfl) rfl (tg_in 224 (by decide +kernel) (by decide +kernel)) (Or.inl rfl) rfl rfl (Nat.le_of_ble_eq_true rfl) rfl dI_C_46 (fun H locs hW => ?_)
  refine lv_aload_n hx hb dI_C_49 rfl (lv_at hl 0 rfl) ?_
  refine lv_iconst (v := Int32.ofInt (-1)) hx hb dI_C_50 (by decide +kernel) ?_
  refine cn_put (ty0 := tyX2) (k := 6) (C := RX2) (T := TX2) (N := 7) (ci := 2) (fs := [.ref q1, .ref q3, .ref q4, .int (Int32.ofInt 0), .int (Int32.ofInt 0), .int (Int32.ofInt 0), .int (Int32.ofInt 0)]) (fs' := [.ref q1, .ref q3, .ref q4, .int (Int32.ofInt 0), .int (Int32.ofInt 0), .int (Int32.ofInt 0), .int (Int32.ofInt (-1))]) En0 hW rfl in_C tyX2_ok nmX2 (Nat.le_of_ble_eq_true rfl) rfl (tg_in 225 (by decide +kernel) (by decide +kernel)) (Or.inl rfl) rfl rfl (Nat.le_of_ble_eq_true rfl) rfl dI_C_51 (fun H locs hW => ?_)
  obtain ⟨hP, hD, hS⟩ := hW
  try simp only [List.append_eq, List.nil_append, List.cons_append, List.append_assoc] at hP hD
  refine W.widen (k := 5) (n := 6803) (Nat.le_of_ble_eq_true rfl) (Nat.le_of_ble_eq_true rfl) ?_
  exact W.vret hx hb hr (fun t ht hW => ⟨⟨_, rfl, ⟨q1, q2, q3, q4, q5, rfl⟩, by rw [ht]; exact hP, va_K.moved hW.alike hK, hD⟩, hS.F ht⟩) hS.2.2 dI_C_54
def yI_X : MethodName := ⟨RX8, "<init>", "()V"⟩
abbrev bI_X : ByteArray := prog_1_method_1_code
theorem dI_X_0 : decode bI_X 0 = .ok (.aload_n 0, 1) := by decide +kernel
theorem dI_X_1 : decode bI_X 1 = .ok (.invokespecial 1, 3) := by decide +kernel
theorem dI_X_4 : decode bI_X 4 = .ok (.aload_n 0, 1) := by decide +kernel
theorem dI_X_5 : decode bI_X 5 = .ok (.new 7, 3) := by decide +kernel
theorem dI_X_8 : decode bI_X 8 = .ok (.dup, 1) := by decide +kernel
theorem dI_X_9 : decode bI_X 9 = .ok (.invokespecial 9, 3) := by decide +kernel
theorem dI_X_12 : decode bI_X 12 = .ok (.putfield 10, 3) := by decide +kernel
theorem dI_X_15 : decode bI_X 15 = .ok (.aload_n 0, 1) := by decide +kernel
theorem dI_X_16 : decode bI_X 16 = .ok (.new 16, 3) := by decide +kernel
theorem dI_X_19 : decode bI_X 19 = .ok (.dup, 1) := by decide +kernel
theorem dI_X_20 : decode bI_X 20 = .ok (.invokespecial 18, 3) := by decide +kernel
theorem dI_X_23 : decode bI_X 23 = .ok (.putfield 19, 3) := by decide +kernel
theorem dI_X_26 : decode bI_X 26 = .ok (.aload_n 0, 1) := by decide +kernel
theorem dI_X_27 : decode bI_X 27 = .ok (.new 23, 3) := by decide +kernel
theorem dI_X_30 : decode bI_X 30 = .ok (.dup, 1) := by decide +kernel
theorem dI_X_31 : decode bI_X 31 = .ok (.invokespecial 25, 3) := by decide +kernel
theorem dI_X_34 : decode bI_X 34 = .ok (.putfield 26, 3) := by decide +kernel
theorem dI_X_37 : decode bI_X 37 = .ok (.aload_n 0, 1) := by decide +kernel
theorem dI_X_38 : decode bI_X 38 = .ok (.new 30, 3) := by decide +kernel
theorem dI_X_41 : decode bI_X 41 = .ok (.dup, 1) := by decide +kernel
theorem dI_X_42 : decode bI_X 42 = .ok (.invokespecial 32, 3) := by decide +kernel
theorem dI_X_45 : decode bI_X 45 = .ok (.putfield 33, 3) := by decide +kernel
theorem dI_X_48 : decode bI_X 48 = .ok (.aload_n 0, 1) := by decide +kernel
theorem dI_X_49 : decode bI_X 49 = .ok (.new 30, 3) := by decide +kernel
theorem dI_X_52 : decode bI_X 52 = .ok (.dup, 1) := by decide +kernel
theorem dI_X_53 : decode bI_X 53 = .ok (.invokespecial 32, 3) := by decide +kernel
theorem dI_X_56 : decode bI_X 56 = .ok (.putfield 37, 3) := by decide +kernel
theorem dI_X_59 : decode bI_X 59 = .ok (.aload_n 0, 1) := by decide +kernel
theorem dI_X_60 : decode bI_X 60 = .ok (.new 40, 3) := by decide +kernel
theorem dI_X_63 : decode bI_X 63 = .ok (.dup, 1) := by decide +kernel
theorem dI_X_64 : decode bI_X 64 = .ok (.invokespecial 42, 3) := by decide +kernel
theorem dI_X_67 : decode bI_X 67 = .ok (.putfield 43, 3) := by decide +kernel
theorem dI_X_70 : decode bI_X 70 = .ok (.aload_n 0, 1) := by decide +kernel
theorem dI_X_71 : decode bI_X 71 = .ok (.new 47, 3) := by decide +kernel
theorem dI_X_74 : decode bI_X 74 = .ok (.dup, 1) := by decide +kernel
theorem dI_X_75 : decode bI_X 75 = .ok (.invokespecial 49, 3) := by decide +kernel
theorem dI_X_78 : decode bI_X 78 = .ok (.putfield 50, 3) := by decide +kernel
theorem dI_X_81 : decode bI_X 81 = .ok (.aload_n 0, 1) := by decide +kernel
theorem dI_X_82 : decode bI_X 82 = .ok (.new 54, 3) := by decide +kernel
theorem dI_X_85 : decode bI_X 85 = .ok (.dup, 1) := by decide +kernel
theorem dI_X_86 : decode bI_X 86 = .ok (.invokespecial 56, 3) := by decide +kernel
theorem dI_X_89 : decode bI_X 89 = .ok (.putfield 57, 3) := by decide +kernel
theorem dI_X_92 : decode bI_X 92 = .ok (.aload_n 0, 1) := by decide +kernel
theorem dI_X_93 : decode bI_X 93 = .ok (.new 61, 3) := by decide +kernel
theorem dI_X_96 : decode bI_X 96 = .ok (.dup, 1) := by decide +kernel
theorem dI_X_97 : decode bI_X 97 = .ok (.invokespecial 63, 3) := by decide +kernel
theorem dI_X_100 : decode bI_X 100 = .ok (.putfield 64, 3) := by decide +kernel
theorem dI_X_103 : decode bI_X 103 = .ok (.aload_n 0, 1) := by decide +kernel
theorem dI_X_104 : decode bI_X 104 = .ok (.new 61, 3) := by decide +kernel
theorem dI_X_107 : decode bI_X 107 = .ok (.dup, 1) := by decide +kernel
theorem dI_X_108 : decode bI_X 108 = .ok (.invokespecial 63, 3) := by decide +kernel
theorem dI_X_111 : decode bI_X 111 = .ok (.putfield 68, 3) := by decide +kernel
theorem dI_X_114 : decode bI_X 114 = .ok (.aload_n 0, 1) := by decide +kernel
theorem dI_X_115 : decode bI_X 115 = .ok (.new 61, 3) := by decide +kernel
theorem dI_X_118 : decode bI_X 118 = .ok (.dup, 1) := by decide +kernel
theorem dI_X_119 : decode bI_X 119 = .ok (.invokespecial 63, 3) := by decide +kernel
theorem dI_X_122 : decode bI_X 122 = .ok (.putfield 71, 3) := by decide +kernel
theorem dI_X_125 : decode bI_X 125 = .ok (.return_, 1) := by decide +kernel
theorem df_X : ∀ j, j < 12 → defaultValue (tyX8 j) = vp_V [.null, .null, .null, .null, .null, .null, .null, .null, .null, .null, .null, .int (Int32.ofInt 0)] j := fun j hj => match j, hj with
  | 0, _ => rfl
  | 1, _ => rfl
  | 2, _ => rfl
  | 3, _ => rfl
  | 4, _ => rfl
  | 5, _ => rfl
  | 6, _ => rfl
  | 7, _ => rfl
  | 8, _ => rfl
  | 9, _ => rfl
  | 10, _ => rfl
  | 11, _ => rfl
  | j + 12, hj => absurd hj (by omega)
def WI_X (cA : Nat → ClassId) (h : Nat) (w : va_W) : Prop := ∃ q1 q2 q3 q4 q5 q6 q7 q8 q9 q10 q11 q12 q13 q14 q15 q16 q17 q18 q19 q20 q21 q22 q23 q24 q25 q26 q27 q28 q29 q30 q31 q32 q33 q34 q35 q36 : Nat, w = ((h, .inr (8, [.ref q1, .ref q4, .ref q11, .ref q16, .ref q18, .ref q20, .ref q23, .ref q25, .ref q31, .ref q33, .ref q35, .int (Int32.ofInt 0)])) :: (q1, .inr (0, [.ref q2, .ref q3, .int (Int32.ofInt 0), .int (Int32.ofInt 0), .int (Int32.ofInt (-1)), .int (Int32.ofInt (-1))])) :: (q2, .inl (cA 0, 4, .inl (fun _ => Int32.ofInt 0))) :: (q3, .inl (cA 0, 4, .inl (fun _ => Int32.ofInt 0))) :: (q4, .inr (4, [.ref q5, .ref q6, .ref q7, .ref q8, .ref q9, .ref q10, .int (Int32.ofInt 0), .int (Int32.ofInt 0), .int (Int32.ofInt 0)])) :: (q5, .inl (cA 0, 2816, .inl (fun _ => Int32.ofInt 0))) :: (q6, .inl (cA 0, 2816, .inl (fun _ => Int32.ofInt 0))) :: (q7, .inl (cA 0, 5632, .inl (fun _ => Int32.ofInt 0))) :: (q8, .inl (cA 0, 2816, .inl (fun _ => Int32.ofInt 0))) :: (q9, .inl (cA 0, 2816, .inl (fun _ => Int32.ofInt 0))) :: (q10, .inl (cA 0, 10201, .inl (fun _ => Int32.ofInt 0))) :: (q11, .inr (7, [.ref q12, .ref q13, .ref q14, .ref q15, .int (Int32.ofInt 0)])) :: (q12, .inl (cA 0, 200, .inl (fun _ => Int32.ofInt 0))) :: (q13, .inl (cA 0, 100, .inl (fun _ => Int32.ofInt 0))) :: (q14, .inl (cA 0, 100, .inl (fun _ => Int32.ofInt 0))) :: (q15, .inl (cA 0, 100, .inl (fun _ => Int32.ofInt 0))) :: (q16, .inr (3, [.ref q17])) :: (q17, .inl (cA 1, 6100, .inr (.inl (fun _ => Int64.ofInt 0)))) :: (q18, .inr (3, [.ref q19])) :: (q19, .inl (cA 1, 6100, .inr (.inl (fun _ => Int64.ofInt 0)))) :: (q20, .inr (5, [.ref q21, .ref q22, .int (Int32.ofInt 0), .int (Int32.ofInt (-1)), .int (Int32.ofInt 0), .int (Int32.ofInt 0)])) :: (q21, .inl (cA 1, 8192, .inr (.inl (fun _ => Int64.ofInt 0)))) :: (q22, .inl (cA 1, 8192, .inr (.inl (fun _ => Int64.ofInt 0)))) :: (q23, .inr (6, [.ref q24])) :: (q24, .inl (cA 0, 100, .inl (fun _ => Int32.ofInt 0))) :: (q25, .inr (2, [.ref q26, .ref q28, .ref q29, .int (Int32.ofInt 0), .int (Int32.ofInt 0), .int (Int32.ofInt 0), .int (Int32.ofInt (-1))])) :: (q26, .inr (3, [.ref q27])) :: (q27, .inl (cA 1, 6100, .inr (.inl (fun _ => Int64.ofInt 0)))) :: (q28, .inl (cA 0, 100, .inl (fun _ => Int32.ofInt 0))) :: (q29, .inr (1, [.ref q30, .int (Int32.ofInt 0)])) :: (q30, .inl (cA 0, 600, .inl (fun _ => Int32.ofInt 0))) :: (q31, .inr (1, [.ref q32, .int (Int32.ofInt 0)])) :: (q32, .inl (cA 0, 600, .inl (fun _ => Int32.ofInt 0))) :: (q33, .inr (1, [.ref q34, .int (Int32.ofInt 0)])) :: (q34, .inl (cA 0, 600, .inl (fun _ => Int32.ofInt 0))) :: (q35, .inr (1, [.ref q36, .int (Int32.ofInt 0)])) :: (q36, .inl (cA 0, 600, .inl (fun _ => Int32.ofInt 0))) :: [])
set_option maxHeartbeats 4000000 in
set_option maxRecDepth 100000 in
theorem ct_X {l : Launch} : Ct l yI_X bI_X 3 36 64934 8 [.null, .null, .null, .null, .null, .null, .null, .null, .null, .null, .null, .int (Int32.ofInt 0)] [(RX8, 9, yI_B), (RX8, 18, yI_K), (RX8, 25, yI_W), (RX8, 32, yI_L), (RX8, 42, yI_S), (RX8, 49, yI_G), (RX8, 56, yI_C), (RX8, 63, yI_T), (RX2, 11, yI_L), (RX2, 24, yI_T)] WI_X := by
  intro D cA h sz
  refine Met.ofW (cc := bI_X) (maxL := 1) (ret := none) (by decide) rfl ?_
  intro p e s m args below meth c s₁ B hml hv
  obtain ⟨rfl, hsz, hP, hK, hD0, hNw⟩ := hv
  have hx := B.exec
  have hb := B.bytes
  have hr := B.returns
  have hts0 := atoms_spec (ws := Jvm.Cond.code yI_X bI_X 1 none :: TG) B.pre
  have hown : s.vm.findClass RX8 = some m.cls := findClass_of_methodNamed B.named
  have hlocks := B.notSynchronized
  have hin : meth.name = "<init>" := (name_of_methodNamed B.named B.method).1
  subst hsz
  have hD := hD0.self (sz := s.heap.size)
  generalize hAe : va_A [(h, .inr (8, [.null, .null, .null, .null, .null, .null, .null, .null, .null, .null, .null, .int (Int32.ofInt 0)]))] s.heap.size = A at hD ⊢
  have hA : ∀ q : Nat, s.heap.size ≤ q → A q := fun q h => by rw [← hAe]; exact Or.inr h
  have hS : va_S A s.heap s.heap [] := va_S.rf
  have hl := lv_entry ([.ref h]) (n := 1) (Nat.le_of_ble_eq_true rfl)
  rw [lg_entry_eq]
  generalize (lg_sl ([.ref h]) ++ List.replicate (1 - (lg_sl ([.ref h])).length) Slot.unset).toArray = ls at hl ⊢
  have hl : lv_has ls 1 [(0, .ref h)] := hl
  have hts : ∀ w ∈ TG, w.before ([Value.ref h]).toArray s = true := fun w hw => hts0 w (List.mem_cons_of_mem _ hw)
  have En0 : En p s m ([Value.ref h]).toArray c bI_X D cA A s.heap RX8 1 := ⟨hx, hb, hml, hown, hts, hK, hA⟩
  have hW : Wd D A s.heap [(h, .inr (8, [.null, .null, .null, .null, .null, .null, .null, .null, .null, .null, .null, .int (Int32.ofInt 0)]))] s.heap [] := ⟨hP, hD, hS⟩
  refine lv_aload_n hx hb dI_X_0 rfl (lv_at hl 0 rfl) ?_
  refine cn_init En0 (tg_in 67 (by decide +kernel) (by decide +kernel)) ⟨Nat.le_of_ble_eq_true rfl, Nat.le_of_ble_eq_true rfl⟩ hl.1 dI_X_1 ?_
  refine lv_aload_n hx hb dI_X_4 rfl (lv_at hl 0 rfl) ?_
  refine cn_makeN (ty0 := tyX0) En0 (C := RX0) (T := TX0) (N := 6) (ci := 0) rfl in_B tyX0_ok df_B (tg_in 70 (by decide +kernel) (by decide +kernel)) (tg_in 71 (by decide +kernel) (by decide +kernel)) (tg_in 47 (by decide +kernel) (by decide +kernel)) (ct_B (l := l)) (fun _ h => absurd h List.not_mem_nil) rfl rfl (hNw (RX8, 9, yI_B) (List.mem_of_getElem? (i := 0) rfl)) (tg_in 73 (by decide +kernel) (by decide +kernel)) (tg_in 74 (by decide +kernel) (by decide +kernel)) (by decide +kernel) ⟨Nat.le_of_ble_eq_true rfl, Nat.le_of_ble_eq_true rfl⟩ (Nat.le_of_ble_eq_true rfl) (Nat.le_of_ble_eq_true rfl) (Nat.le_of_ble_eq_true rfl) hl.1 hW dI_X_5 dI_X_8 dI_X_9 (fun q1 w H locs hw hW => ?_)
  obtain ⟨q2, q3, rfl⟩ := hw
  refine cn_put (ty0 := tyX8) (k := 0) (C := RX8) (T := TX8) (N := 12) (ci := 8) (fs := [.null, .null, .null, .null, .null, .null, .null, .null, .null, .null, .null, .int (Int32.ofInt 0)]) (fs' := [.ref q1, .null, .null, .null, .null, .null, .null, .null, .null, .null, .null, .int (Int32.ofInt 0)]) En0 hW rfl in_X tyX8_ok nmX8 (Nat.le_of_ble_eq_true rfl) rfl (tg_in 243 (by decide +kernel) (by decide +kernel)) (Or.inr ⟨rfl, hin, rfl⟩) rfl rfl (Nat.le_of_ble_eq_true rfl) rfl dI_X_12 (fun H locs hW => ?_)
  refine lv_aload_n hx hb dI_X_15 rfl (lv_at hl 0 rfl) ?_
  refine cn_makeN (ty0 := tyX4) En0 (C := RX4) (T := TX4) (N := 9) (ci := 4) rfl in_K tyX4_ok df_K (tg_in 96 (by decide +kernel) (by decide +kernel)) (tg_in 97 (by decide +kernel) (by decide +kernel)) (tg_in 48 (by decide +kernel) (by decide +kernel)) (ct_K (l := l)) (fun _ h => absurd h List.not_mem_nil) rfl rfl (hNw (RX8, 18, yI_K) (List.mem_of_getElem? (i := 1) rfl)) (tg_in 99 (by decide +kernel) (by decide +kernel)) (tg_in 100 (by decide +kernel) (by decide +kernel)) (by decide +kernel) ⟨Nat.le_of_ble_eq_true rfl, Nat.le_of_ble_eq_true rfl⟩ (Nat.le_of_ble_eq_true rfl) (Nat.le_of_ble_eq_true rfl) (Nat.le_of_ble_eq_true rfl) hl.1 hW dI_X_16 dI_X_19 dI_X_20 (fun q4 w H locs hw hW => ?_)
  obtain ⟨q5, q6, q7, q8, q9, q10, rfl⟩ := hw
  refine cn_put (ty0 := tyX8) (k := 1) (C := RX8) (T := TX8) (N := 12) (ci := 8) (fs := [.ref q1, .null, .null, .null, .null, .null, .null, .null, .null, .null, .null, .int (Int32.ofInt 0)]) (fs' := [.ref q1, .ref q4, .null, .null, .null, .null, .null, .null, .null, .null, .null, .int (Int32.ofInt 0)]) En0 hW rfl in_X tyX8_ok nmX8 (Nat.le_of_ble_eq_true rfl) rfl (tg_in 244 (by decide +kernel) (by decide +kernel)) (Or.inr ⟨rfl, hin, rfl⟩) rfl rfl (Nat.le_of_ble_eq_true rfl) rfl dI_X_23 (fun H locs hW => ?_)
  refine lv_aload_n hx hb dI_X_26 rfl (lv_at hl 0 rfl) ?_
  refine cn_makeN (ty0 := tyX7) En0 (C := RX7) (T := TX7) (N := 5) (ci := 7) rfl in_W tyX7_ok df_W (tg_in 130 (by decide +kernel) (by decide +kernel)) (tg_in 131 (by decide +kernel) (by decide +kernel)) (tg_in 49 (by decide +kernel) (by decide +kernel)) (ct_W (l := l)) (fun _ h => absurd h List.not_mem_nil) rfl rfl (hNw (RX8, 25, yI_W) (List.mem_of_getElem? (i := 2) rfl)) (tg_in 133 (by decide +kernel) (by decide +kernel)) (tg_in 134 (by decide +kernel) (by decide +kernel)) (by decide +kernel) ⟨Nat.le_of_ble_eq_true rfl, Nat.le_of_ble_eq_true rfl⟩ (Nat.le_of_ble_eq_true rfl) (Nat.le_of_ble_eq_true rfl) (Nat.le_of_ble_eq_true rfl) hl.1 hW dI_X_27 dI_X_30 dI_X_31 (fun q11 w H locs hw hW => ?_)
  obtain ⟨q12, q13, q14, q15, rfl⟩ := hw
  refine cn_put (ty0 := tyX8) (k := 2) (C := RX8) (T := TX8) (N := 12) (ci := 8) (fs := [.ref q1, .ref q4, .null, .null, .null, .null, .null, .null, .null, .null, .null, .int (Int32.ofInt 0)]) (fs' := [.ref q1, .ref q4, .ref q11, .null, .null, .null, .null, .null, .null, .null, .null, .int (Int32.ofInt 0)]) En0 hW rfl in_X tyX8_ok nmX8 (Nat.le_of_ble_eq_true rfl) rfl (tg_in 245 (by decide +kernel) (by decide +kernel)) (Or.inr ⟨rfl, hin, rfl⟩) rfl rfl (Nat.le_of_ble_eq_true rfl) rfl dI_X_34 (fun H locs hW => ?_)
  refine lv_aload_n hx hb dI_X_37 rfl (lv_at hl 0 rfl) ?_
  refine cn_makeN (ty0 := tyX3) En0 (C := RX3) (T := TX3) (N := 1) (ci := 3) rfl in_L tyX3_ok df_L (tg_in 152 (by decide +kernel) (by decide +kernel)) (tg_in 153 (by decide +kernel) (by decide +kernel)) (tg_in 50 (by decide +kernel) (by decide +kernel)) (ct_L (l := l)) (fun _ h => absurd h List.not_mem_nil) rfl rfl (hNw (RX8, 32, yI_L) (List.mem_of_getElem? (i := 3) rfl)) (tg_in 155 (by decide +kernel) (by decide +kernel)) (tg_in 156 (by decide +kernel) (by decide +kernel)) (by decide +kernel) ⟨Nat.le_of_ble_eq_true rfl, Nat.le_of_ble_eq_true rfl⟩ (Nat.le_of_ble_eq_true rfl) (Nat.le_of_ble_eq_true rfl) (Nat.le_of_ble_eq_true rfl) hl.1 hW dI_X_38 dI_X_41 dI_X_42 (fun q16 w H locs hw hW => ?_)
  obtain ⟨q17, rfl⟩ := hw
  refine cn_put (ty0 := tyX8) (k := 3) (C := RX8) (T := TX8) (N := 12) (ci := 8) (fs := [.ref q1, .ref q4, .ref q11, .null, .null, .null, .null, .null, .null, .null, .null, .int (Int32.ofInt 0)]) (fs' := [.ref q1, .ref q4, .ref q11, .ref q16, .null, .null, .null, .null, .null, .null, .null, .int (Int32.ofInt 0)]) En0 hW rfl in_X tyX8_ok nmX8 (Nat.le_of_ble_eq_true rfl) rfl (tg_in 246 (by decide +kernel) (by decide +kernel)) (Or.inr ⟨rfl, hin, rfl⟩) rfl rfl (Nat.le_of_ble_eq_true rfl) rfl dI_X_45 (fun H locs hW => ?_)
  refine lv_aload_n hx hb dI_X_48 rfl (lv_at hl 0 rfl) ?_
  refine cn_makeN (ty0 := tyX3) En0 (C := RX3) (T := TX3) (N := 1) (ci := 3) rfl in_L tyX3_ok df_L (tg_in 152 (by decide +kernel) (by decide +kernel)) (tg_in 153 (by decide +kernel) (by decide +kernel)) (tg_in 50 (by decide +kernel) (by decide +kernel)) (ct_L (l := l)) (fun _ h => absurd h List.not_mem_nil) rfl rfl (hNw (RX8, 32, yI_L) (List.mem_of_getElem? (i := 3) rfl)) (tg_in 155 (by decide +kernel) (by decide +kernel)) (tg_in 156 (by decide +kernel) (by decide +kernel)) (by decide +kernel) ⟨Nat.le_of_ble_eq_true rfl, Nat.le_of_ble_eq_true rfl⟩ (Nat.le_of_ble_eq_true rfl) (Nat.le_of_ble_eq_true rfl) (Nat.le_of_ble_eq_true rfl) hl.1 hW dI_X_49 dI_X_52 dI_X_53 (fun q18 w H locs hw hW => ?_)
  obtain ⟨q19, rfl⟩ := hw
  refine cn_put (ty0 := tyX8) (k := 4) (C := RX8) (T := TX8) (N := 12) (ci := 8) (fs := [.ref q1, .ref q4, .ref q11, .ref q16, .null, .null, .null, .null, .null, .null, .null, .int (Int32.ofInt 0)]) (fs' := [.ref q1, .ref q4, .ref q11, .ref q16, .ref q18, .null, .null, .null, .null, .null, .null, .int (Int32.ofInt 0)]) En0 hW rfl in_X tyX8_ok nmX8 (Nat.le_of_ble_eq_true rfl) rfl (tg_in 247 (by decide +kernel) (by decide +kernel)) (Or.inr ⟨rfl, hin, rfl⟩) rfl rfl (Nat.le_of_ble_eq_true rfl) rfl dI_X_56 (fun H locs hW => ?_)
  refine lv_aload_n hx hb dI_X_59 rfl (lv_at hl 0 rfl) ?_
  refine cn_makeN (ty0 := tyX5) En0 (C := RX5) (T := TX5) (N := 6) (ci := 5) rfl in_S tyX5_ok df_S (tg_in 163 (by decide +kernel) (by decide +kernel)) (tg_in 164 (by decide +kernel) (by decide +kernel)) (tg_in 51 (by decide +kernel) (by decide +kernel)) (ct_S (l := l)) (fun _ h => absurd h List.not_mem_nil) rfl rfl (hNw (RX8, 42, yI_S) (List.mem_of_getElem? (i := 4) rfl)) (tg_in 166 (by decide +kernel) (by decide +kernel)) (tg_in 167 (by decide +kernel) (by decide +kernel)) (by decide +kernel) ⟨Nat.le_of_ble_eq_true rfl, Nat.le_of_ble_eq_true rfl⟩ (Nat.le_of_ble_eq_true rfl) (Nat.le_of_ble_eq_true rfl) (Nat.le_of_ble_eq_true rfl) hl.1 hW dI_X_60 dI_X_63 dI_X_64 (fun q20 w H locs hw hW => ?_)
  obtain ⟨q21, q22, rfl⟩ := hw
  refine cn_put (ty0 := tyX8) (k := 5) (C := RX8) (T := TX8) (N := 12) (ci := 8) (fs := [.ref q1, .ref q4, .ref q11, .ref q16, .ref q18, .null, .null, .null, .null, .null, .null, .int (Int32.ofInt 0)]) (fs' := [.ref q1, .ref q4, .ref q11, .ref q16, .ref q18, .ref q20, .null, .null, .null, .null, .null, .int (Int32.ofInt 0)]) En0 hW rfl in_X tyX8_ok nmX8 (Nat.le_of_ble_eq_true rfl) rfl (tg_in 248 (by decide +kernel) (by decide +kernel)) (Or.inr ⟨rfl, hin, rfl⟩) rfl rfl (Nat.le_of_ble_eq_true rfl) rfl dI_X_67 (fun H locs hW => ?_)
  refine lv_aload_n hx hb dI_X_70 rfl (lv_at hl 0 rfl) ?_
  refine cn_makeN (ty0 := tyX6) En0 (C := RX6) (T := TX6) (N := 1) (ci := 6) rfl in_G tyX6_ok df_G (tg_in 188 (by decide +kernel) (by decide +kernel)) (tg_in 189 (by decide +kernel) (by decide +kernel)) (tg_in 52 (by decide +kernel) (by decide +kernel)) (ct_G (l := l)) (fun _ h => absurd h List.not_mem_nil) rfl rfl (hNw (RX8, 49, yI_G) (List.mem_of_getElem? (i := 5) rfl)) (tg_in 191 (by decide +kernel) (by decide +kernel)) (tg_in 192 (by decide +kernel) (by decide +kernel)) (by decide +kernel) ⟨Nat.le_of_ble_eq_true rfl, Nat.le_of_ble_eq_true rfl⟩ (Nat.le_of_ble_eq_true rfl) (Nat.le_of_ble_eq_true rfl) (Nat.le_of_ble_eq_true rfl) hl.1 hW dI_X_71 dI_X_74 dI_X_75 (fun q23 w H locs hw hW => ?_)
  obtain ⟨q24, rfl⟩ := hw
  refine cn_put (ty0 := tyX8) (k := 6) (C := RX8) (T := TX8) (N := 12) (ci := 8) (fs := [.ref q1, .ref q4, .ref q11, .ref q16, .ref q18, .ref q20, .null, .null, .null, .null, .null, .int (Int32.ofInt 0)]) (fs' := [.ref q1, .ref q4, .ref q11, .ref q16, .ref q18, .ref q20, .ref q23, .null, .null, .null, .null, .int (Int32.ofInt 0)]) En0 hW rfl in_X tyX8_ok nmX8 (Nat.le_of_ble_eq_true rfl) rfl (tg_in 249 (by decide +kernel) (by decide +kernel)) (Or.inr ⟨rfl, hin, rfl⟩) rfl rfl (Nat.le_of_ble_eq_true rfl) rfl dI_X_78 (fun H locs hW => ?_)
  refine lv_aload_n hx hb dI_X_81 rfl (lv_at hl 0 rfl) ?_
  refine cn_makeN (ty0 := tyX2) En0 (C := RX2) (T := TX2) (N := 7) (ci := 2) rfl in_C tyX2_ok df_C (tg_in 198 (by decide +kernel) (by decide +kernel)) (tg_in 199 (by decide +kernel) (by decide +kernel)) (tg_in 53 (by decide +kernel) (by decide +kernel)) (ct_C (l := l)) (fun n hn => hNw n (List.mem_of_mem_drop (i := 8) hn)) rfl rfl (hNw (RX8, 56, yI_C) (List.mem_of_getElem? (i := 6) rfl)) (tg_in 201 (by decide +kernel) (by decide +kernel)) (tg_in 202 (by decide +kernel) (by decide +kernel)) (by decide +kernel) ⟨Nat.le_of_ble_eq_true rfl, Nat.le_of_ble_eq_true rfl⟩ (Nat.le_of_ble_eq_true rfl) (Nat.le_of_ble_eq_true rfl) (Nat.le_of_ble_eq_true rfl) hl.1 hW dI_X_82 dI_X_85 dI_X_86 (fun q25 w H locs hw hW => ?_)
  obtain ⟨q26, q27, q28, q29, q30, rfl⟩ := hw
  refine cn_put (ty0 := tyX8) (k := 7) (C := RX8) (T := TX8) (N := 12) (ci := 8) (fs := [.ref q1, .ref q4, .ref q11, .ref q16, .ref q18, .ref q20, .ref q23, .null, .null, .null, .null, .int (Int32.ofInt 0)]) (fs' := [.ref q1, .ref q4, .ref q11, .ref q16, .ref q18, .ref q20, .ref q23, .ref q25, .null, .null, .null, .int (Int32.ofInt 0)]) En0 hW rfl in_X tyX8_ok nmX8 (Nat.le_of_ble_eq_true rfl) rfl (tg_in 250 (by decide +kernel) (by decide +kernel)) (Or.inr ⟨rfl, hin, rfl⟩) rfl rfl (Nat.le_of_ble_eq_true rfl) rfl dI_X_89 (fun H locs hW => ?_)
  refine lv_aload_n hx hb dI_X_92 rfl (lv_at hl 0 rfl) ?_
  refine cn_makeN (ty0 := tyX1) En0 (C := RX1) (T := TX1) (N := 2) (ci := 1) rfl in_T tyX1_ok df_T (tg_in 241 (by decide +kernel) (by decide +kernel)) (tg_in 207 (by decide +kernel) (by decide +kernel)) (tg_in 54 (by decide +kernel) (by decide +kernel)) (ct_T (l := l)) (fun _ h => absurd h List.not_mem_nil) rfl rfl (hNw (RX8, 63, yI_T) (List.mem_of_getElem? (i := 7) rfl)) (tg_in 209 (by decide +kernel) (by decide +kernel)) (tg_in 210 (by decide +kernel) (by decide +kernel)) (by decide +kernel) ⟨Nat.le_of_ble_eq_true rfl, Nat.le_of_ble_eq_true rfl⟩ (Nat.le_of_ble_eq_true rfl) (Nat.le_of_ble_eq_true rfl) (Nat.le_of_ble_eq_true rfl) hl.1 hW dI_X_93 dI_X_96 dI_X_97 (fun q31 w H locs hw hW => ?_)
  obtain ⟨q32, rfl⟩ := hw
  refine cn_put (ty0 := tyX8) (k := 8) (C := RX8) (T := TX8) (N := 12) (ci := 8) (fs := [.ref q1, .ref q4, .ref q11, .ref q16, .ref q18, .ref q20, .ref q23, .ref q25, .null, .null, .null, .int (Int32.ofInt 0)]) (fs' := [.ref q1, .ref q4, .ref q11, .ref q16, .ref q18, .ref q20, .ref q23, .ref q25, .ref q31, .null, .null, .int (Int32.ofInt 0)]) En0 hW rfl in_X tyX8_ok nmX8 (Nat.le_of_ble_eq_true rfl) rfl (tg_in 251 (by decide +kernel) (by decide +kernel)) (Or.inr ⟨rfl, hin, rfl⟩) rfl rfl (Nat.le_of_ble_eq_true rfl) rfl dI_X_100 (fun H locs hW => ?_)
  refine lv_aload_n hx hb dI_X_103 rfl (lv_at hl 0 rfl) ?_
  refine cn_makeN (ty0 := tyX1) En0 (C := RX1) (T := TX1) (N := 2) (ci := 1) rfl in_T tyX1_ok df_T (tg_in 241 (by decide +kernel) (by decide +kernel)) (tg_in 207 (by decide +kernel) (by decide +kernel)) (tg_in 54 (by decide +kernel) (by decide +kernel)) (ct_T (l := l)) (fun _ h => absurd h List.not_mem_nil) rfl rfl (hNw (RX8, 63, yI_T) (List.mem_of_getElem? (i := 7) rfl)) (tg_in 209 (by decide +kernel) (by decide +kernel)) (tg_in 210 (by decide +kernel) (by decide +kernel)) (by decide +kernel) ⟨Nat.le_of_ble_eq_true rfl, Nat.le_of_ble_eq_true rfl⟩ (Nat.le_of_ble_eq_true rfl) (Nat.le_of_ble_eq_true rfl) (Nat.le_of_ble_eq_true rfl) hl.1 hW dI_X_104 dI_X_107 dI_X_108 (fun q33 w H locs hw hW => ?_)
  obtain ⟨q34, rfl⟩ := hw
  refine cn_put (ty0 := tyX8) (k := 9) (C := RX8) (T := TX8) (N := 12) (ci := 8) (fs := [.ref q1, .ref q4, .ref q11, .ref q16, .ref q18, .ref q20, .ref q23, .ref q25, .ref q31, .null, .null, .int (Int32.ofInt 0)]) (fs' := [.ref q1, .ref q4, .ref q11, .ref q16, .ref q18, .ref q20, .ref q23, .ref q25, .ref q31, .ref q33, .null, .int (Int32.ofInt 0)]) En0 hW rfl in_X tyX8_ok nmX8 (Nat.le_of_ble_eq_true rfl) rfl (tg_in 252 (by decide +kernel) (by decide +kernel)) (Or.inr ⟨rfl, hin, rfl⟩) rfl rfl (Nat.le_of_ble_eq_true rfl) rfl dI_X_111 (fun H locs hW => ?_)
  refine lv_aload_n hx hb dI_X_114 rfl (lv_at hl 0 rfl) ?_
  refine cn_makeN (ty0 := tyX1) En0 (C := RX1) (T := TX1) (N := 2) (ci := 1) rfl in_T tyX1_ok df_T (tg_in 241 (by decide +kernel) (by decide +kernel)) (tg_in 207 (by decide +kernel) (by decide +kernel)) (tg_in 54 (by decide +kernel) (by decide +kernel)) (ct_T (l := l)) (fun _ h => absurd h List.not_mem_nil) rfl rfl (hNw (RX8, 63, yI_T) (List.mem_of_getElem? (i := 7) rfl)) (tg_in 209 (by decide +kernel) (by decide +kernel)) (tg_in 210 (by decide +kernel) (by decide +kernel)) (by decide +kernel) ⟨Nat.le_of_ble_eq_true rfl, Nat.le_of_ble_eq_true rfl⟩ (Nat.le_of_ble_eq_true rfl) (Nat.le_of_ble_eq_true rfl) (Nat.le_of_ble_eq_true rfl) hl.1 hW dI_X_115 dI_X_118 dI_X_119 (fun q35 w H locs hw hW => ?_)
  obtain ⟨q36, rfl⟩ := hw
  refine cn_put (ty0 := tyX8) (k := 10) (C := RX8) (T := TX8) (N := 12) (ci := 8) (fs := [.ref q1, .ref q4, .ref q11, .ref q16, .ref q18, .ref q20, .ref q23, .ref q25, .ref q31, .ref q33, .null, .int (Int32.ofInt 0)]) (fs' := [.ref q1, .ref q4, .ref q11, .ref q16, .ref q18, .ref q20, .ref q23, .ref q25, .ref q31, .ref q33, .ref q35, .int (Int32.ofInt 0)]) En0 hW rfl in_X tyX8_ok nmX8 (Nat.le_of_ble_eq_true rfl) rfl (tg_in 253 (by decide +kernel) (by decide +kernel)) (Or.inr ⟨rfl, hin, rfl⟩) rfl rfl (Nat.le_of_ble_eq_true rfl) rfl dI_X_122 (fun H locs hW => ?_)
  obtain ⟨hP, hD, hS⟩ := hW
  try simp only [List.append_eq, List.nil_append, List.cons_append, List.append_assoc] at hP hD
  refine W.widen (k := 36) (n := 64934) (Nat.le_of_ble_eq_true rfl) (Nat.le_of_ble_eq_true rfl) ?_
  exact W.vret hx hb hr (fun t ht hW => ⟨⟨_, rfl, ⟨q1, q2, q3, q4, q5, q6, q7, q8, q9, q10, q11, q12, q13, q14, q15, q16, q17, q18, q19, q20, q21, q22, q23, q24, q25, q26, q27, q28, q29, q30, q31, q32, q33, q34, q35, q36, rfl⟩, by rw [ht]; exact hP, va_K.moved hW.alike hK, hD⟩, hS.F ht⟩) hS.2.2 dI_X_125
