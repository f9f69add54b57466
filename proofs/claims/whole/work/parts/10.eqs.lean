/-! the small machine's steps as equations, for simp -/
section EQS
variable {sc : Prop} {Φ : List (Nat × Nat × Nat)} {κ : List (Nat × Int)} {Γ : List (Nat × Nat × Nat × Spec)} {rt : Nat} {Q : Option AV → St → Prop} {J : Nat → List AV → List AV → St → Prop} {pc i : Nat} {k : Fin 4} {b : Fin 2} {r : List Instr} {L st : List AV} {σ : St} {x y z off : Int} {u v w u2 : AV} {j q d : Nat}
theorem wp_iload : wpB sc Φ κ Γ rt Q J pc (.iload i :: r) L st σ = (ldI L i fun z => wpB sc Φ κ Γ rt Q J (pc + 2) r L (.inl z :: st) σ) := (rfl)
theorem wp_iload_n : wpB sc Φ κ Γ rt Q J pc (.iload_n k :: r) L st σ = (ldI L k.val fun z => wpB sc Φ κ Γ rt Q J (pc + 1) r L (.inl z :: st) σ) := (rfl)
theorem wp_lload : wpB sc Φ κ Γ rt Q J pc (.lload i :: r) L st σ = (ldL L i fun z => wpB sc Φ κ Γ rt Q J (pc + 2) r L (.inr (.inl z) :: st) σ) := (rfl)
theorem wp_lload_n : wpB sc Φ κ Γ rt Q J pc (.lload_n k :: r) L st σ = (ldL L k.val fun z => wpB sc Φ κ Γ rt Q J (pc + 1) r L (.inr (.inl z) :: st) σ) := (rfl)
theorem wp_aload : wpB sc Φ κ Γ rt Q J pc (.aload i :: r) L st σ = (ldR L i fun z => wpB sc Φ κ Γ rt Q J (pc + 2) r L (.inr (.inr (some z)) :: st) σ) := (rfl)
theorem wp_aload_n : wpB sc Φ κ Γ rt Q J pc (.aload_n k :: r) L st σ = (ldR L k.val fun z => wpB sc Φ κ Γ rt Q J (pc + 1) r L (.inr (.inr (some z)) :: st) σ) := (rfl)
theorem wp_istore : wpB sc Φ κ Γ rt Q J pc (.istore i :: r) L (.inl z :: st) σ = (i < L.length ∧ wpB sc Φ κ Γ rt Q J (pc + 2) r (sto1 L i (.inl z)) st σ) := (rfl)
theorem wp_istore_n : wpB sc Φ κ Γ rt Q J pc (.istore_n k :: r) L (.inl z :: st) σ = (k.val < L.length ∧ wpB sc Φ κ Γ rt Q J (pc + 1) r (sto1 L k.val (.inl z)) st σ) := (rfl)
theorem wp_lstore : wpB sc Φ κ Γ rt Q J pc (.lstore i :: r) L (.inr (.inl z) :: st) σ = (i + 1 < L.length ∧ wpB sc Φ κ Γ rt Q J (pc + 2) r (sto2 L i (.inr (.inl z))) st σ) := (rfl)
theorem wp_lstore_n : wpB sc Φ κ Γ rt Q J pc (.lstore_n k :: r) L (.inr (.inl z) :: st) σ = (k.val + 1 < L.length ∧ wpB sc Φ κ Γ rt Q J (pc + 1) r (sto2 L k.val (.inr (.inl z))) st σ) := (rfl)
theorem wp_astore : wpB sc Φ κ Γ rt Q J pc (.astore i :: r) L (.inr (.inr (some j)) :: st) σ = (i < L.length ∧ wpB sc Φ κ Γ rt Q J (pc + 2) r (sto1 L i (.inr (.inr (some j)))) st σ) := (rfl)
theorem wp_astore_n : wpB sc Φ κ Γ rt Q J pc (.astore_n k :: r) L (.inr (.inr (some j)) :: st) σ = (k.val < L.length ∧ wpB sc Φ κ Γ rt Q J (pc + 1) r (sto1 L k.val (.inr (.inr (some j)))) st σ) := (rfl)
theorem wp_iload_n0 : wpB sc Φ κ Γ rt Q J pc (.iload_n 0 :: r) ((.inl z) :: L) st σ = wpB sc Φ κ Γ rt Q J (pc + 1) r ((.inl z) :: L) (.inl z :: st) σ := (rfl)
theorem wp_lload_n0 : wpB sc Φ κ Γ rt Q J pc (.lload_n 0 :: r) ((.inr (.inl z)) :: L) st σ = wpB sc Φ κ Γ rt Q J (pc + 1) r ((.inr (.inl z)) :: L) (.inr (.inl z) :: st) σ := (rfl)
theorem wp_aload_n0 : wpB sc Φ κ Γ rt Q J pc (.aload_n 0 :: r) ((.inr (.inr (some j))) :: L) st σ = wpB sc Φ κ Γ rt Q J (pc + 1) r ((.inr (.inr (some j))) :: L) (.inr (.inr (some j)) :: st) σ := (rfl)
theorem wp_istore_n0 : wpB sc Φ κ Γ rt Q J pc (.istore_n 0 :: r) L (.inl z :: st) σ = (0 < L.length ∧ wpB sc Φ κ Γ rt Q J (pc + 1) r (sto1 L 0 (.inl z)) st σ) := (rfl)
theorem wp_lstore_n0 : wpB sc Φ κ Γ rt Q J pc (.lstore_n 0 :: r) L (.inr (.inl z) :: st) σ = (0 + 1 < L.length ∧ wpB sc Φ κ Γ rt Q J (pc + 1) r (sto2 L 0 (.inr (.inl z))) st σ) := (rfl)
theorem wp_astore_n0 : wpB sc Φ κ Γ rt Q J pc (.astore_n 0 :: r) L (.inr (.inr (some j)) :: st) σ = (0 < L.length ∧ wpB sc Φ κ Γ rt Q J (pc + 1) r (sto1 L 0 (.inr (.inr (some j)))) st σ) := (rfl)
theorem wp_iload_n1 : wpB sc Φ κ Γ rt Q J pc (.iload_n 1 :: r) (u :: (.inl z) :: L) st σ = wpB sc Φ κ Γ rt Q J (pc + 1) r (u :: (.inl z) :: L) (.inl z :: st) σ := (rfl)
theorem wp_lload_n1 : wpB sc Φ κ Γ rt Q J pc (.lload_n 1 :: r) (u :: (.inr (.inl z)) :: L) st σ = wpB sc Φ κ Γ rt Q J (pc + 1) r (u :: (.inr (.inl z)) :: L) (.inr (.inl z) :: st) σ := (rfl)
theorem wp_aload_n1 : wpB sc Φ κ Γ rt Q J pc (.aload_n 1 :: r) (u :: (.inr (.inr (some j))) :: L) st σ = wpB sc Φ κ Γ rt Q J (pc + 1) r (u :: (.inr (.inr (some j))) :: L) (.inr (.inr (some j)) :: st) σ := (rfl)
theorem wp_istore_n1 : wpB sc Φ κ Γ rt Q J pc (.istore_n 1 :: r) L (.inl z :: st) σ = (1 < L.length ∧ wpB sc Φ κ Γ rt Q J (pc + 1) r (sto1 L 1 (.inl z)) st σ) := (rfl)
theorem wp_lstore_n1 : wpB sc Φ κ Γ rt Q J pc (.lstore_n 1 :: r) L (.inr (.inl z) :: st) σ = (1 + 1 < L.length ∧ wpB sc Φ κ Γ rt Q J (pc + 1) r (sto2 L 1 (.inr (.inl z))) st σ) := (rfl)
theorem wp_astore_n1 : wpB sc Φ κ Γ rt Q J pc (.astore_n 1 :: r) L (.inr (.inr (some j)) :: st) σ = (1 < L.length ∧ wpB sc Φ κ Γ rt Q J (pc + 1) r (sto1 L 1 (.inr (.inr (some j)))) st σ) := (rfl)
theorem wp_iload_n2 : wpB sc Φ κ Γ rt Q J pc (.iload_n 2 :: r) (u :: v :: (.inl z) :: L) st σ = wpB sc Φ κ Γ rt Q J (pc + 1) r (u :: v :: (.inl z) :: L) (.inl z :: st) σ := (rfl)
theorem wp_lload_n2 : wpB sc Φ κ Γ rt Q J pc (.lload_n 2 :: r) (u :: v :: (.inr (.inl z)) :: L) st σ = wpB sc Φ κ Γ rt Q J (pc + 1) r (u :: v :: (.inr (.inl z)) :: L) (.inr (.inl z) :: st) σ := (rfl)
theorem wp_aload_n2 : wpB sc Φ κ Γ rt Q J pc (.aload_n 2 :: r) (u :: v :: (.inr (.inr (some j))) :: L) st σ = wpB sc Φ κ Γ rt Q J (pc + 1) r (u :: v :: (.inr (.inr (some j))) :: L) (.inr (.inr (some j)) :: st) σ := (rfl)
theorem wp_istore_n2 : wpB sc Φ κ Γ rt Q J pc (.istore_n 2 :: r) L (.inl z :: st) σ = (2 < L.length ∧ wpB sc Φ κ Γ rt Q J (pc + 1) r (sto1 L 2 (.inl z)) st σ) := (rfl)
theorem wp_lstore_n2 : wpB sc Φ κ Γ rt Q J pc (.lstore_n 2 :: r) L (.inr (.inl z) :: st) σ = (2 + 1 < L.length ∧ wpB sc Φ κ Γ rt Q J (pc + 1) r (sto2 L 2 (.inr (.inl z))) st σ) := (rfl)
theorem wp_astore_n2 : wpB sc Φ κ Γ rt Q J pc (.astore_n 2 :: r) L (.inr (.inr (some j)) :: st) σ = (2 < L.length ∧ wpB sc Φ κ Γ rt Q J (pc + 1) r (sto1 L 2 (.inr (.inr (some j)))) st σ) := (rfl)
theorem wp_iload_n3 : wpB sc Φ κ Γ rt Q J pc (.iload_n 3 :: r) (u :: v :: w :: (.inl z) :: L) st σ = wpB sc Φ κ Γ rt Q J (pc + 1) r (u :: v :: w :: (.inl z) :: L) (.inl z :: st) σ := (rfl)
theorem wp_lload_n3 : wpB sc Φ κ Γ rt Q J pc (.lload_n 3 :: r) (u :: v :: w :: (.inr (.inl z)) :: L) st σ = wpB sc Φ κ Γ rt Q J (pc + 1) r (u :: v :: w :: (.inr (.inl z)) :: L) (.inr (.inl z) :: st) σ := (rfl)
theorem wp_aload_n3 : wpB sc Φ κ Γ rt Q J pc (.aload_n 3 :: r) (u :: v :: w :: (.inr (.inr (some j))) :: L) st σ = wpB sc Φ κ Γ rt Q J (pc + 1) r (u :: v :: w :: (.inr (.inr (some j))) :: L) (.inr (.inr (some j)) :: st) σ := (rfl)
theorem wp_istore_n3 : wpB sc Φ κ Γ rt Q J pc (.istore_n 3 :: r) L (.inl z :: st) σ = (3 < L.length ∧ wpB sc Φ κ Γ rt Q J (pc + 1) r (sto1 L 3 (.inl z)) st σ) := (rfl)
theorem wp_lstore_n3 : wpB sc Φ κ Γ rt Q J pc (.lstore_n 3 :: r) L (.inr (.inl z) :: st) σ = (3 + 1 < L.length ∧ wpB sc Φ κ Γ rt Q J (pc + 1) r (sto2 L 3 (.inr (.inl z))) st σ) := (rfl)
theorem wp_astore_n3 : wpB sc Φ κ Γ rt Q J pc (.astore_n 3 :: r) L (.inr (.inr (some j)) :: st) σ = (3 < L.length ∧ wpB sc Φ κ Γ rt Q J (pc + 1) r (sto1 L 3 (.inr (.inr (some j)))) st σ) := (rfl)
theorem wp_iconst : wpB sc Φ κ Γ rt Q J pc (.iconst z :: r) L st σ = (wpB sc Φ κ Γ rt Q J (pc + 1) r L (.inl z :: st) σ) := (rfl)
theorem wp_bipush : wpB sc Φ κ Γ rt Q J pc (.bipush z :: r) L st σ = (-128 ≤ z ∧ z < 128 ∧ wpB sc Φ κ Γ rt Q J (pc + 2) r L (.inl z :: st) σ) := (rfl)
theorem wp_sipush : wpB sc Φ κ Γ rt Q J pc (.sipush z :: r) L st σ = (-32768 ≤ z ∧ z < 32768 ∧ wpB sc Φ κ Γ rt Q J (pc + 3) r L (.inl z :: st) σ) := (rfl)
theorem wp_lconst0 : wpB sc Φ κ Γ rt Q J pc (.lconst 0 :: r) L st σ = wpB sc Φ κ Γ rt Q J (pc + 1) r L (.inr (.inl 0) :: st) σ := (rfl)
theorem wp_lconst1 : wpB sc Φ κ Γ rt Q J pc (.lconst 1 :: r) L st σ = wpB sc Φ κ Γ rt Q J (pc + 1) r L (.inr (.inl 1) :: st) σ := (rfl)
theorem wp_ldc : wpB sc Φ κ Γ rt Q J pc (.ldc i :: r) L st σ = (i < 100000 ∧ lk1 κ i fun z => wpB sc Φ κ Γ rt Q J (pc + 2) r L (.inl z :: st) σ) := (rfl)
theorem wp_ldc_w : wpB sc Φ κ Γ rt Q J pc (.ldc_w i :: r) L st σ = (i < 100000 ∧ lk1 κ i fun z => wpB sc Φ κ Γ rt Q J (pc + 3) r L (.inl z :: st) σ) := (rfl)
theorem wp_ldc2_w : wpB sc Φ κ Γ rt Q J pc (.ldc2_w i :: r) L st σ = (lk1 κ (i + 100000) fun z => wpB sc Φ κ Γ rt Q J (pc + 3) r L (.inr (.inl z) :: st) σ) := (rfl)
theorem wp_iinc : wpB sc Φ κ Γ rt Q J pc (.iinc i z :: r) L st σ = (ldI L i fun x => wpB sc Φ κ Γ rt Q J (pc + 3) r (sto1 L i (.inl (x + z))) st σ) := (rfl)
theorem wp_iadd : wpB sc Φ κ Γ rt Q J pc (.iadd :: r) L (.inl y :: .inl x :: st) σ = (wpB sc Φ κ Γ rt Q J (pc + 1) r L (.inl (x + y) :: st) σ) := (rfl)
theorem wp_isub : wpB sc Φ κ Γ rt Q J pc (.isub :: r) L (.inl y :: .inl x :: st) σ = (wpB sc Φ κ Γ rt Q J (pc + 1) r L (.inl (x - y) :: st) σ) := (rfl)
theorem wp_imul : wpB sc Φ κ Γ rt Q J pc (.imul :: r) L (.inl y :: .inl x :: st) σ = (wpB sc Φ κ Γ rt Q J (pc + 1) r L (.inl (x * y) :: st) σ) := (rfl)
theorem wp_iand : wpB sc Φ κ Γ rt Q J pc (.iand :: r) L (.inl y :: .inl x :: st) σ = (wpB sc Φ κ Γ rt Q J (pc + 1) r L (.inl (iandZ x y) :: st) σ) := (rfl)
theorem wp_ior : wpB sc Φ κ Γ rt Q J pc (.ior :: r) L (.inl y :: .inl x :: st) σ = (wpB sc Φ κ Γ rt Q J (pc + 1) r L (.inl (iorZ x y) :: st) σ) := (rfl)
theorem wp_ixor : wpB sc Φ κ Γ rt Q J pc (.ixor :: r) L (.inl y :: .inl x :: st) σ = (wpB sc Φ κ Γ rt Q J (pc + 1) r L (.inl (ixorZ x y) :: st) σ) := (rfl)
theorem wp_ladd : wpB sc Φ κ Γ rt Q J pc (.ladd :: r) L (.inr (.inl y) :: .inr (.inl x) :: st) σ = (wpB sc Φ κ Γ rt Q J (pc + 1) r L (.inr (.inl (x + y)) :: st) σ) := (rfl)
theorem wp_lsub : wpB sc Φ κ Γ rt Q J pc (.lsub :: r) L (.inr (.inl y) :: .inr (.inl x) :: st) σ = (wpB sc Φ κ Γ rt Q J (pc + 1) r L (.inr (.inl (x - y)) :: st) σ) := (rfl)
theorem wp_lmul : wpB sc Φ κ Γ rt Q J pc (.lmul :: r) L (.inr (.inl y) :: .inr (.inl x) :: st) σ = (wpB sc Φ κ Γ rt Q J (pc + 1) r L (.inr (.inl (x * y)) :: st) σ) := (rfl)
theorem wp_land : wpB sc Φ κ Γ rt Q J pc (.land :: r) L (.inr (.inl y) :: .inr (.inl x) :: st) σ = (wpB sc Φ κ Γ rt Q J (pc + 1) r L (.inr (.inl (landZ x y)) :: st) σ) := (rfl)
theorem wp_lor : wpB sc Φ κ Γ rt Q J pc (.lor :: r) L (.inr (.inl y) :: .inr (.inl x) :: st) σ = (wpB sc Φ κ Γ rt Q J (pc + 1) r L (.inr (.inl (lorZ x y)) :: st) σ) := (rfl)
theorem wp_idiv : wpB sc Φ κ Γ rt Q J pc (.idiv :: r) L (.inl y :: .inl x :: st) σ = (0 ≤ x ∧ x < 2147483648 ∧ 0 < y ∧ y < 2147483648 ∧ wpB sc Φ κ Γ rt Q J (pc + 1) r L (.inl (x / y) :: st) σ) := (rfl)
theorem wp_irem : wpB sc Φ κ Γ rt Q J pc (.irem :: r) L (.inl y :: .inl x :: st) σ = (0 ≤ x ∧ x < 2147483648 ∧ 0 < y ∧ y < 2147483648 ∧ wpB sc Φ κ Γ rt Q J (pc + 1) r L (.inl (x % y) :: st) σ) := (rfl)
theorem wp_ishl : wpB sc Φ κ Γ rt Q J pc (.ishl :: r) L (.inl y :: .inl x :: st) σ = (0 ≤ y ∧ y < 32 ∧ wpB sc Φ κ Γ rt Q J (pc + 1) r L (.inl (x * 2 ^ y.toNat) :: st) σ) := (rfl)
theorem wp_ishr : wpB sc Φ κ Γ rt Q J pc (.ishr :: r) L (.inl y :: .inl x :: st) σ = (rI x ∧ 0 ≤ y ∧ y < 32 ∧ wpB sc Φ κ Γ rt Q J (pc + 1) r L (.inl (x / 2 ^ y.toNat) :: st) σ) := (rfl)
theorem wp_iushr : wpB sc Φ κ Γ rt Q J pc (.iushr :: r) L (.inl y :: .inl x :: st) σ = (0 ≤ y ∧ y < 32 ∧ wpB sc Φ κ Γ rt Q J (pc + 1) r L (.inl (x % 4294967296 / 2 ^ y.toNat) :: st) σ) := (rfl)
theorem wp_lshl : wpB sc Φ κ Γ rt Q J pc (.lshl :: r) L (.inl y :: .inr (.inl x) :: st) σ = (0 ≤ y ∧ y < 64 ∧ wpB sc Φ κ Γ rt Q J (pc + 1) r L (.inr (.inl (x * 2 ^ y.toNat)) :: st) σ) := (rfl)
theorem wp_lshr : wpB sc Φ κ Γ rt Q J pc (.lshr :: r) L (.inl y :: .inr (.inl x) :: st) σ = (rL x ∧ 0 ≤ y ∧ y < 64 ∧ wpB sc Φ κ Γ rt Q J (pc + 1) r L (.inr (.inl (x / 2 ^ y.toNat)) :: st) σ) := (rfl)
theorem wp_lushr : wpB sc Φ κ Γ rt Q J pc (.lushr :: r) L (.inl y :: .inr (.inl x) :: st) σ = (0 ≤ y ∧ y < 64 ∧ wpB sc Φ κ Γ rt Q J (pc + 1) r L (.inr (.inl (x % 18446744073709551616 / 2 ^ y.toNat)) :: st) σ) := (rfl)
theorem wp_ineg : wpB sc Φ κ Γ rt Q J pc (.ineg :: r) L (.inl x :: st) σ = (wpB sc Φ κ Γ rt Q J (pc + 1) r L (.inl (-x) :: st) σ) := (rfl)
theorem wp_lcmp : wpB sc Φ κ Γ rt Q J pc (.lcmp :: r) L (.inr (.inl y) :: .inr (.inl x) :: st) σ = (rL x ∧ rL y ∧ wpB sc Φ κ Γ rt Q J (pc + 1) r L (.inl (cmpZ x y) :: st) σ) := (rfl)
theorem wp_i2l : wpB sc Φ κ Γ rt Q J pc (.i2l :: r) L (.inl x :: st) σ = (rI x ∧ wpB sc Φ κ Γ rt Q J (pc + 1) r L (.inr (.inl x) :: st) σ) := (rfl)
theorem wp_l2i : wpB sc Φ κ Γ rt Q J pc (.l2i :: r) L (.inr (.inl x) :: st) σ = (wpB sc Φ κ Γ rt Q J (pc + 1) r L (.inl (wrapI x) :: st) σ) := (rfl)
theorem wp_dup : wpB sc Φ κ Γ rt Q J pc (.dup :: r) L (v :: st) σ = (isLong v = false ∧ wpB sc Φ κ Γ rt Q J (pc + 1) r L (v :: v :: st) σ) := (rfl)
theorem wp_dup2 : wpB sc Φ κ Γ rt Q J pc (.dup2 :: r) L (v :: w :: st) σ = (isLong v = false ∧ isLong w = false ∧ wpB sc Φ κ Γ rt Q J (pc + 1) r L (v :: w :: v :: w :: st) σ) := (rfl)
theorem wp_pop : wpB sc Φ κ Γ rt Q J pc (.pop :: r) L (v :: st) σ = (isLong v = false ∧ wpB sc Φ κ Γ rt Q J (pc + 1) r L st σ) := (rfl)
theorem wp_getfield : wpB sc Φ κ Γ rt Q J pc (.getfield i :: r) L (.inr (.inr (some j)) :: st) σ = (lk1 Φ i fun q => oF j q.1 q.2 fun t => wpB sc Φ κ Γ rt Q J (pc + 3) r L (fldV t (σ j q.2) :: st) σ) := (rfl)
theorem wp_putfield : wpB sc Φ κ Γ rt Q J pc (.putfield i :: r) L (.inl z :: .inr (.inr (some j)) :: st) σ = (lk1 Φ i fun q => oF j q.1 q.2 fun t => t = none ∧ wpB sc Φ κ Γ rt Q J (pc + 3) r L st (updR σ j (up1 (σ j) q.2 z))) := (rfl)
theorem wp_iaload_s : wpB sc Φ κ Γ rt Q J pc (.iaload :: r) L (.inl x :: .inr (.inr (some j)) :: st) σ = (if j = 1000 then sc ∧ 0 ≤ x ∧ x < σ 1001 0 ∧ wpB sc Φ κ Γ rt Q J (pc + 1) r L (.inl (σ 1000 x.toNat) :: st) σ else aF j 0 fun n => 0 ≤ x ∧ x < (n : Int) ∧ wpB sc Φ κ Γ rt Q J (pc + 1) r L (.inl (σ j x.toNat) :: st) σ) := (rfl)
theorem wp_iaload : wpB False Φ κ Γ rt Q J pc (.iaload :: r) L (.inl x :: .inr (.inr (some j)) :: st) σ = (aF j 0 fun n => 0 ≤ x ∧ x < (n : Int) ∧ wpB False Φ κ Γ rt Q J (pc + 1) r L (.inl (σ j x.toNat) :: st) σ) := by
  rw [wp_iaload_s]
  by_cases h : j = 1000
  · subst h
    rw [if_pos rfl]
    exact propext ⟨fun h => h.1.elim, fun h => h.elim⟩
  · rw [if_neg h]
theorem wp_laload : wpB sc Φ κ Γ rt Q J pc (.laload :: r) L (.inl x :: .inr (.inr (some j)) :: st) σ = (aF j 1 fun n => 0 ≤ x ∧ x < (n : Int) ∧ wpB sc Φ κ Γ rt Q J (pc + 1) r L (.inr (.inl (σ j x.toNat)) :: st) σ) := (rfl)
theorem wp_baload : wpB sc Φ κ Γ rt Q J pc (.baload :: r) L (.inl x :: .inr (.inr (some j)) :: st) σ = (aF j 2 fun n => 0 ≤ x ∧ x < (n : Int) ∧ wpB sc Φ κ Γ rt Q J (pc + 1) r L (.inl (σ j x.toNat) :: st) σ) := (rfl)
theorem wp_iastore : wpB sc Φ κ Γ rt Q J pc (.iastore :: r) L (.inl z :: .inl x :: .inr (.inr (some j)) :: st) σ = (aF j 0 fun n => 0 ≤ x ∧ x < (n : Int) ∧ wpB sc Φ κ Γ rt Q J (pc + 1) r L st (updR σ j (up1 (σ j) x.toNat z))) := (rfl)
theorem wp_lastore : wpB sc Φ κ Γ rt Q J pc (.lastore :: r) L (.inr (.inl z) :: .inl x :: .inr (.inr (some j)) :: st) σ = (aF j 1 fun n => 0 ≤ x ∧ x < (n : Int) ∧ wpB sc Φ κ Γ rt Q J (pc + 1) r L st (updR σ j (up1 (σ j) x.toNat z))) := (rfl)
theorem wp_bastore : wpB sc Φ κ Γ rt Q J pc (.bastore :: r) L (.inl z :: .inl x :: .inr (.inr (some j)) :: st) σ = (aF j 2 fun n => 0 ≤ x ∧ x < (n : Int) ∧ (z = 0 ∨ z = 1) ∧ wpB sc Φ κ Γ rt Q J (pc + 1) r L st (updR σ j (up1 (σ j) x.toNat z))) := (rfl)
theorem wp_arraylength : wpB False Φ κ Γ rt Q J pc (.arraylength :: r) L (.inr (.inr (some j)) :: st) σ = (aN j fun n => wpB False Φ κ Γ rt Q J (pc + 1) r L (.inl (n : Int) :: st) σ) := by
  show (if j = 1000 then _ else _) = _
  by_cases h : j = 1000
  · subst h
    rw [if_pos rfl]
    exact propext ⟨fun h => h.1.elim, fun h => h.elim⟩
  · rw [if_neg h]
    rfl
theorem wp_arraylength_s : wpB sc Φ κ Γ rt Q J pc (.arraylength :: r) L (.inr (.inr (some j)) :: st) σ = (if j = 1000 then sc ∧ wpB sc Φ κ Γ rt Q J (pc + 1) r L (.inl (σ 1001 0) :: st) σ else aN j fun n => wpB sc Φ κ Γ rt Q J (pc + 1) r L (.inl (n : Int) :: st) σ) := (rfl)
theorem wp_goto : wpB sc Φ κ Γ rt Q J pc (.goto off :: r) L st σ = (tgt pc off fun t => J t L st σ) := (rfl)
theorem wp_if_eq : wpB sc Φ κ Γ rt Q J pc (.ifCond .eq off :: r) L (.inl z :: st) σ = (tgt pc off fun t => rI z ∧ (z = 0 → J t L st σ) ∧ (¬ z = 0 → wpB sc Φ κ Γ rt Q J (pc + 3) r L st σ)) := (rfl)
theorem wp_icmp_eq : wpB sc Φ κ Γ rt Q J pc (.if_icmp .eq off :: r) L (.inl y :: .inl x :: st) σ = (tgt pc off fun t => rI x ∧ rI y ∧ (x = y → J t L st σ) ∧ (¬ x = y → wpB sc Φ κ Γ rt Q J (pc + 3) r L st σ)) := (rfl)
theorem wp_if_ne : wpB sc Φ κ Γ rt Q J pc (.ifCond .ne off :: r) L (.inl z :: st) σ = (tgt pc off fun t => rI z ∧ (¬ z = 0 → J t L st σ) ∧ (z = 0 → wpB sc Φ κ Γ rt Q J (pc + 3) r L st σ)) := (rfl)
theorem wp_icmp_ne : wpB sc Φ κ Γ rt Q J pc (.if_icmp .ne off :: r) L (.inl y :: .inl x :: st) σ = (tgt pc off fun t => rI x ∧ rI y ∧ (¬ x = y → J t L st σ) ∧ (x = y → wpB sc Φ κ Γ rt Q J (pc + 3) r L st σ)) := (rfl)
theorem wp_if_lt : wpB sc Φ κ Γ rt Q J pc (.ifCond .lt off :: r) L (.inl z :: st) σ = (tgt pc off fun t => rI z ∧ (z < 0 → J t L st σ) ∧ (0 ≤ z → wpB sc Φ κ Γ rt Q J (pc + 3) r L st σ)) := (rfl)
theorem wp_icmp_lt : wpB sc Φ κ Γ rt Q J pc (.if_icmp .lt off :: r) L (.inl y :: .inl x :: st) σ = (tgt pc off fun t => rI x ∧ rI y ∧ (x < y → J t L st σ) ∧ (y ≤ x → wpB sc Φ κ Γ rt Q J (pc + 3) r L st σ)) := (rfl)
theorem wp_if_ge : wpB sc Φ κ Γ rt Q J pc (.ifCond .ge off :: r) L (.inl z :: st) σ = (tgt pc off fun t => rI z ∧ (0 ≤ z → J t L st σ) ∧ (z < 0 → wpB sc Φ κ Γ rt Q J (pc + 3) r L st σ)) := (rfl)
theorem wp_icmp_ge : wpB sc Φ κ Γ rt Q J pc (.if_icmp .ge off :: r) L (.inl y :: .inl x :: st) σ = (tgt pc off fun t => rI x ∧ rI y ∧ (y ≤ x → J t L st σ) ∧ (x < y → wpB sc Φ κ Γ rt Q J (pc + 3) r L st σ)) := (rfl)
theorem wp_if_gt : wpB sc Φ κ Γ rt Q J pc (.ifCond .gt off :: r) L (.inl z :: st) σ = (tgt pc off fun t => rI z ∧ (0 < z → J t L st σ) ∧ (z ≤ 0 → wpB sc Φ κ Γ rt Q J (pc + 3) r L st σ)) := (rfl)
theorem wp_icmp_gt : wpB sc Φ κ Γ rt Q J pc (.if_icmp .gt off :: r) L (.inl y :: .inl x :: st) σ = (tgt pc off fun t => rI x ∧ rI y ∧ (y < x → J t L st σ) ∧ (x ≤ y → wpB sc Φ κ Γ rt Q J (pc + 3) r L st σ)) := (rfl)
theorem wp_if_le : wpB sc Φ κ Γ rt Q J pc (.ifCond .le off :: r) L (.inl z :: st) σ = (tgt pc off fun t => rI z ∧ (z ≤ 0 → J t L st σ) ∧ (0 < z → wpB sc Φ κ Γ rt Q J (pc + 3) r L st σ)) := (rfl)
theorem wp_icmp_le : wpB sc Φ κ Γ rt Q J pc (.if_icmp .le off :: r) L (.inl y :: .inl x :: st) σ = (tgt pc off fun t => rI x ∧ rI y ∧ (x ≤ y → J t L st σ) ∧ (y < x → wpB sc Φ κ Γ rt Q J (pc + 3) r L st σ)) := (rfl)
theorem wp_tableswitch {lo hi : Int} {offs : Array Int} : wpB sc Φ κ Γ rt Q J pc (.tableswitch off lo hi offs :: r) L (.inl z :: st) σ = (rI z ∧ hi + 1 = lo + offs.size ∧ ((z < lo ∨ hi < z) → tgt pc off fun t => J t L st σ) ∧ sw pc z (fun t => J t L st σ) offs.toList lo) := (rfl)
theorem wp_ireturn1 : wpB sc Φ κ Γ 1 Q J pc (.ireturn :: r) L [.inl z] σ = Q (some (.inl z)) σ := by
  show (([] : List AV) = [] ∧ _ ∧ _) = _
  simp
theorem wp_ireturn3 : wpB sc Φ κ Γ 3 Q J pc (.ireturn :: r) L [.inl z] σ = ((z = 0 ∨ z = 1) ∧ Q (some (.inl z)) σ) := by
  show (([] : List AV) = [] ∧ _ ∧ _) = _
  simp
theorem wp_lreturn2 : wpB sc Φ κ Γ 2 Q J pc (.lreturn :: r) L [.inr (.inl z)] σ = Q (some (.inr (.inl z))) σ := by
  show (([] : List AV) = [] ∧ _ ∧ _) = _
  simp
theorem wp_return0 : wpB sc Φ κ Γ 0 Q J pc (.return_ :: r) L [] σ = Q none σ := by
  show (([] : List AV) = [] ∧ _ ∧ _) = _
  simp
theorem wp_invokevirtual : wpB sc Φ κ Γ rt Q J pc (.invokevirtual i :: r) L st σ = (lk1 Γ i fun g => popN g.2.1 [] st fun as r' => popR r' fun j r' => 0 < g.1 ∧ oC j (g.1 - 1) ∧ catS r' ≤ 8 ∧ g.2.2 (.inr (.inr (some j)) :: as) σ (fun v σ' => (sc → σ' 1000 = σ 1000 ∧ σ' 1001 = σ 1001) ∧ wpB sc Φ κ Γ rt Q J (pc + 3) r L (psh v r') σ')) := (rfl)
theorem wp_invokestatic : wpB sc Φ κ Γ rt Q J pc (.invokestatic i :: r) L st σ = (lk1 Γ i fun g => if g.1 = 1000 then popI st fun n r' => popI r' fun dp r' => popR r' fun d r' => popI r' fun sp r' => popR r' fun q r' => aF q 0 fun nq => aF d 0 fun nd => catS r' ≤ 8 ∧ 0 ≤ n ∧ 0 ≤ dp ∧ 0 ≤ sp ∧ sp + n ≤ (nq : Int) ∧ dp + n ≤ (nd : Int) ∧ wpB sc Φ κ Γ rt Q J (pc + 3) r L r' (updR σ d (va_cpy (σ q) (σ d) sp.toNat dp.toNat n.toNat))
    else popN g.2.1 [] st fun as r' => g.1 = 0 ∧ catS r' ≤ 8 ∧ g.2.2 as σ (fun v σ' => (sc → σ' 1000 = σ 1000 ∧ σ' 1001 = σ 1001) ∧ wpB sc Φ κ Γ rt Q J (pc + 3) r L (psh v r') σ')) := (rfl)
theorem wp_nil : wpB sc Φ κ Γ rt Q J pc [] L st σ = J pc L st σ := (rfl)
theorem jmp_e {prog : List (Nat × List Instr)} {cuts : Cuts} {μ : Option M3} {n : Nat} : jmp sc Φ κ Γ rt Q prog cuts μ n pc L st σ = atC cuts μ pc L st σ (wpN sc Φ κ Γ rt Q prog cuts μ n pc L st σ) := (rfl)
theorem popI_c {f : Int → List AV → Prop} : popI (.inl z :: st) f = f z st := (rfl)
theorem popL_c {f : Int → List AV → Prop} : popL (.inr (.inl z) :: st) f = f z st := (rfl)
theorem popR_c {f : Nat → List AV → Prop} : popR (.inr (.inr (some j)) :: st) f = f j st := (rfl)
theorem popN_0 {as : List AV} {f : List AV → List AV → Prop} : popN 0 as st f = f as st := (rfl)
theorem popN_s {as : List AV} {f : List AV → List AV → Prop} {n : Nat} : popN (n + 1) as (v :: st) f = popN n (v :: as) st f := (rfl)
theorem ldI_0 {f : Int → Prop} : ldI (.inl z :: L) 0 f = f z := (rfl)
theorem ldI_s {f : Int → Prop} : ldI (v :: L) (i + 1) f = ldI L i f := by unfold ldI; rw [List.getElem?_cons_succ]
theorem ldL_0 {f : Int → Prop} : ldL (.inr (.inl z) :: L) 0 f = f z := (rfl)
theorem ldL_s {f : Int → Prop} : ldL (v :: L) (i + 1) f = ldL L i f := by unfold ldL; rw [List.getElem?_cons_succ]
theorem ldR_0 {f : Nat → Prop} : ldR (.inr (.inr (some j)) :: L) 0 f = f j := (rfl)
theorem ldR_s {f : Nat → Prop} : ldR (v :: L) (i + 1) f = ldR L i f := by unfold ldR; rw [List.getElem?_cons_succ]
theorem sto1_0 : sto1 (v :: L) 0 w = w :: L := (rfl)
theorem sto1_1 : sto1 (v :: L) 1 w = (if isLong v then .inr (.inr none) else v) :: sto1 L 0 w := (rfl)
theorem sto1_s : sto1 (v :: L) (i + 2) w = v :: sto1 L (i + 1) w := (rfl)
theorem sto2_0 : sto2 (v :: u :: L) 0 w = w :: .inr (.inr none) :: L := (rfl)
theorem sto2_1 : sto2 (v :: L) 1 w = (if isLong v then .inr (.inr none) else v) :: sto2 L 0 w := (rfl)
theorem sto2_s : sto2 (v :: L) (i + 2) w = v :: sto2 L (i + 1) w := (rfl)
theorem isLong_i : isLong (.inl z) = false := (rfl)
theorem isLong_l : isLong (.inr (.inl z)) = true := (rfl)
theorem isLong_r {t : Option Nat} : isLong (.inr (.inr t)) = false := (rfl)
theorem catS_n : catS [] = 0 := (rfl)
theorem catS_c : catS (v :: st) = (if isLong v then 2 else 1) + catS st := (rfl)
theorem psh_s : psh (some v) st = v :: st := (rfl)
theorem psh_n : psh none st = st := (rfl)
theorem fldV_n : fldV none z = .inl z := (rfl)
theorem fldV_s : fldV (some j) z = .inr (.inr (some j)) := (rfl)
theorem tgt_e {f : Nat → Prop} : tgt pc off f = (0 ≤ (pc : Int) + off ∧ f ((pc : Int) + off).toNat) := (rfl)
theorem sw_n {f : Nat → Prop} : sw pc z f [] x = True := (rfl)
theorem sw_c {f : Nat → Prop} {os : List Int} : sw pc z f (y :: os) x = ((z = x → tgt pc y f) ∧ sw pc z f os (x + 1)) := (rfl)
theorem lk1_h {β : Type} {l : List (Nat × β)} {t : β} {f : β → Prop} : lk1 ((i, t) :: l) i f = f t := by unfold lk1 lk; rw [if_pos rfl]
theorem lk1_m {β : Type} {l : List (Nat × β)} {t : β} {f : β → Prop} (h : j ≠ i) : lk1 ((i, t) :: l) j f = lk1 l j f := by
  unfold lk1
  rw [lk, if_neg h]
theorem oF_of {f : Option Nat → Prop} {ci kf : Nat} {fs : List (Option Nat)} {t : Option Nat} (h : SH[j]? = some (.inl (ci, fs))) (hk : fs[kf]? = some t) : oF j ci kf f = f t := by
  unfold oF
  rw [h]
  simp only [hk, true_and]
theorem oC_of {ci : Nat} {fs : List (Option Nat)} (h : SH[j]? = some (.inl (ci, fs))) : oC j ci = True := by
  unfold oC
  rw [h]
  simp
theorem aF_of {f : Nat → Prop} {kd n : Nat} (h : SH[j]? = some (.inr (kd, n))) : aF j kd f = f n := by
  unfold aF
  rw [h]
  simp
theorem aN_of {f : Nat → Prop} {kd n : Nat} (h : SH[j]? = some (.inr (kd, n))) (hk : kd = 0 ∨ kd = 1 ∨ kd = 2) : aN j f = f n := by
  unfold aN
  rw [h]
  simp [hk]
theorem atC_m {cuts : Cuts} {μ : Option M3} {I : List AV → List AV → St → M3 → Prop} {P : Prop} (h : j ≠ i) : atC ((i, I) :: cuts) μ j L st σ P = atC cuts μ j L st σ P := by
  unfold atC
  rw [lk, if_neg h]
theorem atC_n {μ : Option M3} {P : Prop} : atC [] μ j L st σ P = P := (rfl)
def mkC (I : List AV → List AV → St → Prop) (m : List AV → List AV → St → M3) : List AV → List AV → St → M3 → Prop := fun L st σ ν => I L st σ ∧ ν = m L st σ
theorem atC_h {cuts : Cuts} {μ : Option M3} {I : List AV → List AV → St → Prop} {m : List AV → List AV → St → M3} {P : Prop} : atC ((i, mkC I m) :: cuts) μ i L st σ P = (ltO (m L st σ) μ ∧ I L st σ) := by
  unfold atC lk mkC
  rw [if_pos rfl]
  exact propext ⟨fun ⟨ν, h1, h2, h3⟩ => ⟨h3 ▸ h1, h2⟩, fun ⟨h1, h2⟩ => ⟨_, h1, h2, rfl⟩⟩
theorem ltO_n {μ : M3} : ltO μ none = True := (rfl)
theorem ltO_s {μ ν : M3} : ltO μ (some ν) = ltM μ ν := (rfl)
end EQS
/-- a local as a number -/
def gI (L : List AV) (i : Nat) : Int := match L[i]? with
  | some (.inl z) => z
  | some (.inr (.inl z)) => z
  | _ => 0
theorem gI_0i {L : List AV} {z : Int} : gI (.inl z :: L) 0 = z := (rfl)
theorem gI_0l {L : List AV} {z : Int} : gI (.inr (.inl z) :: L) 0 = z := (rfl)
theorem gI_s {L : List AV} {v : AV} {i : Nat} : gI (v :: L) (i + 1) = gI L i := by unfold gI; rw [List.getElem?_cons_succ]
theorem ltM_iff (a b c x y z : Nat) : ltM (a, b, c) (x, y, z) = (a < x ∨ (a = x ∧ (b < y ∨ (b = y ∧ c < z)))) := (rfl)
theorem rI_iff (z : Int) : rI z ↔ -2147483648 ≤ z ∧ z < 2147483648 := Iff.rfl
theorem rL_iff (z : Int) : rL z ↔ -9223372036854775808 ≤ z ∧ z < 9223372036854775808 := Iff.rfl
theorem Q_eq {Q : Option AV → St → Prop} {v v' : Option AV} {σ σ' : St} (h : Q v σ) (e : v' = v) (e2 : σ' = σ) : Q v' σ' := by rw [e, e2]; exact h
theorem cuts1 {sc : Prop} {Φ : List (Nat × Nat × Nat)} {κ : List (Nat × Int)} {Γ : List (Nat × Nat × Nat × Spec)} {rt n i : Nat} {Q : Option AV → St → Prop} {prog : List (Nat × List Instr)} {cs r : Cuts} {I : List AV → List AV → St → Prop} {m : List AV → List AV → St → M3} (h : ∀ L st σ, I L st σ → wpN sc Φ κ Γ rt Q prog cs (some (m L st σ)) n i L st σ) (h2 : ∀ q ∈ r, ∀ L st σ ν, q.2 L st σ ν → wpN sc Φ κ Γ rt Q prog cs (some ν) n q.1 L st σ) : ∀ q ∈ (i, mkC I m) :: r, ∀ L st σ ν, q.2 L st σ ν → wpN sc Φ κ Γ rt Q prog cs (some ν) n q.1 L st σ := by
  intro q hq
  rcases List.mem_cons.mp hq with rfl | hq
  · intro L st σ ν hI
    obtain ⟨h1, rfl⟩ := hI
    exact h L st σ h1
  · exact h2 q hq
theorem cuts0 {sc : Prop} {Φ : List (Nat × Nat × Nat)} {κ : List (Nat × Int)} {Γ : List (Nat × Nat × Nat × Spec)} {rt n : Nat} {Q : Option AV → St → Prop} {prog : List (Nat × List Instr)} {cs : Cuts} : ∀ q ∈ ([] : Cuts), ∀ L st σ ν, q.2 L st σ ν → wpN sc Φ κ Γ rt Q prog cs (some ν) n q.1 L st σ := fun _ h => absurd h List.not_mem_nil
theorem oC_0 : oC 0 8 = True := by simp [oC, SH]
theorem oF_0_0 (f : Option Nat → Prop) : oF 0 8 0 f = f (some 1) := by simp only [oF, SH]; simp
theorem oF_0_1 (f : Option Nat → Prop) : oF 0 8 1 f = f (some 4) := by simp only [oF, SH]; simp
theorem oF_0_2 (f : Option Nat → Prop) : oF 0 8 2 f = f (some 11) := by simp only [oF, SH]; simp
theorem oF_0_3 (f : Option Nat → Prop) : oF 0 8 3 f = f (some 16) := by simp only [oF, SH]; simp
theorem oF_0_4 (f : Option Nat → Prop) : oF 0 8 4 f = f (some 18) := by simp only [oF, SH]; simp
theorem oF_0_5 (f : Option Nat → Prop) : oF 0 8 5 f = f (some 20) := by simp only [oF, SH]; simp
theorem oF_0_6 (f : Option Nat → Prop) : oF 0 8 6 f = f (some 23) := by simp only [oF, SH]; simp
theorem oF_0_7 (f : Option Nat → Prop) : oF 0 8 7 f = f (some 25) := by simp only [oF, SH]; simp
theorem oF_0_8 (f : Option Nat → Prop) : oF 0 8 8 f = f (some 31) := by simp only [oF, SH]; simp
theorem oF_0_9 (f : Option Nat → Prop) : oF 0 8 9 f = f (some 33) := by simp only [oF, SH]; simp
theorem oF_0_10 (f : Option Nat → Prop) : oF 0 8 10 f = f (some 35) := by simp only [oF, SH]; simp
theorem oF_0_11 (f : Option Nat → Prop) : oF 0 8 11 f = f (none) := by simp only [oF, SH]; simp
theorem oC_1 : oC 1 0 = True := by simp [oC, SH]
theorem oF_1_0 (f : Option Nat → Prop) : oF 1 0 0 f = f (some 2) := by simp only [oF, SH]; simp
theorem oF_1_1 (f : Option Nat → Prop) : oF 1 0 1 f = f (some 3) := by simp only [oF, SH]; simp
theorem oF_1_2 (f : Option Nat → Prop) : oF 1 0 2 f = f (none) := by simp only [oF, SH]; simp
theorem oF_1_3 (f : Option Nat → Prop) : oF 1 0 3 f = f (none) := by simp only [oF, SH]; simp
theorem oF_1_4 (f : Option Nat → Prop) : oF 1 0 4 f = f (none) := by simp only [oF, SH]; simp
theorem oF_1_5 (f : Option Nat → Prop) : oF 1 0 5 f = f (none) := by simp only [oF, SH]; simp
theorem aF_2 (f : Nat → Prop) : aF 2 0 f = f 4 := aF_of (by rfl)
theorem aF_3 (f : Nat → Prop) : aF 3 0 f = f 4 := aF_of (by rfl)
theorem oC_4 : oC 4 4 = True := by simp [oC, SH]
theorem oF_4_0 (f : Option Nat → Prop) : oF 4 4 0 f = f (some 5) := by simp only [oF, SH]; simp
theorem oF_4_1 (f : Option Nat → Prop) : oF 4 4 1 f = f (some 6) := by simp only [oF, SH]; simp
theorem oF_4_2 (f : Option Nat → Prop) : oF 4 4 2 f = f (some 7) := by simp only [oF, SH]; simp
theorem oF_4_3 (f : Option Nat → Prop) : oF 4 4 3 f = f (some 8) := by simp only [oF, SH]; simp
theorem oF_4_4 (f : Option Nat → Prop) : oF 4 4 4 f = f (some 9) := by simp only [oF, SH]; simp
theorem oF_4_5 (f : Option Nat → Prop) : oF 4 4 5 f = f (some 10) := by simp only [oF, SH]; simp
theorem oF_4_6 (f : Option Nat → Prop) : oF 4 4 6 f = f (none) := by simp only [oF, SH]; simp
theorem oF_4_7 (f : Option Nat → Prop) : oF 4 4 7 f = f (none) := by simp only [oF, SH]; simp
theorem oF_4_8 (f : Option Nat → Prop) : oF 4 4 8 f = f (none) := by simp only [oF, SH]; simp
theorem aF_5 (f : Nat → Prop) : aF 5 0 f = f 2816 := aF_of (by rfl)
theorem aF_6 (f : Nat → Prop) : aF 6 0 f = f 2816 := aF_of (by rfl)
theorem aF_7 (f : Nat → Prop) : aF 7 0 f = f 5632 := aF_of (by rfl)
theorem aF_8 (f : Nat → Prop) : aF 8 0 f = f 2816 := aF_of (by rfl)
theorem aF_9 (f : Nat → Prop) : aF 9 0 f = f 2816 := aF_of (by rfl)
theorem aF_10 (f : Nat → Prop) : aF 10 0 f = f 10201 := aF_of (by rfl)
theorem oC_11 : oC 11 7 = True := by simp [oC, SH]
theorem oF_11_0 (f : Option Nat → Prop) : oF 11 7 0 f = f (some 12) := by simp only [oF, SH]; simp
theorem oF_11_1 (f : Option Nat → Prop) : oF 11 7 1 f = f (some 13) := by simp only [oF, SH]; simp
theorem oF_11_2 (f : Option Nat → Prop) : oF 11 7 2 f = f (some 14) := by simp only [oF, SH]; simp
theorem oF_11_3 (f : Option Nat → Prop) : oF 11 7 3 f = f (some 15) := by simp only [oF, SH]; simp
theorem oF_11_4 (f : Option Nat → Prop) : oF 11 7 4 f = f (none) := by simp only [oF, SH]; simp
theorem aF_12 (f : Nat → Prop) : aF 12 0 f = f 200 := aF_of (by rfl)
theorem aF_13 (f : Nat → Prop) : aF 13 0 f = f 100 := aF_of (by rfl)
theorem aF_14 (f : Nat → Prop) : aF 14 0 f = f 100 := aF_of (by rfl)
theorem aF_15 (f : Nat → Prop) : aF 15 0 f = f 100 := aF_of (by rfl)
theorem oC_16 : oC 16 3 = True := by simp [oC, SH]
theorem oF_16_0 (f : Option Nat → Prop) : oF 16 3 0 f = f (some 17) := by simp only [oF, SH]; simp
theorem aF_17 (f : Nat → Prop) : aF 17 1 f = f 6100 := aF_of (by rfl)
theorem oC_18 : oC 18 3 = True := by simp [oC, SH]
theorem oF_18_0 (f : Option Nat → Prop) : oF 18 3 0 f = f (some 19) := by simp only [oF, SH]; simp
theorem aF_19 (f : Nat → Prop) : aF 19 1 f = f 6100 := aF_of (by rfl)
theorem oC_20 : oC 20 5 = True := by simp [oC, SH]
theorem oF_20_0 (f : Option Nat → Prop) : oF 20 5 0 f = f (some 21) := by simp only [oF, SH]; simp
theorem oF_20_1 (f : Option Nat → Prop) : oF 20 5 1 f = f (some 22) := by simp only [oF, SH]; simp
theorem oF_20_2 (f : Option Nat → Prop) : oF 20 5 2 f = f (none) := by simp only [oF, SH]; simp
theorem oF_20_3 (f : Option Nat → Prop) : oF 20 5 3 f = f (none) := by simp only [oF, SH]; simp
theorem oF_20_4 (f : Option Nat → Prop) : oF 20 5 4 f = f (none) := by simp only [oF, SH]; simp
theorem oF_20_5 (f : Option Nat → Prop) : oF 20 5 5 f = f (none) := by simp only [oF, SH]; simp
theorem aF_21 (f : Nat → Prop) : aF 21 1 f = f 8192 := aF_of (by rfl)
theorem aF_22 (f : Nat → Prop) : aF 22 1 f = f 8192 := aF_of (by rfl)
theorem oC_23 : oC 23 6 = True := by simp [oC, SH]
theorem oF_23_0 (f : Option Nat → Prop) : oF 23 6 0 f = f (some 24) := by simp only [oF, SH]; simp
theorem aF_24 (f : Nat → Prop) : aF 24 0 f = f 100 := aF_of (by rfl)
theorem oC_25 : oC 25 2 = True := by simp [oC, SH]
theorem oF_25_0 (f : Option Nat → Prop) : oF 25 2 0 f = f (some 26) := by simp only [oF, SH]; simp
theorem oF_25_1 (f : Option Nat → Prop) : oF 25 2 1 f = f (some 28) := by simp only [oF, SH]; simp
theorem oF_25_2 (f : Option Nat → Prop) : oF 25 2 2 f = f (some 29) := by simp only [oF, SH]; simp
theorem oF_25_3 (f : Option Nat → Prop) : oF 25 2 3 f = f (none) := by simp only [oF, SH]; simp
theorem oF_25_4 (f : Option Nat → Prop) : oF 25 2 4 f = f (none) := by simp only [oF, SH]; simp
theorem oF_25_5 (f : Option Nat → Prop) : oF 25 2 5 f = f (none) := by simp only [oF, SH]; simp
theorem oF_25_6 (f : Option Nat → Prop) : oF 25 2 6 f = f (none) := by simp only [oF, SH]; simp
theorem oC_26 : oC 26 3 = True := by simp [oC, SH]
theorem oF_26_0 (f : Option Nat → Prop) : oF 26 3 0 f = f (some 27) := by simp only [oF, SH]; simp
theorem aF_27 (f : Nat → Prop) : aF 27 1 f = f 6100 := aF_of (by rfl)
theorem aF_28 (f : Nat → Prop) : aF 28 0 f = f 100 := aF_of (by rfl)
theorem oC_29 : oC 29 1 = True := by simp [oC, SH]
theorem oF_29_0 (f : Option Nat → Prop) : oF 29 1 0 f = f (some 30) := by simp only [oF, SH]; simp
theorem oF_29_1 (f : Option Nat → Prop) : oF 29 1 1 f = f (none) := by simp only [oF, SH]; simp
theorem aF_30 (f : Nat → Prop) : aF 30 0 f = f 600 := aF_of (by rfl)
theorem oC_31 : oC 31 1 = True := by simp [oC, SH]
theorem oF_31_0 (f : Option Nat → Prop) : oF 31 1 0 f = f (some 32) := by simp only [oF, SH]; simp
theorem oF_31_1 (f : Option Nat → Prop) : oF 31 1 1 f = f (none) := by simp only [oF, SH]; simp
theorem aF_32 (f : Nat → Prop) : aF 32 0 f = f 600 := aF_of (by rfl)
theorem oC_33 : oC 33 1 = True := by simp [oC, SH]
theorem oF_33_0 (f : Option Nat → Prop) : oF 33 1 0 f = f (some 34) := by simp only [oF, SH]; simp
theorem oF_33_1 (f : Option Nat → Prop) : oF 33 1 1 f = f (none) := by simp only [oF, SH]; simp
theorem aF_34 (f : Nat → Prop) : aF 34 0 f = f 600 := aF_of (by rfl)
theorem oC_35 : oC 35 1 = True := by simp [oC, SH]
theorem oF_35_0 (f : Option Nat → Prop) : oF 35 1 0 f = f (some 36) := by simp only [oF, SH]; simp
theorem oF_35_1 (f : Option Nat → Prop) : oF 35 1 1 f = f (none) := by simp only [oF, SH]; simp
theorem aF_36 (f : Nat → Prop) : aF 36 0 f = f 600 := aF_of (by rfl)
theorem oC_37 : oC 37 9 = True := by simp [oC, SH]
theorem oF_37_0 (f : Option Nat → Prop) : oF 37 9 0 f = f (none) := by simp only [oF, SH]; simp
theorem oF_37_1 (f : Option Nat → Prop) : oF 37 9 1 f = f (none) := by simp only [oF, SH]; simp
theorem oF_37_2 (f : Option Nat → Prop) : oF 37 9 2 f = f (none) := by simp only [oF, SH]; simp
theorem oF_37_3 (f : Option Nat → Prop) : oF 37 9 3 f = f (some 38) := by simp only [oF, SH]; simp
theorem oF_37_4 (f : Option Nat → Prop) : oF 37 9 4 f = f (some 39) := by simp only [oF, SH]; simp
theorem oF_37_5 (f : Option Nat → Prop) : oF 37 9 5 f = f (none) := by simp only [oF, SH]; simp
theorem oF_37_6 (f : Option Nat → Prop) : oF 37 9 6 f = f (some 40) := by simp only [oF, SH]; simp
theorem oF_37_7 (f : Option Nat → Prop) : oF 37 9 7 f = f (none) := by simp only [oF, SH]; simp
theorem oF_37_8 (f : Option Nat → Prop) : oF 37 9 8 f = f (some 41) := by simp only [oF, SH]; simp
theorem oF_37_9 (f : Option Nat → Prop) : oF 37 9 9 f = f (some 42) := by simp only [oF, SH]; simp
theorem oF_37_10 (f : Option Nat → Prop) : oF 37 9 10 f = f (some 43) := by simp only [oF, SH]; simp
theorem oF_37_11 (f : Option Nat → Prop) : oF 37 9 11 f = f (some 44) := by simp only [oF, SH]; simp
theorem oF_37_12 (f : Option Nat → Prop) : oF 37 9 12 f = f (some 45) := by simp only [oF, SH]; simp
theorem oF_37_13 (f : Option Nat → Prop) : oF 37 9 13 f = f (some 46) := by simp only [oF, SH]; simp
theorem oF_37_14 (f : Option Nat → Prop) : oF 37 9 14 f = f (some 47) := by simp only [oF, SH]; simp
theorem oF_37_15 (f : Option Nat → Prop) : oF 37 9 15 f = f (some 48) := by simp only [oF, SH]; simp
theorem oF_37_16 (f : Option Nat → Prop) : oF 37 9 16 f = f (some 49) := by simp only [oF, SH]; simp
theorem oF_37_17 (f : Option Nat → Prop) : oF 37 9 17 f = f (none) := by simp only [oF, SH]; simp
theorem oF_37_18 (f : Option Nat → Prop) : oF 37 9 18 f = f (some 50) := by simp only [oF, SH]; simp
theorem oF_37_19 (f : Option Nat → Prop) : oF 37 9 19 f = f (some 51) := by simp only [oF, SH]; simp
theorem oF_37_20 (f : Option Nat → Prop) : oF 37 9 20 f = f (some 52) := by simp only [oF, SH]; simp
theorem oF_37_21 (f : Option Nat → Prop) : oF 37 9 21 f = f (some 53) := by simp only [oF, SH]; simp
theorem oF_37_22 (f : Option Nat → Prop) : oF 37 9 22 f = f (some 54) := by simp only [oF, SH]; simp
theorem oF_37_23 (f : Option Nat → Prop) : oF 37 9 23 f = f (some 55) := by simp only [oF, SH]; simp
theorem oF_37_24 (f : Option Nat → Prop) : oF 37 9 24 f = f (some 56) := by simp only [oF, SH]; simp
theorem oF_37_25 (f : Option Nat → Prop) : oF 37 9 25 f = f (some 57) := by simp only [oF, SH]; simp
theorem oF_37_26 (f : Option Nat → Prop) : oF 37 9 26 f = f (none) := by simp only [oF, SH]; simp
theorem oF_37_27 (f : Option Nat → Prop) : oF 37 9 27 f = f (none) := by simp only [oF, SH]; simp
theorem oF_37_28 (f : Option Nat → Prop) : oF 37 9 28 f = f (some 58) := by simp only [oF, SH]; simp
theorem oF_37_29 (f : Option Nat → Prop) : oF 37 9 29 f = f (some 59) := by simp only [oF, SH]; simp
theorem oF_37_30 (f : Option Nat → Prop) : oF 37 9 30 f = f (some 60) := by simp only [oF, SH]; simp
theorem oF_37_31 (f : Option Nat → Prop) : oF 37 9 31 f = f (some 61) := by simp only [oF, SH]; simp
theorem oF_37_32 (f : Option Nat → Prop) : oF 37 9 32 f = f (none) := by simp only [oF, SH]; simp
theorem oF_37_33 (f : Option Nat → Prop) : oF 37 9 33 f = f (none) := by simp only [oF, SH]; simp
theorem oF_37_34 (f : Option Nat → Prop) : oF 37 9 34 f = f (none) := by simp only [oF, SH]; simp
theorem oF_37_35 (f : Option Nat → Prop) : oF 37 9 35 f = f (some 62) := by simp only [oF, SH]; simp
theorem oF_37_36 (f : Option Nat → Prop) : oF 37 9 36 f = f (none) := by simp only [oF, SH]; simp
theorem oF_37_37 (f : Option Nat → Prop) : oF 37 9 37 f = f (some 63) := by simp only [oF, SH]; simp
theorem oF_37_38 (f : Option Nat → Prop) : oF 37 9 38 f = f (none) := by simp only [oF, SH]; simp
theorem oF_37_39 (f : Option Nat → Prop) : oF 37 9 39 f = f (some 64) := by simp only [oF, SH]; simp
theorem oF_37_40 (f : Option Nat → Prop) : oF 37 9 40 f = f (some 65) := by simp only [oF, SH]; simp
theorem oF_37_41 (f : Option Nat → Prop) : oF 37 9 41 f = f (some 66) := by simp only [oF, SH]; simp
theorem aF_38 (f : Nat → Prop) : aF 38 0 f = f 4 := aF_of (by rfl)
theorem aF_39 (f : Nat → Prop) : aF 39 0 f = f 4 := aF_of (by rfl)
theorem aF_40 (f : Nat → Prop) : aF 40 0 f = f 11264 := aF_of (by rfl)
theorem aF_41 (f : Nat → Prop) : aF 41 0 f = f 11264 := aF_of (by rfl)
theorem aF_42 (f : Nat → Prop) : aF 42 0 f = f 11264 := aF_of (by rfl)
theorem aF_43 (f : Nat → Prop) : aF 43 0 f = f 11264 := aF_of (by rfl)
theorem aF_44 (f : Nat → Prop) : aF 44 2 f = f 11264 := aF_of (by rfl)
theorem aF_45 (f : Nat → Prop) : aF 45 0 f = f 11264 := aF_of (by rfl)
theorem aF_46 (f : Nat → Prop) : aF 46 0 f = f 11264 := aF_of (by rfl)
theorem aF_47 (f : Nat → Prop) : aF 47 0 f = f 101 := aF_of (by rfl)
theorem aF_48 (f : Nat → Prop) : aF 48 0 f = f 101 := aF_of (by rfl)
theorem aF_49 (f : Nat → Prop) : aF 49 0 f = f 101 := aF_of (by rfl)
theorem aF_50 (f : Nat → Prop) : aF 50 0 f = f 100 := aF_of (by rfl)
theorem aF_51 (f : Nat → Prop) : aF 51 0 f = f 100 := aF_of (by rfl)
theorem aF_52 (f : Nat → Prop) : aF 52 0 f = f 100 := aF_of (by rfl)
theorem aF_53 (f : Nat → Prop) : aF 53 0 f = f 100 := aF_of (by rfl)
theorem aF_54 (f : Nat → Prop) : aF 54 0 f = f 100 := aF_of (by rfl)
theorem aF_55 (f : Nat → Prop) : aF 55 0 f = f 101 := aF_of (by rfl)
theorem aF_56 (f : Nat → Prop) : aF 56 0 f = f 100 := aF_of (by rfl)
theorem aF_57 (f : Nat → Prop) : aF 57 0 f = f 100 := aF_of (by rfl)
theorem aF_58 (f : Nat → Prop) : aF 58 1 f = f 6100 := aF_of (by rfl)
theorem aF_59 (f : Nat → Prop) : aF 59 0 f = f 100 := aF_of (by rfl)
theorem aF_60 (f : Nat → Prop) : aF 60 0 f = f 100 := aF_of (by rfl)
theorem aF_61 (f : Nat → Prop) : aF 61 0 f = f 10000 := aF_of (by rfl)
theorem aF_62 (f : Nat → Prop) : aF 62 2 f = f 100 := aF_of (by rfl)
theorem aF_63 (f : Nat → Prop) : aF 63 0 f = f 240 := aF_of (by rfl)
theorem aF_64 (f : Nat → Prop) : aF 64 0 f = f 600 := aF_of (by rfl)
theorem aF_65 (f : Nat → Prop) : aF 65 0 f = f 600 := aF_of (by rfl)
theorem aF_66 (f : Nat → Prop) : aF 66 0 f = f 100 := aF_of (by rfl)
