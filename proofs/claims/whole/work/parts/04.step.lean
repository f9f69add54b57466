/-! the small machine's step, by predicate transformers -/
def popI (st : List AV) (f : Int → List AV → Prop) : Prop := match st with
  | .inl z :: r => f z r
  | _ => False
def popL (st : List AV) (f : Int → List AV → Prop) : Prop := match st with
  | .inr (.inl z) :: r => f z r
  | _ => False
def popR (st : List AV) (f : Nat → List AV → Prop) : Prop := match st with
  | .inr (.inr (some i)) :: r => f i r
  | _ => False
def popV (st : List AV) (f : AV → List AV → Prop) : Prop := match st with
  | v :: r => f v r
  | [] => False
def popN : Nat → List AV → List AV → (List AV → List AV → Prop) → Prop
  | 0, as, st, f => f as st
  | n + 1, as, st, f => popV st fun v r => popN n (v :: as) r f
def ldI (L : List AV) (i : Nat) (f : Int → Prop) : Prop := match L[i]? with
  | some (.inl z) => f z
  | _ => False
def ldL (L : List AV) (i : Nat) (f : Int → Prop) : Prop := match L[i]? with
  | some (.inr (.inl z)) => f z
  | _ => False
def ldR (L : List AV) (i : Nat) (f : Nat → Prop) : Prop := match L[i]? with
  | some (.inr (.inr (some z))) => f z
  | _ => False
def oF (i ci k : Nat) (f : Option Nat → Prop) : Prop := match SH[i]? with
  | some (.inl (c, fs)) => c = ci ∧ (match fs[k]? with
    | some q => f q
    | none => False)
  | _ => False
def oC (i ci : Nat) : Prop := match SH[i]? with
  | some (.inl (c, _)) => c = ci
  | _ => False
def aF (i kd : Nat) (f : Nat → Prop) : Prop := match SH[i]? with
  | some (.inr (k, n)) => k = kd ∧ f n
  | _ => False
def aN (i : Nat) (f : Nat → Prop) : Prop := match SH[i]? with
  | some (.inr (k, n)) => (k = 0 ∨ k = 1 ∨ k = 2) ∧ f n
  | _ => False
def catS : List AV → Nat
  | [] => 0
  | v :: r => (if isLong v then 2 else 1) + catS r
def psh (v : Option AV) (r : List AV) : List AV := match v with
  | some v => v :: r
  | none => r
def fldV (t : Option Nat) (z : Int) : AV := match t with
  | none => .inl z
  | some t => .inr (.inr (some t))
def tgt (pc : Nat) (off : Int) (f : Nat → Prop) : Prop := 0 ≤ (pc : Int) + off ∧ f ((pc : Int) + off).toNat
def sw (pc : Nat) (z : Int) (f : Nat → Prop) : List Int → Int → Prop
  | [], _ => True
  | o :: os, lo => (z = lo → tgt pc o f) ∧ sw pc z f os (lo + 1)
def ilen : Instr → Nat
  | .iload _ | .lload _ | .aload _ | .istore _ | .lstore _ | .astore _ | .bipush _ | .ldc _ => 2
  | .sipush _ | .ldc_w _ | .ldc2_w _ | .iinc _ _ | .getfield _ | .putfield _ | .goto _ | .ifCond _ _ | .if_icmp _ _ | .invokevirtual _ | .invokestatic _ => 3
  | _ => 1
def isSw : Instr → Bool
  | .tableswitch .. => true
  | _ => false
def stp (sc : Prop) (Φ : List (Nat × Nat × Nat)) (κ : List (Nat × Int)) (Γ : List (Nat × Nat × Nat × Spec)) (rt : Nat) (Q : Option AV → St → Prop) (J : Nat → List AV → List AV → St → Prop)
    (pc : Nat) (o : Instr) (L st : List AV) (σ : St) (k : List AV → List AV → St → Prop) : Prop := match o with
  | .aload_n i => ldR L i.val fun z => k L (.inr (.inr (some z)) :: st) σ
  | .aload i => ldR L i fun z => k L (.inr (.inr (some z)) :: st) σ
  | .iload_n i => ldI L i.val fun z => k L (.inl z :: st) σ
  | .iload i => ldI L i fun z => k L (.inl z :: st) σ
  | .lload_n i => ldL L i.val fun z => k L (.inr (.inl z) :: st) σ
  | .lload i => ldL L i fun z => k L (.inr (.inl z) :: st) σ
  | .istore_n i => popI st fun z r => i.val < L.length ∧ k (sto1 L i.val (.inl z)) r σ
  | .istore i => popI st fun z r => i < L.length ∧ k (sto1 L i (.inl z)) r σ
  | .lstore_n i => popL st fun z r => i.val + 1 < L.length ∧ k (sto2 L i.val (.inr (.inl z))) r σ
  | .lstore i => popL st fun z r => i + 1 < L.length ∧ k (sto2 L i (.inr (.inl z))) r σ
  | .astore_n i => popR st fun z r => i.val < L.length ∧ k (sto1 L i.val (.inr (.inr (some z)))) r σ
  | .astore i => popR st fun z r => i < L.length ∧ k (sto1 L i (.inr (.inr (some z)))) r σ
  | .iconst z => k L (.inl z :: st) σ
  | .bipush z => -128 ≤ z ∧ z < 128 ∧ k L (.inl z :: st) σ
  | .sipush z => -32768 ≤ z ∧ z < 32768 ∧ k L (.inl z :: st) σ
  | .lconst i => k L (.inr (.inl (i.val : Int)) :: st) σ
  | .ldc i => i < 100000 ∧ lk1 κ i fun z => k L (.inl z :: st) σ
  | .ldc_w i => i < 100000 ∧ lk1 κ i fun z => k L (.inl z :: st) σ
  | .ldc2_w i => lk1 κ (i + 100000) fun z => k L (.inr (.inl z) :: st) σ
  | .iinc i z => ldI L i fun x => k (sto1 L i (.inl (x + z))) st σ
  | .iadd => popI st fun y r => popI r fun x r => k L (.inl (x + y) :: r) σ
  | .isub => popI st fun y r => popI r fun x r => k L (.inl (x - y) :: r) σ
  | .imul => popI st fun y r => popI r fun x r => k L (.inl (x * y) :: r) σ
  | .ineg => popI st fun x r => k L (.inl (-x) :: r) σ
  | .idiv => popI st fun y r => popI r fun x r => 0 ≤ x ∧ x < 2147483648 ∧ 0 < y ∧ y < 2147483648 ∧ k L (.inl (x / y) :: r) σ
  | .irem => popI st fun y r => popI r fun x r => 0 ≤ x ∧ x < 2147483648 ∧ 0 < y ∧ y < 2147483648 ∧ k L (.inl (x % y) :: r) σ
  | .ishl => popI st fun y r => popI r fun x r => 0 ≤ y ∧ y < 32 ∧ k L (.inl (x * 2 ^ y.toNat) :: r) σ
  | .ishr => popI st fun y r => popI r fun x r => rI x ∧ 0 ≤ y ∧ y < 32 ∧ k L (.inl (x / 2 ^ y.toNat) :: r) σ
  | .iushr => popI st fun y r => popI r fun x r => 0 ≤ y ∧ y < 32 ∧ k L (.inl (x % 4294967296 / 2 ^ y.toNat) :: r) σ
  | .iand => popI st fun y r => popI r fun x r => k L (.inl (iandZ x y) :: r) σ
  | .ior => popI st fun y r => popI r fun x r => k L (.inl (iorZ x y) :: r) σ
  | .ixor => popI st fun y r => popI r fun x r => k L (.inl (ixorZ x y) :: r) σ
  | .ladd => popL st fun y r => popL r fun x r => k L (.inr (.inl (x + y)) :: r) σ
  | .lsub => popL st fun y r => popL r fun x r => k L (.inr (.inl (x - y)) :: r) σ
  | .lmul => popL st fun y r => popL r fun x r => k L (.inr (.inl (x * y)) :: r) σ
  | .lshl => popI st fun y r => popL r fun x r => 0 ≤ y ∧ y < 64 ∧ k L (.inr (.inl (x * 2 ^ y.toNat)) :: r) σ
  | .lshr => popI st fun y r => popL r fun x r => rL x ∧ 0 ≤ y ∧ y < 64 ∧ k L (.inr (.inl (x / 2 ^ y.toNat)) :: r) σ
  | .lushr => popI st fun y r => popL r fun x r => 0 ≤ y ∧ y < 64 ∧ k L (.inr (.inl (x % 18446744073709551616 / 2 ^ y.toNat)) :: r) σ
  | .land => popL st fun y r => popL r fun x r => k L (.inr (.inl (landZ x y)) :: r) σ
  | .lor => popL st fun y r => popL r fun x r => k L (.inr (.inl (lorZ x y)) :: r) σ
  | .lcmp => popL st fun y r => popL r fun x r => rL x ∧ rL y ∧ k L (.inl (cmpZ x y) :: r) σ
  | .i2l => popI st fun x r => rI x ∧ k L (.inr (.inl x) :: r) σ
  | .l2i => popL st fun x r => k L (.inl (wrapI x) :: r) σ
  | .dup => popV st fun v r => isLong v = false ∧ k L (v :: v :: r) σ
  | .dup2 => popV st fun v r => popV r fun w r => isLong v = false ∧ isLong w = false ∧ k L (v :: w :: v :: w :: r) σ
  | .pop => popV st fun v r => isLong v = false ∧ k L r σ
  | .getfield x => popR st fun i r => lk1 Φ x fun q => oF i q.1 q.2 fun t => k L (fldV t (σ i q.2) :: r) σ
  | .putfield x => popI st fun z r => popR r fun i r => lk1 Φ x fun q => oF i q.1 q.2 fun t => t = none ∧ k L r (updR σ i (up1 (σ i) q.2 z))
  | .iaload => popI st fun j r => popR r fun i r => if i = 1000 then sc ∧ 0 ≤ j ∧ j < σ 1001 0 ∧ k L (.inl (σ 1000 j.toNat) :: r) σ else aF i 0 fun n => 0 ≤ j ∧ j < (n : Int) ∧ k L (.inl (σ i j.toNat) :: r) σ
  | .laload => popI st fun j r => popR r fun i r => aF i 1 fun n => 0 ≤ j ∧ j < (n : Int) ∧ k L (.inr (.inl (σ i j.toNat)) :: r) σ
  | .baload => popI st fun j r => popR r fun i r => aF i 2 fun n => 0 ≤ j ∧ j < (n : Int) ∧ k L (.inl (σ i j.toNat) :: r) σ
  | .iastore => popI st fun z r => popI r fun j r => popR r fun i r => aF i 0 fun n => 0 ≤ j ∧ j < (n : Int) ∧ k L r (updR σ i (up1 (σ i) j.toNat z))
  | .lastore => popL st fun z r => popI r fun j r => popR r fun i r => aF i 1 fun n => 0 ≤ j ∧ j < (n : Int) ∧ k L r (updR σ i (up1 (σ i) j.toNat z))
  | .bastore => popI st fun z r => popI r fun j r => popR r fun i r => aF i 2 fun n => 0 ≤ j ∧ j < (n : Int) ∧ (z = 0 ∨ z = 1) ∧ k L r (updR σ i (up1 (σ i) j.toNat z))
  | .arraylength => popR st fun i r => if i = 1000 then sc ∧ k L (.inl (σ 1001 0) :: r) σ else aN i fun n => k L (.inl (n : Int) :: r) σ
  | .goto off => tgt pc off fun t => J t L st σ
  | .ifCond c off => tgt pc off fun t => popI st fun z r => rI z ∧ (match c with
    | .eq => (z = 0 → J t L r σ) ∧ (¬ z = 0 → k L r σ)
    | .ne => (¬ z = 0 → J t L r σ) ∧ (z = 0 → k L r σ)
    | .lt => (z < 0 → J t L r σ) ∧ (0 ≤ z → k L r σ)
    | .ge => (0 ≤ z → J t L r σ) ∧ (z < 0 → k L r σ)
    | .gt => (0 < z → J t L r σ) ∧ (z ≤ 0 → k L r σ)
    | .le => (z ≤ 0 → J t L r σ) ∧ (0 < z → k L r σ))
  | .if_icmp c off => tgt pc off fun t => popI st fun y r => popI r fun x r => rI x ∧ rI y ∧ (match c with
    | .eq => (x = y → J t L r σ) ∧ (¬ x = y → k L r σ)
    | .ne => (¬ x = y → J t L r σ) ∧ (x = y → k L r σ)
    | .lt => (x < y → J t L r σ) ∧ (y ≤ x → k L r σ)
    | .ge => (y ≤ x → J t L r σ) ∧ (x < y → k L r σ)
    | .gt => (y < x → J t L r σ) ∧ (x ≤ y → k L r σ)
    | .le => (x ≤ y → J t L r σ) ∧ (y < x → k L r σ))
  | .tableswitch d lo hi offs => popI st fun z r => rI z ∧ hi + 1 = lo + offs.size ∧ ((z < lo ∨ hi < z) → tgt pc d fun t => J t L r σ) ∧ sw pc z (fun t => J t L r σ) offs.toList lo
  | .ireturn => popI st fun z r => r = [] ∧ (rt = 1 ∨ (rt = 3 ∧ (z = 0 ∨ z = 1))) ∧ Q (some (.inl z)) σ
  | .lreturn => popL st fun z r => r = [] ∧ rt = 2 ∧ Q (some (.inr (.inl z))) σ
  | .return_ => st = [] ∧ rt = 0 ∧ Q none σ
  | .invokevirtual x => lk1 Γ x fun g => popN g.2.1 [] st fun as r => popR r fun i r => 0 < g.1 ∧ oC i (g.1 - 1) ∧ catS r ≤ 8 ∧ g.2.2 (.inr (.inr (some i)) :: as) σ (fun v σ' => (sc → σ' 1000 = σ 1000 ∧ σ' 1001 = σ 1001) ∧ k L (psh v r) σ')
  | .invokestatic x => lk1 Γ x fun g => if g.1 = 1000 then popI st fun n r => popI r fun dp r => popR r fun d r => popI r fun sp r => popR r fun q r => aF q 0 fun nq => aF d 0 fun nd => catS r ≤ 8 ∧ 0 ≤ n ∧ 0 ≤ dp ∧ 0 ≤ sp ∧ sp + n ≤ (nq : Int) ∧ dp + n ≤ (nd : Int) ∧ k L r (updR σ d (va_cpy (σ q) (σ d) sp.toNat dp.toNat n.toNat))
    else popN g.2.1 [] st fun as r => g.1 = 0 ∧ catS r ≤ 8 ∧ g.2.2 as σ (fun v σ' => (sc → σ' 1000 = σ 1000 ∧ σ' 1001 = σ 1001) ∧ k L (psh v r) σ')
  | _ => False
def wpB (sc : Prop) (Φ : List (Nat × Nat × Nat)) (κ : List (Nat × Int)) (Γ : List (Nat × Nat × Nat × Spec)) (rt : Nat) (Q : Option AV → St → Prop) (J : Nat → List AV → List AV → St → Prop) : Nat → List Instr → List AV → List AV → St → Prop
  | pc, [], L, st, σ => J pc L st σ
  | pc, o :: r, L, st, σ => stp sc Φ κ Γ rt Q J pc o L st σ (fun L st σ => wpB sc Φ κ Γ rt Q J (pc + ilen o) r L st σ)
def okB (cc : ByteArray) : Nat → List Instr → Bool
  | _, [] => true
  | pc, o :: r => (match decode cc pc with
    | .ok (i, n) => decide (i = o) && (isSw o || n == ilen o)
    | .error _ => false) && okB cc (pc + ilen o) r
