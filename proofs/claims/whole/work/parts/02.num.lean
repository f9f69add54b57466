/-! numbers: an int is 'Int32.ofInt z', a long 'Int64.ofInt z', z an Int; what the machine does to them, said of z -/
def rI (z : Int) : Prop := -2147483648 ≤ z ∧ z < 2147483648
def rL (z : Int) : Prop := -9223372036854775808 ≤ z ∧ z < 9223372036854775808
theorem zI_toInt {z : Int} (h : rI z) : (Int32.ofInt z).toInt = z := Int32.toInt_ofInt_of_le (by have := h.1; omega) (by have := h.2; omega)
theorem zL_toInt {z : Int} (h : rL z) : (Int64.ofInt z).toInt = z := Int64.toInt_ofInt_of_le (by have := h.1; omega) (by have := h.2; omega)
theorem zI_lt {x y : Int} (hx : rI x) (hy : rI y) : Int32.ofInt x < Int32.ofInt y ↔ x < y := by rw [Int32.lt_iff_toInt_lt, zI_toInt hx, zI_toInt hy]
theorem zI_le {x y : Int} (hx : rI x) (hy : rI y) : Int32.ofInt x ≤ Int32.ofInt y ↔ x ≤ y := by rw [Int32.le_iff_toInt_le, zI_toInt hx, zI_toInt hy]
theorem zI_eq {x y : Int} (hx : rI x) (hy : rI y) : Int32.ofInt x = Int32.ofInt y ↔ x = y := by rw [← Int32.toInt_inj, zI_toInt hx, zI_toInt hy]
theorem zL_lt {x y : Int} (hx : rL x) (hy : rL y) : Int64.ofInt x < Int64.ofInt y ↔ x < y := by rw [Int64.lt_iff_toInt_lt, zL_toInt hx, zL_toInt hy]
theorem zL_eq {x y : Int} (hx : rL x) (hy : rL y) : Int64.ofInt x = Int64.ofInt y ↔ x = y := by rw [← Int64.toInt_inj, zL_toInt hx, zL_toInt hy]
theorem rI_0 : rI 0 := by unfold rI; omega
theorem zI_zero : Int32.ofInt 0 = 0 := by decide +kernel
theorem zI_eq0 {x : Int} (hx : rI x) : Int32.ofInt x = 0 ↔ x = 0 := by rw [← zI_zero, zI_eq hx rI_0]
theorem zI_lt0 {x : Int} (hx : rI x) : Int32.ofInt x < 0 ↔ x < 0 := by rw [← zI_zero, zI_lt hx rI_0]
theorem zI_le0 {x : Int} (hx : rI x) : Int32.ofInt x ≤ 0 ↔ x ≤ 0 := by rw [← zI_zero, zI_le hx rI_0]
theorem zI_0le {x : Int} (hx : rI x) : 0 ≤ Int32.ofInt x ↔ 0 ≤ x := by rw [← zI_zero, zI_le rI_0 hx]
theorem zI_0lt {x : Int} (hx : rI x) : 0 < Int32.ofInt x ↔ 0 < x := by rw [← zI_zero, zI_lt rI_0 hx]
theorem zI_clamp {z : Int} (h0 : 0 ≤ z) (h1 : z < 2147483648) : (Int32.ofInt z).toNatClampNeg = z.toNat := Int32.toNatClampNeg_ofInt_of_le (by omega) (by omega)
theorem zI_in {z : Int} {n : Nat} (h0 : 0 ≤ z) (h1 : z < (n : Int)) (hn : n ≤ 2147483647) : vp_in (Int32.ofInt z) n := by
  rw [vp_in_iff, zI_toInt (by unfold rI; omega)]
  omega
theorem zI_of (x : Int32) : ∃ z : Int, rI z ∧ x = Int32.ofInt z := ⟨x.toInt, ⟨by have := x.le_toInt; omega, by have := x.toInt_lt; omega⟩, (Int32.ofInt_toInt x).symm⟩
theorem zI_div {x y : Int} (h0 : 0 ≤ x) (hx : x < 2147483648) (h1 : 0 < y) (hy : y < 2147483648) : Int32.ofInt x / Int32.ofInt y = Int32.ofInt (x / y) := by
  obtain ⟨a, rfl⟩ := Int.eq_ofNat_of_zero_le h0
  obtain ⟨b, rfl⟩ := Int.eq_ofNat_of_zero_le (Int.le_of_lt h1)
  have e := pk_div (a := a) (d := b) (by omega) (by omega) (by omega)
  unfold nI at e
  rw [Int32.ofInt_eq_ofNat, Int32.ofInt_eq_ofNat, e, ← Int32.ofInt_eq_ofNat]
  rfl
theorem zI_rem {x y : Int} (h0 : 0 ≤ x) (hx : x < 2147483648) (h1 : 0 < y) (hy : y < 2147483648) : Int32.ofInt x - Int32.ofInt x / Int32.ofInt y * Int32.ofInt y = Int32.ofInt (x % y) := by
  rw [zI_div h0 hx h1 hy, ← Int32.ofInt_mul, ← Int32.ofInt_sub]
  congr 1
  have := Int.mul_ediv_add_emod x y
  rw [Int.mul_comm (x / y) y]
  omega
theorem zI_sl : ∀ n, n < 32 → ((Int32.ofNat n &&& 31).toBitVec.smod 32).toNat = n := by decide +kernel
theorem zI_su : ∀ n, n < 32 → (((Int32.ofNat n).toUInt32 &&& Int32.toUInt32 31).toBitVec % 32).toNat = n := by decide +kernel
theorem zI_nat (x : Int) : ((Int32.ofInt x).toBitVec.toNat : Int) = x % 4294967296 := by
  rw [Int32.toBitVec_ofInt, BitVec.toNat_ofInt]
  have : (0 : Int) ≤ x % 4294967296 := Int.emod_nonneg _ (by omega)
  show ((x % ((2 ^ 32 : Nat) : Int)).toNat : Int) = _
  rw [show ((2 ^ 32 : Nat) : Int) = 4294967296 from rfl]
  omega
theorem zL_nat (x : Int) : ((Int64.ofInt x).toBitVec.toNat : Int) = x % 18446744073709551616 := by
  rw [Int64.toBitVec_ofInt, BitVec.toNat_ofInt]
  have : (0 : Int) ≤ x % 18446744073709551616 := Int.emod_nonneg _ (by omega)
  show ((x % ((2 ^ 64 : Nat) : Int)).toNat : Int) = _
  rw [show ((2 ^ 64 : Nat) : Int) = 18446744073709551616 from rfl]
  omega
theorem zI_ext {x y : Int32} (h : (x.toBitVec.toNat : Int) = (y.toBitVec.toNat : Int)) : x = y := Int32.toBitVec.inj (BitVec.eq_of_toNat_eq (by omega))
theorem zL_ext {x y : Int64} (h : (x.toBitVec.toNat : Int) = (y.toBitVec.toNat : Int)) : x = y := Int64.toBitVec.inj (BitVec.eq_of_toNat_eq (by omega))
theorem zI_shl {x y : Int} (h0 : 0 ≤ y) (h1 : y < 32) : Int32.ofInt x <<< (Int32.ofInt y &&& 31) = Int32.ofInt (x * 2 ^ y.toNat) := by
  obtain ⟨k, rfl⟩ := Int.eq_ofNat_of_zero_le h0
  apply zI_ext
  rw [zI_nat, Int32.ofInt_eq_ofNat (n := k), pk_shl _ _ k (zI_sl k (by omega))]
  rw [show ((((Int32.ofInt x).toBitVec.toNat * 2 ^ k % 2 ^ 32 : Nat)) : Int) = ((Int32.ofInt x).toBitVec.toNat : Int) * 2 ^ k % 4294967296 by rw [Int.natCast_emod, Int.natCast_mul, Int.natCast_pow]; rfl]
  rw [zI_nat, Int.mul_emod, Int.emod_emod, ← Int.mul_emod]
  rfl
theorem zI_shr {x y : Int} (hx : rI x) (h0 : 0 ≤ y) (h1 : y < 32) : Int32.ofInt x >>> (Int32.ofInt y &&& 31) = Int32.ofInt (x / 2 ^ y.toNat) := by
  obtain ⟨k, rfl⟩ := Int.eq_ofNat_of_zero_le h0
  apply Int32.toInt_inj.mp
  rw [Int32.ofInt_eq_ofNat (n := k), pk_shr _ _ k (zI_sl k (by omega)), zI_toInt hx, Int.shiftRight_eq_div_pow]
  show x / ((2 ^ k : Nat) : Int) = _
  have hp : (0 : Int) < 2 ^ k := Int.pow_pos (by omega)
  rw [show ((2 ^ k : Nat) : Int) = (2 : Int) ^ k by rw [Int.natCast_pow]; rfl]
  have e : (Int32.ofInt (x / 2 ^ (k : Int).toNat)).toInt = x / 2 ^ k := by
    rw [Int.toNat_natCast]
    refine zI_toInt ⟨?_, ?_⟩
    · apply Int.le_ediv_of_mul_le hp
      have := hx.1
      have : (-2147483648 : Int) * 2 ^ k ≤ -2147483648 * 1 := Int.mul_le_mul_of_nonpos_left (by omega) (by omega)
      omega
    · apply Int.ediv_lt_of_lt_mul hp
      have := hx.2
      have : (2147483648 : Int) * 1 ≤ 2147483648 * 2 ^ k := Int.mul_le_mul_of_nonneg_left (by omega) (by omega)
      omega
  exact e.symm
theorem zI_ushr {x y : Int} (h0 : 0 ≤ y) (h1 : y < 32) : ((Int32.ofInt x).toUInt32 >>> ((Int32.ofInt y).toUInt32 &&& Int32.toUInt32 31)).toInt32 = Int32.ofInt (x % 4294967296 / 2 ^ y.toNat) := by
  obtain ⟨k, rfl⟩ := Int.eq_ofNat_of_zero_le h0
  apply zI_ext
  rw [zI_nat, Int32.ofInt_eq_ofNat (n := k), pk_ushr _ _ k (zI_su k (by omega)), Int.natCast_ediv, zI_nat, Int.natCast_pow, Int.toNat_natCast]
  have hp : (0 : Int) < 2 ^ k := Int.pow_pos (by omega)
  rw [Int.emod_eq_of_lt (Int.ediv_nonneg (Int.emod_nonneg _ (by omega)) (by omega))]
  · rfl
  · apply Int.ediv_lt_of_lt_mul hp
    have := Int.emod_lt_of_pos x (b := 4294967296) (by omega)
    have : (4294967296 : Int) * 1 ≤ 4294967296 * 2 ^ k := Int.mul_le_mul_of_nonneg_left (by omega) (by omega)
    omega
def iandZ (x y : Int) : Int := (Int32.ofInt x &&& Int32.ofInt y).toInt
def iorZ (x y : Int) : Int := (Int32.ofInt x ||| Int32.ofInt y).toInt
def ixorZ (x y : Int) : Int := (Int32.ofInt x ^^^ Int32.ofInt y).toInt
def landZ (x y : Int) : Int := (Int64.ofInt x &&& Int64.ofInt y).toInt
def lorZ (x y : Int) : Int := (Int64.ofInt x ||| Int64.ofInt y).toInt
theorem zI_and (x y : Int) : Int32.ofInt x &&& Int32.ofInt y = Int32.ofInt (iandZ x y) := (Int32.ofInt_toInt _).symm
theorem zI_or (x y : Int) : Int32.ofInt x ||| Int32.ofInt y = Int32.ofInt (iorZ x y) := (Int32.ofInt_toInt _).symm
theorem zI_xor (x y : Int) : Int32.ofInt x ^^^ Int32.ofInt y = Int32.ofInt (ixorZ x y) := (Int32.ofInt_toInt _).symm
theorem zL_and (x y : Int) : Int64.ofInt x &&& Int64.ofInt y = Int64.ofInt (landZ x y) := (Int64.ofInt_toInt _).symm
theorem zL_or (x y : Int) : Int64.ofInt x ||| Int64.ofInt y = Int64.ofInt (lorZ x y) := (Int64.ofInt_toInt _).symm
theorem zI_l {z : Int} (h : rI z) : (Int32.ofInt z).toInt64 = Int64.ofInt z := by
  apply Int64.toInt_inj.mp
  rw [Int32.toInt_toInt64, zI_toInt h, zL_toInt (by unfold rI at h; unfold rL; omega)]
theorem zL_i (z : Int) : (Int64.ofInt z).toInt32 = Int32.ofInt z := Int64.toInt32_ofInt
def wrapI (x : Int) : Int := (x + 2147483648) % 4294967296 - 2147483648
theorem wrapI_r (x : Int) : rI (wrapI x) := by unfold wrapI rI; omega
theorem wrapI_id {x : Int} (h : rI x) : wrapI x = x := by unfold rI at h; unfold wrapI; omega
theorem zL_iw (x : Int) : (Int64.ofInt x).toInt32 = Int32.ofInt (wrapI x) := by
  rw [zL_i]
  apply zI_ext
  rw [zI_nat, zI_nat]
  unfold wrapI
  omega
theorem zL_sl : ∀ n, n < 64 → (((Int32.ofNat n).toInt64 &&& 63).toBitVec.smod 64).toNat = n := by decide +kernel
theorem zL_su : ∀ n, n < 64 → ((Int32.ofNat n).toInt64.toUInt64 &&& Int64.toUInt64 63).toNat % 64 = n := by decide +kernel
theorem zL_shlN (a s : Int64) (k : Nat) (hs : (s.toBitVec.smod 64).toNat = k) : (a <<< s).toBitVec.toNat = a.toBitVec.toNat * 2 ^ k % 2 ^ 64 := by
  rw [Int64.toBitVec_shiftLeft, BitVec.shiftLeft_eq', BitVec.toNat_shiftLeft, hs, Nat.shiftLeft_eq]
theorem zL_shrN (a s : Int64) (k : Nat) (hs : (s.toBitVec.smod 64).toNat = k) : (a >>> s).toInt = a.toInt >>> k := by
  rw [← Int64.toInt_toBitVec, Int64.toBitVec_shiftRight, BitVec.sshiftRight_eq', BitVec.toInt_sshiftRight, hs]
  rfl
theorem zL_shl {x y : Int} (h0 : 0 ≤ y) (h1 : y < 64) : Int64.ofInt x <<< ((Int32.ofInt y).toInt64 &&& 63) = Int64.ofInt (x * 2 ^ y.toNat) := by
  obtain ⟨k, rfl⟩ := Int.eq_ofNat_of_zero_le h0
  apply zL_ext
  rw [zL_nat, Int32.ofInt_eq_ofNat (n := k), zL_shlN _ _ k (zL_sl k (by omega))]
  rw [show ((((Int64.ofInt x).toBitVec.toNat * 2 ^ k % 2 ^ 64 : Nat)) : Int) = ((Int64.ofInt x).toBitVec.toNat : Int) * 2 ^ k % 18446744073709551616 by rw [Int.natCast_emod, Int.natCast_mul, Int.natCast_pow]; rfl]
  rw [zL_nat, Int.mul_emod, Int.emod_emod, ← Int.mul_emod]
  rfl
theorem zL_shr {x y : Int} (hx : rL x) (h0 : 0 ≤ y) (h1 : y < 64) : Int64.ofInt x >>> ((Int32.ofInt y).toInt64 &&& 63) = Int64.ofInt (x / 2 ^ y.toNat) := by
  obtain ⟨k, rfl⟩ := Int.eq_ofNat_of_zero_le h0
  apply Int64.toInt_inj.mp
  rw [Int32.ofInt_eq_ofNat (n := k), zL_shrN _ _ k (zL_sl k (by omega)), zL_toInt hx, Int.shiftRight_eq_div_pow]
  show x / ((2 ^ k : Nat) : Int) = _
  have hp : (0 : Int) < 2 ^ k := Int.pow_pos (by omega)
  rw [show ((2 ^ k : Nat) : Int) = (2 : Int) ^ k by rw [Int.natCast_pow]; rfl]
  have e : (Int64.ofInt (x / 2 ^ (k : Int).toNat)).toInt = x / 2 ^ k := by
    rw [Int.toNat_natCast]
    refine zL_toInt ⟨?_, ?_⟩
    · apply Int.le_ediv_of_mul_le hp
      have := hx.1
      have : (-9223372036854775808 : Int) * 2 ^ k ≤ -9223372036854775808 * 1 := Int.mul_le_mul_of_nonpos_left (by omega) (by omega)
      omega
    · apply Int.ediv_lt_of_lt_mul hp
      have := hx.2
      have : (9223372036854775808 : Int) * 1 ≤ 9223372036854775808 * 2 ^ k := Int.mul_le_mul_of_nonneg_left (by omega) (by omega)
      omega
  exact e.symm
theorem zL_ushr {x y : Int} (h0 : 0 ≤ y) (h1 : y < 64) : ((Int64.ofInt x).toUInt64 >>> ((Int32.ofInt y).toInt64.toUInt64 &&& Int64.toUInt64 63)).toInt64 = Int64.ofInt (x % 18446744073709551616 / 2 ^ y.toNat) := by
  obtain ⟨k, rfl⟩ := Int.eq_ofNat_of_zero_le h0
  apply zL_ext
  have e : (((Int64.ofInt x).toUInt64 >>> ((Int32.ofInt (k : Int)).toInt64.toUInt64 &&& Int64.toUInt64 63)).toInt64).toBitVec.toNat = (Int64.ofInt x).toBitVec.toNat / 2 ^ k := by
    rw [Int32.ofInt_eq_ofNat (n := k)]
    show ((Int64.ofInt x).toUInt64 >>> _).toNat = _
    rw [UInt64.toNat_shiftRight, zL_su k (by omega), Nat.shiftRight_eq_div_pow]
    rfl
  rw [zL_nat, e, Int.natCast_ediv, zL_nat, Int.natCast_pow, Int.toNat_natCast]
  have hp : (0 : Int) < 2 ^ k := Int.pow_pos (by omega)
  rw [Int.emod_eq_of_lt (Int.ediv_nonneg (Int.emod_nonneg _ (by omega)) (by omega))]
  · rfl
  · apply Int.ediv_lt_of_lt_mul hp
    have := Int.emod_lt_of_pos x (b := 18446744073709551616) (by omega)
    have : (18446744073709551616 : Int) * 1 ≤ 18446744073709551616 * 2 ^ k := Int.mul_le_mul_of_nonneg_left (by omega) (by omega)
    omega
def cmpZ (x y : Int) : Int := if y < x then 1 else if x = y then 0 else -1
theorem zL_cmp {x y : Int} (hx : rL x) (hy : rL y) : lg_cmp (Int64.ofInt x) (Int64.ofInt y) = Int32.ofInt (cmpZ x y) := by
  unfold lg_cmp cmpZ
  simp only [gt_iff_lt, zL_lt hy hx, zL_eq hx hy]
  split
  · decide +kernel
  · split <;> decide +kernel
theorem zI_zbit {z : Int} (h : z = 0 ∨ z = 1) : narrow .boolean (.int (Int32.ofInt z)) = .int (Int32.ofInt z) := by
  rcases h with rfl | rfl <;> decide +kernel
theorem zI_vbit {z : Int} (h : z = 0 ∨ z = 1) : vp_nar .boolean (Int32.ofInt z) = Int32.ofInt z := by
  rcases h with rfl | rfl <;> decide +kernel
theorem zI_byte {n : Int} (h0 : -128 ≤ n) (h1 : n < 128) : (Int8.ofInt n).toInt32 = Int32.ofInt n := by
  apply Int32.toInt_inj.mp
  rw [Int8.toInt_toInt32, Int8.toInt_ofInt_of_le (by omega) (by omega), zI_toInt (by unfold rI; omega)]
theorem zI_short {n : Int} (h0 : -32768 ≤ n) (h1 : n < 32768) : (Int16.ofInt n).toInt32 = Int32.ofInt n := by
  apply Int32.toInt_inj.mp
  rw [Int16.toInt_toInt32, Int16.toInt_ofInt_of_le (by omega) (by omega), zI_toInt (by unfold rI; omega)]
theorem zI_sub (x y : Int) : Int32.ofInt x - Int32.ofInt y = Int32.ofInt (x - y) := (Int32.ofInt_sub x y).symm
