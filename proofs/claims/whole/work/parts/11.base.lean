/-! plain functions that the methods compute -/
def b2i (c : Prop) [Decidable c] : Int := if c then 1 else 0
theorem b2i_0 (c : Prop) [Decidable c] : (b2i c = 0) = ¬ c := by unfold b2i; split <;> simp_all
theorem b2i_1 (c : Prop) [Decidable c] : (b2i c = 1) = c := by unfold b2i; split <;> simp_all
theorem b2i_01 (c : Prop) [Decidable c] : (b2i c = 0 ∨ b2i c = 1) = True := by unfold b2i; split <;> simp
theorem b2i_r (c : Prop) [Decidable c] : rI (b2i c) = True := by unfold b2i rI; split <;> simp
theorem b2i_t {c : Prop} [Decidable c] (h : c) : b2i c = 1 := if_pos h
theorem b2i_f {c : Prop} [Decidable c] (h : ¬ c) : b2i c = 0 := if_neg h
theorem rI_lit0 : rI 0 = True := by simp [rI]
theorem rI_lit1 : rI 1 = True := by simp [rI]
theorem cmpZ_r (x y : Int) : rI (cmpZ x y) = True := by unfold cmpZ rI; split <;> (try split) <;> simp
theorem cmpZ_lt (x y : Int) : (cmpZ x y < 0) = (x < y) := by unfold cmpZ; split <;> (try split) <;> simp <;> omega
theorem cmpZ_le (x y : Int) : (cmpZ x y ≤ 0) = (x ≤ y) := by unfold cmpZ; split <;> (try split) <;> simp <;> omega
theorem cmpZ_gt (x y : Int) : (0 < cmpZ x y) = (y < x) := by unfold cmpZ; split <;> (try split) <;> simp <;> omega
theorem cmpZ_ge (x y : Int) : (0 ≤ cmpZ x y) = (y ≤ x) := by unfold cmpZ; split <;> (try split) <;> simp <;> omega
theorem cmpZ_eq (x y : Int) : (cmpZ x y = 0) = (x = y) := by unfold cmpZ; split <;> (try split) <;> simp <;> omega
theorem zI_natE (x : Int) : (Int32.ofInt x).toBitVec.toNat = (x % 4294967296).toNat := by have := zI_nat x; omega
theorem zL_natE (x : Int) : (Int64.ofInt x).toBitVec.toNat = (x % 18446744073709551616).toNat := by have := zL_nat x; omega
theorem iandZ_mask (x : Int) (k : Nat) (hk : k ≤ 31) : iandZ x (2 ^ k - 1) = x % 2 ^ k := by
  unfold iandZ
  have hp : (1 : Int) ≤ 2 ^ k := Int.pow_pos (by omega)
  have hp2 : (2 : Int) ^ k ≤ 2147483648 := by
    have : (2 : Nat) ^ k ≤ 2 ^ 31 := Nat.pow_le_pow_right (by omega) hk
    have e : ((2 ^ k : Nat) : Int) = 2 ^ k := by rw [Int.natCast_pow]; rfl
    omega
  have hm : (Int32.ofInt (2 ^ k - 1)).toBitVec.toNat = 2 ^ k - 1 := by
    rw [zI_natE, Int.emod_eq_of_lt (by omega) (by omega)]
    have e : ((2 ^ k : Nat) : Int) = 2 ^ k := by rw [Int.natCast_pow]; rfl
    omega
  rw [pk_and _ k hm, zI_natE]
  unfold nI
  rw [← Int32.ofInt_eq_ofNat]
  have e2 : (((x % 4294967296).toNat % 2 ^ k : Nat) : Int) = x % 2 ^ k := by
    rw [Int.natCast_emod, Int.toNat_of_nonneg (Int.emod_nonneg _ (by omega)), Int.natCast_pow]
    show x % 4294967296 % 2 ^ k = _
    apply Int.emod_emod_of_dvd
    have : (2 : Int) ^ k ∣ 2 ^ 32 := ⟨2 ^ (32 - k), by rw [← Int.pow_add, show k + (32 - k) = 32 by omega]⟩
    simpa using this
  rw [e2]
  have h1 := Int.emod_nonneg x (b := 2 ^ k) (by omega)
  have h2 := Int.emod_lt_of_pos x (b := 2 ^ k) (by omega)
  exact zI_toInt (by unfold rI; omega)
theorem iandZ_1 (x : Int) : iandZ x 1 = x % 2 := iandZ_mask x 1 (by omega)
theorem iandZ_w (x : Int) : iandZ (wrapI x) 1 = x % 2 := by rw [iandZ_1]; unfold wrapI; omega
theorem wrapI_m (x : Int) : wrapI x % 2 = x % 2 := by unfold wrapI; omega
theorem wrapI_2 (x : Int) : wrapI (x % 2) = x % 2 := wrapI_id (by unfold rI; omega)
theorem landZ_1 (x : Int) : landZ x 1 = x % 2 := by
  unfold landZ
  apply (Int64.toInt_inj.mpr (_ : _ = Int64.ofInt (x % 2))).trans
  · exact zL_toInt (by unfold rL; omega)
  · apply zL_ext
    have e : (Int64.ofInt x &&& Int64.ofInt 1).toBitVec.toNat = (Int64.ofInt x).toBitVec.toNat % 2 := by
      rw [Int64.toBitVec_and, BitVec.toNat_and]
      show _ &&& 1 = _
      exact Nat.and_one_is_mod _
    rw [e, Int.natCast_emod, zL_nat, zL_nat]
    omega
def bitZ (row : Int) (i : Nat) : Int := row / 2 ^ i % 2
theorem bitZ_01 (row : Int) (i : Nat) : bitZ row i = 0 ∨ bitZ row i = 1 := by unfold bitZ; omega
def stepZ (N : Int) (f : Nat → Int) (s b : Int) : Int := if 0 ≤ s ∧ s < N ∧ 0 ≤ b ∧ b ≤ 1 then f (2 * s + b).toNat else -1
def Wire (N : Int) (f : Nat → Int) : Prop := ∀ π : Nat, (π : Int) < 2 * N → -1 ≤ f π ∧ f π < N
def AllI (w : Nat → Int) (k : Nat) : Prop := ∀ s : Nat, s < k → rI (w s)
def AllB (w : Nat → Int) (N B : Int) : Prop := ∀ s : Nat, (s : Int) < N → 0 ≤ w s ∧ w s ≤ B
def folZ (N : Int) (f : Nat → Int) (row : Int) : Nat → Int → Int
  | 0, s => s
  | n + 1, s => folZ N f row n (stepZ N f s (bitZ row n))
def ladI (N : Int) (f : Nat → Int) (w : Nat → Int) : Nat → Int → Int
  | 0, s => if 0 ≤ s ∧ s < N then w s.toNat else 0
  | r + 1, s => if 0 ≤ s ∧ s < N then ladI N f w r (stepZ N f s 0) + ladI N f w r (stepZ N f s 1) else 0
def LadB (N : Int) (f w : Nat → Int) (n : Int) : Prop := ∀ (r : Nat) (t : Int), (r : Int) ≤ n → 0 ≤ ladI N f w r t ∧ ladI N f w r t < 9223372036854775808
def rnkZ (N : Int) (f w : Nat → Int) (row : Int) : Nat → Int → Int
  | 0, _ => 0
  | n + 1, s => (if bitZ row n = 1 then ladI N f w n (stepZ N f s 0) else 0) + rnkZ N f w row n (stepZ N f s (bitZ row n))
def pckZ (N : Int) (f w : Nat → Int) : Nat → Int → Int → Int
  | 0, _, _ => 0
  | n + 1, s, num => if num < ladI N f w n (stepZ N f s 0) then pckZ N f w n (stepZ N f s 0) num else 2 ^ n + pckZ N f w n (stepZ N f s 1) (num - ladI N f w n (stepZ N f s 0))
def leanF (f : Nat → Int) : Nat → Int
  | 0 => 0
  | n + 1 => leanF f n + (2 * f n - 1)
def sqF (f : Nat → Int) : Nat → Int
  | 0 => 0
  | n + 1 => sqF f n + leanF f (n + 1) * leanF f (n + 1)
def leastF (f : Nat → Int) : Nat → Int
  | 0 => 0
  | n + 1 => min (leastF f n) (leanF f (n + 1))
def greatF (f : Nat → Int) : Nat → Int
  | 0 => 0
  | n + 1 => max (greatF f n) (leanF f (n + 1))
def runF (f : Nat → Int) : Nat → Int
  | 0 => 0
  | n + 1 => if 0 < n ∧ f n = f (n - 1) then runF f n + 1 else 1
def longF (f : Nat → Int) : Nat → Int
  | 0 => 0
  | n + 1 => max (longF f n) (runF f (n + 1))
def turnF (f : Nat → Int) : Nat → Int
  | 0 => 0
  | n + 1 => turnF f n + (if 0 < n ∧ f n ≠ f (n - 1) then 1 else 0)
def digF (f : Nat → Int) (h : Int) : Nat → Int
  | 0 => h
  | n + 1 => 31 * digF f h n + f n
def partF (f : Nat → Int) (sz from_ : Int) : Nat → Int
  | 0 => 0
  | n + 1 => 2 * partF f sz from_ n + (if from_ + n < sz ∧ f (from_ + n).toNat = 1 then 1 else 0)
def unlikeF (f g : Nat → Int) (gs : Int) : Nat → Int
  | 0 => -1
  | n + 1 => if unlikeF f g gs n = -1 then (if n < gs ∧ g n = f n then -1 else n) else unlikeF f g gs n
theorem unlikeF_on (f g : Nat → Int) (gs : Int) (n : Nat) (h : unlikeF f g gs n ≠ -1) : ∀ m, n ≤ m → unlikeF f g gs m = unlikeF f g gs n := by
  intro m hm
  obtain ⟨k, rfl⟩ := Nat.le.dest hm
  induction k with
  | zero => rfl
  | succ k ih =>
    have ih := ih (by omega)
    show unlikeF f g gs (n + k + 1) = _
    rw [unlikeF, ih, if_neg h]
def sumF (f : Nat → Int) : Nat → Int
  | 0 => 0
  | n + 1 => sumF f n + f n
def addF (f : Nat → Int) (row : Int) (sz n c : Int) : Nat → Int := fun j => if sz ≤ j ∧ (j : Int) < sz + c ∧ j < 600 then bitZ row (n - 1 - (j - sz)).toNat else f j
def fillF (f : Nat → Int) (lo hi v : Int) : Nat → Int := fun j => if lo ≤ j ∧ (j : Int) < hi then v else f j
theorem st_ext {σ τ : St} (h : ∀ k j, σ k j = τ k j) : σ = τ := funext fun k => funext fun j => h k j
theorem updR_app (σ : St) (i k : Nat) (f : Nat → Int) (j : Nat) : updR σ i f k j = if k = i then f j else σ k j := by
  unfold updR
  split <;> rfl
theorem up1_app (f : Nat → Int) (j k : Nat) (z : Int) : up1 f j z k = if k = j then z else f k := (rfl)
theorem addF_app (f : Nat → Int) (row sz n c : Int) (j : Nat) : addF f row sz n c j = if sz ≤ j ∧ (j : Int) < sz + c ∧ j < 600 then bitZ row (n - 1 - (j - sz)).toNat else f j := (rfl)
theorem fillF_app (f : Nat → Int) (lo hi v : Int) (j : Nat) : fillF f lo hi v j = if lo ≤ j ∧ (j : Int) < hi then v else f j := (rfl)
def isBits (f : Nat → Int) : Prop := ∀ j, f j = 0 ∨ f j = 1
/-- objects of which there are some: rows of bits, ladders -/
def isT (j : Nat) : Prop := SH[j]? = some (.inl (1, [some (j + 1), none])) ∧ SH[j + 1]? = some (.inr (0, 600))
theorem isT.f0 {j : Nat} (h : isT j) (f : Option Nat → Prop) : oF j 1 0 f = f (some (j + 1)) := oF_of h.1 rfl
theorem isT.f1 {j : Nat} (h : isT j) (f : Option Nat → Prop) : oF j 1 1 f = f none := oF_of h.1 rfl
theorem isT.c {j : Nat} (h : isT j) : oC j 1 = True := oC_of h.1
theorem isT.a {j : Nat} (h : isT j) (f : Nat → Prop) : aF (j + 1) 0 f = f 600 := aF_of h.2
def isL (j : Nat) : Prop := SH[j]? = some (.inl (3, [some (j + 1)])) ∧ SH[j + 1]? = some (.inr (1, 6100))
theorem isL.f0 {j : Nat} (h : isL j) (f : Option Nat → Prop) : oF j 3 0 f = f (some (j + 1)) := oF_of h.1 rfl
theorem isL.c {j : Nat} (h : isL j) : oC j 3 = True := oC_of h.1
theorem isL.a {j : Nat} (h : isL j) (f : Nat → Prop) : aF (j + 1) 1 f = f 6100 := aF_of h.2
theorem updR_o1 (σ : St) (j : Nat) (f : Nat → Int) : updR σ j f (j + 1) = σ (j + 1) := updR_ne _ _ _ _ (by omega)
theorem updR_o2 (σ : St) (j : Nat) (f : Nat → Int) : updR σ (j + 1) f j = σ j := updR_ne _ _ _ _ (by omega)
theorem isT_29 : isT 29 = True := eq_true ⟨rfl, rfl⟩
theorem isT_31 : isT 31 = True := eq_true ⟨rfl, rfl⟩
theorem isT_33 : isT 33 = True := eq_true ⟨rfl, rfl⟩
theorem isT_35 : isT 35 = True := eq_true ⟨rfl, rfl⟩
theorem isL_16 : isL 16 = True := eq_true ⟨rfl, rfl⟩
theorem isL_18 : isL 18 = True := eq_true ⟨rfl, rfl⟩
theorem isL_26 : isL 26 = True := eq_true ⟨rfl, rfl⟩
theorem updR_twice (σ : St) (i : Nat) (f g : Nat → Int) : updR (updR σ i f) i g = updR σ i g := by
  funext k
  unfold updR
  split <;> rfl
theorem updR_self (σ : St) (i : Nat) : updR σ i (σ i) = σ := by
  funext k
  unfold updR
  split
  · next h => rw [h]
  · rfl
theorem updR_swap (σ : St) (i j : Nat) (f g : Nat → Int) (h : i ≠ j) : updR (updR σ i f) j g = updR (updR σ j g) i f := by
  funext k
  unfold updR
  split
  · next h1 => rw [if_neg (by omega)]
  · rfl
