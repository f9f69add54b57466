/-! keys and codes: the same language -/
def shortN (p m : Nat) : Nat := if p < 2 * 2 ^ m then p else 2 ^ m + p % 2 ^ m
theorem sh_cast (p m : Nat) : shortZ (p : Int) (m : Int) = ((shortN p m : Nat) : Int) := by
  have h := n2p m
  unfold shortZ shortN
  rw [Int.toNat_natCast, ← h]
  by_cases e : p < 2 * 2 ^ m
  · rw [if_pos e, if_pos (by omega)]
  · rw [if_neg e, if_neg (by omega)]
    push_cast
    rfl
theorem p2d {m M : Nat} (h : m ≤ M) (x : Nat) : x % 2 ^ M % 2 ^ m = x % 2 ^ m := Nat.mod_mod_of_dvd x (Nat.pow_dvd_pow 2 h)
theorem sh_mod {g m w : Nat} (h : w ≤ m) : shortN g m % 2 ^ w = g % 2 ^ w := by
  unfold shortN
  split
  · rfl
  · obtain ⟨c, hc⟩ := Nat.pow_dvd_pow 2 h
    rw [hc, Nat.mul_add_mod, ← hc]
    exact p2d h g
theorem sh_ge {g m w : Nat} (h : w ≤ m) : 2 ^ w ≤ shortN g m ↔ 2 ^ w ≤ g := by
  have h1 := Nat.pow_le_pow_right (show 0 < 2 by decide) h
  unfold shortN
  split <;> omega
theorem sh_lt (g m : Nat) : shortN g m < 2 * 2 ^ m := by
  have := Nat.mod_lt g (Nat.two_pow_pos m)
  unfold shortN
  split <;> omega
theorem sh_sh {g m M : Nat} (h : m ≤ M) : shortN (shortN g M) m = shortN g m := by
  have hm := sh_mod (g := g) h
  have hl := Nat.pow_le_pow_right (show 0 < 2 by decide) h
  by_cases e : g < 2 * 2 ^ M
  · have : shortN g M = g := if_pos e
    rw [this]
  · have e1 : shortN g M = 2 ^ M + g % 2 ^ M := if_neg e
    by_cases e2 : m = M
    · subst e2
      have := sh_lt g m
      rw [show shortN (shortN g m) m = shortN g m from if_pos this]
    · have h2 := Nat.pow_le_pow_right (show 0 < 2 by decide) (show m + 1 ≤ M by omega)
      rw [Nat.pow_succ] at h2
      rw [show shortN (shortN g M) m = 2 ^ m + shortN g M % 2 ^ m from if_neg (by omega), hm]
      exact (if_neg (by omega)).symm
theorem sh_bit {g m b : Nat} : shortN (2 * shortN g m + b) m = shortN (2 * g + b) m := by
  by_cases e : g < 2 * 2 ^ m
  · rw [show shortN g m = g from if_pos e]
  · have e1 : shortN g m = 2 ^ m + g % 2 ^ m := if_neg e
    have hdm := Nat.div_add_mod g (2 ^ m)
    rw [show shortN (2 * shortN g m + b) m = 2 ^ m + (2 * shortN g m + b) % 2 ^ m from if_neg (by omega), show shortN (2 * g + b) m = 2 ^ m + (2 * g + b) % 2 ^ m from if_neg (by omega), e1]
    congr 1
    have a1 : 2 * (2 ^ m + g % 2 ^ m) + b = 2 ^ m * 2 + (2 * (g % 2 ^ m) + b) := by omega
    have a2 : 2 * g + b = 2 ^ m * (2 * (g / 2 ^ m)) + (2 * (g % 2 ^ m) + b) := by
      have : 2 ^ m * (2 * (g / 2 ^ m)) = 2 * (2 ^ m * (g / 2 ^ m)) := by rw [Nat.mul_left_comm]
      omega
    rw [a1, a2, Nat.mul_add_mod, Nat.mul_add_mod]
theorem bit_ge {g b v : Nat} (hb : b ≤ 1) : 2 ^ (v + 1) ≤ 2 * g + b ↔ 2 ^ v ≤ g := by
  rw [Nat.pow_succ]
  omega
theorem bit_mod {g b v : Nat} (hb : b ≤ 1) : (2 * g + b) % 2 ^ (v + 1) = 2 * (g % 2 ^ v) + b := by
  have h1 := Nat.div_add_mod g (2 ^ v)
  have h2 := Nat.mod_lt g (Nat.two_pow_pos v)
  have e : 2 * g + b = 2 ^ (v + 1) * (g / 2 ^ v) + (2 * (g % 2 ^ v) + b) := by
    have : 2 ^ (v + 1) * (g / 2 ^ v) = 2 * (2 ^ v * (g / 2 ^ v)) := by rw [Nat.pow_succ, Nat.mul_comm (2 ^ v) 2, Nat.mul_assoc]
    omega
  rw [e, Nat.mul_add_mod, Nat.mod_eq_of_lt]
  rw [Nat.pow_succ]
  omega
theorem end_short {wb ws : Nat → Int} {g b m : Nat} (hb : b ≤ 1) : ∀ n : Nat, (∀ i, i < n → 1 ≤ ws i ∧ ws i ≤ (m : Int) + 1) → endW wb ws ((2 * shortN g m + b : Nat) : Int) n = endW wb ws ((2 * g + b : Nat) : Int) n
  | 0, _ => rfl
  | n + 1, h => by
    have h1 := h n (by omega)
    rw [endW, endW, end_short hb n (fun i hi => h i (by omega))]
    obtain ⟨v, hv⟩ : ∃ v : Nat, (ws n).toNat = v + 1 := ⟨(ws n).toNat - 1, by omega⟩
    have e1 : (2 : Int) ^ (v + 1) = ((2 ^ (v + 1) : Nat) : Int) := (n2p _).symm
    rw [hv, e1, ← Int.natCast_emod, ← Int.natCast_emod, bit_mod hb, bit_mod hb, sh_mod (by omega)]
    congr 2
    rw [decide_eq_decide, Int.ofNat_le, Int.ofNat_le, bit_ge hb, bit_ge hb, sh_ge (by omega)]
theorem mem_ge {ws : Nat → Int} {k : Int} : ∀ n, memW ws 0 n ≤ memW ws k n ∧ k ≤ memW ws k n ∧ ∀ i, i < n → ws i - 1 ≤ memW ws 0 n
  | 0 => by unfold memW; exact ⟨by omega, by omega, fun i h => absurd h (Nat.not_lt_zero i)⟩
  | n + 1 => by
    have h := mem_ge (ws := ws) (k := k) n
    unfold memW
    refine ⟨by omega, by omega, fun i hi => ?_⟩
    by_cases e : i = n
    · subst e; omega
    · have := h.2.2 i (by omega); omega
/-- the past of a key, the zeros at its end -/
def TzP (p z q : Nat) : Prop := p = 2 ^ z * q ∧ q % 2 = 1
theorem tzP_tz {p z q : Nat} (h : TzP p z q) (hp : p < 256) : tzF 32 p = z ∧ p / 2 ^ z = q := by
  obtain ⟨h1, h2⟩ := h
  have hq : p / 2 ^ z = q := by rw [h1]; exact Nat.mul_div_cancel_left _ (Nat.two_pow_pos z)
  have hz : z ≤ 8 := by
    apply Classical.byContradiction
    intro c
    have h3 := Nat.pow_le_pow_right (show 0 < 2 by decide) (show 9 ≤ z by omega)
    have h4 : 2 ^ z * 1 ≤ 2 ^ z * q := Nat.mul_le_mul_left _ (by omega)
    have : (2 : Nat) ^ 9 = 512 := by decide
    omega
  exact ⟨(lowB_tz ⟨by omega, by rw [h1]; exact Nat.mul_mod_right _ _, fun _ => by rw [hq]; exact h2⟩).symm, hq⟩
/-- a zero behind: a zero more, or the leading one moves -/
theorem tz_zero {p z q m : Nat} (h : TzP p z q) (hp : p < 2 * 2 ^ m) (hz : z < m) : (shortN (2 * p) m = 2 * p ∧ TzP (2 * p) (z + 1) q) ∨ (z + 1 = m ∧ TzP (shortN (2 * p) m) (z + 1) 1 ∧ 1 < q) ∨ (z + 1 < m ∧ 1 < q ∧ ∃ q', 1 < q' ∧ TzP (shortN (2 * p) m) (z + 1) q') := by
  obtain ⟨h1, h2⟩ := h
  have e2 : 2 * p = 2 ^ (z + 1) * q := by rw [Nat.pow_succ, h1, Nat.mul_comm (2 ^ z) 2, Nat.mul_assoc]
  by_cases e : 2 * p < 2 * 2 ^ m
  · exact Or.inl ⟨if_pos e, e2, h2⟩
  · have e3 : shortN (2 * p) m = 2 ^ m + 2 * p % 2 ^ m := if_neg e
    have hq : 1 < q := by
      apply Classical.byContradiction
      intro c
      have h3 : 2 ^ z * q ≤ 2 ^ z * 1 := Nat.mul_le_mul_left _ (by omega)
      have h4 := Nat.pow_le_pow_right (show 0 < 2 by decide) (show z + 1 ≤ m by omega)
      rw [Nat.pow_succ] at h4
      have := Nat.two_pow_pos z
      omega
    right
    by_cases e4 : z + 1 = m
    · refine Or.inl ⟨e4, ⟨?_, by decide⟩, hq⟩
      rw [e3, e2, e4, Nat.mul_mod_right]
      omega
    · refine Or.inr ⟨by omega, hq, 2 ^ (m - z - 1) + q % 2 ^ (m - z - 1), ?_, ?_, ?_⟩
      · have h4 := Nat.pow_le_pow_right (show 0 < 2 by decide) (show 1 ≤ m - z - 1 by omega)
        have h5 : q % 2 ^ (m - z - 1) % 2 ^ 1 = q % 2 ^ 1 := p2d (by omega) q
        omega
      · have e5 : 2 ^ m = 2 ^ (z + 1) * 2 ^ (m - z - 1) := by rw [← Nat.pow_add]; congr 1; omega
        rw [e3, e2, e5, Nat.mul_mod_mul_left, Nat.mul_add]
      · obtain ⟨v, hv⟩ : ∃ v : Nat, m - z - 1 = v + 1 := ⟨m - z - 2, by omega⟩
        have h5 : q % 2 ^ (m - z - 1) % 2 ^ 1 = q % 2 ^ 1 := p2d (by omega) q
        rw [hv] at h5 ⊢
        rw [Nat.pow_succ] at h5 ⊢
        omega
/-- a one behind -/
theorem tz_one {p m : Nat} (hp : 0 < p) : TzP (shortN (2 * p + 1) m) 0 (shortN (2 * p + 1) m) ∨ m = 0 := by
  by_cases e0 : m = 0
  · exact Or.inr e0
  · refine Or.inl ⟨by rw [Nat.pow_zero, Nat.one_mul], ?_⟩
    have := sh_mod (g := 2 * p + 1) (show 1 ≤ m by omega)
    omega
def ZerK (p m : Nat) (ze se : Int) : Prop := ∃ z q, TzP p z q ∧ (z : Int) = ze ∧ ((1 < q ↔ se = 1) ∨ z = m)
def RelK (d k nw : Int) (ws : Nat → Int) (key c : Int) : Prop := (0 ≤ key ∧ key < 2816) ∧ CdOK k c ∧ key / 256 - 5 = tP c ∧ ∃ p m m0 : Nat, (p : Int) = key % 256 ∧ (m : Int) = memW ws k nw.toNat ∧ (m0 : Int) = memW ws 0 nw.toNat ∧ 0 < p ∧ p < 2 * 2 ^ m ∧ lastP c = ((shortN p m0 : Nat) : Int) ∧ (0 ≤ k → ZerK p m (zerP c) (seenP c))
