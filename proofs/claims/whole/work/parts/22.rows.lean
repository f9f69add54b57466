/-! rows of bits that lead to what counts: number and row -/
theorem p2_pos (n : Nat) : (0 : Int) < 2 ^ n := Int.pow_pos (by omega)
theorem bit_hi0 {x : Int} {n : Nat} (h : 0 ≤ x ∧ x < 2 ^ n) : bitZ x n = 0 := by
  unfold bitZ
  rw [Int.ediv_eq_zero_of_lt h.1 h.2]
  rfl
theorem bit_hi1 {x : Int} {n : Nat} (h : 0 ≤ x ∧ x < 2 ^ n) : bitZ (2 ^ n + x) n = 1 := by
  unfold bitZ
  have hp := p2_pos n
  have : (2 ^ n + x) / 2 ^ n = 1 := by
    rw [Int.add_ediv_of_dvd_left (Int.dvd_refl _), Int.ediv_self (by omega), Int.ediv_eq_zero_of_lt h.1 h.2]
    rfl
  rw [this]
  rfl
theorem bit_lo {x : Int} {n i : Nat} (h : i < n) : bitZ (2 ^ n + x) i = bitZ x i := by
  unfold bitZ
  have hp := p2_pos i
  have e : (2 : Int) ^ n = 2 ^ i * (2 ^ (n - 1 - i) * 2) := by
    rw [← Int.pow_succ, ← Int.pow_add]
    congr 1
    omega
  rw [e, Int.add_comm, Int.add_mul_ediv_left _ _ (by omega)]
  omega
theorem folZ_bits {N : Int} {f : Nat → Int} {r q : Int} : ∀ (n : Nat) (s : Int), (∀ i, i < n → bitZ r i = bitZ q i) → folZ N f r n s = folZ N f q n s
  | 0, _, _ => rfl
  | n + 1, s, h => by
    unfold folZ
    rw [h n (by omega), folZ_bits n _ (fun i hi => h i (by omega))]
theorem folZ_lo {N : Int} {f : Nat → Int} {x : Int} {n : Nat} (s : Int) : folZ N f (2 ^ n + x) n s = folZ N f x n s := folZ_bits n s (fun _ hi => bit_lo hi)
theorem rnkZ_bits {N : Int} {f w : Nat → Int} {r q : Int} : ∀ (n : Nat) (s : Int), (∀ i, i < n → bitZ r i = bitZ q i) → rnkZ N f w r n s = rnkZ N f w q n s
  | 0, _, _ => rfl
  | n + 1, s, h => by
    unfold rnkZ
    rw [h n (by omega), rnkZ_bits n _ (fun i hi => h i (by omega))]
theorem rnkZ_congr {N : Int} {f w v : Nat → Int} (row : Int) (h : ∀ s : Nat, (s : Int) < N → w s = v s) : ∀ (n : Nat) (s : Int), rnkZ N f w row n s = rnkZ N f v row n s
  | 0, _ => rfl
  | n + 1, s => by
    unfold rnkZ
    rw [ladI_congr h n, rnkZ_congr row h n]
theorem pckZ_congr {N : Int} {f w v : Nat → Int} (h : ∀ s : Nat, (s : Int) < N → w s = v s) : ∀ (n : Nat) (s num : Int), pckZ N f w n s num = pckZ N f v n s num
  | 0, _, _ => rfl
  | n + 1, s, num => by
    unfold pckZ
    rw [ladI_congr h n, pckZ_congr h n, pckZ_congr h n]
theorem pckZ_r {N : Int} {f w : Nat → Int} : ∀ (n : Nat) (s num : Int), 0 ≤ pckZ N f w n s num ∧ pckZ N f w n s num < 2 ^ n
  | 0, _, _ => by simp [pckZ]
  | n + 1, s, num => by
    have h1 := pckZ_r (N := N) (f := f) (w := w) n (stepZ N f s 0) num
    have h2 := pckZ_r (N := N) (f := f) (w := w) n (stepZ N f s 1) (num - ladI N f w n (stepZ N f s 0))
    have hp := p2_pos n
    rw [pckZ, Int.pow_succ]
    split <;> omega
theorem rnkZ_r {N B : Int} {f w : Nat → Int} (hB : 0 ≤ B) (h : ∀ s : Nat, (s : Int) < N → 0 ≤ w s ∧ w s ≤ B) (row : Int) : ∀ (n : Nat) (s : Int), 0 ≤ rnkZ N f w row n s ∧ rnkZ N f w row n s ≤ 2 ^ n * B
  | 0, _ => by simp [rnkZ]; omega
  | n + 1, s => by
    have h1 := ladI_bound (f := f) hB h n (stepZ N f s 0)
    have h2 := rnkZ_r (f := f) hB h row n (stepZ N f s (bitZ row n))
    have e : (2 : Int) ^ (n + 1) * B = 2 ^ n * B + 2 ^ n * B := by rw [Int.pow_succ, Int.mul_assoc, Int.mul_comm 2 B, ← Int.mul_assoc]; omega
    rw [rnkZ, e]
    split <;> omega
theorem pck_fol {N : Int} {f w : Nat → Int} (hw : isBits w) : ∀ (n : Nat) (s num : Int), 0 ≤ num → num < ladI N f w n s → 0 ≤ folZ N f (pckZ N f w n s num) n s ∧ folZ N f (pckZ N f w n s num) n s < N ∧ w (folZ N f (pckZ N f w n s num) n s).toNat = 1
  | 0, s, num, h0, h1 => by
    unfold ladI at h1
    show 0 ≤ s ∧ s < N ∧ w s.toNat = 1
    split at h1
    · next h => have := hw s.toNat; omega
    · omega
  | n + 1, s, num, h0, h1 => by
    unfold ladI at h1
    split at h1
    · next hs =>
      rw [pckZ]
      split
      · next hl =>
        have h2 := pckZ_r (N := N) (f := f) (w := w) n (stepZ N f s 0) num
        rw [folZ, bit_hi0 h2]
        exact pck_fol hw n _ _ h0 hl
      · next hl =>
        have h2 := pckZ_r (N := N) (f := f) (w := w) n (stepZ N f s 1) (num - ladI N f w n (stepZ N f s 0))
        rw [folZ, bit_hi1 h2, folZ_lo]
        exact pck_fol hw n _ _ (by omega) (by omega)
    · omega
theorem partF_r {f : Nat → Int} {sz b : Int} : ∀ n : Nat, 0 ≤ partF f sz b n ∧ partF f sz b n < 2 ^ n
  | 0 => by simp [partF]
  | n + 1 => by
    have h := partF_r (f := f) (sz := sz) (b := b) n
    rw [partF, Int.pow_succ]
    split <;> omega
/-- the WORD of v; the v of a WORD -/
def wordZ (N : Int) (f w : Nat → Int) (n s v : Int) : Int := if ladI N f w n.toNat s ≤ v then -1 else pckZ N f w n.toNat s v
def readZ (N : Int) (f w : Nat → Int) (m n s row : Int) : Int := if (if ladI N f w 0 (folZ N f row n.toNat s) = 0 then -1 else rnkZ N f w row n.toNat s) < 2 ^ m.toNat then (if ladI N f w 0 (folZ N f row n.toNat s) = 0 then -1 else rnkZ N f w row n.toNat s) else -1
theorem wordZ_congr {N : Int} {f w v : Nat → Int} (h : ∀ s : Nat, (s : Int) < N → w s = v s) (n s x : Int) : wordZ N f w n s x = wordZ N f v n s x := by
  unfold wordZ
  rw [ladI_congr h, pckZ_congr h]
theorem readZ_congr {N : Int} {f w v : Nat → Int} (h : ∀ s : Nat, (s : Int) < N → w s = v s) (m n s x : Int) : readZ N f w m n s x = readZ N f v m n s x := by
  unfold readZ
  rw [ladI_congr h, rnkZ_congr x h]
theorem climbed_0w {N : Int} {f w g : Nat → Int} {n : Int} (hn : 0 ≤ n) (h : Climbed N f w n g) : ∀ s : Nat, (s : Int) < N → g s = w s := by
  intro s hs
  have := h 0 (by omega) (by omega) s hs
  rw [Nat.zero_mul, Nat.zero_add, ladI, if_pos ⟨by omega, hs⟩, Int.toNat_natCast] at this
  exact this
theorem climbed_self {N : Int} {f w g : Nat → Int} {n : Int} (hn : 0 ≤ n) (h : Climbed N f w n g) : Climbed N f g n g := climbed_congr (fun s hs => (climbed_0w hn h s hs).symm) h
theorem ladB_bits {N n : Int} {f w : Nat → Int} (hn : n ≤ 12) (h : ∀ s : Nat, (s : Int) < N → 0 ≤ w s ∧ w s ≤ 1) : LadB N f w n := by
  intro r t hr
  have h1 := ladI_12 (n := r) (f := f) (N := N) (by omega) (by omega : (0 : Int) ≤ 1) h t
  rw [Int.toNat_natCast] at h1
  omega
def EncS (N : Int) (f w : Nat → Int) (m n home : Int) (msg : Nat → Int) (sz : Int) : Nat → Int
  | 0 => home
  | p + 1 => folZ N f (wordZ N f w n (EncS N f w m n home msg sz p) (partF msg sz (p * m) m.toNat)) n.toNat (EncS N f w m n home msg sz p)
def EncW (N : Int) (f w : Nat → Int) (m n home : Int) (msg : Nat → Int) (sz : Int) (p : Nat) : Int := wordZ N f w n (EncS N f w m n home msg sz p) (partF msg sz (p * m) m.toNat)
def EncP (N : Int) (f w : Nat → Int) (m n home : Int) (msg : Nat → Int) (sz lead : Int) (pl : Nat → Int) : Nat → Nat → Int
  | 0 => pl
  | p + 1 => addF (EncP N f w m n home msg sz lead pl p) (EncW N f w m n home msg sz p) (lead + p * n) n n
theorem enc_in {N : Int} {f w : Nat → Int} {m n home sz : Int} {msg : Nat → Int} (hw : isBits w) (hc : ClosedC N f (2 ^ m.toNat) n w) (hh : 0 ≤ home ∧ home < N ∧ w home.toNat = 1) : ∀ p : Nat, 0 ≤ EncS N f w m n home msg sz p ∧ EncS N f w m n home msg sz p < N ∧ w (EncS N f w m n home msg sz p).toNat = 1
  | 0 => hh
  | p + 1 => by
    have ih := enc_in (sz := sz) (msg := msg) hw hc hh p
    have h1 := partF_r (f := msg) (sz := sz) (b := p * m) m.toNat
    have h2 := hc _ (by omega) ih.2.2
    rw [Int.toNat_of_nonneg ih.1] at h2
    rw [EncS]
    unfold wordZ
    rw [if_neg (by omega)]
    exact pck_fol hw n.toNat _ _ h1.1 (by omega)
theorem encW_r {N : Int} {f w : Nat → Int} {m n home sz : Int} {msg : Nat → Int} (hw : isBits w) (hc : ClosedC N f (2 ^ m.toNat) n w) (hh : 0 ≤ home ∧ home < N ∧ w home.toNat = 1) (p : Nat) : 0 ≤ EncW N f w m n home msg sz p ∧ EncW N f w m n home msg sz p < 2 ^ n.toNat := by
  have ih := enc_in (sz := sz) (msg := msg) hw hc hh p
  have h1 := partF_r (f := msg) (sz := sz) (b := p * m) m.toNat
  have h2 := hc _ (by omega) ih.2.2
  rw [Int.toNat_of_nonneg ih.1] at h2
  unfold EncW wordZ
  rw [if_neg (by omega)]
  exact pckZ_r _ _ _
theorem readZ_r {N : Int} {f w : Nat → Int} {m n s row : Int} (hw : isBits w) : -1 ≤ readZ N f w m n s row ∧ readZ N f w m n s row < 2 ^ m.toNat := by
  have h2 := rnkZ_r (f := f) (N := N) (by omega : (0 : Int) ≤ 1) (fun s1 _ => by have := hw s1; omega : ∀ s : Nat, (s : Int) < N → 0 ≤ w s ∧ w s ≤ 1) row n.toNat s
  have hp := p2_pos m.toNat
  unfold readZ
  generalize rnkZ N f w row n.toNat s = z at *
  split <;> split <;> omega
theorem readZ_in {N : Int} {f w : Nat → Int} {m n s row : Int} (h : readZ N f w m n s row ≠ -1) : 0 ≤ folZ N f row n.toNat s ∧ folZ N f row n.toNat s < N ∧ w (folZ N f row n.toNat s).toNat ≠ 0 := by
  unfold readZ at h
  by_cases e : ladI N f w 0 (folZ N f row n.toNat s) = 0
  · rw [if_pos e] at h
    have hp := p2_pos m.toNat
    rw [if_pos (by omega)] at h
    exact absurd rfl h
  · unfold ladI at e
    split at e
    · next h1 => exact ⟨h1.1, h1.2, e⟩
    · exact absurd rfl e
def DecS (N : Int) (f w : Nat → Int) (m n home : Int) (pl : Nat → Int) (sz lead : Int) : Nat → Int
  | 0 => home
  | p + 1 => folZ N f (partF pl sz (lead + p * n) n.toNat) n.toNat (DecS N f w m n home pl sz lead p)
def DecV (N : Int) (f w : Nat → Int) (m n home : Int) (pl : Nat → Int) (sz lead : Int) (p : Nat) : Int := readZ N f w m n (DecS N f w m n home pl sz lead p) (partF pl sz (lead + p * n) n.toNat)
def DecD (N : Int) (f w : Nat → Int) (m n home : Int) (pl : Nat → Int) (sz lead : Int) (dr : Nat → Int) : Nat → Nat → Int
  | 0 => dr
  | p + 1 => addF (DecD N f w m n home pl sz lead dr p) (DecV N f w m n home pl sz lead p) (min 600 (p * m)) m m
def DecGo (N : Int) (f w : Nat → Int) (m n home : Int) (pl : Nat → Int) (sz lead : Int) (p : Nat) : Prop := lead + p * n < sz ∧ lead + p * n + n ≤ sz ∧ DecV N f w m n home pl sz lead p ≠ -1
def DecR (N : Int) (f w : Nat → Int) (m n home : Int) (pl : Nat → Int) (sz lead : Int) (p : Nat) (r : Int) : Prop := (sz ≤ lead + p * n ∧ r = -1) ∨ (lead + p * n < sz ∧ r = lead + p * n ∧ (sz < lead + p * n + n ∨ DecV N f w m n home pl sz lead p = -1))
theorem dec_in {N : Int} {f w : Nat → Int} {m n home sz lead : Int} {pl : Nat → Int} (hh : 0 ≤ home ∧ home < N) : ∀ p : Nat, (∀ q, q < p → DecGo N f w m n home pl sz lead q) → 0 ≤ DecS N f w m n home pl sz lead p ∧ DecS N f w m n home pl sz lead p < N
  | 0, _ => hh
  | p + 1, h => by
    have h1 := readZ_in (h p (by omega)).2.2
    exact ⟨h1.1, h1.2.1⟩
