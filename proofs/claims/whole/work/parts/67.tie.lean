/-! keys and codes, step by step -/
theorem sh_pos {g m : Nat} (h : 0 < g) : 0 < shortN g m := by
  have := Nat.two_pow_pos m
  unfold shortN
  split <;> omega
theorem mem5 {nw : Int} {wb ws : Nat → Int} (hw : WordsOK nw wb ws) : ∀ n : Nat, (n : Int) ≤ nw → memW ws 0 n ≤ 5
  | 0, _ => by unfold memW; omega
  | n + 1, h => by
    have h1 := mem5 hw n (by omega)
    have h2 := hw.2.2 n (by omega)
    unfold memW
    omega
theorem rel_step {d k nw ln key c : Int} {wb ws : Nat → Int} (hB : BansOK d k nw ln wb ws) (hR : RelK d k nw ws key c) {b : Nat} (hb : b ≤ 1) : (kA d k nw ln wb ws (memW ws k nw.toNat) key (b : Int) = -1 ∧ bhZ d k nw ln wb ws c (b : Int) = -1) ∨ (kA d k nw ln wb ws (memW ws k nw.toNat) key (b : Int) ≠ -1 ∧ bhZ d k nw ln wb ws c (b : Int) ≠ -1 ∧ RelK d k nw ws (kA d k nw ln wb ws (memW ws k nw.toNat) key (b : Int)) (bhZ d k nw ln wb ws c (b : Int))) := by
  have hok := bhZ_ok (bit := (b : Int)) hB hR.2.1 (by omega)
  obtain ⟨hk1, hw1, hl1⟩ := hB
  obtain ⟨hkey, hcd, ht, p, m, m0, hp, hm, hm0, hp0, hpm, hlast, hz⟩ := hR
  have hw1b := hw1
  obtain ⟨w1, w2, w3⟩ := hw1
  have hnw : ((nw.toNat : Nat) : Int) ≤ nw := by omega
  have hm7 := memW_r (k := k) (by omega) hw1b nw.toNat hnw
  have hm5 := mem5 hw1b nw.toNat hnw
  have hmg := mem_ge (ws := ws) (k := k) nw.toNat
  have hp256 : p < 256 := by omega
  -- words
  have hend : endW wb ws (2 * (key % 256) + (b : Int)) nw.toNat = endW wb ws (2 * lastP c + (b : Int)) nw.toNat := by
    have h1 := end_short (wb := wb) (ws := ws) (g := p) (b := b) (m := m0) hb nw.toNat (fun i hi => by
      have h2 := w3 i (by omega)
      have h3 := hmg.2.2 i hi
      omega)
    rw [hlast, ← hp, show 2 * (p : Int) + (b : Int) = ((2 * p + b : Nat) : Int) by push_cast; rfl, show 2 * ((shortN p m0 : Nat) : Int) + (b : Int) = ((2 * shortN p m0 + b : Nat) : Int) by push_cast; rfl]
    exact h1.symm
  have hpast : shortZ (2 * (key % 256) + (b : Int)) (memW ws k nw.toNat) = ((shortN (2 * p + b) m : Nat) : Int) := by
    rw [← hp, ← hm, show 2 * (p : Int) + (b : Int) = ((2 * p + b : Nat) : Int) by push_cast; rfl, sh_cast]
  have hlp : shortZ (2 * lastP c + (b : Int)) (memW ws 0 nw.toNat) = ((shortN (shortN (2 * p + b) m) m0 : Nat) : Int) := by
    rw [hlast, ← hm0, show 2 * ((shortN p m0 : Nat) : Int) + (b : Int) = ((2 * shortN p m0 + b : Nat) : Int) by push_cast; rfl, sh_cast, sh_bit, sh_sh (by omega)]
  -- runs
  have hbrk : brkZ d k (key % 256) (b : Int) = true ↔ (0 ≤ k ∧ (((b : Int) = 0 ∧ zerP c = k) ∨ ((b : Int) = 1 ∧ seenP c = 1 ∧ zerP c < d))) := by
    unfold brkZ
    rw [decide_eq_true_iff]
    by_cases hk : 0 ≤ k
    · obtain ⟨z, q, hz1, hz2, hz3⟩ := hz hk
      obtain ⟨t1, t2⟩ := tzP_tz hz1 hp256
      have hzk := hcd.2.2.2.1 hk
      have e1 : (key % 256).toNat = p := by omega
      have e2 : key % 256 / 2 ^ z = ((q : Nat) : Int) := by
        rw [← hp, ← n2p z, ← Int.natCast_ediv, t2]
      rw [e1, t1, e2]
      omega
    · have : k = -1 := by omega
      constructor
      · rintro ⟨h1, -⟩; exact absurd this h1
      · rintro ⟨h1, -⟩; exact absurd h1 hk
  have htr : -5 ≤ tP c ∧ tP c ≤ 5 := by unfold tP; omega
  have hsr : 0 ≤ seenP c ∧ seenP c ≤ 1 ∧ 0 ≤ zerP c := by unfold seenP zerP; have := hcd.1; omega
  by_cases hx : (0 ≤ k ∧ (((b : Int) = 0 ∧ zerP c = k) ∨ ((b : Int) = 1 ∧ seenP c = 1 ∧ zerP c < d))) ∨ (0 ≤ ln ∧ (tP c + (if (b : Int) = 1 then 1 else -1) < -ln ∨ ln < tP c + (if (b : Int) = 1 then 1 else -1))) ∨ endW wb ws (2 * lastP c + (b : Int)) nw.toNat = true
  · left
    refine ⟨?_, if_pos hx⟩
    unfold kA
    rw [if_pos]
    rw [hbrk, hend, ht]
    rcases hx with h | ⟨h1, h2⟩ | h
    · exact Or.inr (Or.inl h)
    · exact Or.inl ⟨by omega, h2⟩
    · exact Or.inr (Or.inr h)
  · right
    have eC : bhZ d k nw ln wb ws c (b : Int) = _ := if_neg hx
    have hx1 : ¬ (0 ≤ k ∧ (((b : Int) = 0 ∧ zerP c = k) ∨ ((b : Int) = 1 ∧ seenP c = 1 ∧ zerP c < d))) := fun q => hx (Or.inl q)
    have hx2 : ¬ (0 ≤ ln ∧ (tP c + (if (b : Int) = 1 then 1 else -1) < -ln ∨ ln < tP c + (if (b : Int) = 1 then 1 else -1))) := fun q => hx (Or.inr (Or.inl q))
    have eK : kA d k nw ln wb ws (memW ws k nw.toNat) key (b : Int) = ((if ln ≠ -1 then key / 256 - 5 + (if (b : Int) = 1 then 1 else -1) else key / 256 - 5) + 5) * 256 + shortZ (2 * (key % 256) + (b : Int)) (memW ws k nw.toNat) := by
      unfold kA
      rw [if_neg]
      rw [hbrk, hend, ht]
      rintro (⟨h1, h2⟩ | h | h)
      · exact hx2 ⟨by omega, h2⟩
      · exact hx1 h
      · exact hx (Or.inr (Or.inr h))
    rw [hpast, ht] at eK
    rw [hlp] at eC
    clear hx hend hbrk hpast hlp
    -- the parts
    have hT : (if ln ≠ -1 then tP c + (if (b : Int) = 1 then 1 else -1) else tP c) = (if 0 ≤ ln then tP c + (if (b : Int) = 1 then 1 else -1) else tP c) := by
      by_cases h : 0 ≤ ln
      · rw [if_pos h, if_pos (by omega)]
      · rw [if_neg h, if_neg (by omega)]
    rw [hT] at eK
    have hT5 : -5 ≤ (if 0 ≤ ln then tP c + (if (b : Int) = 1 then 1 else -1) else tP c) ∧ (if 0 ≤ ln then tP c + (if (b : Int) = 1 then 1 else -1) else tP c) ≤ 5 := by
      by_cases h : 0 ≤ ln
      · rw [if_pos h]; omega
      · rw [if_neg h]; omega
    generalize (if 0 ≤ ln then tP c + (if (b : Int) = 1 then 1 else -1) else tP c) = t' at *
    have hs1 := sh_lt (2 * p + b) m
    have hs2 := sh_pos (g := 2 * p + b) (m := m) (by omega)
    have hs3 := sh_lt (shortN (2 * p + b) m) m0
    have hpw : 2 ^ m ≤ 2 ^ 7 := Nat.pow_le_pow_right (by decide) (by omega)
    have hpw0 : 2 ^ m0 ≤ 2 ^ 5 := Nat.pow_le_pow_right (by decide) (by omega)
    have e7 : (2 : Nat) ^ 7 = 128 := by decide
    have e5 : (2 : Nat) ^ 5 = 32 := by decide
    have hz' : ∃ z', (if 0 ≤ k then (if (b : Int) = 0 then zerP c + 1 else 0) else zerP c) = z' ∧ 0 ≤ z' ∧ ∃ s', (if 0 ≤ k then (if (b : Int) = 1 then 1 else seenP c) else seenP c) = s' ∧ (0 ≤ s' ∧ s' ≤ 1) ∧ (0 ≤ k → ZerK (shortN (2 * p + b) m) m z' s') := by
      refine ⟨_, rfl, ?_, _, rfl, ?_, fun hk => ?_⟩
      · split
        · split <;> omega
        · omega
      · split
        · split <;> omega
        · omega
      · obtain ⟨z, q, hz1, hz2, hz3⟩ := hz hk
        have hzk := hcd.2.2.2.1 hk
        rw [if_pos hk, if_pos hk]
        rcases (show b = 0 ∨ b = 1 by omega) with rfl | rfl
        · have hlt : z < m := by omega
          rw [if_pos (by rfl), if_neg (by decide)]
          rw [Nat.add_zero]
          rcases tz_zero hz1 hpm hlt with ⟨a1, a2⟩ | ⟨a1, a2, a3⟩ | ⟨a1, a2, q', a3, a4⟩
          · rw [a1]
            exact ⟨z + 1, q, a2, by omega, Or.inl (by omega)⟩
          · exact ⟨z + 1, 1, a2, by omega, Or.inr (by omega)⟩
          · exact ⟨z + 1, q', a4, by omega, Or.inl (by omega)⟩
        · rw [if_neg (by decide), if_pos (by decide)]
          by_cases em : m = 0
          · have hq1 : shortN (2 * p + 1) m = 1 := by
              subst em
              unfold shortN
              rw [Nat.pow_zero, Nat.mod_one]
              split <;> omega
            rw [hq1]
            exact ⟨0, 1, ⟨by decide, by decide⟩, rfl, Or.inr em.symm⟩
          · have h1 := (tz_one (p := p) (m := m) hp0).resolve_right em
            have h3 : 1 < shortN (2 * p + 1) m := by
              have h4 := Nat.pow_le_pow_right (show 0 < 2 by decide) (show 1 ≤ m by omega)
              unfold shortN
              split <;> omega
            exact ⟨0, _, h1, rfl, Or.inl ⟨fun _ => rfl, fun _ => h3⟩⟩
    obtain ⟨z', ez, hz0, s', es, hs0, hzz⟩ := hz'
    rw [ez, es] at eC
    have hdec := cd_dec (z := z') (s := s') (l := ((shortN (shortN (2 * p + b) m) m0 : Nat) : Int)) (t := t') hz0 hs0 ⟨by omega, by omega⟩ hT5
    have hC0 : 0 ≤ cdF z' s' ((shortN (shortN (2 * p + b) m) m0 : Nat) : Int) t' := by unfold cdF; omega
    rw [eC] at hok ⊢
    rw [eK]
    refine ⟨by omega, by omega, ⟨by omega, by omega⟩, hok.resolve_left (by omega), ?_, shortN (2 * p + b) m, m, m0, ?_, hm, hm0, hs2, hs1, ?_, fun hk => ?_⟩
    · rw [hdec.1]; omega
    · omega
    · rw [hdec.2.1]
    · rw [hdec.2.2.1, hdec.2.2.2]
      exact hzz hk
theorem lg_tie {d k nw ln : Int} {wb ws : Nat → Int} (hB : BansOK d k nw ln wb ws) (w : List Bool) : LgD (dOf (kA d k nw ln wb ws (memW ws k nw.toNat))) 1281 w ↔ LgD (dOf (bhZ d k nw ln wb ws)) 16 w := by
  refine lg_bis (R := fun s t => (s = -1 ∧ t = -1) ∨ RelK d k nw ws s t) (fun s t hr => ?_) w 1281 16 (Or.inr ?_)
  · rcases hr with hr | hr
    · exact Or.inl hr
    · refine Or.inr ⟨by have := hr.1; omega, by have := hr.2.1.1; omega, fun b => ?_⟩
      have hb : b.toNat ≤ 1 := by cases b <;> decide
      rcases rel_step hB hr hb with h | h
      · exact Or.inl h
      · exact Or.inr h.2.2
  · have hmg := mem_ge (ws := ws) (k := k) nw.toNat
    have hm0 : 0 ≤ memW ws 0 nw.toNat := (mem_ge (ws := ws) (k := 0) nw.toNat).2.1
    have hp1 := Nat.two_pow_pos (memW ws 0 nw.toNat).toNat
    have hp2 := Nat.two_pow_pos (memW ws k nw.toNat).toNat
    refine ⟨by decide, ⟨by decide, by decide, by decide, fun h => by show (16 : Int) / 1408 ≤ k; omega, fun _ => by decide⟩, by decide, 1, (memW ws k nw.toNat).toNat, (memW ws 0 nw.toNat).toNat, by decide, by omega, by omega, by decide, by omega, ?_, fun _ => ⟨0, 1, ⟨by decide, by decide⟩, by decide, Or.inl ⟨fun h => absurd h (by decide), fun h => absurd h (by decide)⟩⟩⟩
    rw [show shortN 1 (memW ws 0 nw.toNat).toNat = 1 from if_pos (by omega)]
    rfl
