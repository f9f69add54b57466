/-! what is read of a wire, of weights, of bits -/
def EqW (N : Int) (f g : Nat → Int) : Prop := ∀ π : Nat, (π : Int) < 2 * N → f π = g π
def EqN (N : Int) (w v : Nat → Int) : Prop := ∀ s : Nat, (s : Int) < N → w s = v s
theorem stp_eq {N : Int} {f g : Nat → Int} (h : EqW N f g) : stepZ N f = stepZ N g := by
  funext s b
  unfold stepZ
  by_cases c : 0 ≤ s ∧ s < N ∧ 0 ≤ b ∧ b ≤ 1
  · rw [if_pos c, if_pos c, h _ (by omega)]
  · rw [if_neg c, if_neg c]
theorem fol_eq {N : Int} {f g : Nat → Int} (h : EqW N f g) : folZ N f = folZ N g := by
  funext row n
  induction n with
  | zero => rfl
  | succ n ih =>
    funext s
    rw [folZ, folZ, ih, stp_eq h]
theorem lad_eq {N : Int} {f g w v : Nat → Int} (h : EqW N f g) (hw : EqN N w v) : ladI N f w = ladI N g v := by
  funext r
  induction r with
  | zero =>
    funext s
    unfold ladI
    by_cases c : 0 ≤ s ∧ s < N
    · rw [if_pos c, if_pos c, hw _ (by omega)]
    · rw [if_neg c, if_neg c]
  | succ r ih =>
    funext s
    rw [ladI, ladI, ih, stp_eq h]
theorem rnk_eq {N : Int} {f g w v : Nat → Int} (h : EqW N f g) (hw : EqN N w v) : rnkZ N f w = rnkZ N g v := by
  funext row n
  induction n with
  | zero => rfl
  | succ n ih =>
    funext s
    rw [rnkZ, rnkZ, ih, stp_eq h, lad_eq h hw]
theorem pck_eq {N : Int} {f g w v : Nat → Int} (h : EqW N f g) (hw : EqN N w v) : pckZ N f w = pckZ N g v := by
  funext n
  induction n with
  | zero => rfl
  | succ n ih =>
    funext s num
    rw [pckZ, pckZ, ih, stp_eq h, lad_eq h hw]
theorem wrd_eq {N : Int} {f g w v : Nat → Int} (h : EqW N f g) (hw : EqN N w v) : wordZ N f w = wordZ N g v := by
  funext n s x
  unfold wordZ
  rw [lad_eq h hw, pck_eq h hw]
theorem rea_eq {N : Int} {f g w v : Nat → Int} (h : EqW N f g) (hw : EqN N w v) : readZ N f w = readZ N g v := by
  funext m n s x
  unfold readZ
  rw [lad_eq h hw, rnk_eq h hw, fol_eq h]
theorem par_eq {sz b : Int} {f g : Nat → Int} (h : EqN sz f g) (hb : 0 ≤ b) : ∀ n : Nat, partF f sz b n = partF g sz b n
  | 0 => rfl
  | n + 1 => by
    rw [partF, partF, par_eq h hb n]
    congr 1
    by_cases c : b + n < sz
    · rw [h _ (by omega)]
    · rw [if_neg (fun q => c q.1), if_neg (fun q => c q.1)]
theorem mul_0 {m : Int} (p : Nat) (h : 0 ≤ m) : 0 ≤ (p : Int) * m := Int.mul_nonneg (by omega) h
theorem encS_eq {N m n home sz : Int} {f g w v msg msg' : Nat → Int} (h : EqW N f g) (hw : EqN N w v) (hm : EqN sz msg msg') (h0 : 0 ≤ m) : ∀ p, EncS N f w m n home msg sz p = EncS N g v m n home msg' sz p
  | 0 => rfl
  | p + 1 => by rw [EncS, EncS, encS_eq h hw hm h0 p, fol_eq h, wrd_eq h hw, par_eq hm (mul_0 p h0)]
theorem encW_eq {N m n home sz : Int} {f g w v msg msg' : Nat → Int} (h : EqW N f g) (hw : EqN N w v) (hm : EqN sz msg msg') (h0 : 0 ≤ m) (p : Nat) : EncW N f w m n home msg sz p = EncW N g v m n home msg' sz p := by
  unfold EncW
  rw [encS_eq h hw hm h0 p, wrd_eq h hw, par_eq hm (mul_0 p h0)]
theorem encP_eq {N m n home sz lead : Int} {f g w v msg msg' pl pl' : Nat → Int} (h : EqW N f g) (hw : EqN N w v) (hm : EqN sz msg msg') (hl : EqN lead pl pl') (hm0 : 0 ≤ m) (h0 : 0 ≤ n ∧ 0 ≤ lead) : ∀ p : Nat, lead + p * n ≤ 600 → EqN (lead + p * n) (EncP N f w m n home msg sz lead pl p) (EncP N g v m n home msg' sz lead pl' p)
  | 0, _ => fun j hj => hl j (by omega)
  | p + 1, h600 => fun j hj => by
    have e : ((p + 1 : Nat) : Int) * n = p * n + n := by rw [Int.natCast_succ, Int.add_mul, Int.one_mul]
    rw [e] at h600 hj
    have hp0 := Int.mul_nonneg (show (0 : Int) ≤ (p : Int) by omega) h0.1
    have ih := encP_eq (home := home) h hw hm hl hm0 h0 p (by omega)
    show addF _ _ _ _ _ j = addF _ _ _ _ _ j
    rw [encW_eq h hw hm hm0 p]
    unfold addF
    by_cases c : lead + p * n ≤ j ∧ (j : Int) < lead + p * n + n ∧ j < 600
    · rw [if_pos c, if_pos c]
    · rw [if_neg c, if_neg c, ih j (by omega)]
theorem decS_eq {N m n home sz lead : Int} {f g w v pl pl' : Nat → Int} (h : EqW N f g) (hp : EqN sz pl pl') (h0 : 0 ≤ lead ∧ 0 ≤ n) : ∀ p, DecS N f w m n home pl sz lead p = DecS N g v m n home pl' sz lead p
  | 0 => rfl
  | p + 1 => by rw [DecS, DecS, decS_eq (m := m) (w := w) (v := v) h hp h0 p, fol_eq h, par_eq hp (by have := mul_0 p h0.2; omega)]
theorem decV_eq {N m n home sz lead : Int} {f g w v pl pl' : Nat → Int} (h : EqW N f g) (hw : EqN N w v) (hp : EqN sz pl pl') (h0 : 0 ≤ lead ∧ 0 ≤ n) (p : Nat) : DecV N f w m n home pl sz lead p = DecV N g v m n home pl' sz lead p := by
  unfold DecV
  rw [decS_eq (w := w) (v := v) h hp h0 p, rea_eq h hw, par_eq hp (by have := mul_0 p h0.2; omega)]
theorem decGo_eq {N m n home sz lead : Int} {f g w v pl pl' : Nat → Int} (h : EqW N f g) (hw : EqN N w v) (hp : EqN sz pl pl') (h0 : 0 ≤ lead ∧ 0 ≤ n) (p : Nat) : DecGo N f w m n home pl sz lead p ↔ DecGo N g v m n home pl' sz lead p := by
  unfold DecGo
  rw [decV_eq h hw hp h0 p]
theorem decR_eq {N m n home sz lead r : Int} {f g w v pl pl' : Nat → Int} (h : EqW N f g) (hw : EqN N w v) (hp : EqN sz pl pl') (h0 : 0 ≤ lead ∧ 0 ≤ n) (p : Nat) : DecR N f w m n home pl sz lead p r ↔ DecR N g v m n home pl' sz lead p r := by
  unfold DecR
  rw [decV_eq h hw hp h0 p]
theorem decD_eq {N m n home sz lead : Int} {f g w v pl pl' dr dr' : Nat → Int} (h : EqW N f g) (hw : EqN N w v) (hp : EqN sz pl pl') (h0 : 0 ≤ lead ∧ 0 ≤ n) (hm0 : 0 ≤ m) : ∀ p : Nat, (p * m : Int) ≤ 600 → EqN (p * m) (DecD N f w m n home pl sz lead dr p) (DecD N g v m n home pl' sz lead dr' p)
  | 0, _ => fun j hj => by rw [show ((0 : Nat) : Int) = 0 from rfl, Int.zero_mul] at hj; omega
  | p + 1, h600 => fun j hj => by
    have e : ((p + 1 : Nat) : Int) * m = p * m + m := by rw [Int.natCast_succ, Int.add_mul, Int.one_mul]
    rw [e] at h600 hj
    have hp0 := mul_0 p hm0
    have ih := decD_eq (home := home) (n := n) (lead := lead) (dr := dr) (dr' := dr') h hw hp h0 hm0 p (by omega)
    show addF _ _ _ _ _ j = addF _ _ _ _ _ j
    rw [decV_eq h hw hp h0 p]
    unfold addF
    by_cases c : min 600 (p * m) ≤ j ∧ (j : Int) < min 600 (p * m) + m ∧ j < 600
    · rw [if_pos c, if_pos c]
    · rw [if_neg c, if_neg c, ih j (by omega)]
/-- where the pieces end is settled -/
theorem dec_det {N m n home sz lead : Int} {f w pl : Nat → Int} {P P' : Nat} {z z' : Int} (h0 : 0 ≤ lead) (h1 : 0 ≤ n) (g : ∀ q, q < P → DecGo N f w m n home pl sz lead q) (r : DecR N f w m n home pl sz lead P z) (g' : ∀ q, q < P' → DecGo N f w m n home pl sz lead q) (r' : DecR N f w m n home pl sz lead P' z') : P = P' ∧ z = z' := by
  have key : ∀ {A B : Nat} {x : Int}, DecR N f w m n home pl sz lead A x → (∀ q, q < B → DecGo N f w m n home pl sz lead q) → ¬ A < B := fun {A B x} ha hb hlt => by
    obtain ⟨a1, a2, a3⟩ := hb A hlt
    rcases ha with ⟨b1, -⟩ | ⟨b1, b2, b3 | b3⟩
    · omega
    · omega
    · exact a3 b3
  have e : P = P' := by
    have k1 := key r g'
    have k2 := key r' g
    omega
  subst e
  refine ⟨rfl, ?_⟩
  have hp0 := Int.mul_nonneg (show (0 : Int) ≤ (P : Int) by omega) h1
  rcases r with ⟨b1, b2⟩ | ⟨b1, b2, b3⟩ <;> rcases r' with ⟨c1, c2⟩ | ⟨c1, c2, c3⟩ <;> omega
theorem unl_eq {f g f' g' : Nat → Int} {gs : Int} : ∀ n : Nat, (∀ j, j < n → f j = f' j) → EqN gs g g' → unlikeF f g gs n = unlikeF f' g' gs n
  | 0, _, _ => rfl
  | n + 1, hf, hg => by
    rw [unlikeF, unlikeF, unl_eq n (fun j hj => hf j (by omega)) hg, hf n (by omega)]
    by_cases c : (n : Int) < gs
    · rw [hg n c]
    · rw [if_neg (fun q : (n : Int) < gs ∧ g n = f' n => c q.1), if_neg (fun q : (n : Int) < gs ∧ g' n = f' n => c q.1)]
theorem lea_eq {f g : Nat → Int} : ∀ n : Nat, (∀ j, j < n → f j = g j) → leanF f n = leanF g n
  | 0, _ => rfl
  | n + 1, h => by rw [leanF, leanF, lea_eq n (fun j hj => h j (by omega)), h n (by omega)]
theorem lst_eq {f g : Nat → Int} : ∀ n : Nat, (∀ j, j < n → f j = g j) → leastF f n = leastF g n
  | 0, _ => rfl
  | n + 1, h => by rw [leastF, leastF, lst_eq n (fun j hj => h j (by omega)), lea_eq (n + 1) h]
theorem grt_eq {f g : Nat → Int} : ∀ n : Nat, (∀ j, j < n → f j = g j) → greatF f n = greatF g n
  | 0, _ => rfl
  | n + 1, h => by rw [greatF, greatF, grt_eq n (fun j hj => h j (by omega)), lea_eq (n + 1) h]
theorem sq_eq {f g : Nat → Int} : ∀ n : Nat, (∀ j, j < n → f j = g j) → sqF f n = sqF g n
  | 0, _ => rfl
  | n + 1, h => by rw [sqF, sqF, sq_eq n (fun j hj => h j (by omega)), lea_eq (n + 1) h]
theorem run_eq {f g : Nat → Int} : ∀ n : Nat, (∀ j, j < n → f j = g j) → runF f n = runF g n
  | 0, _ => rfl
  | n + 1, h => by
    rw [runF, runF, run_eq n (fun j hj => h j (by omega)), h n (by omega)]
    by_cases c : 0 < n
    · rw [h (n - 1) (by omega)]
    · rw [if_neg (fun q => c q.1), if_neg (fun q => c q.1)]
theorem lng_eq {f g : Nat → Int} : ∀ n : Nat, (∀ j, j < n → f j = g j) → longF f n = longF g n
  | 0, _ => rfl
  | n + 1, h => by rw [longF, longF, lng_eq n (fun j hj => h j (by omega)), run_eq (n + 1) h]
theorem trn_eq {f g : Nat → Int} : ∀ n : Nat, (∀ j, j < n → f j = g j) → turnF f n = turnF g n
  | 0, _ => rfl
  | n + 1, h => by
    rw [turnF, turnF, trn_eq n (fun j hj => h j (by omega)), h n (by omega)]
    by_cases c : 0 < n
    · rw [h (n - 1) (by omega)]
    · rw [if_neg (fun q => c q.1), if_neg (fun q => c q.1)]
theorem dig_eq {f g : Nat → Int} {h h' : Int} (e : h = h') : ∀ n : Nat, (∀ j, j < n → f j = g j) → digF f h n = digF g h' n
  | 0, _ => e
  | n + 1, hh => by rw [digF, digF, dig_eq e n (fun j hj => hh j (by omega)), hh n (by omega)]
theorem dgs_eq {f g w v : Nat → Int} {h h' N : Int} (e : h = h') (hf : EqW N f g) (hw : EqN N w v) : ∀ n : Nat, (n : Int) ≤ N → dgS f w h n = dgS g v h' n
  | 0, _ => e
  | n + 1, hn => by rw [dgS, dgS, dgs_eq e hf hw n (by omega), hf (2 * n) (by omega), hf (2 * n + 1) (by omega), hw n (by omega)]
theorem fnd_eq {p q : Nat → Bool} : ∀ n : Nat, (∀ j, j < n → p j = q j) → findF p n = findF q n
  | 0, _ => rfl
  | n + 1, h => by rw [findF, findF, fnd_eq n (fun j hj => h j (by omega)), h n (by omega)]
theorem stF_eq {N : Int} {f g p q : Nat → Int} (hf : EqW N f g) : ∀ n : Nat, (∀ j, j < n → p j = q j) → stF N f p n = stF N g q n
  | 0, _ => rfl
  | n + 1, h => by rw [stF, stF, stF_eq hf n (fun j hj => h j (by omega)), stp_eq hf, h n (by omega)]
theorem chk_eq {N : Int} {f g p q : Nat → Int} (hf : EqW N f g) (n : Nat) (h : ∀ j, j < n → p j = q j) : chkZ N f p n = chkZ N g q n := by
  unfold chkZ
  refine fnd_eq n (fun j hj => ?_)
  show decide _ = decide _
  rw [stF_eq hf (j + 1) (fun i hi => h i (by omega))]
theorem feas_eq {N m n : Int} {f g V V' : Nat → Int} (hf : EqW N f g) (hV : EqN N V V') : Feas N f m n V ↔ Feas N g m n V' := by
  unfold Feas bearF
  rw [lad_eq hf hV]
  exact ⟨fun h s hs => by rw [← hV s hs]; exact h s hs, fun h s hs => by rw [hV s hs]; exact h s hs⟩
theorem clo_eq {N k n : Int} {f g M M' : Nat → Int} (hf : EqW N f g) (hM : EqN N M M') : ClosedC N f k n M ↔ ClosedC N g k n M' := by
  unfold ClosedC
  rw [lad_eq hf hM]
  exact ⟨fun h s hs => by rw [← hM s hs]; exact h s hs, fun h s hs => by rw [hM s hs]; exact h s hs⟩
theorem EqN.refl {N : Int} (w : Nat → Int) : EqN N w w := fun _ _ => rfl
theorem EqN.symm {N : Int} {w v : Nat → Int} (h : EqN N w v) : EqN N v w := fun s hs => (h s hs).symm
theorem EqW.symm {N : Int} {w v : Nat → Int} (h : EqW N w v) : EqW N v w := fun s hs => (h s hs).symm
theorem wire_eq {N : Int} {f g : Nat → Int} (h : EqW N f g) (hw : Wire N f) : Wire N g := fun π hπ => by rw [← h π hπ]; exact hw π hπ
theorem miss_eq {N : Int} {f g : Nat → Int} (h : EqW N f g) : Miss N f = Miss N g := by
  funext n w
  unfold Miss
  rw [fol_eq h]
theorem fm_eq {N : Int} {f g : Nat → Int} (h : EqW N f g) : FirstMiss N f = FirstMiss N g := by
  funext n w
  unfold FirstMiss
  rw [miss_eq h]
theorem fm_det {N n n' w w' : Int} {f : Nat → Int} (h : FirstMiss N f n w) (h' : FirstMiss N f n' w') : n = n' ∧ w = w' := by
  obtain ⟨a1, a2, a3, a4, a5, a6⟩ := h
  obtain ⟨b1, b2, b3, b4, b5, b6⟩ := h'
  have e : n = n' := by
    rcases Int.lt_trichotomy n n' with c | c | c
    · exact absurd a4 (b6 n.toNat (by omega) (by omega) w a2 a3)
    · exact c
    · exact absurd b4 (a6 n'.toNat (by omega) (by omega) w' b2 b3)
  subst e
  refine ⟨rfl, ?_⟩
  rcases Int.lt_trichotomy w w' with c | c | c
  · exact absurd a4 (b5 w a2 c)
  · exact c
  · exact absurd b4 (a5 w' b2 c)
theorem told_lo {wb ws : Nat → Int} {what : Int} : ∀ n : Nat, n ≤ 4 → (∀ i : Nat, i < n → wb i ≠ -2 ∧ ws i ≠ -2) → toldW wb ws what n = if 10 ≤ what ∧ what ≤ 9 + (n : Int) then wb (what - 10).toNat else if 20 ≤ what ∧ what ≤ 19 + (n : Int) then ws (what - 20).toNat else -2
  | 0, _, _ => by
    rw [if_neg (by omega), if_neg (by omega)]
    rfl
  | n + 1, h4, h => by
    have ih := told_lo (what := what) n (by omega) (fun i hi => h i (by omega))
    have hn := h n (by omega)
    rw [toldW, ih]
    by_cases c1 : 10 ≤ what ∧ what ≤ 9 + (n : Int)
    · have := h (what - 10).toNat (by omega)
      rw [if_pos c1, if_neg this.1, if_pos (by omega)]
    · rw [if_neg c1]
      by_cases c2 : 20 ≤ what ∧ what ≤ 19 + (n : Int)
      · have := h (what - 20).toNat (by omega)
        rw [if_pos c2, if_neg this.2, if_neg (by omega), if_pos (by omega)]
      · rw [if_neg c2, if_pos rfl]
        by_cases c3 : what = 10 + n
        · rw [if_pos c3, if_pos (by omega), show (what - 10).toNat = n by omega]
        · rw [if_neg c3]
          by_cases c4 : what = 20 + n
          · rw [if_pos c4, if_neg (by omega), if_pos (by omega), show (what - 20).toNat = n by omega]
          · rw [if_neg c4, if_neg (by omega), if_neg (by omega)]
theorem pth_eq {N : Int} {par bit dep par' bit' : Nat → Int} (hT : Tree N par dep) (h : ∀ p : Nat, 0 < p → (p : Int) < N → par p = par' p ∧ bit p = bit' p) : ∀ (n : Nat) (s : Int), 0 ≤ s → s < N → dep s.toNat = n → pathV par bit n s = pathV par' bit' n s
  | 0, _, _, _, _ => rfl
  | n + 1, s, h0, h1, hd => by
    have h2 := hT.at ⟨h0, h1⟩
    have h3 := h2.2.2 (by omega)
    have h4 := h s.toNat (by omega) (by omega)
    rw [pathV, pathV, ← h4.1, h4.2, pth_eq hT h n (par s.toNat) h3.1 (by omega) (by omega)]
theorem anc_eq {N : Int} {par bit dep par' bit' : Nat → Int} (hT : Tree N par dep) (h : ∀ p : Nat, 0 < p → (p : Int) < N → par p = par' p ∧ bit p = bit' p) {s : Int} (hs : 0 ≤ s ∧ s < N) : ∀ n : Nat, (n : Int) ≤ dep s.toNat → ancF par n s = ancF par' n s
  | 0, _ => rfl
  | n + 1, hn => by
    have h1 := hT.anc hs n (by omega)
    have h2 := hT.at ⟨h1.1, h1.2.1⟩
    have h3 := h (ancF par n s).toNat (by have := h2.2.1; omega) (by omega)
    rw [ancF, ancF, ← anc_eq hT h hs n (by omega), h3.1]
theorem led_eq {N : Int} {par bit dep par' bit' f f' : Nat → Int} (hT : Tree N par dep) (h : ∀ p : Nat, 0 < p → (p : Int) < N → par p = par' p ∧ bit p = bit' p) {s : Int} (hs : 0 ≤ s ∧ s < N) (j : Nat) (hj : (j : Int) < dep s.toNat) : leadG par bit (dep s.toNat) s (-1) f j = leadG par' bit' (dep s.toNat) s (-1) f' j := by
  unfold leadG
  rw [if_pos (by omega), if_pos (by omega)]
  have h1 := hT.anc hs (dep s.toNat - 1 - j).toNat (by omega)
  have h2 := hT.at ⟨h1.1, h1.2.1⟩
  rw [← anc_eq hT h hs _ (by omega)]
  exact (h _ (by have := h2.2.1; omega) (by omega)).2
