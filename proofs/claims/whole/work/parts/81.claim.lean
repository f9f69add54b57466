/-! the world at the beginning; the claim -/
def σ0 (xs : Nat → Int) (n : Int) : St := fun i => if i = 1 then (fun j => if j = 4 then -1 else if j = 5 then -1 else 0) else if i = 20 then (fun j => if j = 3 then -1 else 0) else if i = 25 then (fun j => if j = 6 then -1 else 0) else if i = 37 then (fun j => if j = 1 then -1 else if j = 5 then -1 else 0) else if i = 1000 then xs else if i = 1001 then (fun _ => n) else fun _ => 0
theorem z0 : isBits (fun _ => 0) := fun _ => Or.inl rfl
theorem zr : rI 0 := rIc (by decide)
theorem inv_0 (xs : Nat → Int) (n : Int) : Inv (σ0 xs n) := by
  have h0 : (0 : Int) ≤ 0 := Int.le_refl 0
  refine ⟨⟨⟨rfl, rfl, rfl, rfl⟩, rfl, rfl, Or.inl ⟨rfl, rfl⟩, ⟨h0, show (0 : Int) ≤ 4 by decide, fun i hi => ?_⟩, show (-1 : Int) ≤ -1 by decide, show (-1 : Int) ≤ 5 by decide⟩, ⟨rfl, ⟨h0, show (0 : Int) ≤ 40 by decide⟩, ⟨h0, show (0 : Int) ≤ 20402 * 0 by decide⟩, fun c _ => ⟨h0, show (0 : Int) < 0 + 101 by decide⟩⟩, ⟨fun _ _ => zr, fun _ _ => zr, fun _ _ => ⟨zr, zr, zr⟩⟩, ⟨rfl, ⟨h0, show (0 : Int) ≤ 100 by decide⟩, fun p hp => ?_, fun p hp => ?_, ⟨⟨fun h => ?_, fun t h1 h2 => ?_⟩, ⟨fun h => ?_, fun t h1 h2 => ?_⟩⟩, fun p hp => ?_, fun p h1 h2 => ?_, z0, z0⟩, ⟨fun r _ _ s hs => ?_, fun p hp => ?_⟩, ⟨⟨h0, show (0 : Int) ≤ 12 by decide, zr, fun _ h => ?_, Or.inl ⟨rfl, fun k h1 h2 => ?_⟩⟩, rfl, zr⟩, ⟨fun p hp => ?_, fun _ _ => ⟨h0, show (0 : Int) ≤ 1000000 by decide⟩, fun _ _ => rfl⟩, ⟨rfl, ⟨h0, show (0 : Int) ≤ 100 by decide⟩, ⟨z0, z0⟩, fun _ _ _ => rfl, ⟨h0, show (0 : Int) ≤ 600 by decide⟩, z0, fun _ => ⟨rfl, rfl, rfl⟩, fun h => ?_⟩, ⟨rfl, ⟨h0, show (0 : Int) ≤ 240 by decide⟩, fun p hp => ?_, z0, rfl, ⟨h0, show (0 : Int) ≤ 600 by decide⟩, fun p hp => ?_, z0, ⟨h0, show (0 : Int) ≤ 600 by decide⟩, z0⟩⟩
  · have hi : (i : Int) < 0 := hi; omega
  · have hp : (p : Int) < 2 * 0 := hp; omega
  · have hp : (p : Int) < 2 * 0 := hp; omega
  · exact rfl
  · have h2 : (t : Int) < 0 := h2; omega
  · exact rfl
  · have h2 : (t : Int) < 0 := h2; omega
  · have hp : (p : Int) < 0 := hp; omega
  · have h2 : (p : Int) < 0 := h2; omega
  · have hs : (s : Int) < 0 := hs; omega
  · have hp : (p : Int) < 0 := hp; omega
  · have h : (0 : Int) < 0 := h; omega
  · have h2 : (k : Int) ≤ 0 := h2; omega
  · have hp : (p : Int) < 0 := hp; omega
  · have h : (0 : Int) < 0 := h; omega
  · have hp : (p : Int) < 0 := hp; omega
  · have hp : (p : Int) < 0 := hp; omega
set_option maxRecDepth 100000 in
theorem SH_eq : SH = (.inl (8, [some 1, some 4, some 11, some 16, some 18, some 20, some 23, some 25, some 31, some 33, some 35, none]) :: .inl (0, [some 2, some 3, none, none, none, none]) :: .inr (0, 4) :: .inr (0, 4) :: .inl (4, [some 5, some 6, some 7, some 8, some 9, some 10, none, none, none]) :: .inr (0, 2816) :: .inr (0, 2816) :: .inr (0, 5632) :: .inr (0, 2816) :: .inr (0, 2816) :: .inr (0, 10201) :: .inl (7, [some 12, some 13, some 14, some 15, none]) :: .inr (0, 200) :: .inr (0, 100) :: .inr (0, 100) :: .inr (0, 100) :: .inl (3, [some 17]) :: .inr (1, 6100) :: .inl (3, [some 19]) :: .inr (1, 6100) :: .inl (5, [some 21, some 22, none, none, none, none]) :: .inr (1, 8192) :: .inr (1, 8192) :: .inl (6, [some 24]) :: .inr (0, 100) :: .inl (2, [some 26, some 28, some 29, none, none, none, none]) :: .inl (3, [some 27]) :: .inr (1, 6100) :: .inr (0, 100) :: .inl (1, [some 30, none]) :: .inr (0, 600) :: .inl (1, [some 32, none]) :: .inr (0, 600) :: .inl (1, [some 34, none]) :: .inr (0, 600) :: .inl (1, [some 36, none]) :: .inr (0, 600) :: .inl (9, (none :: none :: none :: some 38 :: some 39 :: none :: some 40 :: none :: some 41 :: some 42 :: some 43 :: some 44 :: some 45 :: some 46 :: some 47 :: some 48 :: some 49 :: none :: some 50 :: some 51 :: some 52 :: some 53 :: some 54 :: some 55 :: some 56 :: some 57 :: none :: none :: some 58 :: some 59 :: some 60 :: some 61 :: none :: none :: none :: some 62 :: none :: some 63 :: none :: some 64 :: some 65 :: some 66 :: [])) :: .inr (0, 4) :: .inr (0, 4) :: .inr (0, 11264) :: .inr (0, 11264) :: .inr (0, 11264) :: .inr (0, 11264) :: .inr (2, 11264) :: .inr (0, 11264) :: .inr (0, 11264) :: .inr (0, 101) :: .inr (0, 101) :: .inr (0, 101) :: .inr (0, 100) :: .inr (0, 100) :: .inr (0, 100) :: .inr (0, 100) :: .inr (0, 100) :: .inr (0, 101) :: .inr (0, 100) :: .inr (0, 100) :: .inr (1, 6100) :: .inr (0, 100) :: .inr (0, 100) :: .inr (0, 10000) :: .inr (2, 100) :: .inr (0, 240) :: .inr (0, 600) :: .inr (0, 600) :: .inr (0, 100) :: []) := by decide +kernel
theorem ce_0 (cA : Nat → ClassId) (a : Nat → Nat) (xs : Nat → Int) (n : Int) : cellE cA a (σ0 xs n 0) (.inl (8, [some 1, some 4, some 11, some 16, some 18, some 20, some 23, some 25, some 31, some 33, some 35, none])) = .inr (8, [.ref (a 1), .ref (a 4), .ref (a 11), .ref (a 16), .ref (a 18), .ref (a 20), .ref (a 23), .ref (a 25), .ref (a 31), .ref (a 33), .ref (a 35), .int (Int32.ofInt 0)]) := (rfl)
theorem ce_1 (cA : Nat → ClassId) (a : Nat → Nat) (xs : Nat → Int) (n : Int) : cellE cA a (σ0 xs n 1) (.inl (0, [some 2, some 3, none, none, none, none])) = .inr (0, [.ref (a 2), .ref (a 3), .int (Int32.ofInt 0), .int (Int32.ofInt 0), .int (Int32.ofInt (-1)), .int (Int32.ofInt (-1))]) := (rfl)
theorem ce_2 (cA : Nat → ClassId) (a : Nat → Nat) (xs : Nat → Int) (n : Int) : cellE cA a (σ0 xs n 2) (.inr (0, 4)) = .inl (cA 0, 4, .inl (fun _ => Int32.ofInt 0)) := (rfl)
theorem ce_3 (cA : Nat → ClassId) (a : Nat → Nat) (xs : Nat → Int) (n : Int) : cellE cA a (σ0 xs n 3) (.inr (0, 4)) = .inl (cA 0, 4, .inl (fun _ => Int32.ofInt 0)) := (rfl)
theorem ce_4 (cA : Nat → ClassId) (a : Nat → Nat) (xs : Nat → Int) (n : Int) : cellE cA a (σ0 xs n 4) (.inl (4, [some 5, some 6, some 7, some 8, some 9, some 10, none, none, none])) = .inr (4, [.ref (a 5), .ref (a 6), .ref (a 7), .ref (a 8), .ref (a 9), .ref (a 10), .int (Int32.ofInt 0), .int (Int32.ofInt 0), .int (Int32.ofInt 0)]) := (rfl)
theorem ce_5 (cA : Nat → ClassId) (a : Nat → Nat) (xs : Nat → Int) (n : Int) : cellE cA a (σ0 xs n 5) (.inr (0, 2816)) = .inl (cA 0, 2816, .inl (fun _ => Int32.ofInt 0)) := (rfl)
theorem ce_6 (cA : Nat → ClassId) (a : Nat → Nat) (xs : Nat → Int) (n : Int) : cellE cA a (σ0 xs n 6) (.inr (0, 2816)) = .inl (cA 0, 2816, .inl (fun _ => Int32.ofInt 0)) := (rfl)
theorem ce_7 (cA : Nat → ClassId) (a : Nat → Nat) (xs : Nat → Int) (n : Int) : cellE cA a (σ0 xs n 7) (.inr (0, 5632)) = .inl (cA 0, 5632, .inl (fun _ => Int32.ofInt 0)) := (rfl)
theorem ce_8 (cA : Nat → ClassId) (a : Nat → Nat) (xs : Nat → Int) (n : Int) : cellE cA a (σ0 xs n 8) (.inr (0, 2816)) = .inl (cA 0, 2816, .inl (fun _ => Int32.ofInt 0)) := (rfl)
theorem ce_9 (cA : Nat → ClassId) (a : Nat → Nat) (xs : Nat → Int) (n : Int) : cellE cA a (σ0 xs n 9) (.inr (0, 2816)) = .inl (cA 0, 2816, .inl (fun _ => Int32.ofInt 0)) := (rfl)
theorem ce_10 (cA : Nat → ClassId) (a : Nat → Nat) (xs : Nat → Int) (n : Int) : cellE cA a (σ0 xs n 10) (.inr (0, 10201)) = .inl (cA 0, 10201, .inl (fun _ => Int32.ofInt 0)) := (rfl)
theorem ce_11 (cA : Nat → ClassId) (a : Nat → Nat) (xs : Nat → Int) (n : Int) : cellE cA a (σ0 xs n 11) (.inl (7, [some 12, some 13, some 14, some 15, none])) = .inr (7, [.ref (a 12), .ref (a 13), .ref (a 14), .ref (a 15), .int (Int32.ofInt 0)]) := (rfl)
theorem ce_12 (cA : Nat → ClassId) (a : Nat → Nat) (xs : Nat → Int) (n : Int) : cellE cA a (σ0 xs n 12) (.inr (0, 200)) = .inl (cA 0, 200, .inl (fun _ => Int32.ofInt 0)) := (rfl)
theorem ce_13 (cA : Nat → ClassId) (a : Nat → Nat) (xs : Nat → Int) (n : Int) : cellE cA a (σ0 xs n 13) (.inr (0, 100)) = .inl (cA 0, 100, .inl (fun _ => Int32.ofInt 0)) := (rfl)
theorem ce_14 (cA : Nat → ClassId) (a : Nat → Nat) (xs : Nat → Int) (n : Int) : cellE cA a (σ0 xs n 14) (.inr (0, 100)) = .inl (cA 0, 100, .inl (fun _ => Int32.ofInt 0)) := (rfl)
theorem ce_15 (cA : Nat → ClassId) (a : Nat → Nat) (xs : Nat → Int) (n : Int) : cellE cA a (σ0 xs n 15) (.inr (0, 100)) = .inl (cA 0, 100, .inl (fun _ => Int32.ofInt 0)) := (rfl)
theorem ce_16 (cA : Nat → ClassId) (a : Nat → Nat) (xs : Nat → Int) (n : Int) : cellE cA a (σ0 xs n 16) (.inl (3, [some 17])) = .inr (3, [.ref (a 17)]) := (rfl)
theorem ce_17 (cA : Nat → ClassId) (a : Nat → Nat) (xs : Nat → Int) (n : Int) : cellE cA a (σ0 xs n 17) (.inr (1, 6100)) = .inl (cA 1, 6100, .inr (.inl (fun _ => Int64.ofInt 0))) := (rfl)
theorem ce_18 (cA : Nat → ClassId) (a : Nat → Nat) (xs : Nat → Int) (n : Int) : cellE cA a (σ0 xs n 18) (.inl (3, [some 19])) = .inr (3, [.ref (a 19)]) := (rfl)
theorem ce_19 (cA : Nat → ClassId) (a : Nat → Nat) (xs : Nat → Int) (n : Int) : cellE cA a (σ0 xs n 19) (.inr (1, 6100)) = .inl (cA 1, 6100, .inr (.inl (fun _ => Int64.ofInt 0))) := (rfl)
theorem ce_20 (cA : Nat → ClassId) (a : Nat → Nat) (xs : Nat → Int) (n : Int) : cellE cA a (σ0 xs n 20) (.inl (5, [some 21, some 22, none, none, none, none])) = .inr (5, [.ref (a 21), .ref (a 22), .int (Int32.ofInt 0), .int (Int32.ofInt (-1)), .int (Int32.ofInt 0), .int (Int32.ofInt 0)]) := (rfl)
theorem ce_21 (cA : Nat → ClassId) (a : Nat → Nat) (xs : Nat → Int) (n : Int) : cellE cA a (σ0 xs n 21) (.inr (1, 8192)) = .inl (cA 1, 8192, .inr (.inl (fun _ => Int64.ofInt 0))) := (rfl)
theorem ce_22 (cA : Nat → ClassId) (a : Nat → Nat) (xs : Nat → Int) (n : Int) : cellE cA a (σ0 xs n 22) (.inr (1, 8192)) = .inl (cA 1, 8192, .inr (.inl (fun _ => Int64.ofInt 0))) := (rfl)
theorem ce_23 (cA : Nat → ClassId) (a : Nat → Nat) (xs : Nat → Int) (n : Int) : cellE cA a (σ0 xs n 23) (.inl (6, [some 24])) = .inr (6, [.ref (a 24)]) := (rfl)
theorem ce_24 (cA : Nat → ClassId) (a : Nat → Nat) (xs : Nat → Int) (n : Int) : cellE cA a (σ0 xs n 24) (.inr (0, 100)) = .inl (cA 0, 100, .inl (fun _ => Int32.ofInt 0)) := (rfl)
theorem ce_25 (cA : Nat → ClassId) (a : Nat → Nat) (xs : Nat → Int) (n : Int) : cellE cA a (σ0 xs n 25) (.inl (2, [some 26, some 28, some 29, none, none, none, none])) = .inr (2, [.ref (a 26), .ref (a 28), .ref (a 29), .int (Int32.ofInt 0), .int (Int32.ofInt 0), .int (Int32.ofInt 0), .int (Int32.ofInt (-1))]) := (rfl)
theorem ce_26 (cA : Nat → ClassId) (a : Nat → Nat) (xs : Nat → Int) (n : Int) : cellE cA a (σ0 xs n 26) (.inl (3, [some 27])) = .inr (3, [.ref (a 27)]) := (rfl)
theorem ce_27 (cA : Nat → ClassId) (a : Nat → Nat) (xs : Nat → Int) (n : Int) : cellE cA a (σ0 xs n 27) (.inr (1, 6100)) = .inl (cA 1, 6100, .inr (.inl (fun _ => Int64.ofInt 0))) := (rfl)
theorem ce_28 (cA : Nat → ClassId) (a : Nat → Nat) (xs : Nat → Int) (n : Int) : cellE cA a (σ0 xs n 28) (.inr (0, 100)) = .inl (cA 0, 100, .inl (fun _ => Int32.ofInt 0)) := (rfl)
theorem ce_29 (cA : Nat → ClassId) (a : Nat → Nat) (xs : Nat → Int) (n : Int) : cellE cA a (σ0 xs n 29) (.inl (1, [some 30, none])) = .inr (1, [.ref (a 30), .int (Int32.ofInt 0)]) := (rfl)
theorem ce_30 (cA : Nat → ClassId) (a : Nat → Nat) (xs : Nat → Int) (n : Int) : cellE cA a (σ0 xs n 30) (.inr (0, 600)) = .inl (cA 0, 600, .inl (fun _ => Int32.ofInt 0)) := (rfl)
theorem ce_31 (cA : Nat → ClassId) (a : Nat → Nat) (xs : Nat → Int) (n : Int) : cellE cA a (σ0 xs n 31) (.inl (1, [some 32, none])) = .inr (1, [.ref (a 32), .int (Int32.ofInt 0)]) := (rfl)
theorem ce_32 (cA : Nat → ClassId) (a : Nat → Nat) (xs : Nat → Int) (n : Int) : cellE cA a (σ0 xs n 32) (.inr (0, 600)) = .inl (cA 0, 600, .inl (fun _ => Int32.ofInt 0)) := (rfl)
theorem ce_33 (cA : Nat → ClassId) (a : Nat → Nat) (xs : Nat → Int) (n : Int) : cellE cA a (σ0 xs n 33) (.inl (1, [some 34, none])) = .inr (1, [.ref (a 34), .int (Int32.ofInt 0)]) := (rfl)
theorem ce_34 (cA : Nat → ClassId) (a : Nat → Nat) (xs : Nat → Int) (n : Int) : cellE cA a (σ0 xs n 34) (.inr (0, 600)) = .inl (cA 0, 600, .inl (fun _ => Int32.ofInt 0)) := (rfl)
theorem ce_35 (cA : Nat → ClassId) (a : Nat → Nat) (xs : Nat → Int) (n : Int) : cellE cA a (σ0 xs n 35) (.inl (1, [some 36, none])) = .inr (1, [.ref (a 36), .int (Int32.ofInt 0)]) := (rfl)
theorem ce_36 (cA : Nat → ClassId) (a : Nat → Nat) (xs : Nat → Int) (n : Int) : cellE cA a (σ0 xs n 36) (.inr (0, 600)) = .inl (cA 0, 600, .inl (fun _ => Int32.ofInt 0)) := (rfl)
theorem s_37 (xs : Nat → Int) (n : Int) (j : Nat) : σ0 xs n 37 j = if j = 1 then -1 else if j = 5 then -1 else 0 := (rfl)
theorem fVn (a : Nat → Nat) (f : Nat → Int) (k : Nat) : fV a f k none = .int (Int32.ofInt (f k)) := (rfl)
theorem fVs (a : Nat → Nat) (f : Nat → Int) (k t : Nat) : fV a f k (some t) = .ref (a t) := (rfl)
theorem ce_o (cA : Nat → ClassId) (a : Nat → Nat) (f : Nat → Int) (ci : Nat) (fs : List (Option Nat)) : cellE cA a f (.inl (ci, fs)) = .inr (ci, fs.mapIdx (fun k q => fV a f k q)) := (rfl)
theorem ce_37 (cA : Nat → ClassId) (a : Nat → Nat) (xs : Nat → Int) (n : Int) : cellE cA a (σ0 xs n 37) (.inl (9, (none :: none :: none :: some 38 :: some 39 :: none :: some 40 :: none :: some 41 :: some 42 :: some 43 :: some 44 :: some 45 :: some 46 :: some 47 :: some 48 :: some 49 :: none :: some 50 :: some 51 :: some 52 :: some 53 :: some 54 :: some 55 :: some 56 :: some 57 :: none :: none :: some 58 :: some 59 :: some 60 :: some 61 :: none :: none :: none :: some 62 :: none :: some 63 :: none :: some 64 :: some 65 :: some 66 :: []))) = .inr (9, (.int (Int32.ofInt 0) :: .int (Int32.ofInt (-1)) :: .int (Int32.ofInt 0) :: .ref (a 38) :: .ref (a 39) :: .int (Int32.ofInt (-1)) :: .ref (a 40) :: .int (Int32.ofInt 0) :: .ref (a 41) :: .ref (a 42) :: .ref (a 43) :: .ref (a 44) :: .ref (a 45) :: .ref (a 46) :: .ref (a 47) :: .ref (a 48) :: .ref (a 49) :: .int (Int32.ofInt 0) :: .ref (a 50) :: .ref (a 51) :: .ref (a 52) :: .ref (a 53) :: .ref (a 54) :: .ref (a 55) :: .ref (a 56) :: .ref (a 57) :: .int (Int32.ofInt 0) :: .int (Int32.ofInt 0) :: .ref (a 58) :: .ref (a 59) :: .ref (a 60) :: .ref (a 61) :: .int (Int32.ofInt 0) :: .int (Int32.ofInt 0) :: .int (Int32.ofInt 0) :: .ref (a 62) :: .int (Int32.ofInt 0) :: .ref (a 63) :: .int (Int32.ofInt 0) :: .ref (a 64) :: .ref (a 65) :: .ref (a 66) :: [])) := by
  rw [ce_o]
  simp only [List.mapIdx_cons, List.mapIdx_nil, Nat.zero_add, Nat.reduceAdd, fVn, fVs, s_37, Nat.reduceEqDiff, reduceIte]
theorem ce_38 (cA : Nat → ClassId) (a : Nat → Nat) (xs : Nat → Int) (n : Int) : cellE cA a (σ0 xs n 38) (.inr (0, 4)) = .inl (cA 0, 4, .inl (fun _ => Int32.ofInt 0)) := (rfl)
theorem ce_39 (cA : Nat → ClassId) (a : Nat → Nat) (xs : Nat → Int) (n : Int) : cellE cA a (σ0 xs n 39) (.inr (0, 4)) = .inl (cA 0, 4, .inl (fun _ => Int32.ofInt 0)) := (rfl)
theorem ce_40 (cA : Nat → ClassId) (a : Nat → Nat) (xs : Nat → Int) (n : Int) : cellE cA a (σ0 xs n 40) (.inr (0, 11264)) = .inl (cA 0, 11264, .inl (fun _ => Int32.ofInt 0)) := (rfl)
theorem ce_41 (cA : Nat → ClassId) (a : Nat → Nat) (xs : Nat → Int) (n : Int) : cellE cA a (σ0 xs n 41) (.inr (0, 11264)) = .inl (cA 0, 11264, .inl (fun _ => Int32.ofInt 0)) := (rfl)
theorem ce_42 (cA : Nat → ClassId) (a : Nat → Nat) (xs : Nat → Int) (n : Int) : cellE cA a (σ0 xs n 42) (.inr (0, 11264)) = .inl (cA 0, 11264, .inl (fun _ => Int32.ofInt 0)) := (rfl)
theorem ce_43 (cA : Nat → ClassId) (a : Nat → Nat) (xs : Nat → Int) (n : Int) : cellE cA a (σ0 xs n 43) (.inr (0, 11264)) = .inl (cA 0, 11264, .inl (fun _ => Int32.ofInt 0)) := (rfl)
theorem ce_44 (cA : Nat → ClassId) (a : Nat → Nat) (xs : Nat → Int) (n : Int) : cellE cA a (σ0 xs n 44) (.inr (2, 11264)) = .inl (cA 2, 11264, .inl (fun _ => Int32.ofInt 0)) := (rfl)
theorem ce_45 (cA : Nat → ClassId) (a : Nat → Nat) (xs : Nat → Int) (n : Int) : cellE cA a (σ0 xs n 45) (.inr (0, 11264)) = .inl (cA 0, 11264, .inl (fun _ => Int32.ofInt 0)) := (rfl)
theorem ce_46 (cA : Nat → ClassId) (a : Nat → Nat) (xs : Nat → Int) (n : Int) : cellE cA a (σ0 xs n 46) (.inr (0, 11264)) = .inl (cA 0, 11264, .inl (fun _ => Int32.ofInt 0)) := (rfl)
theorem ce_47 (cA : Nat → ClassId) (a : Nat → Nat) (xs : Nat → Int) (n : Int) : cellE cA a (σ0 xs n 47) (.inr (0, 101)) = .inl (cA 0, 101, .inl (fun _ => Int32.ofInt 0)) := (rfl)
theorem ce_48 (cA : Nat → ClassId) (a : Nat → Nat) (xs : Nat → Int) (n : Int) : cellE cA a (σ0 xs n 48) (.inr (0, 101)) = .inl (cA 0, 101, .inl (fun _ => Int32.ofInt 0)) := (rfl)
theorem ce_49 (cA : Nat → ClassId) (a : Nat → Nat) (xs : Nat → Int) (n : Int) : cellE cA a (σ0 xs n 49) (.inr (0, 101)) = .inl (cA 0, 101, .inl (fun _ => Int32.ofInt 0)) := (rfl)
theorem ce_50 (cA : Nat → ClassId) (a : Nat → Nat) (xs : Nat → Int) (n : Int) : cellE cA a (σ0 xs n 50) (.inr (0, 100)) = .inl (cA 0, 100, .inl (fun _ => Int32.ofInt 0)) := (rfl)
theorem ce_51 (cA : Nat → ClassId) (a : Nat → Nat) (xs : Nat → Int) (n : Int) : cellE cA a (σ0 xs n 51) (.inr (0, 100)) = .inl (cA 0, 100, .inl (fun _ => Int32.ofInt 0)) := (rfl)
theorem ce_52 (cA : Nat → ClassId) (a : Nat → Nat) (xs : Nat → Int) (n : Int) : cellE cA a (σ0 xs n 52) (.inr (0, 100)) = .inl (cA 0, 100, .inl (fun _ => Int32.ofInt 0)) := (rfl)
theorem ce_53 (cA : Nat → ClassId) (a : Nat → Nat) (xs : Nat → Int) (n : Int) : cellE cA a (σ0 xs n 53) (.inr (0, 100)) = .inl (cA 0, 100, .inl (fun _ => Int32.ofInt 0)) := (rfl)
theorem ce_54 (cA : Nat → ClassId) (a : Nat → Nat) (xs : Nat → Int) (n : Int) : cellE cA a (σ0 xs n 54) (.inr (0, 100)) = .inl (cA 0, 100, .inl (fun _ => Int32.ofInt 0)) := (rfl)
theorem ce_55 (cA : Nat → ClassId) (a : Nat → Nat) (xs : Nat → Int) (n : Int) : cellE cA a (σ0 xs n 55) (.inr (0, 101)) = .inl (cA 0, 101, .inl (fun _ => Int32.ofInt 0)) := (rfl)
theorem ce_56 (cA : Nat → ClassId) (a : Nat → Nat) (xs : Nat → Int) (n : Int) : cellE cA a (σ0 xs n 56) (.inr (0, 100)) = .inl (cA 0, 100, .inl (fun _ => Int32.ofInt 0)) := (rfl)
theorem ce_57 (cA : Nat → ClassId) (a : Nat → Nat) (xs : Nat → Int) (n : Int) : cellE cA a (σ0 xs n 57) (.inr (0, 100)) = .inl (cA 0, 100, .inl (fun _ => Int32.ofInt 0)) := (rfl)
theorem ce_58 (cA : Nat → ClassId) (a : Nat → Nat) (xs : Nat → Int) (n : Int) : cellE cA a (σ0 xs n 58) (.inr (1, 6100)) = .inl (cA 1, 6100, .inr (.inl (fun _ => Int64.ofInt 0))) := (rfl)
theorem ce_59 (cA : Nat → ClassId) (a : Nat → Nat) (xs : Nat → Int) (n : Int) : cellE cA a (σ0 xs n 59) (.inr (0, 100)) = .inl (cA 0, 100, .inl (fun _ => Int32.ofInt 0)) := (rfl)
theorem ce_60 (cA : Nat → ClassId) (a : Nat → Nat) (xs : Nat → Int) (n : Int) : cellE cA a (σ0 xs n 60) (.inr (0, 100)) = .inl (cA 0, 100, .inl (fun _ => Int32.ofInt 0)) := (rfl)
theorem ce_61 (cA : Nat → ClassId) (a : Nat → Nat) (xs : Nat → Int) (n : Int) : cellE cA a (σ0 xs n 61) (.inr (0, 10000)) = .inl (cA 0, 10000, .inl (fun _ => Int32.ofInt 0)) := (rfl)
theorem ce_62 (cA : Nat → ClassId) (a : Nat → Nat) (xs : Nat → Int) (n : Int) : cellE cA a (σ0 xs n 62) (.inr (2, 100)) = .inl (cA 2, 100, .inl (fun _ => Int32.ofInt 0)) := (rfl)
theorem ce_63 (cA : Nat → ClassId) (a : Nat → Nat) (xs : Nat → Int) (n : Int) : cellE cA a (σ0 xs n 63) (.inr (0, 240)) = .inl (cA 0, 240, .inl (fun _ => Int32.ofInt 0)) := (rfl)
theorem ce_64 (cA : Nat → ClassId) (a : Nat → Nat) (xs : Nat → Int) (n : Int) : cellE cA a (σ0 xs n 64) (.inr (0, 600)) = .inl (cA 0, 600, .inl (fun _ => Int32.ofInt 0)) := (rfl)
theorem ce_65 (cA : Nat → ClassId) (a : Nat → Nat) (xs : Nat → Int) (n : Int) : cellE cA a (σ0 xs n 65) (.inr (0, 600)) = .inl (cA 0, 600, .inl (fun _ => Int32.ofInt 0)) := (rfl)
theorem ce_66 (cA : Nat → ClassId) (a : Nat → Nat) (xs : Nat → Int) (n : Int) : cellE cA a (σ0 xs n 66) (.inr (0, 100)) = .inl (cA 0, 100, .inl (fun _ => Int32.ofInt 0)) := (rfl)
set_option maxRecDepth 100000 in
set_option maxHeartbeats 4000000 in
theorem ws_0 (cA : Nat → ClassId) (a : Nat → Nat) (xs : Nat → Int) (n : Int) : wsOf cA a (σ0 xs n) = ((a 0, .inr (8, [.ref (a 1), .ref (a 4), .ref (a 11), .ref (a 16), .ref (a 18), .ref (a 20), .ref (a 23), .ref (a 25), .ref (a 31), .ref (a 33), .ref (a 35), .int (Int32.ofInt 0)])) :: (a 1, .inr (0, [.ref (a 2), .ref (a 3), .int (Int32.ofInt 0), .int (Int32.ofInt 0), .int (Int32.ofInt (-1)), .int (Int32.ofInt (-1))])) :: (a 2, .inl (cA 0, 4, .inl (fun _ => Int32.ofInt 0))) :: (a 3, .inl (cA 0, 4, .inl (fun _ => Int32.ofInt 0))) :: (a 4, .inr (4, [.ref (a 5), .ref (a 6), .ref (a 7), .ref (a 8), .ref (a 9), .ref (a 10), .int (Int32.ofInt 0), .int (Int32.ofInt 0), .int (Int32.ofInt 0)])) :: (a 5, .inl (cA 0, 2816, .inl (fun _ => Int32.ofInt 0))) :: (a 6, .inl (cA 0, 2816, .inl (fun _ => Int32.ofInt 0))) :: (a 7, .inl (cA 0, 5632, .inl (fun _ => Int32.ofInt 0))) :: (a 8, .inl (cA 0, 2816, .inl (fun _ => Int32.ofInt 0))) :: (a 9, .inl (cA 0, 2816, .inl (fun _ => Int32.ofInt 0))) :: (a 10, .inl (cA 0, 10201, .inl (fun _ => Int32.ofInt 0))) :: (a 11, .inr (7, [.ref (a 12), .ref (a 13), .ref (a 14), .ref (a 15), .int (Int32.ofInt 0)])) :: (a 12, .inl (cA 0, 200, .inl (fun _ => Int32.ofInt 0))) :: (a 13, .inl (cA 0, 100, .inl (fun _ => Int32.ofInt 0))) :: (a 14, .inl (cA 0, 100, .inl (fun _ => Int32.ofInt 0))) :: (a 15, .inl (cA 0, 100, .inl (fun _ => Int32.ofInt 0))) :: (a 16, .inr (3, [.ref (a 17)])) :: (a 17, .inl (cA 1, 6100, .inr (.inl (fun _ => Int64.ofInt 0)))) :: (a 18, .inr (3, [.ref (a 19)])) :: (a 19, .inl (cA 1, 6100, .inr (.inl (fun _ => Int64.ofInt 0)))) :: (a 20, .inr (5, [.ref (a 21), .ref (a 22), .int (Int32.ofInt 0), .int (Int32.ofInt (-1)), .int (Int32.ofInt 0), .int (Int32.ofInt 0)])) :: (a 21, .inl (cA 1, 8192, .inr (.inl (fun _ => Int64.ofInt 0)))) :: (a 22, .inl (cA 1, 8192, .inr (.inl (fun _ => Int64.ofInt 0)))) :: (a 23, .inr (6, [.ref (a 24)])) :: (a 24, .inl (cA 0, 100, .inl (fun _ => Int32.ofInt 0))) :: (a 25, .inr (2, [.ref (a 26), .ref (a 28), .ref (a 29), .int (Int32.ofInt 0), .int (Int32.ofInt 0), .int (Int32.ofInt 0), .int (Int32.ofInt (-1))])) :: (a 26, .inr (3, [.ref (a 27)])) :: (a 27, .inl (cA 1, 6100, .inr (.inl (fun _ => Int64.ofInt 0)))) :: (a 28, .inl (cA 0, 100, .inl (fun _ => Int32.ofInt 0))) :: (a 29, .inr (1, [.ref (a 30), .int (Int32.ofInt 0)])) :: (a 30, .inl (cA 0, 600, .inl (fun _ => Int32.ofInt 0))) :: (a 31, .inr (1, [.ref (a 32), .int (Int32.ofInt 0)])) :: (a 32, .inl (cA 0, 600, .inl (fun _ => Int32.ofInt 0))) :: (a 33, .inr (1, [.ref (a 34), .int (Int32.ofInt 0)])) :: (a 34, .inl (cA 0, 600, .inl (fun _ => Int32.ofInt 0))) :: (a 35, .inr (1, [.ref (a 36), .int (Int32.ofInt 0)])) :: (a 36, .inl (cA 0, 600, .inl (fun _ => Int32.ofInt 0))) :: (a 37, .inr (9, (.int (Int32.ofInt 0) :: .int (Int32.ofInt (-1)) :: .int (Int32.ofInt 0) :: .ref (a 38) :: .ref (a 39) :: .int (Int32.ofInt (-1)) :: .ref (a 40) :: .int (Int32.ofInt 0) :: .ref (a 41) :: .ref (a 42) :: .ref (a 43) :: .ref (a 44) :: .ref (a 45) :: .ref (a 46) :: .ref (a 47) :: .ref (a 48) :: .ref (a 49) :: .int (Int32.ofInt 0) :: .ref (a 50) :: .ref (a 51) :: .ref (a 52) :: .ref (a 53) :: .ref (a 54) :: .ref (a 55) :: .ref (a 56) :: .ref (a 57) :: .int (Int32.ofInt 0) :: .int (Int32.ofInt 0) :: .ref (a 58) :: .ref (a 59) :: .ref (a 60) :: .ref (a 61) :: .int (Int32.ofInt 0) :: .int (Int32.ofInt 0) :: .int (Int32.ofInt 0) :: .ref (a 62) :: .int (Int32.ofInt 0) :: .ref (a 63) :: .int (Int32.ofInt 0) :: .ref (a 64) :: .ref (a 65) :: .ref (a 66) :: []))) :: (a 38, .inl (cA 0, 4, .inl (fun _ => Int32.ofInt 0))) :: (a 39, .inl (cA 0, 4, .inl (fun _ => Int32.ofInt 0))) :: (a 40, .inl (cA 0, 11264, .inl (fun _ => Int32.ofInt 0))) :: (a 41, .inl (cA 0, 11264, .inl (fun _ => Int32.ofInt 0))) :: (a 42, .inl (cA 0, 11264, .inl (fun _ => Int32.ofInt 0))) :: (a 43, .inl (cA 0, 11264, .inl (fun _ => Int32.ofInt 0))) :: (a 44, .inl (cA 2, 11264, .inl (fun _ => Int32.ofInt 0))) :: (a 45, .inl (cA 0, 11264, .inl (fun _ => Int32.ofInt 0))) :: (a 46, .inl (cA 0, 11264, .inl (fun _ => Int32.ofInt 0))) :: (a 47, .inl (cA 0, 101, .inl (fun _ => Int32.ofInt 0))) :: (a 48, .inl (cA 0, 101, .inl (fun _ => Int32.ofInt 0))) :: (a 49, .inl (cA 0, 101, .inl (fun _ => Int32.ofInt 0))) :: (a 50, .inl (cA 0, 100, .inl (fun _ => Int32.ofInt 0))) :: (a 51, .inl (cA 0, 100, .inl (fun _ => Int32.ofInt 0))) :: (a 52, .inl (cA 0, 100, .inl (fun _ => Int32.ofInt 0))) :: (a 53, .inl (cA 0, 100, .inl (fun _ => Int32.ofInt 0))) :: (a 54, .inl (cA 0, 100, .inl (fun _ => Int32.ofInt 0))) :: (a 55, .inl (cA 0, 101, .inl (fun _ => Int32.ofInt 0))) :: (a 56, .inl (cA 0, 100, .inl (fun _ => Int32.ofInt 0))) :: (a 57, .inl (cA 0, 100, .inl (fun _ => Int32.ofInt 0))) :: (a 58, .inl (cA 1, 6100, .inr (.inl (fun _ => Int64.ofInt 0)))) :: (a 59, .inl (cA 0, 100, .inl (fun _ => Int32.ofInt 0))) :: (a 60, .inl (cA 0, 100, .inl (fun _ => Int32.ofInt 0))) :: (a 61, .inl (cA 0, 10000, .inl (fun _ => Int32.ofInt 0))) :: (a 62, .inl (cA 2, 100, .inl (fun _ => Int32.ofInt 0))) :: (a 63, .inl (cA 0, 240, .inl (fun _ => Int32.ofInt 0))) :: (a 64, .inl (cA 0, 600, .inl (fun _ => Int32.ofInt 0))) :: (a 65, .inl (cA 0, 600, .inl (fun _ => Int32.ofInt 0))) :: (a 66, .inl (cA 0, 100, .inl (fun _ => Int32.ofInt 0))) :: []) := by
  unfold wsOf
  rw [SH_eq]
  simp only [List.mapIdx_cons, List.mapIdx_nil, Nat.zero_add, Nat.reduceAdd, ce_0, ce_1, ce_2, ce_3, ce_4, ce_5, ce_6, ce_7, ce_8, ce_9, ce_10, ce_11, ce_12, ce_13, ce_14, ce_15, ce_16, ce_17, ce_18, ce_19, ce_20, ce_21, ce_22, ce_23, ce_24, ce_25, ce_26, ce_27, ce_28, ce_29, ce_30, ce_31, ce_32, ce_33, ce_34, ce_35, ce_36, ce_37, ce_38, ce_39, ce_40, ce_41, ce_42, ce_43, ce_44, ce_45, ce_46, ce_47, ce_48, ce_49, ce_50, ce_51, ce_52, ce_53, ce_54, ce_55, ce_56, ce_57, ce_58, ce_59, ce_60, ce_61, ce_62, ce_63, ce_64, ce_65, ce_66]
theorem dV_0 : decode code 0 = .ok (.new 7, 3) := by decide +kernel
theorem dV_3 : decode code 3 = .ok (.dup, 1) := by decide +kernel
theorem dV_4 : decode code 4 = .ok (.invokespecial 9, 3) := by decide +kernel
theorem dV_7 : decode code 7 = .ok (.astore_n 1, 1) := by decide +kernel
theorem dV_8 : decode code 8 = .ok (.new 10, 3) := by decide +kernel
theorem dV_11 : decode code 11 = .ok (.dup, 1) := by decide +kernel
theorem dV_12 : decode code 12 = .ok (.invokespecial 12, 3) := by decide +kernel
theorem dV_15 : decode code 15 = .ok (.astore_n 2, 1) := by decide +kernel
theorem dV_16 : decode code 16 = .ok (.iconst 0, 1) := by decide +kernel
theorem dV_17 : decode code 17 = .ok (.istore_n 3, 1) := by decide +kernel
theorem ns_X : ∀ n ∈ ([(RX8, 9, yI_B), (RX8, 18, yI_K), (RX8, 25, yI_W), (RX8, 32, yI_L), (RX8, 42, yI_S), (RX8, 49, yI_G), (RX8, 56, yI_C), (RX8, 63, yI_T), (RX2, 11, yI_L), (RX2, 24, yI_T)] : List (String × Nat × MethodName)), Jvm.Cond.methodLinkNest n.1 n.2.1 n.2.2 "EvenWire" ∈ lw_tbl := List.forall_mem_cons.mpr ⟨List.mem_of_getElem? (i := 72) (by decide +kernel), List.forall_mem_cons.mpr ⟨List.mem_of_getElem? (i := 98) (by decide +kernel), List.forall_mem_cons.mpr ⟨List.mem_of_getElem? (i := 132) (by decide +kernel), List.forall_mem_cons.mpr ⟨List.mem_of_getElem? (i := 154) (by decide +kernel), List.forall_mem_cons.mpr ⟨List.mem_of_getElem? (i := 165) (by decide +kernel), List.forall_mem_cons.mpr ⟨List.mem_of_getElem? (i := 190) (by decide +kernel), List.forall_mem_cons.mpr ⟨List.mem_of_getElem? (i := 200) (by decide +kernel), List.forall_mem_cons.mpr ⟨List.mem_of_getElem? (i := 242) (by decide +kernel), List.forall_mem_cons.mpr ⟨List.mem_of_getElem? (i := 205) (by decide +kernel), List.forall_mem_cons.mpr ⟨List.mem_of_getElem? (i := 208) (by decide +kernel), fun _ h => absurd h List.not_mem_nil⟩⟩⟩⟩⟩⟩⟩⟩⟩⟩
/-! THE CLAIM OUT OF ONE WALK OF THE LAW'S BODY. Your part is whole_start (and what it stands on); all else here is the same for every law, but numbers. -/
def R_law : String := "EvenWireLaw"
def lw_P (b : Addr) (xs : List Int32) (args : Array Value) (s : State) : Prop := args = #[.ref b] ∧ s.IntsAt b xs ∧ xs.length ≤ 2560 ∧ (Jvm.Cond.and given_1 narrow_1).before args s = true
def lw_Q (_ : Array Value) (s : State) (o : Outcome) (t : State) : Prop := o = .returned (some (.int 1)) ∧ Framed s o t [] 67 162888
def lw_Z (below : List Frame) (a : Array Value) (s : State) : State → Prop := fun t => ∃ o, t.status = .running ∧ Ended t below o ∧ lw_Q a s o t
/-- the law's own end, with 1 on the stack, nothing written that was there before, its room as the claim has it -/
theorem lw_ret {p : Program} {l : Launch} {e : Env} {s : State} {m : MethodId} {below : List Frame} {meth : Method} {c : Code} {b : Nat} (hx : p.tables.exec = Jvm.exec) (hb : c.code = code) (hr : meth.sig.returnType = ret) (hlocks : meth.locks = false) {pc : Nat} {H : Heap} {ls : Array Slot} (hdg : decode code pc = .ok (.ireturn, 1)) : W p l e room_1 s m #[Value.ref b] below meth c H [] 67 162888 (lw_Z below #[Value.ref b] s) (F0 m pc ls [.int 1]) := by
  intro T hT X
  obtain ⟨fs, hret, hrun, hended, hW, hframe⟩ := X.leave (v := some (.int 1)) (hlocks := hlocks) (fun h => by rw [hr] at h; cases h)
  have hmeth' : T.vm.method? m = some meth := X.method'
  refine ⟨T.setFrames fs, ?_, .returned (some (.int 1)), hrun, hended, rfl, ⟨_, rfl⟩, hW, hframe⟩
  jvm_step X.here [X.here.top, hx, hb, hdg, hmeth', hr, ret, narrow_b1]
  (try refine ⟨rfl, ?_⟩); (try refine ⟨rfl, ?_⟩)
  first | (intro acts; rw [hret _ acts rfl rfl rfl]) | rw [hret _ _ rfl rfl rfl]
  exact Steps.refl _
/-- what holds at the law's entry: the machine, the code, the tables' words (any of lw_tbl by 'hts w (by decide +kernel)'), the script of L ints xs at the cell b, what the Statement gives of the start (any of its parts by flat_of_before) -/
def lw_At (p : Program) (s : State) (m : MethodId) (meth : Method) (c : Code) (b L : Nat) (xs : Nat → Int32) : Prop :=
  p.tables.exec = Jvm.exec ∧ c.code = code ∧ meth.sig.returnType = ret ∧ c.maxLocals = 4 ∧ s.vm.findClass R_law = some m.cls ∧ (∀ w ∈ lw_tbl, w.before #[Value.ref b] s = true) ∧ va_X b L xs s s.heap ∧ b < s.heap.size ∧ meth.locks = false ∧ (Jvm.Cond.and given_1 narrow_1).before #[Value.ref b] s = true
theorem end_V {p : Program} {l : Launch} {e : Env} {s : State} {m : MethodId} {below : List Frame} {meth : Method} {c : Code} {b : Nat} {D : va_G} {cA : Nat → ClassId} {a : Nat → Nat} (hx : p.tables.exec = Jvm.exec) (hb : c.code = code) (hr : meth.sig.returnType = ret) (hlocks : meth.locks = false) : ∀ pc L z σ, decode code pc = .ok (.ireturn, 1) → ((3 : Nat) = 1 ∨ ((3 : Nat) = 3 ∧ (z = 0 ∨ z = 1))) → QV (some (.inl z)) σ → Good p l e room_1 s m #[Value.ref b] below meth c 67 162888 (lw_Z below #[Value.ref b] s) D cA a (fun q : Nat => s.heap.size ≤ q) s.heap 4 True pc L [.inl z] σ := by
  intro pc L z σ hd _ hq H locs ls hP hD hS hl hL hsc
  have hz : z = 1 := by
    have h : some (Sum.inl z : AV) = some (.inl 1) := hq
    cases h
    rfl
  subst hz
  exact va_forget (fun q hq => hS.2.2 q hq) (lw_ret hx hb hr hlocks hd)
set_option maxHeartbeats 4000000 in
set_option maxRecDepth 100000 in
/-- from the entry, for every script of at most 2560 ints, the law comes to its end with true -/
theorem whole_start {p : Program} {e : Env} {s : State} {m : MethodId} {below : List Frame} {meth : Method} {c : Code} (l : Launch) (hflags : l.flags = flags0) {b L : Nat} {xs : Nat → Int32} (hL : L ≤ 2560) (C0 : lw_At p s m meth c b L xs) : W p l e room_1 s m #[Value.ref b] below meth c s.heap [] 0 0 (lw_Z below #[Value.ref b] s) (entryFrame m ([Value.ref b] : List Value).toArray 4) := by
  obtain ⟨hx, hb, hr, hml, hown, hts0, hX, hbl, hlocks, hgv⟩ := id C0
  have hts : ∀ w ∈ TG, w.before #[Value.ref b] s = true := fun w hw => hts0 w (tg_tbl w hw)
  have hA : ∀ q : Nat, s.heap.size ≤ q → (fun q : Nat => s.heap.size ≤ q) q := fun _ h => h
  have hk : ∀ (k : Nat) (q : vw_C), CL[k]? = some q → ∃ x : ClassId × (Nat → Nat), u_Kn s q.1 q.2.1 q.2.2 x.1 x.2 := by
    intro k q hq
    match k, hq with
    | 0, hq => cases hq; obtain ⟨x, y, h⟩ := u_known (C := RX0) (T := TX0) (N := 6) (n := 6) hts in_B (hts _ (tg_in 71 (by decide +kernel) (by decide +kernel))); exact ⟨(x, y), h⟩
    | 1, hq => cases hq; obtain ⟨x, y, h⟩ := u_known (C := RX1) (T := TX1) (N := 2) (n := 2) hts in_T (hts _ (tg_in 207 (by decide +kernel) (by decide +kernel))); exact ⟨(x, y), h⟩
    | 2, hq => cases hq; obtain ⟨x, y, h⟩ := u_known (C := RX2) (T := TX2) (N := 7) (n := 7) hts in_C (hts _ (tg_in 199 (by decide +kernel) (by decide +kernel))); exact ⟨(x, y), h⟩
    | 3, hq => cases hq; obtain ⟨x, y, h⟩ := u_known (C := RX3) (T := TX3) (N := 1) (n := 1) hts in_L (hts _ (tg_in 153 (by decide +kernel) (by decide +kernel))); exact ⟨(x, y), h⟩
    | 4, hq => cases hq; obtain ⟨x, y, h⟩ := u_known (C := RX4) (T := TX4) (N := 9) (n := 9) hts in_K (hts _ (tg_in 97 (by decide +kernel) (by decide +kernel))); exact ⟨(x, y), h⟩
    | 5, hq => cases hq; obtain ⟨x, y, h⟩ := u_known (C := RX5) (T := TX5) (N := 6) (n := 6) hts in_S (hts _ (tg_in 164 (by decide +kernel) (by decide +kernel))); exact ⟨(x, y), h⟩
    | 6, hq => cases hq; obtain ⟨x, y, h⟩ := u_known (C := RX6) (T := TX6) (N := 1) (n := 1) hts in_G (hts _ (tg_in 189 (by decide +kernel) (by decide +kernel))); exact ⟨(x, y), h⟩
    | 7, hq => cases hq; obtain ⟨x, y, h⟩ := u_known (C := RX7) (T := TX7) (N := 5) (n := 5) hts in_W (hts _ (tg_in 131 (by decide +kernel) (by decide +kernel))); exact ⟨(x, y), h⟩
    | 8, hq => cases hq; obtain ⟨x, y, h⟩ := u_known (C := RX8) (T := TX8) (N := 12) (n := 12) hts in_X (hts _ (tg_in 63 (by decide +kernel) (by decide +kernel))); exact ⟨(x, y), h⟩
    | 9, hq => cases hq; obtain ⟨x, y, h⟩ := u_known (C := RX9) (T := TX9) (N := 42) (n := 42) hts in_M (hts _ (tg_in 854 (by decide +kernel) (by decide +kernel))); exact ⟨(x, y), h⟩
    | k + 10, hq => simp [CL] at hq
  obtain ⟨x0, -⟩ := hk 0 _ rfl
  have hk2 : ∀ k : Nat, ∃ x : ClassId × (Nat → Nat), ∀ q : vw_C, CL[k]? = some q → u_Kn s q.1 q.2.1 q.2.2 x.1 x.2 := by
    intro k
    cases hq : CL[k]? with
    | none => exact ⟨x0, fun q h => by cases h⟩
    | some q =>
      obtain ⟨x, hx⟩ := hk k q hq
      exact ⟨x, fun q' h => by cases h; exact hx⟩
  obtain ⟨D, hKc⟩ : ∃ D : va_G, ∀ (k : Nat) (q : vw_C), CL[k]? = some q → u_Kn s q.1 q.2.1 q.2.2 (D.1 k) (D.2 k) := ⟨(fun k => (Classical.choose (hk2 k)).1, fun k => (Classical.choose (hk2 k)).2), fun k q hq => Classical.choose_spec (hk2 k) q hq⟩
  obtain ⟨cI, kI, mI, f1, f2, f3⟩ := Cond.arrayClass_spec (hts _ (tg_in 95 (by decide +kernel) (by decide +kernel) : Jvm.Cond.arrayClass .int ∈ TG))
  obtain ⟨cJ, kJ, mJ, g1, g2, g3⟩ := Cond.arrayClass_spec (hts _ (tg_in 162 (by decide +kernel) (by decide +kernel) : Jvm.Cond.arrayClass .long ∈ TG))
  obtain ⟨cB, kB, mB, h1, h2, h3⟩ := Cond.arrayClass_spec (hts _ (tg_in 986 (by decide +kernel) (by decide +kernel) : Jvm.Cond.arrayClass .boolean ∈ TG))
  obtain ⟨cA, eI, eJ, eB⟩ : ∃ cA : Nat → ClassId, cA 0 = cI ∧ cA 1 = cJ ∧ cA 2 = cB := ⟨fun k => if k = 0 then cI else if k = 1 then cJ else cB, rfl, rfl, rfl⟩
  subst eI
  subst eJ
  subst eB
  have hK : va_K D CL (tysOf cA) s := by
    refine ⟨hKc, fun k q hq => ?_⟩
    match k, hq with
    | 0, hq => cases hq; exact ⟨fun n z => ⟨fun k h => (by cases h), kI, f2, mI, f3⟩, f1⟩
    | 1, hq => cases hq; exact ⟨fun n z => ⟨fun k h => (by cases h), kJ, g2, mJ, g3⟩, g1⟩
    | 2, hq => cases hq; exact ⟨fun n z => ⟨fun k h => (by cases h), kB, h2, mB, h3⟩, h1⟩
    | k + 3, hq => simp [tysOf] at hq
  have hS : va_S (fun q : Nat => s.heap.size ≤ q) s.heap s.heap [] := va_S.rf
  have hP : va_P D CL [] s.heap := fun k q h => by simp at h
  have hD : va_D (fun q : Nat => s.heap.size ≤ q) [] := ⟨fun i j p q h => by simp at h, fun k q h => by simp at h⟩
  have hl := lv_entry ([.ref b]) (n := 4) (Nat.le_of_ble_eq_true rfl)
  rw [lg_entry_eq]
  generalize (lg_sl ([.ref b]) ++ List.replicate (4 - (lg_sl ([.ref b])).length) Slot.unset).toArray = ls at hl ⊢
  have hl : lv_has ls 4 [(0, .ref b)] := hl
  have En0 : En p s m #[Value.ref b] c code D cA (fun q : Nat => s.heap.size ≤ q) s.heap R_law 4 := ⟨hx, hb, hml, hown, hts, hK, hA⟩
  have hW : Wd D (fun q : Nat => s.heap.size ≤ q) s.heap [] s.heap [] := ⟨hP, hD, hS⟩
  refine cn_make (ty0 := tyX8) En0 (C := RX8) (T := TX8) (N := 12) (ci := 8) rfl in_X tyX8_ok df_X (tg_in 62 (by decide +kernel) (by decide +kernel)) (tg_in 63 (by decide +kernel) (by decide +kernel)) (tg_in 46 (by decide +kernel) (by decide +kernel)) (ct_X (l := l)) (fun n hn => va_Nw.of rfl (hts0 _ (ns_X n hn))) rfl rfl (tg_in 64 (by decide +kernel) (by decide +kernel)) (tg_in 65 (by decide +kernel) (by decide +kernel)) (tg_in 66 (by decide +kernel) (by decide +kernel)) (by decide +kernel) ⟨Nat.le_of_ble_eq_true rfl, Nat.le_of_ble_eq_true rfl⟩ (Nat.le_of_ble_eq_true rfl) (Nat.le_of_ble_eq_true rfl) (Nat.le_of_ble_eq_true rfl) hl.1 hW dV_0 dV_3 dV_4 (fun q0 w H locs hw hW => ?_)
  obtain ⟨q1, q2, q3, q4, q5, q6, q7, q8, q9, q10, q11, q12, q13, q14, q15, q16, q17, q18, q19, q20, q21, q22, q23, q24, q25, q26, q27, q28, q29, q30, q31, q32, q33, q34, q35, q36, rfl⟩ := hw
  refine lv_astore_n (lv' := [(1, .ref q0), (0, .ref b)]) hx hb dV_7 rfl hl (by decide) rfl (fun ls hl => ?_)
  refine cn_make (ty0 := tyX9) En0 (C := RX9) (T := TX9) (N := 42) (ci := 9) rfl in_M tyX9_ok df_M (tg_in 853 (by decide +kernel) (by decide +kernel)) (tg_in 854 (by decide +kernel) (by decide +kernel)) (tg_in 55 (by decide +kernel) (by decide +kernel)) (ct_M (l := l)) (fun _ h => absurd h List.not_mem_nil) rfl rfl (tg_in 855 (by decide +kernel) (by decide +kernel)) (tg_in 856 (by decide +kernel) (by decide +kernel)) (tg_in 857 (by decide +kernel) (by decide +kernel)) (by decide +kernel) ⟨Nat.le_of_ble_eq_true rfl, Nat.le_of_ble_eq_true rfl⟩ (Nat.le_of_ble_eq_true rfl) (Nat.le_of_ble_eq_true rfl) (Nat.le_of_ble_eq_true rfl) hl.1 hW dV_8 dV_11 dV_12 (fun p0 w H locs hw hW => ?_)
  obtain ⟨p1, p2, p3, p4, p5, p6, p7, p8, p9, p10, p11, p12, p13, p14, p15, p16, p17, p18, p19, p20, p21, p22, p23, p24, p25, p26, p27, p28, p29, rfl⟩ := hw
  refine lv_astore_n (lv' := [(2, .ref p0), (1, .ref q0), (0, .ref b)]) hx hb dV_15 rfl hl (by decide) rfl (fun ls hl => ?_)
  refine lv_iconst (v := Int32.ofInt 0) hx hb dV_16 rfl ?_
  refine lv_istore_n (lv' := [(3, .int (Int32.ofInt 0)), (2, .ref p0), (1, .ref q0), (0, .ref b)]) hx hb dV_17 rfl hl (by decide) rfl (fun ls hl => ?_)
  refine W.widen (k := 67) (n := 162888) (Nat.le_of_ble_eq_true rfl) (Nat.le_of_ble_eq_true rfl) ?_
  have hl := lv_sub (l' := [(0, .ref b), (1, .ref q0), (2, .ref p0), (3, .int (Int32.ofInt 0))]) hl [3, 2, 1, 0] rfl
  obtain ⟨a, ha⟩ : ∃ a : Nat → Nat, a = fun i => if i = 1000 then b else (q0 :: q1 :: q2 :: q3 :: q4 :: q5 :: q6 :: q7 :: q8 :: q9 :: q10 :: q11 :: q12 :: q13 :: q14 :: q15 :: q16 :: q17 :: q18 :: q19 :: q20 :: q21 :: q22 :: q23 :: q24 :: q25 :: q26 :: q27 :: q28 :: q29 :: q30 :: q31 :: q32 :: q33 :: q34 :: q35 :: q36 :: p0 :: p1 :: p2 :: p3 :: p4 :: p5 :: p6 :: p7 :: p8 :: p9 :: p10 :: p11 :: p12 :: p13 :: p14 :: p15 :: p16 :: p17 :: p18 :: p19 :: p20 :: p21 :: p22 :: p23 :: p24 :: p25 :: p26 :: p27 :: p28 :: p29 :: []).getD i 0 := ⟨_, rfl⟩
  obtain ⟨zs, hzs⟩ : ∃ zs : Nat → Int, zs = fun j => (xs j).toInt := ⟨_, rfl⟩
  have hxs : ∀ j, rI (zs j) := fun j => by
    rw [hzs]
    exact ⟨Int32.le_toInt _, Int32.toInt_lt _⟩
  have hw : wsOf cA a (σ0 zs L) = ((q0, .inr (8, [.ref q1, .ref q4, .ref q11, .ref q16, .ref q18, .ref q20, .ref q23, .ref q25, .ref q31, .ref q33, .ref q35, .int (Int32.ofInt 0)])) :: (q1, .inr (0, [.ref q2, .ref q3, .int (Int32.ofInt 0), .int (Int32.ofInt 0), .int (Int32.ofInt (-1)), .int (Int32.ofInt (-1))])) :: (q2, .inl (cA 0, 4, .inl (fun _ => Int32.ofInt 0))) :: (q3, .inl (cA 0, 4, .inl (fun _ => Int32.ofInt 0))) :: (q4, .inr (4, [.ref q5, .ref q6, .ref q7, .ref q8, .ref q9, .ref q10, .int (Int32.ofInt 0), .int (Int32.ofInt 0), .int (Int32.ofInt 0)])) :: (q5, .inl (cA 0, 2816, .inl (fun _ => Int32.ofInt 0))) :: (q6, .inl (cA 0, 2816, .inl (fun _ => Int32.ofInt 0))) :: (q7, .inl (cA 0, 5632, .inl (fun _ => Int32.ofInt 0))) :: (q8, .inl (cA 0, 2816, .inl (fun _ => Int32.ofInt 0))) :: (q9, .inl (cA 0, 2816, .inl (fun _ => Int32.ofInt 0))) :: (q10, .inl (cA 0, 10201, .inl (fun _ => Int32.ofInt 0))) :: (q11, .inr (7, [.ref q12, .ref q13, .ref q14, .ref q15, .int (Int32.ofInt 0)])) :: (q12, .inl (cA 0, 200, .inl (fun _ => Int32.ofInt 0))) :: (q13, .inl (cA 0, 100, .inl (fun _ => Int32.ofInt 0))) :: (q14, .inl (cA 0, 100, .inl (fun _ => Int32.ofInt 0))) :: (q15, .inl (cA 0, 100, .inl (fun _ => Int32.ofInt 0))) :: (q16, .inr (3, [.ref q17])) :: (q17, .inl (cA 1, 6100, .inr (.inl (fun _ => Int64.ofInt 0)))) :: (q18, .inr (3, [.ref q19])) :: (q19, .inl (cA 1, 6100, .inr (.inl (fun _ => Int64.ofInt 0)))) :: (q20, .inr (5, [.ref q21, .ref q22, .int (Int32.ofInt 0), .int (Int32.ofInt (-1)), .int (Int32.ofInt 0), .int (Int32.ofInt 0)])) :: (q21, .inl (cA 1, 8192, .inr (.inl (fun _ => Int64.ofInt 0)))) :: (q22, .inl (cA 1, 8192, .inr (.inl (fun _ => Int64.ofInt 0)))) :: (q23, .inr (6, [.ref q24])) :: (q24, .inl (cA 0, 100, .inl (fun _ => Int32.ofInt 0))) :: (q25, .inr (2, [.ref q26, .ref q28, .ref q29, .int (Int32.ofInt 0), .int (Int32.ofInt 0), .int (Int32.ofInt 0), .int (Int32.ofInt (-1))])) :: (q26, .inr (3, [.ref q27])) :: (q27, .inl (cA 1, 6100, .inr (.inl (fun _ => Int64.ofInt 0)))) :: (q28, .inl (cA 0, 100, .inl (fun _ => Int32.ofInt 0))) :: (q29, .inr (1, [.ref q30, .int (Int32.ofInt 0)])) :: (q30, .inl (cA 0, 600, .inl (fun _ => Int32.ofInt 0))) :: (q31, .inr (1, [.ref q32, .int (Int32.ofInt 0)])) :: (q32, .inl (cA 0, 600, .inl (fun _ => Int32.ofInt 0))) :: (q33, .inr (1, [.ref q34, .int (Int32.ofInt 0)])) :: (q34, .inl (cA 0, 600, .inl (fun _ => Int32.ofInt 0))) :: (q35, .inr (1, [.ref q36, .int (Int32.ofInt 0)])) :: (q36, .inl (cA 0, 600, .inl (fun _ => Int32.ofInt 0))) :: (p0, .inr (9, (.int (Int32.ofInt 0) :: .int (Int32.ofInt (-1)) :: .int (Int32.ofInt 0) :: .ref p1 :: .ref p2 :: .int (Int32.ofInt (-1)) :: .ref p3 :: .int (Int32.ofInt 0) :: .ref p4 :: .ref p5 :: .ref p6 :: .ref p7 :: .ref p8 :: .ref p9 :: .ref p10 :: .ref p11 :: .ref p12 :: .int (Int32.ofInt 0) :: .ref p13 :: .ref p14 :: .ref p15 :: .ref p16 :: .ref p17 :: .ref p18 :: .ref p19 :: .ref p20 :: .int (Int32.ofInt 0) :: .int (Int32.ofInt 0) :: .ref p21 :: .ref p22 :: .ref p23 :: .ref p24 :: .int (Int32.ofInt 0) :: .int (Int32.ofInt 0) :: .int (Int32.ofInt 0) :: .ref p25 :: .int (Int32.ofInt 0) :: .ref p26 :: .int (Int32.ofInt 0) :: .ref p27 :: .ref p28 :: .ref p29 :: []))) :: (p1, .inl (cA 0, 4, .inl (fun _ => Int32.ofInt 0))) :: (p2, .inl (cA 0, 4, .inl (fun _ => Int32.ofInt 0))) :: (p3, .inl (cA 0, 11264, .inl (fun _ => Int32.ofInt 0))) :: (p4, .inl (cA 0, 11264, .inl (fun _ => Int32.ofInt 0))) :: (p5, .inl (cA 0, 11264, .inl (fun _ => Int32.ofInt 0))) :: (p6, .inl (cA 0, 11264, .inl (fun _ => Int32.ofInt 0))) :: (p7, .inl (cA 2, 11264, .inl (fun _ => Int32.ofInt 0))) :: (p8, .inl (cA 0, 11264, .inl (fun _ => Int32.ofInt 0))) :: (p9, .inl (cA 0, 11264, .inl (fun _ => Int32.ofInt 0))) :: (p10, .inl (cA 0, 101, .inl (fun _ => Int32.ofInt 0))) :: (p11, .inl (cA 0, 101, .inl (fun _ => Int32.ofInt 0))) :: (p12, .inl (cA 0, 101, .inl (fun _ => Int32.ofInt 0))) :: (p13, .inl (cA 0, 100, .inl (fun _ => Int32.ofInt 0))) :: (p14, .inl (cA 0, 100, .inl (fun _ => Int32.ofInt 0))) :: (p15, .inl (cA 0, 100, .inl (fun _ => Int32.ofInt 0))) :: (p16, .inl (cA 0, 100, .inl (fun _ => Int32.ofInt 0))) :: (p17, .inl (cA 0, 100, .inl (fun _ => Int32.ofInt 0))) :: (p18, .inl (cA 0, 101, .inl (fun _ => Int32.ofInt 0))) :: (p19, .inl (cA 0, 100, .inl (fun _ => Int32.ofInt 0))) :: (p20, .inl (cA 0, 100, .inl (fun _ => Int32.ofInt 0))) :: (p21, .inl (cA 1, 6100, .inr (.inl (fun _ => Int64.ofInt 0)))) :: (p22, .inl (cA 0, 100, .inl (fun _ => Int32.ofInt 0))) :: (p23, .inl (cA 0, 100, .inl (fun _ => Int32.ofInt 0))) :: (p24, .inl (cA 0, 10000, .inl (fun _ => Int32.ofInt 0))) :: (p25, .inl (cA 2, 100, .inl (fun _ => Int32.ofInt 0))) :: (p26, .inl (cA 0, 240, .inl (fun _ => Int32.ofInt 0))) :: (p27, .inl (cA 0, 600, .inl (fun _ => Int32.ofInt 0))) :: (p28, .inl (cA 0, 600, .inl (fun _ => Int32.ofInt 0))) :: (p29, .inl (cA 0, 100, .inl (fun _ => Int32.ofInt 0))) :: []) := by
    rw [ws_0, ha]
    rfl
  obtain ⟨hP, hD, hS⟩ := hW
  simp only [List.append_eq, List.nil_append, List.cons_append, List.append_assoc] at hP hD
  have hP : va_P D CL (wsOf cA a (σ0 zs L)) H := by rw [hw]; exact hP
  have hD : va_D (fun q : Nat => s.heap.size ≤ q) (wsOf cA a (σ0 zs L)) := by rw [hw]; exact hD
  have hG := cut_ok (p := p) (l := l) (e := e) (R := room_1) (s := s) (m := m) (args := #[Value.ref b]) (below := below) (meth := meth) (c := c) (cells := 67) (slots := 162888) (Qf := lw_Z below #[Value.ref b] s) (cc := code) (D := D) (cA := cA) (a := a) (A := fun q : Nat => s.heap.size ≤ q) (H0 := s.heap) (own := R_lawV) (nL := 4) (sc := True) hx hb hml hown hts hK hA ⟨Nat.le_of_ble_eq_true rfl, Nat.le_of_ble_eq_true rfl⟩ (Φ := []) (κ := Q_V) (Γ := ΓV) (rt := 3) (Q := QV) (fun _ h => absurd h List.not_mem_nil) Q_V_ok ΓV_ok (end_V hx hb hr hlocks) (fun _ _ _ _ _ h => absurd h (by decide)) (fun _ _ _ _ h => absurd h (by decide)) oV (cuts_V (n := L) hxs (by omega)) (((L : Int) - 0).toNat, 0, 0) _ List.mem_cons_self (LvV 0) [] (σ0 zs L) ⟨⟨0, rfl, rfl, inv_0 zs L, ⟨rfl, rfl⟩, by omega, by omega⟩, rfl⟩
  refine hG H _ ls hP hD hS ?_ rfl (fun _ => ⟨?_, ?_, ?_, ?_, ?_⟩)
  · rw [ha]
    exact hl
  · have e1 : a 1000 = b := by rw [ha]; rfl
    have e2 : ((σ0 zs L) 1001 0).toNat = L := Int.toNat_natCast L
    have e3 : (fun j => Int32.ofInt ((σ0 zs L) 1000 j)) = xs := by
      funext j
      show Int32.ofInt (zs j) = xs j
      rw [hzs]
      exact Int32.ofInt_toInt _
    rw [e1, e2, e3]
    exact hX
  · rw [ha]
    exact hbl
  · rw [ha]
    exact Nat.not_le.mpr hbl
  · show (0 : Int) ≤ (L : Int)
    omega
  · show (L : Int) < 2147483648
    omega
set_option maxHeartbeats 4000000 in
theorem lw_walk (l : Launch) (hflags : l.flags = flags0) (b : Addr) (xs : List Int32) : MetFree l x (headSpec (Jvm.Cond.code x code maxLocals ret :: tables_1) room_1) (lw_P b xs) (fun _ _ _ _ _ => True) lw_Q := by
  refine MetFree.of_bodyS (code := code) (maxLocals := maxLocals) (ret := ret) (by decide) ?_ ?_
  · intro args s m h hn
    obtain ⟨meth, c, h1, h2, h3, h4, h5, h6, -, -⟩ := Cond.code_spec hn (atoms_spec (ws := Jvm.Cond.code x code maxLocals ret :: tables_1) h _ List.mem_cons_self)
    exact ⟨meth, c, h1, h2, h3, h4, h5, h6⟩
  · intro p e s m args below meth c s₁ B hml0 hP _
    obtain ⟨rfl, hx, hbd, hgv⟩ := hP
    obtain ⟨scr, harrAt, hlist, hof, hsmall⟩ := hx
    obtain ⟨hcb, hkn, -, -⟩ := State.arrayAt?_spec harrAt
    have hown : s.vm.findClass R_law = some m.cls := findClass_of_methodNamed B.named
    have hts0 : ∀ c ∈ (Jvm.Cond.code x code maxLocals ret :: tables_1), c.before #[Value.ref b] s = true := atoms_spec (ws := Jvm.Cond.code x code maxLocals ret :: tables_1) B.pre
    have hts : ∀ w ∈ lw_tbl, w.before #[Value.ref b] s = true := k2_hts_sels lw_privs (fun w hw => hts0 w (List.mem_cons_of_mem _ hw)) lw_privs_ok
    have hml : c.maxLocals = 4 := B.maxLocals_eq (hts0 _ List.mem_cons_self)
    have X₀ : Stand p l e room_1 s m #[Value.ref b] below meth c s₁ [] 0 0 := Stand.of_body B
    have hh0 : s₁.heap = s.heap := by rw [B.state]; rfl
    have hsz : scr.slots.size = xs.length := by rw [← Array.length_toList, hlist, List.length_map]
    have hval : ∀ j : Nat, j < xs.length → scr.slots[j]? = some (.int (xs.getD j 0)) := fun j hj => by
      rw [← Array.getElem?_toList, hlist]
      simp [hj]
    have hbl : b < s.heap.size := (Array.getElem?_eq_some_iff.mp hcb).1
    have hX : va_X b xs.length (fun j => xs.getD j 0) s s.heap := ⟨scr, hcb, hof, hkn, hsz, hval⟩
    have K : W p l e room_1 s m #[Value.ref b] below meth c s₁.heap [] 0 0 (lw_Z below #[Value.ref b] s) (entryFrame m ([Value.ref b] : List Value).toArray 4) := by
      rw [hh0]
      exact whole_start l hflags hbd ⟨B.exec, B.bytes, B.returns, hml, hown, hts, hX, hbl, B.notSynchronized, hgv⟩
    obtain ⟨t, a1, o, b1, b2, b3⟩ := K s₁ rfl X₀
    exact ⟨t, o, a1, b1, b2, b3⟩
theorem lw_pre_spec {args : Array Value} {s : State} (h : (Jvm.Cond.and given_1 narrow_1).before args s = true) (hr : rest_1_c.before args s = true) : ∃ (b : Addr) (xs : List Int32), lw_P b xs args s := by
  have hs := flat_of_before _ h
  have hq := flat_of_before _ hr
  have hc : (Cond.count 1).before args s = true := hs _ (by decide +kernel)
  have harr : (Cond.arrayOf (.arg 0) .int).before args s = true := hs _ (by decide +kernel)
  have hle : (Cond.le (.length (.arg 0)) (.int 2560)).before args s = true := hs _ (by decide +kernel)
  have hlen : (Cond.isInt (.length (.arg 0))).before args s = true := hq _ (by decide +kernel)
  have hall : (Cond.all (.arg 0) (.isInt (.elem (.arg 0) (.index 0)))).before args s = true := hq _ (by decide +kernel)
  obtain ⟨b, xs, hb, hx⟩ := State.ints_of_pre rfl harr hlen hall
  have hsm : xs.length < 2 ^ 31 := hx.choose_spec.2.2.2
  have hev : (Term.length (.arg 0)).eval args s none [] s = some (.int xs.length.toInt32) := hx.length_eval hb
  have hv := Cond.le_ints hev (show (Term.int 2560).eval args s none [] s = some (.int 2560) from rfl)
  have hd : xs.length.toInt32 ≤ 2560 := by
    simpa [Cond.before, Cond.holds, hv] using hle
  have hN : xs.length ≤ 2560 := (Int32.ofNat_le_ofNat hsm (by decide)).mp (show Int32.ofNat xs.length ≤ Int32.ofNat 2560 from hd)
  exact ⟨b, xs, Cond.one_arg hc (show args[0]? = some (.ref b) from hb), hx, hN, h⟩
theorem lw_comes (l : Launch) (hflags : l.flags = flags0) : Comes l x (Jvm.Cond.code x code maxLocals ret :: tables_1) room_1 (fun tb e args s => Calls_1 tb e args s ∧ rest_1 tb e args s ∧ Pre_1 tb e args s)
    (fun _ _ args s o t => lw_Q args s o t) := by
  intro p e ha hc hk s m args below hf hfit hheap happ hpre
  obtain ⟨b, xs, hP⟩ := lw_pre_spec hpre.2.2 hpre.2.1
  obtain ⟨k, o, h1, h2, h3, hQ⟩ := lw_walk l hflags b xs p e ha hc hk s m args below hf ((Spec.applies_iff_loose hf).mp happ).1 hP trivial
  exact ⟨k, o, h1, h2, h3, hQ⟩
theorem lw_frame {s t : State} {o : Outcome} {args : Array Value} (h : Framed s o t [] 67 162888) :
    Framed s o t (fieldLocs frame_1_writes args s ++ arrayLocs frame_1_arrays args s ++ staticLocs frame_1_statics s) 67 162888 := h
theorem lw_limb (L : Cond) (hL : ∀ (args : Array Value) (s t : State), L.after args s (.returned (some (.int 1))) t = true) :
    ArmFor flags0 classFile x code maxLocals ret World_1 tables_1 room_1 Calls_1 rest_1 Pre_1
      (fun tb e a s o t => postC L tb e a s o t ∧ Framed s o t (fieldLocs frame_1_writes a s ++ arrayLocs frame_1_arrays a s ++ staticLocs frame_1_statics s) 67 162888) := by
  intro l hflags _ _ p e ha hc hk s m args below hf hfit hheap happ hpre
  obtain ⟨k, o, h1, h2, h3, rfl, hF⟩ := lw_comes l hflags p e ha hc hk s m args below hf hfit hheap happ hpre
  exact ⟨k, _, h1, h2, h3, hL args s _, lw_frame hF⟩
theorem i_vc : Claimed_1_1 ∧ Claimed_1_2 := ⟨lw_limb limb_1_1 (fun args s t => by simp [limb_1_1, Cond.after, Cond.holds, Cond.value]), lw_limb limb_1_2 (fun args s t => Cond.after_iff.mpr (by
  first | (rw [show limb_1_2 = Cond.eq .result (.int 1) from rfl, Cond.eq_ints (x := 1) (y := 1) rfl rfl]; simp; done) | (simp [limb_1_2, Cond.value, Term.eval]; done)))⟩
