section RM
variable {g : Glob} {S : Scn} {O : Oth}
theorem ac_rem0 {d : Nat} (h8 : d ≤ 8) (hx : o_nx O = nI 0) (hd : o_kn O = nI d) : ACe g mX0_remember [.ref 11, .ref 1] (lay (S, O)) none (lay (S, o_nx' (o_kn' (o_P' O (putP (o_P O) 0 (bec S (o_P O 0)))) (nI (min (d + 1) 8))) (nI 1))) := by
  have hB := ac_becP0 (g := g) (S := S) (O := O)
  generalize putP (o_P O) 0 (bec S (o_P O 0)) = PP at hB ⊢
  have ek : (if (8 : Int32) < o_kn O + 1 then (8 : Int32) else o_kn O + 1) = nI (min (d + 1) 8) := by
    rw [hd, nI_1]
    by_cases h : d = 8
    · subst h; decide
    · rw [if_neg (fun z => by have := (nltI (a := 8) (b := d + 1) (by omega) (by omega)).mp z; omega), Nat.min_eq_left (by omega)]
  have en : o_nx O + 1 = nI 1 := by first | rfl | (rw [hx]; rfl)
  refine acw gdX0_remember 60 rfl ⟨2, 8, _, 13, Or.inl rfl, rfl, vin hx (by decide) (by decide), ?_, ?_⟩
  · show (fun i => if i < 8 then some (13 + 5 * i) else none) (o_nx O).toNatClampNeg = _
    rw [vcl hx (by decide)]
    rfl
  refine ac_to hB ⟨fun _ => ?_, fun h => absurd (hx.symm.trans h) (by decide)⟩
  refine ⟨rfl, ?_⟩
  show List.set (List.set (lay (S, o_P' O PP)) 11 (.inr (0, [.ref 12, .int (o_kn O), .int (o_nx O + 1)]))) 11 (.inr (0, [.ref 12, .int (if (8 : Int32) < o_kn O + 1 then (8 : Int32) else o_kn O + 1), .int (o_nx O + 1)])) = _
  rw [ek, en]
  rfl
theorem ac_rem1 {d : Nat} (h8 : d ≤ 8) (hx : o_nx O = nI 1) (hd : o_kn O = nI d) : ACe g mX0_remember [.ref 11, .ref 1] (lay (S, O)) none (lay (S, o_nx' (o_kn' (o_P' O (putP (o_P O) 1 (bec S (o_P O 1)))) (nI (min (d + 1) 8))) (nI 2))) := by
  have hB := ac_becP1 (g := g) (S := S) (O := O)
  generalize putP (o_P O) 1 (bec S (o_P O 1)) = PP at hB ⊢
  have ek : (if (8 : Int32) < o_kn O + 1 then (8 : Int32) else o_kn O + 1) = nI (min (d + 1) 8) := by
    rw [hd, nI_1]
    by_cases h : d = 8
    · subst h; decide
    · rw [if_neg (fun z => by have := (nltI (a := 8) (b := d + 1) (by omega) (by omega)).mp z; omega), Nat.min_eq_left (by omega)]
  have en : o_nx O + 1 = nI 2 := by first | rfl | (rw [hx]; rfl)
  refine acw gdX0_remember 60 rfl ⟨2, 8, _, 18, Or.inl rfl, rfl, vin hx (by decide) (by decide), ?_, ?_⟩
  · show (fun i => if i < 8 then some (13 + 5 * i) else none) (o_nx O).toNatClampNeg = _
    rw [vcl hx (by decide)]
    rfl
  refine ac_to hB ⟨fun _ => ?_, fun h => absurd (hx.symm.trans h) (by decide)⟩
  refine ⟨rfl, ?_⟩
  show List.set (List.set (lay (S, o_P' O PP)) 11 (.inr (0, [.ref 12, .int (o_kn O), .int (o_nx O + 1)]))) 11 (.inr (0, [.ref 12, .int (if (8 : Int32) < o_kn O + 1 then (8 : Int32) else o_kn O + 1), .int (o_nx O + 1)])) = _
  rw [ek, en]
  rfl
theorem ac_rem2 {d : Nat} (h8 : d ≤ 8) (hx : o_nx O = nI 2) (hd : o_kn O = nI d) : ACe g mX0_remember [.ref 11, .ref 1] (lay (S, O)) none (lay (S, o_nx' (o_kn' (o_P' O (putP (o_P O) 2 (bec S (o_P O 2)))) (nI (min (d + 1) 8))) (nI 3))) := by
  have hB := ac_becP2 (g := g) (S := S) (O := O)
  generalize putP (o_P O) 2 (bec S (o_P O 2)) = PP at hB ⊢
  have ek : (if (8 : Int32) < o_kn O + 1 then (8 : Int32) else o_kn O + 1) = nI (min (d + 1) 8) := by
    rw [hd, nI_1]
    by_cases h : d = 8
    · subst h; decide
    · rw [if_neg (fun z => by have := (nltI (a := 8) (b := d + 1) (by omega) (by omega)).mp z; omega), Nat.min_eq_left (by omega)]
  have en : o_nx O + 1 = nI 3 := by first | rfl | (rw [hx]; rfl)
  refine acw gdX0_remember 60 rfl ⟨2, 8, _, 23, Or.inl rfl, rfl, vin hx (by decide) (by decide), ?_, ?_⟩
  · show (fun i => if i < 8 then some (13 + 5 * i) else none) (o_nx O).toNatClampNeg = _
    rw [vcl hx (by decide)]
    rfl
  refine ac_to hB ⟨fun _ => ?_, fun h => absurd (hx.symm.trans h) (by decide)⟩
  refine ⟨rfl, ?_⟩
  show List.set (List.set (lay (S, o_P' O PP)) 11 (.inr (0, [.ref 12, .int (o_kn O), .int (o_nx O + 1)]))) 11 (.inr (0, [.ref 12, .int (if (8 : Int32) < o_kn O + 1 then (8 : Int32) else o_kn O + 1), .int (o_nx O + 1)])) = _
  rw [ek, en]
  rfl
theorem ac_rem3 {d : Nat} (h8 : d ≤ 8) (hx : o_nx O = nI 3) (hd : o_kn O = nI d) : ACe g mX0_remember [.ref 11, .ref 1] (lay (S, O)) none (lay (S, o_nx' (o_kn' (o_P' O (putP (o_P O) 3 (bec S (o_P O 3)))) (nI (min (d + 1) 8))) (nI 4))) := by
  have hB := ac_becP3 (g := g) (S := S) (O := O)
  generalize putP (o_P O) 3 (bec S (o_P O 3)) = PP at hB ⊢
  have ek : (if (8 : Int32) < o_kn O + 1 then (8 : Int32) else o_kn O + 1) = nI (min (d + 1) 8) := by
    rw [hd, nI_1]
    by_cases h : d = 8
    · subst h; decide
    · rw [if_neg (fun z => by have := (nltI (a := 8) (b := d + 1) (by omega) (by omega)).mp z; omega), Nat.min_eq_left (by omega)]
  have en : o_nx O + 1 = nI 4 := by first | rfl | (rw [hx]; rfl)
  refine acw gdX0_remember 60 rfl ⟨2, 8, _, 28, Or.inl rfl, rfl, vin hx (by decide) (by decide), ?_, ?_⟩
  · show (fun i => if i < 8 then some (13 + 5 * i) else none) (o_nx O).toNatClampNeg = _
    rw [vcl hx (by decide)]
    rfl
  refine ac_to hB ⟨fun _ => ?_, fun h => absurd (hx.symm.trans h) (by decide)⟩
  refine ⟨rfl, ?_⟩
  show List.set (List.set (lay (S, o_P' O PP)) 11 (.inr (0, [.ref 12, .int (o_kn O), .int (o_nx O + 1)]))) 11 (.inr (0, [.ref 12, .int (if (8 : Int32) < o_kn O + 1 then (8 : Int32) else o_kn O + 1), .int (o_nx O + 1)])) = _
  rw [ek, en]
  rfl
theorem ac_rem4 {d : Nat} (h8 : d ≤ 8) (hx : o_nx O = nI 4) (hd : o_kn O = nI d) : ACe g mX0_remember [.ref 11, .ref 1] (lay (S, O)) none (lay (S, o_nx' (o_kn' (o_P' O (putP (o_P O) 4 (bec S (o_P O 4)))) (nI (min (d + 1) 8))) (nI 5))) := by
  have hB := ac_becP4 (g := g) (S := S) (O := O)
  generalize putP (o_P O) 4 (bec S (o_P O 4)) = PP at hB ⊢
  have ek : (if (8 : Int32) < o_kn O + 1 then (8 : Int32) else o_kn O + 1) = nI (min (d + 1) 8) := by
    rw [hd, nI_1]
    by_cases h : d = 8
    · subst h; decide
    · rw [if_neg (fun z => by have := (nltI (a := 8) (b := d + 1) (by omega) (by omega)).mp z; omega), Nat.min_eq_left (by omega)]
  have en : o_nx O + 1 = nI 5 := by first | rfl | (rw [hx]; rfl)
  refine acw gdX0_remember 60 rfl ⟨2, 8, _, 33, Or.inl rfl, rfl, vin hx (by decide) (by decide), ?_, ?_⟩
  · show (fun i => if i < 8 then some (13 + 5 * i) else none) (o_nx O).toNatClampNeg = _
    rw [vcl hx (by decide)]
    rfl
  refine ac_to hB ⟨fun _ => ?_, fun h => absurd (hx.symm.trans h) (by decide)⟩
  refine ⟨rfl, ?_⟩
  show List.set (List.set (lay (S, o_P' O PP)) 11 (.inr (0, [.ref 12, .int (o_kn O), .int (o_nx O + 1)]))) 11 (.inr (0, [.ref 12, .int (if (8 : Int32) < o_kn O + 1 then (8 : Int32) else o_kn O + 1), .int (o_nx O + 1)])) = _
  rw [ek, en]
  rfl
theorem ac_rem5 {d : Nat} (h8 : d ≤ 8) (hx : o_nx O = nI 5) (hd : o_kn O = nI d) : ACe g mX0_remember [.ref 11, .ref 1] (lay (S, O)) none (lay (S, o_nx' (o_kn' (o_P' O (putP (o_P O) 5 (bec S (o_P O 5)))) (nI (min (d + 1) 8))) (nI 6))) := by
  have hB := ac_becP5 (g := g) (S := S) (O := O)
  generalize putP (o_P O) 5 (bec S (o_P O 5)) = PP at hB ⊢
  have ek : (if (8 : Int32) < o_kn O + 1 then (8 : Int32) else o_kn O + 1) = nI (min (d + 1) 8) := by
    rw [hd, nI_1]
    by_cases h : d = 8
    · subst h; decide
    · rw [if_neg (fun z => by have := (nltI (a := 8) (b := d + 1) (by omega) (by omega)).mp z; omega), Nat.min_eq_left (by omega)]
  have en : o_nx O + 1 = nI 6 := by first | rfl | (rw [hx]; rfl)
  refine acw gdX0_remember 60 rfl ⟨2, 8, _, 38, Or.inl rfl, rfl, vin hx (by decide) (by decide), ?_, ?_⟩
  · show (fun i => if i < 8 then some (13 + 5 * i) else none) (o_nx O).toNatClampNeg = _
    rw [vcl hx (by decide)]
    rfl
  refine ac_to hB ⟨fun _ => ?_, fun h => absurd (hx.symm.trans h) (by decide)⟩
  refine ⟨rfl, ?_⟩
  show List.set (List.set (lay (S, o_P' O PP)) 11 (.inr (0, [.ref 12, .int (o_kn O), .int (o_nx O + 1)]))) 11 (.inr (0, [.ref 12, .int (if (8 : Int32) < o_kn O + 1 then (8 : Int32) else o_kn O + 1), .int (o_nx O + 1)])) = _
  rw [ek, en]
  rfl
theorem ac_rem6 {d : Nat} (h8 : d ≤ 8) (hx : o_nx O = nI 6) (hd : o_kn O = nI d) : ACe g mX0_remember [.ref 11, .ref 1] (lay (S, O)) none (lay (S, o_nx' (o_kn' (o_P' O (putP (o_P O) 6 (bec S (o_P O 6)))) (nI (min (d + 1) 8))) (nI 7))) := by
  have hB := ac_becP6 (g := g) (S := S) (O := O)
  generalize putP (o_P O) 6 (bec S (o_P O 6)) = PP at hB ⊢
  have ek : (if (8 : Int32) < o_kn O + 1 then (8 : Int32) else o_kn O + 1) = nI (min (d + 1) 8) := by
    rw [hd, nI_1]
    by_cases h : d = 8
    · subst h; decide
    · rw [if_neg (fun z => by have := (nltI (a := 8) (b := d + 1) (by omega) (by omega)).mp z; omega), Nat.min_eq_left (by omega)]
  have en : o_nx O + 1 = nI 7 := by first | rfl | (rw [hx]; rfl)
  refine acw gdX0_remember 60 rfl ⟨2, 8, _, 43, Or.inl rfl, rfl, vin hx (by decide) (by decide), ?_, ?_⟩
  · show (fun i => if i < 8 then some (13 + 5 * i) else none) (o_nx O).toNatClampNeg = _
    rw [vcl hx (by decide)]
    rfl
  refine ac_to hB ⟨fun _ => ?_, fun h => absurd (hx.symm.trans h) (by decide)⟩
  refine ⟨rfl, ?_⟩
  show List.set (List.set (lay (S, o_P' O PP)) 11 (.inr (0, [.ref 12, .int (o_kn O), .int (o_nx O + 1)]))) 11 (.inr (0, [.ref 12, .int (if (8 : Int32) < o_kn O + 1 then (8 : Int32) else o_kn O + 1), .int (o_nx O + 1)])) = _
  rw [ek, en]
  rfl
theorem ac_rem7 {d : Nat} (h8 : d ≤ 8) (hx : o_nx O = nI 7) (hd : o_kn O = nI d) : ACe g mX0_remember [.ref 11, .ref 1] (lay (S, O)) none (lay (S, o_nx' (o_kn' (o_P' O (putP (o_P O) 7 (bec S (o_P O 7)))) (nI (min (d + 1) 8))) (nI 0))) := by
  have hB := ac_becP7 (g := g) (S := S) (O := O)
  generalize putP (o_P O) 7 (bec S (o_P O 7)) = PP at hB ⊢
  have ek : (if (8 : Int32) < o_kn O + 1 then (8 : Int32) else o_kn O + 1) = nI (min (d + 1) 8) := by
    rw [hd, nI_1]
    by_cases h : d = 8
    · subst h; decide
    · rw [if_neg (fun z => by have := (nltI (a := 8) (b := d + 1) (by omega) (by omega)).mp z; omega), Nat.min_eq_left (by omega)]
  have en : 0 = nI 0 := by first | rfl | (rw [hx]; rfl)
  refine acw gdX0_remember 60 rfl ⟨2, 8, _, 48, Or.inl rfl, rfl, vin hx (by decide) (by decide), ?_, ?_⟩
  · show (fun i => if i < 8 then some (13 + 5 * i) else none) (o_nx O).toNatClampNeg = _
    rw [vcl hx (by decide)]
    rfl
  refine ac_to hB ⟨fun h => absurd hx h, fun _ => ?_⟩
  refine ⟨rfl, ?_⟩
  show List.set (List.set (lay (S, o_P' O PP)) 11 (.inr (0, [.ref 12, .int (o_kn O), .int (0)]))) 11 (.inr (0, [.ref 12, .int (if (8 : Int32) < o_kn O + 1 then (8 : Int32) else o_kn O + 1), .int (0)])) = _
  rw [ek, en]
  rfl
theorem ac_remember {d x : Nat} (h8 : d ≤ 8) (hx8 : x < 8) (hx : o_nx O = nI x) (hd : o_kn O = nI d) : ACe g mX0_remember [.ref 11, .ref 1] (lay (S, O)) none (lay (S, o_nx' (o_kn' (o_P' O (putP (o_P O) x (bec S (o_P O x)))) (nI (min (d + 1) 8))) (nI ((x + 1) % 8)))) := by
  rcases (show x = 0 ∨ x = 1 ∨ x = 2 ∨ x = 3 ∨ x = 4 ∨ x = 5 ∨ x = 6 ∨ x = 7 by omega) with rfl | rfl | rfl | rfl | rfl | rfl | rfl | rfl
  · exact ac_rem0 h8 hx hd
  · exact ac_rem1 h8 hx hd
  · exact ac_rem2 h8 hx hd
  · exact ac_rem3 h8 hx hd
  · exact ac_rem4 h8 hx hd
  · exact ac_rem5 h8 hx hd
  · exact ac_rem6 h8 hx hd
  · exact ac_rem7 h8 hx hd
end RM
