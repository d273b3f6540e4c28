section RS
variable {g : Glob} {S : Scn} {O : Oth}
def nG (now past : Fn) (d : Nat) : Fn := if d < 8 then va_cpy now past 0 (64 * d) 64 else va_cpy now (va_cpy past past 64 0 448) 0 448 64
theorem ac_hp {M : Mth} {args : List Value} {h h' : AH} {Q : Option Value → AH → Prop} (e : h = h') (K : AC g M args h' Q) : AC g M args h Q := e ▸ K
theorem am_note {d : Nat} (h8 : d ≤ 8) (hd : z_deeds (o_M O) = nI d) : ACe g mX6_note [.ref 94] (lay (S, O)) none (lay (S, o_M' O (z_deeds' (z_past' (o_M O) (nG (z_now (o_M O)) (z_past (o_M O)) d)) (nI (min (d + 1) 8))))) := by
  by_cases h : d < 8
  · have e1 : nG (z_now (o_M O)) (z_past (o_M O)) d = va_cpy (z_now (o_M O)) (z_past (o_M O)) 0 (64 * d) 64 := if_pos h
    rw [e1, Nat.min_eq_left (by omega)]
    exact am_note7 hd h
  · obtain rfl : d = 8 := by omega
    have e1 : nG (z_now (o_M O)) (z_past (o_M O)) 8 = va_cpy (z_now (o_M O)) (va_cpy (z_past (o_M O)) (z_past (o_M O)) 64 0 448) 0 448 64 := if_neg h
    rw [e1]
    exact am_note8 hd
theorem past_step {d x : Nat} (h8 : d ≤ 8) (hx : x < 8) (hP : ∀ j, j < d → Rw (o_P O ((x + 8 - d + j) % 8)) (row (z_past (o_M O)) j)) (hR : Rw S (z_now (o_M O))) {O' : Oth} (e1 : o_P O' = putP (o_P O) x (bec S (o_P O x))) (e2 : o_kn O' = nI (min (d + 1) 8)) (e3 : o_nx O' = nI ((x + 1) % 8)) (e4 : z_past (o_M O') = nG (z_now (o_M O)) (z_past (o_M O)) d) (e5 : z_deeds (o_M O') = nI (min (d + 1) 8)) : iPast O' := by
  refine ⟨min (d + 1) 8, (x + 1) % 8, by omega, by omega, e2, e5, e3, fun j hj => ?_⟩
  rw [e1, e4]
  by_cases h : d < 8
  · have en : nG (z_now (o_M O)) (z_past (o_M O)) d = va_cpy (z_now (o_M O)) (z_past (o_M O)) 0 (64 * d) 64 := if_pos h
    rw [en]
    by_cases hjd : j = d
    · have ei : ((x + 1) % 8 + 8 - min (d + 1) 8 + j) % 8 = x := by omega
      rw [ei]
      have ep : putP (o_P O) x (bec S (o_P O x)) x = bec S (o_P O x) := if_pos rfl
      rw [ep]
      refine hR.bec.cg (fun i hi => ?_)
      unfold row
      rw [pk_cpy_in (by omega) (by omega)]
      exact congrArg _ (by omega)
    · have ei : ((x + 1) % 8 + 8 - min (d + 1) 8 + j) % 8 = (x + 8 - d + j) % 8 := by omega
      rw [ei]
      have ep : putP (o_P O) x (bec S (o_P O x)) ((x + 8 - d + j) % 8) = o_P O ((x + 8 - d + j) % 8) := if_neg (by omega)
      rw [ep]
      refine (hP j (by omega)).cg (fun i hi => ?_)
      unfold row
      rw [pk_cpy_out (by omega)]
  · obtain rfl : d = 8 := by omega
    have en : nG (z_now (o_M O)) (z_past (o_M O)) 8 = va_cpy (z_now (o_M O)) (va_cpy (z_past (o_M O)) (z_past (o_M O)) 64 0 448) 0 448 64 := if_neg h
    rw [en]
    by_cases hjd : j = 7
    · subst hjd
      have ei : ((x + 1) % 8 + 8 - min (8 + 1) 8 + 7) % 8 = x := by omega
      rw [ei]
      have ep : putP (o_P O) x (bec S (o_P O x)) x = bec S (o_P O x) := if_pos rfl
      rw [ep]
      refine hR.bec.cg (fun i hi => ?_)
      unfold row
      rw [pk_cpy_in (by omega) (by omega)]
      exact congrArg _ (by omega)
    · have ei : ((x + 1) % 8 + 8 - min (8 + 1) 8 + j) % 8 = (x + 8 - 8 + (j + 1)) % 8 := by omega
      rw [ei]
      have ep : putP (o_P O) x (bec S (o_P O x)) ((x + 8 - 8 + (j + 1)) % 8) = o_P O ((x + 8 - 8 + (j + 1)) % 8) := if_neg (by omega)
      rw [ep]
      refine (hP (j + 1) (by omega)).cg (fun i hi => ?_)
      unfold row
      rw [pk_cpy_out (by omega), pk_cpy_in (by omega) (by omega)]
      exact congrArg _ (by omega)
theorem ac_res0 {d : Nat} (h8 : d + 1 ≤ 8) (hx : o_nx O = nI 1) (hd : o_kn O = nI (d + 1)) : ACe g mX0_restore [.ref 11, .ref 1] (lay (S, O)) (some (.int 1)) (lay (bec (o_P O 0) S, o_kn' (o_nx' O (nI 0)) (nI d))) := by
  have ek : o_kn O - 1 = nI d := by rw [hd]; exact nI_pred d
  have en : o_nx O - 1 = nI 0 := by first | rfl | (rw [hx]; rfl)
  have hB := ac_becQ0 (g := g) (S := S) (O := o_kn' (o_nx' O (nI 0)) (nI d))
  refine acw gdX0_restore 60 rfl ⟨fun _ => ⟨fun _ => ?_, fun h => absurd (hx.symm.trans h) (by decide)⟩, fun h => absurd (hd.symm.trans h) (fun z => by have := (neqI (a := d + 1) (b := 0) (by omega) (by omega)).mp z; omega)⟩
  refine ⟨2, 8, _, 13, Or.inl rfl, rfl, vin en (by decide) (by decide), ?_, ?_⟩
  · show (fun i => if i < 8 then some (13 + 5 * i) else none) (o_nx O - 1 : Int32).toNatClampNeg = _
    rw [vcl en (by decide)]
    rfl
  refine ac_hp ?_ (ac_to hB ⟨rfl, rfl, rfl⟩)
  show List.set (List.set (lay (S, O)) 11 (.inr (0, [.ref 12, .int (o_kn O), .int (o_nx O - 1)]))) 11 (.inr (0, [.ref 12, .int (o_kn O - 1), .int (o_nx O - 1)])) = _
  rw [ek, en]
  rfl
theorem ac_res1 {d : Nat} (h8 : d + 1 ≤ 8) (hx : o_nx O = nI 2) (hd : o_kn O = nI (d + 1)) : ACe g mX0_restore [.ref 11, .ref 1] (lay (S, O)) (some (.int 1)) (lay (bec (o_P O 1) S, o_kn' (o_nx' O (nI 1)) (nI d))) := by
  have ek : o_kn O - 1 = nI d := by rw [hd]; exact nI_pred d
  have en : o_nx O - 1 = nI 1 := by first | rfl | (rw [hx]; rfl)
  have hB := ac_becQ1 (g := g) (S := S) (O := o_kn' (o_nx' O (nI 1)) (nI d))
  refine acw gdX0_restore 60 rfl ⟨fun _ => ⟨fun _ => ?_, fun h => absurd (hx.symm.trans h) (by decide)⟩, fun h => absurd (hd.symm.trans h) (fun z => by have := (neqI (a := d + 1) (b := 0) (by omega) (by omega)).mp z; omega)⟩
  refine ⟨2, 8, _, 18, Or.inl rfl, rfl, vin en (by decide) (by decide), ?_, ?_⟩
  · show (fun i => if i < 8 then some (13 + 5 * i) else none) (o_nx O - 1 : Int32).toNatClampNeg = _
    rw [vcl en (by decide)]
    rfl
  refine ac_hp ?_ (ac_to hB ⟨rfl, rfl, rfl⟩)
  show List.set (List.set (lay (S, O)) 11 (.inr (0, [.ref 12, .int (o_kn O), .int (o_nx O - 1)]))) 11 (.inr (0, [.ref 12, .int (o_kn O - 1), .int (o_nx O - 1)])) = _
  rw [ek, en]
  rfl
theorem ac_res2 {d : Nat} (h8 : d + 1 ≤ 8) (hx : o_nx O = nI 3) (hd : o_kn O = nI (d + 1)) : ACe g mX0_restore [.ref 11, .ref 1] (lay (S, O)) (some (.int 1)) (lay (bec (o_P O 2) S, o_kn' (o_nx' O (nI 2)) (nI d))) := by
  have ek : o_kn O - 1 = nI d := by rw [hd]; exact nI_pred d
  have en : o_nx O - 1 = nI 2 := by first | rfl | (rw [hx]; rfl)
  have hB := ac_becQ2 (g := g) (S := S) (O := o_kn' (o_nx' O (nI 2)) (nI d))
  refine acw gdX0_restore 60 rfl ⟨fun _ => ⟨fun _ => ?_, fun h => absurd (hx.symm.trans h) (by decide)⟩, fun h => absurd (hd.symm.trans h) (fun z => by have := (neqI (a := d + 1) (b := 0) (by omega) (by omega)).mp z; omega)⟩
  refine ⟨2, 8, _, 23, Or.inl rfl, rfl, vin en (by decide) (by decide), ?_, ?_⟩
  · show (fun i => if i < 8 then some (13 + 5 * i) else none) (o_nx O - 1 : Int32).toNatClampNeg = _
    rw [vcl en (by decide)]
    rfl
  refine ac_hp ?_ (ac_to hB ⟨rfl, rfl, rfl⟩)
  show List.set (List.set (lay (S, O)) 11 (.inr (0, [.ref 12, .int (o_kn O), .int (o_nx O - 1)]))) 11 (.inr (0, [.ref 12, .int (o_kn O - 1), .int (o_nx O - 1)])) = _
  rw [ek, en]
  rfl
theorem ac_res3 {d : Nat} (h8 : d + 1 ≤ 8) (hx : o_nx O = nI 4) (hd : o_kn O = nI (d + 1)) : ACe g mX0_restore [.ref 11, .ref 1] (lay (S, O)) (some (.int 1)) (lay (bec (o_P O 3) S, o_kn' (o_nx' O (nI 3)) (nI d))) := by
  have ek : o_kn O - 1 = nI d := by rw [hd]; exact nI_pred d
  have en : o_nx O - 1 = nI 3 := by first | rfl | (rw [hx]; rfl)
  have hB := ac_becQ3 (g := g) (S := S) (O := o_kn' (o_nx' O (nI 3)) (nI d))
  refine acw gdX0_restore 60 rfl ⟨fun _ => ⟨fun _ => ?_, fun h => absurd (hx.symm.trans h) (by decide)⟩, fun h => absurd (hd.symm.trans h) (fun z => by have := (neqI (a := d + 1) (b := 0) (by omega) (by omega)).mp z; omega)⟩
  refine ⟨2, 8, _, 28, Or.inl rfl, rfl, vin en (by decide) (by decide), ?_, ?_⟩
  · show (fun i => if i < 8 then some (13 + 5 * i) else none) (o_nx O - 1 : Int32).toNatClampNeg = _
    rw [vcl en (by decide)]
    rfl
  refine ac_hp ?_ (ac_to hB ⟨rfl, rfl, rfl⟩)
  show List.set (List.set (lay (S, O)) 11 (.inr (0, [.ref 12, .int (o_kn O), .int (o_nx O - 1)]))) 11 (.inr (0, [.ref 12, .int (o_kn O - 1), .int (o_nx O - 1)])) = _
  rw [ek, en]
  rfl
theorem ac_res4 {d : Nat} (h8 : d + 1 ≤ 8) (hx : o_nx O = nI 5) (hd : o_kn O = nI (d + 1)) : ACe g mX0_restore [.ref 11, .ref 1] (lay (S, O)) (some (.int 1)) (lay (bec (o_P O 4) S, o_kn' (o_nx' O (nI 4)) (nI d))) := by
  have ek : o_kn O - 1 = nI d := by rw [hd]; exact nI_pred d
  have en : o_nx O - 1 = nI 4 := by first | rfl | (rw [hx]; rfl)
  have hB := ac_becQ4 (g := g) (S := S) (O := o_kn' (o_nx' O (nI 4)) (nI d))
  refine acw gdX0_restore 60 rfl ⟨fun _ => ⟨fun _ => ?_, fun h => absurd (hx.symm.trans h) (by decide)⟩, fun h => absurd (hd.symm.trans h) (fun z => by have := (neqI (a := d + 1) (b := 0) (by omega) (by omega)).mp z; omega)⟩
  refine ⟨2, 8, _, 33, Or.inl rfl, rfl, vin en (by decide) (by decide), ?_, ?_⟩
  · show (fun i => if i < 8 then some (13 + 5 * i) else none) (o_nx O - 1 : Int32).toNatClampNeg = _
    rw [vcl en (by decide)]
    rfl
  refine ac_hp ?_ (ac_to hB ⟨rfl, rfl, rfl⟩)
  show List.set (List.set (lay (S, O)) 11 (.inr (0, [.ref 12, .int (o_kn O), .int (o_nx O - 1)]))) 11 (.inr (0, [.ref 12, .int (o_kn O - 1), .int (o_nx O - 1)])) = _
  rw [ek, en]
  rfl
theorem ac_res5 {d : Nat} (h8 : d + 1 ≤ 8) (hx : o_nx O = nI 6) (hd : o_kn O = nI (d + 1)) : ACe g mX0_restore [.ref 11, .ref 1] (lay (S, O)) (some (.int 1)) (lay (bec (o_P O 5) S, o_kn' (o_nx' O (nI 5)) (nI d))) := by
  have ek : o_kn O - 1 = nI d := by rw [hd]; exact nI_pred d
  have en : o_nx O - 1 = nI 5 := by first | rfl | (rw [hx]; rfl)
  have hB := ac_becQ5 (g := g) (S := S) (O := o_kn' (o_nx' O (nI 5)) (nI d))
  refine acw gdX0_restore 60 rfl ⟨fun _ => ⟨fun _ => ?_, fun h => absurd (hx.symm.trans h) (by decide)⟩, fun h => absurd (hd.symm.trans h) (fun z => by have := (neqI (a := d + 1) (b := 0) (by omega) (by omega)).mp z; omega)⟩
  refine ⟨2, 8, _, 38, Or.inl rfl, rfl, vin en (by decide) (by decide), ?_, ?_⟩
  · show (fun i => if i < 8 then some (13 + 5 * i) else none) (o_nx O - 1 : Int32).toNatClampNeg = _
    rw [vcl en (by decide)]
    rfl
  refine ac_hp ?_ (ac_to hB ⟨rfl, rfl, rfl⟩)
  show List.set (List.set (lay (S, O)) 11 (.inr (0, [.ref 12, .int (o_kn O), .int (o_nx O - 1)]))) 11 (.inr (0, [.ref 12, .int (o_kn O - 1), .int (o_nx O - 1)])) = _
  rw [ek, en]
  rfl
theorem ac_res6 {d : Nat} (h8 : d + 1 ≤ 8) (hx : o_nx O = nI 7) (hd : o_kn O = nI (d + 1)) : ACe g mX0_restore [.ref 11, .ref 1] (lay (S, O)) (some (.int 1)) (lay (bec (o_P O 6) S, o_kn' (o_nx' O (nI 6)) (nI d))) := by
  have ek : o_kn O - 1 = nI d := by rw [hd]; exact nI_pred d
  have en : o_nx O - 1 = nI 6 := by first | rfl | (rw [hx]; rfl)
  have hB := ac_becQ6 (g := g) (S := S) (O := o_kn' (o_nx' O (nI 6)) (nI d))
  refine acw gdX0_restore 60 rfl ⟨fun _ => ⟨fun _ => ?_, fun h => absurd (hx.symm.trans h) (by decide)⟩, fun h => absurd (hd.symm.trans h) (fun z => by have := (neqI (a := d + 1) (b := 0) (by omega) (by omega)).mp z; omega)⟩
  refine ⟨2, 8, _, 43, Or.inl rfl, rfl, vin en (by decide) (by decide), ?_, ?_⟩
  · show (fun i => if i < 8 then some (13 + 5 * i) else none) (o_nx O - 1 : Int32).toNatClampNeg = _
    rw [vcl en (by decide)]
    rfl
  refine ac_hp ?_ (ac_to hB ⟨rfl, rfl, rfl⟩)
  show List.set (List.set (lay (S, O)) 11 (.inr (0, [.ref 12, .int (o_kn O), .int (o_nx O - 1)]))) 11 (.inr (0, [.ref 12, .int (o_kn O - 1), .int (o_nx O - 1)])) = _
  rw [ek, en]
  rfl
theorem ac_res7 {d : Nat} (h8 : d + 1 ≤ 8) (hx : o_nx O = nI 0) (hd : o_kn O = nI (d + 1)) : ACe g mX0_restore [.ref 11, .ref 1] (lay (S, O)) (some (.int 1)) (lay (bec (o_P O 7) S, o_kn' (o_nx' O (nI 7)) (nI d))) := by
  have ek : o_kn O - 1 = nI d := by rw [hd]; exact nI_pred d
  have en : 7 = nI 7 := by first | rfl | (rw [hx]; rfl)
  have hB := ac_becQ7 (g := g) (S := S) (O := o_kn' (o_nx' O (nI 7)) (nI d))
  refine acw gdX0_restore 60 rfl ⟨fun _ => ⟨fun h => absurd hx h, fun _ => ?_⟩, fun h => absurd (hd.symm.trans h) (fun z => by have := (neqI (a := d + 1) (b := 0) (by omega) (by omega)).mp z; omega)⟩
  refine ⟨2, 8, _, 48, Or.inl rfl, rfl, vin en (by decide) (by decide), ?_, ?_⟩
  · show (fun i => if i < 8 then some (13 + 5 * i) else none) (7 : Int32).toNatClampNeg = _
    rw [vcl en (by decide)]
    rfl
  refine ac_hp ?_ (ac_to hB ⟨rfl, rfl, rfl⟩)
  show List.set (List.set (lay (S, O)) 11 (.inr (0, [.ref 12, .int (o_kn O), .int (7)]))) 11 (.inr (0, [.ref 12, .int (o_kn O - 1), .int (7)])) = _
  rw [ek, en]
  rfl
theorem ac_restore {d x : Nat} (h8 : d + 1 ≤ 8) (hx8 : x < 8) (hx : o_nx O = nI x) (hd : o_kn O = nI (d + 1)) : ACe g mX0_restore [.ref 11, .ref 1] (lay (S, O)) (some (.int 1)) (lay (bec (o_P O ((x + 7) % 8)) S, o_kn' (o_nx' O (nI ((x + 7) % 8))) (nI d))) := by
  rcases (show x = 0 ∨ x = 1 ∨ x = 2 ∨ x = 3 ∨ x = 4 ∨ x = 5 ∨ x = 6 ∨ x = 7 by omega) with rfl | rfl | rfl | rfl | rfl | rfl | rfl | rfl
  · exact ac_res7 h8 hx hd
  · exact ac_res0 h8 hx hd
  · exact ac_res1 h8 hx hd
  · exact ac_res2 h8 hx hd
  · exact ac_res3 h8 hx hd
  · exact ac_res4 h8 hx hd
  · exact ac_res5 h8 hx hd
  · exact ac_res6 h8 hx hd
theorem ac_restore0 (hd : o_kn O = nI 0) : ACe g mX0_restore [.ref 11, .ref 1] (lay (S, O)) (some (.int 0)) (lay (S, O)) :=
  acw gdX0_restore 60 rfl ⟨fun h => absurd hd h, fun _ => ⟨rfl, rfl, rfl⟩⟩
theorem pr_undo : Pr g mX5_undo mX6_undo [] := by
  rintro ⟨S, O⟩ ⟨i1, ⟨d, x, h8, hx8, k1, k2, k3, hP⟩, i3, i4, i5⟩
  cases d with
  | zero =>
    refine ⟨-2, (S, O), (S, O), ?_, ?_, ⟨i1, ⟨0, x, h8, hx8, k1, k2, k3, hP⟩, i3, i4, i5⟩⟩
    · exact acw gdX5_undo 40 rfl (ac_to (ac_restore0 k1) ⟨fun _ => ⟨rfl, rfl⟩, fun h => absurd rfl h⟩)
    · exact acw gdX6_undo 40 rfl ⟨fun h => absurd k2 h, fun _ => ⟨rfl, rfl⟩⟩
  | succ d =>
    have ek : z_deeds (o_M O) - 1 = nI d := by
      have : z_deeds (o_M O) = nI (d + 1) := k2
      rw [this]; exact nI_pred d
    have hB := am_bringPN (g := g) (S := bec (o_P O ((x + 7) % 8)) S) (O := o_M' (o_kn' (o_nx' O (nI ((x + 7) % 8))) (nI d)) (z_deeds' (o_M O) (nI d))) (i := 64 * d) (by omega)
    have hrow := hP d (by omega)
    rw [show (x + 8 - (d + 1) + d) % 8 = (x + 7) % 8 by omega] at hrow
    have hR : Rw (bec (o_P O ((x + 7) % 8)) S) (va_cpy (z_past (o_M O)) (z_now (o_M O)) (64 * d) 0 64) := by
      refine hrow.bec.cg (fun i hi => ?_)
      unfold row
      rw [pk_cpy_in (by omega) (by omega)]
      congr 1
    have hC := ac_restore (g := g) (S := S) (O := O) h8 hx8 k3 k1
    generalize hN : va_cpy (z_past (o_M O)) (z_now (o_M O)) (64 * d) 0 64 = N at hR
    replace hB : ACe g mX6_bring [.ref 97, .int (nI (64 * d)), .ref 95, .int 0] (lay (bec (o_P O ((x + 7) % 8)) S, o_M' (o_kn' (o_nx' O (nI ((x + 7) % 8))) (nI d)) (z_deeds' (o_M O) (nI d)))) none (lay (bec (o_P O ((x + 7) % 8)) S, o_M' (o_kn' (o_nx' O (nI ((x + 7) % 8))) (nI d)) (z_now' (z_deeds' (o_M O) (nI d)) N))) := by rw [← hN]; exact hB
    clear hN
    generalize bec (o_P O ((x + 7) % 8)) S = S' at hB hR hC
    refine ⟨nI d, (S', o_kn' (o_nx' O (nI ((x + 7) % 8))) (nI d)), (S', o_M' (o_kn' (o_nx' O (nI ((x + 7) % 8))) (nI d)) (z_now' (z_deeds' (o_M O) (nI d)) N)), ?_, ?_, ⟨hR, ⟨d, (x + 7) % 8, by omega, by omega, rfl, rfl, rfl, fun j hj => ?_⟩, i3, i4, i5⟩⟩
    · exact acw gdX5_undo 40 rfl (ac_to hC ⟨fun h => absurd h (by decide), fun _ => ⟨rfl, rfl⟩⟩)
    · have e1 : 64 * nI d = nI (64 * d) := by rw [nlit, pk_mul]
      refine acw gdX6_undo 40 rfl ⟨fun _ => ?_, fun h => absurd (k2.symm.trans h) (fun z => by have := (neqI (a := d + 1) (b := 0) (by omega) (by omega)).mp z; omega)⟩
      refine ac_ar (by show [Value.ref 97, Value.int (64 * (z_deeds (o_M O) - 1)), Value.ref 95, Value.int 0] = _; rw [ek, e1]) (ac_hp ?_ (ac_to hB ⟨rfl, rfl⟩))
      show List.set (lay _) 94 (.inr (6, [_, _, _, .int (z_deeds (o_M O) - 1), _, _, _, _, _, _, _, _, _, _, _, _, _, _, _, _, _, _, _])) = _
      rw [ek]
      rfl
    · have := hP j (by omega)
      rw [show (x + 8 - (d + 1) + j) % 8 = ((x + 7) % 8 + 8 - d + j) % 8 by omega] at this
      exact this
end RS
