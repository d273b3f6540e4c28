section KB
variable {g : Glob} {S : Scn} {O : Oth}
theorem ac_becI {i : Nat} (hi : i < 2) : ACe g mX3_become [.ref (83 + 5 * i), .ref 1] (lay (S, O)) none (lay (S, o_I' O (putP (o_I O) i (bec S (o_I O i))))) := by
  rcases (show i = 0 ∨ i = 1 by omega) with rfl | rfl
  · exact ac_becI0
  · exact ac_becI1
theorem ac_becJ {i : Nat} (hi : i < 2) : ACe g mX3_become [.ref 1, .ref (83 + 5 * i)] (lay (S, O)) none (lay (bec (o_I O i) S, O)) := by
  rcases (show i = 0 ∨ i = 1 by omega) with rfl | rfl
  · exact ac_becJ0
  · exact ac_becJ1
theorem nar1 : vp_nar .boolean 1 = 1 := by decide
theorem bad2 {x : Int32} (h : x < 0 ∨ nI 2 ≤ x) : ACe g mX5_keep [.ref 0, .int x] (lay (S, O)) (some (.int (-1))) (lay (S, O)) ∧ ACe g mX5_back [.ref 0, .int x] (lay (S, O)) (some (.int (-1))) (lay (S, O)) ∧ ACe g mX6_keep [.ref 94, .int x] (lay (S, O)) (some (.int (-1))) (lay (S, O)) ∧ ACe g mX6_back [.ref 94, .int x] (lay (S, O)) (some (.int (-1))) (lay (S, O)) := by
  have h2 : ∀ (y : x < 2), ¬ x < 0 → False := fun y z => by
    rcases h with h | h
    · exact z h
    · exact absurd y (Int32.not_lt.mpr h)
  have h3 : bi (!decide (x < 0) && !decide (1 < x)) = 0 := by
    rcases h with h | h
    · simp [bi, h]
    · have : 1 < x := by
        rw [Int32.lt_iff_toInt_lt]
        have e1 : (1 : Int32).toInt = 1 := by decide
        have e2 : (nI 2).toInt ≤ x.toInt := Int32.le_iff_toInt_le.mp h
        have e3 : (nI 2).toInt = 2 := by decide
        omega
      simp [bi, this]
  refine ⟨?_, ?_, ?_, ?_⟩
  · exact acw gdX5_keep 40 rfl ⟨fun _ => ⟨rfl, rfl⟩, fun h1 => ⟨fun y => (h2 y h1).elim, fun _ => ⟨rfl, rfl⟩⟩⟩
  · exact acw gdX5_back 40 rfl ⟨fun _ => ⟨rfl, rfl⟩, fun h1 => ⟨fun y => (h2 y h1).elim, fun _ => ⟨rfl, rfl⟩⟩⟩
  · exact acw gdX6_keep 40 rfl (ac_to (am_in _ _ _ _) ⟨fun z => absurd h3 z, fun _ => ⟨rfl, rfl⟩⟩)
  · exact acw gdX6_back 40 rfl (ac_to (am_in _ _ _ _) ⟨fun z => absurd h3 z, fun _ => ⟨rfl, rfl⟩⟩)
theorem pr_keep (x : Int32) : Pr g mX5_keep mX6_keep [.int x] := by
  rintro ⟨S, O⟩ hI
  rcases ix x (n := 2) (by decide) with h | h | ⟨k, hk, rfl⟩
  · have hb := bad2 (g := g) (S := S) (O := O) (Or.inl h)
    exact ⟨-1, (S, O), (S, O), hb.1, hb.2.2.1, hI⟩
  · have hb := bad2 (g := g) (S := S) (O := O) (Or.inr h)
    exact ⟨-1, (S, O), (S, O), hb.1, hb.2.2.1, hI⟩
  obtain ⟨⟨eo, m, n, hS, hw⟩, i2, i3, i4, i5⟩ := hI
  have hC := ac_becI (g := g) (S := S) (O := O) hk
  have e64 : 64 * nI k = nI (64 * k) := by rw [nlit, pk_mul]
  have hB := am_bringNI (g := g) (S := S) (O := o_kp' (o_I' O (putP (o_I O) k (bec S (o_I O k)))) (upd (o_kp O) k 1)) (j := 64 * k) (by omega)
  have hRn : Rw S (z_now (o_M O)) := ⟨eo, m, n, hS, hw⟩
  have hRow : ∀ j, j < 2 → row (va_cpy (z_now (o_M O)) (z_img (o_M O)) 0 (64 * k) 64) j = row (va_cpy (z_now (o_M O)) (z_img (o_M O)) 0 (64 * k) 64) j := fun _ _ => rfl
  have i3' : ∀ j, j < 2 → j ≠ k → ∀ N, N = va_cpy (z_now (o_M O)) (z_img (o_M O)) 0 (64 * k) 64 → (o_kp O j = 0 ∨ (o_kp O j = 1 ∧ Rw (o_I O j) (row N j))) := by
    intro j hj hjk N hN
    rcases (i3 j hj).2 with z | ⟨z, zR⟩
    · exact Or.inl z
    · refine Or.inr ⟨z, zR.cg (fun i hi => ?_)⟩
      unfold row
      rw [hN, pk_cpy_out (by omega)]
  have iK : ∀ N, N = va_cpy (z_now (o_M O)) (z_img (o_M O)) 0 (64 * k) 64 → Rw (bec S (o_I O k)) (row N k) := by
    intro N hN
    refine hRn.bec.cg (fun i hi => ?_)
    unfold row
    rw [hN, pk_cpy_in (by omega) (by omega)]
    exact congrArg _ (by omega)
  generalize hN : va_cpy (z_now (o_M O)) (z_img (o_M O)) 0 (64 * k) 64 = N at *
  replace hB : ACe g mX6_bring [.ref 95, .int 0, .ref 98, .int (nI (64 * k))] (lay (S, o_kp' (o_I' O (putP (o_I O) k (bec S (o_I O k)))) (upd (o_kp O) k 1))) none (lay (S, o_M' (o_kp' (o_I' O (putP (o_I O) k (bec S (o_I O k)))) (upd (o_kp O) k 1)) (z_img' (o_M O) N))) := by rw [← hN]; exact hB
  have iK := iK N rfl
  have i3' := fun j hj hjk => i3' j hj hjk N rfl
  clear hN
  have epk : putP (o_I O) k (bec S (o_I O k)) k = bec S (o_I O k) := if_pos rfl
  have epj : ∀ j, j ≠ k → putP (o_I O) k (bec S (o_I O k)) j = o_I O j := fun j hj => if_neg hj
  generalize putP (o_I O) k (bec S (o_I O k)) = II at *
  refine ⟨nI n, (S, o_kp' (o_I' O II) (upd (o_kp O) k 1)), (S, o_M' (o_kp' (o_I' O II) (upd (o_kp O) k 1)) (z_kept' (z_img' (o_M O) N) (upd (z_kept (o_M O)) k 1))), ?_, ?_, ⟨⟨eo, m, n, hS, hw⟩, i2, fun j hj => ?_, i4, i5⟩⟩
  · refine acw gdX5_keep 60 rfl ⟨fun h => absurd h (nlt0 k (by omega)), fun _ => ⟨fun _ => ?_, fun h => absurd ((nltI (b := 2) (by omega) (by omega)).mpr hk) h⟩⟩
    refine ⟨2, 2, _, 83 + 5 * k, Or.inl rfl, rfl, vlit hk (by decide), ?_, ?_⟩
    · show (fun i => if i < 2 then some (83 + 5 * i) else none) (nI k).toNatClampNeg = _
      rw [vcl rfl (by omega)]
      exact if_pos hk
    have hr : ∀ P : Prop, P → rcv (MT 53) (lay (S, O)) (83 + 5 * k) P := by
      intro P p
      rcases (show k = 0 ∨ k = 1 by omega) with rfl | rfl <;> exact p
    sorry
  · sorry
  · by_cases h : j = k
    · subst h
      refine ⟨pk_us.trans pk_us.symm, Or.inr ⟨pk_us, ?_⟩⟩
      show Rw (II j) (row N j)
      rw [epk]
      exact iK
    · refine ⟨(pk_un h).trans ((i3 j hj).1.trans (pk_un h).symm), ?_⟩
      rcases i3' j hj h with z | ⟨z, zR⟩
      · exact Or.inl ((pk_un h).trans z)
      · refine Or.inr ⟨(pk_un h).trans z, ?_⟩
        show Rw (II j) (row N j)
        rw [epj j h]
        exact zR
end KB
