section KB
variable {g : Glob} {S : Scn} {O : Oth}
theorem ac_becI {i : Nat} (hi : i < 2) : ACe g mX3_become [.ref (83 + 5 * i), .ref 1] (lay (S, O)) none (lay (S, o_I' O (putP (o_I O) i (bec S (o_I O i))))) := by
  rcases (show i = 0 ∨ i = 1 by omega) with rfl | rfl
  · exact ac_becI0
  · exact ac_becI1
theorem ac_becJ {i : Nat} (hi : i < 2) : ACe g mX3_become [.ref 1, .ref (83 + 5 * i)] (lay (S, O)) none (lay (bec (o_I O i) S, O)) := by
  rcases (show i = 0 ∨ i = 1 by omega) with rfl | rfl
  · exact ac_becJ0
  · exact ac_becJ1
theorem nar1 : vp_nar .boolean 1 = 1 := by decide
theorem bad2 {x : Int32} (h : x < 0 ∨ nI 2 ≤ x) : ACe g mX5_keep [.ref 0, .int x] (lay (S, O)) (some (.int (-1))) (lay (S, O)) ∧ ACe g mX5_back [.ref 0, .int x] (lay (S, O)) (some (.int (-1))) (lay (S, O)) ∧ ACe g mX6_keep [.ref 94, .int x] (lay (S, O)) (some (.int (-1))) (lay (S, O)) ∧ ACe g mX6_back [.ref 94, .int x] (lay (S, O)) (some (.int (-1))) (lay (S, O)) := by
  have h2 : ∀ (y : x < 2), ¬ x < 0 → False := fun y z => by
    rcases h with h | h
    · exact z h
    · exact absurd y (Int32.not_lt.mpr h)
  have h3 : bi (!decide (x < 0) && !decide (1 < x)) = 0 := by
    rcases h with h | h
    · simp [bi, h]
    · have : 1 < x := by
        rw [Int32.lt_iff_toInt_lt]
        have e1 : (1 : Int32).toInt = 1 := by decide
        have e2 : (nI 2).toInt ≤ x.toInt := Int32.le_iff_toInt_le.mp h
        have e3 : (nI 2).toInt = 2 := by decide
        omega
      simp [bi, this]
  refine ⟨?_, ?_, ?_, ?_⟩
  · exact acw gdX5_keep 40 rfl ⟨fun _ => ⟨rfl, rfl⟩, fun h1 => ⟨fun y => (h2 y h1).elim, fun _ => ⟨rfl, rfl⟩⟩⟩
  · exact acw gdX5_back 40 rfl ⟨fun _ => ⟨rfl, rfl⟩, fun h1 => ⟨fun y => (h2 y h1).elim, fun _ => ⟨rfl, rfl⟩⟩⟩
  · exact acw gdX6_keep 40 rfl (ac_to (am_in _ _ _ _) ⟨fun z => absurd h3 z, fun _ => ⟨rfl, rfl⟩⟩)
  · exact acw gdX6_back 40 rfl (ac_to (am_in _ _ _ _) ⟨fun z => absurd h3 z, fun _ => ⟨rfl, rfl⟩⟩)
theorem pr_keep (x : Int32) : Pr g mX5_keep mX6_keep [.int x] := by
  rintro ⟨S, O⟩ hI
  rcases ix x (n := 2) (by decide) with h | h | ⟨k, hk, rfl⟩
  · have hb := bad2 (g := g) (S := S) (O := O) (Or.inl h)
    exact ⟨-1, (S, O), (S, O), hb.1, hb.2.2.1, hI⟩
  · have hb := bad2 (g := g) (S := S) (O := O) (Or.inr h)
    exact ⟨-1, (S, O), (S, O), hb.1, hb.2.2.1, hI⟩
  obtain ⟨⟨eo, m, n, hS, hw⟩, i2, i3, i4, i5⟩ := hI
  have hC := ac_becI (g := g) (S := S) (O := O) hk
  have e64 : 64 * nI k = nI (64 * k) := by rw [nlit, pk_mul]
  have hB := am_bringNI (g := g) (S := S) (O := o_kp' (o_I' O (putP (o_I O) k (bec S (o_I O k)))) (upd (o_kp O) k 1)) (j := 64 * k) (by omega)
  have hRn : Rw S (z_now (o_M O)) := ⟨eo, m, n, hS, hw⟩
  have hRow : ∀ j, j < 2 → row (va_cpy (z_now (o_M O)) (z_img (o_M O)) 0 (64 * k) 64) j = row (va_cpy (z_now (o_M O)) (z_img (o_M O)) 0 (64 * k) 64) j := fun _ _ => rfl
  have i3' : ∀ j, j < 2 → j ≠ k → ∀ N, N = va_cpy (z_now (o_M O)) (z_img (o_M O)) 0 (64 * k) 64 → (o_kp O j = 0 ∨ (o_kp O j = 1 ∧ Rw (o_I O j) (row N j))) := by
    intro j hj hjk N hN
    rcases (i3 j hj).2 with z | ⟨z, zR⟩
    · exact Or.inl z
    · refine Or.inr ⟨z, zR.cg (fun i hi => ?_)⟩
      unfold row
      rw [hN, pk_cpy_out (by omega)]
  have iK : ∀ N, N = va_cpy (z_now (o_M O)) (z_img (o_M O)) 0 (64 * k) 64 → Rw (bec S (o_I O k)) (row N k) := by
    intro N hN
    refine hRn.bec.cg (fun i hi => ?_)
    unfold row
    rw [hN, pk_cpy_in (by omega) (by omega)]
    exact congrArg _ (by omega)
  generalize hN : va_cpy (z_now (o_M O)) (z_img (o_M O)) 0 (64 * k) 64 = N at *
  replace hB : ACe g mX6_bring [.ref 95, .int 0, .ref 98, .int (nI (64 * k))] (lay (S, o_kp' (o_I' O (putP (o_I O) k (bec S (o_I O k)))) (upd (o_kp O) k 1))) none (lay (S, o_M' (o_kp' (o_I' O (putP (o_I O) k (bec S (o_I O k)))) (upd (o_kp O) k 1)) (z_img' (o_M O) N))) := hB
  have iK := iK N rfl
  have i3' := fun j hj hjk => i3' j hj hjk N rfl
  have epk : putP (o_I O) k (bec S (o_I O k)) k = bec S (o_I O k) := if_pos rfl
  have epj : ∀ j, j ≠ k → putP (o_I O) k (bec S (o_I O k)) j = o_I O j := fun j hj => if_neg hj
  generalize putP (o_I O) k (bec S (o_I O k)) = II at *
  refine ⟨nI n, (S, o_kp' (o_I' O II) (upd (o_kp O) k 1)), (S, o_M' (o_kp' (o_I' O II) (upd (o_kp O) k 1)) (z_kept' (z_img' (o_M O) N) (upd (z_kept (o_M O)) k 1))), ?_, ?_, ⟨⟨eo, m, n, hS, hw⟩, i2, fun j hj => ?_, i4, i5⟩⟩
  · rcases (show k = 0 ∨ k = 1 by omega) with rfl | rfl
    · refine acw gdX5_keep 60 rfl ⟨fun h => absurd h (by decide), fun _ => ⟨fun _ => ?_, fun h => absurd (by decide) h⟩⟩
      refine ⟨2, 2, _, 83, Or.inl rfl, rfl, vlit (j := 0) (by decide) (by decide), rfl, ac_to hC ?_⟩
      refine ⟨_, _, rfl, vlit (j := 0) (by decide) (by decide), ?_⟩
      rw [vcl (x := nI 0) rfl (by decide), nar1]
      exact ⟨congrArg (fun z => some (Value.int z)) hS.2.1, rfl⟩
    · refine acw gdX5_keep 60 rfl ⟨fun h => absurd h (by decide), fun _ => ⟨fun _ => ?_, fun h => absurd (by decide) h⟩⟩
      refine ⟨2, 2, _, 88, Or.inl rfl, rfl, vlit (j := 1) (by decide) (by decide), rfl, ac_to hC ?_⟩
      refine ⟨_, _, rfl, vlit (j := 1) (by decide) (by decide), ?_⟩
      rw [vcl (x := nI 1) rfl (by decide), nar1]
      exact ⟨congrArg (fun z => some (Value.int z)) hS.2.1, rfl⟩
  · refine acw gdX6_keep 60 rfl (ac_to (am_in _ _ _ _) ⟨fun _ => ?_, fun h => absurd h (by rw [show bi (!decide (nI k < 0) && !decide (1 < nI k)) = 1 from in_t (n := 1) (by omega) (by decide) rfl]; decide)⟩)
    refine ac_ar (by rw [← e64]) (ac_to hB ?_)
    refine ⟨_, _, rfl, vlit hk (by decide), ?_⟩
    refine ⟨_, _, rfl, vlit (j := 13) (by decide) (by decide), ?_⟩
    rw [vcl (x := nI k) rfl (by omega), nar1]
    exact ⟨congrArg (fun z => some (Value.int z)) hw.2.2.1, rfl⟩
  · by_cases h : j = k
    · subst h
      refine ⟨pk_us.trans pk_us.symm, Or.inr ⟨pk_us, ?_⟩⟩
      show Rw (II j) (row N j)
      rw [epk]
      exact iK
    · refine ⟨(pk_un h).trans ((i3 j hj).1.trans (pk_un h).symm), ?_⟩
      rcases i3' j hj h with z | ⟨z, zR⟩
      · exact Or.inl ((pk_un h).trans z)
      · refine Or.inr ⟨(pk_un h).trans z, ?_⟩
        show Rw (II j) (row N j)
        rw [epj j h]
        exact zR
theorem pr_back (x : Int32) : Pr g mX5_back mX6_back [.int x] := by
  rintro ⟨S, O⟩ hI
  rcases ix x (n := 2) (by decide) with h | h | ⟨k, hk, rfl⟩
  · have hb := bad2 (g := g) (S := S) (O := O) (Or.inl h)
    exact ⟨-1, (S, O), (S, O), hb.2.1, hb.2.2.2, hI⟩
  · have hb := bad2 (g := g) (S := S) (O := O) (Or.inr h)
    exact ⟨-1, (S, O), (S, O), hb.2.1, hb.2.2.2, hI⟩
  have hI0 := hI
  obtain ⟨i1, ⟨d, y, h8, hy8, k1, k2, k3, hP⟩, i3, i4, i5⟩ := hI
  obtain ⟨ek, hk01⟩ := i3 k hk
  have hin : bi (!decide (nI k < 0) && !decide (1 < nI k)) = 1 := in_t (n := 1) (by omega) (by decide) rfl
  rcases hk01 with h0 | ⟨h1, hR⟩
  · refine ⟨-2, (S, O), (S, O), ?_, ?_, hI0⟩
    · refine acw gdX5_back 60 rfl ⟨fun h => absurd h (nlt0 k (by omega)), fun _ => ⟨fun _ => ?_, fun h => absurd ((nltI (b := 2) (by omega) (by omega)).mpr hk) h⟩⟩
      refine ⟨_, _, rfl, vlit hk (by decide), ?_⟩
      rw [vcl (x := nI k) rfl (by omega)]
      exact ⟨fun h => absurd h0 h, fun _ => ⟨rfl, rfl⟩⟩
    · refine acw gdX6_back 60 rfl (ac_to (am_in _ _ _ _) ⟨fun _ => ?_, fun h => absurd h (by rw [hin]; decide)⟩)
      refine ⟨_, _, rfl, vlit hk (by decide), ?_⟩
      rw [vcl (x := nI k) rfl (by omega)]
      exact ⟨fun h => absurd (ek.symm.trans h0) h, fun _ => ⟨rfl, rfl⟩⟩
  · have e64 : 64 * nI k = nI (64 * k) := by rw [nlit, pk_mul]
    have hC := ac_becJ (g := g) (S := S) (O := O) hk
    have hB := am_bringIN (g := g) (S := bec (o_I O k) S) (O := o_kn' O 0) (i := 64 * k) (by omega)
    have hRn : Rw (bec (o_I O k) S) (va_cpy (z_img (o_M O)) (z_now (o_M O)) (64 * k) 0 64) := by
      refine hR.bec.cg (fun i hi => ?_)
      unfold row
      rw [pk_cpy_in (by omega) (by omega)]
      exact congrArg _ (by omega)
    generalize va_cpy (z_img (o_M O)) (z_now (o_M O)) (64 * k) 0 64 = N at hRn hB
    generalize bec (o_I O k) S = S' at hC hB hRn
    obtain ⟨eo, m, n, hS, hw⟩ := hRn
    refine ⟨nI n, (S', o_kn' O 0), (S', o_M' (o_kn' O 0) (z_deeds' (z_now' (o_M O) N) 0)), ?_, ?_, ⟨⟨eo, m, n, hS, hw⟩, ⟨0, y, by decide, hy8, rfl, rfl, k3, fun j hj => absurd hj (by omega)⟩, i3, i4, i5⟩⟩
    · have hne : ¬ o_kp O k = 0 := by rw [h1]; decide
      rcases (show k = 0 ∨ k = 1 by omega) with rfl | rfl
      · refine acw gdX5_back 60 rfl ⟨fun h => absurd h (by decide), fun _ => ⟨fun _ => ?_, fun h => absurd (by decide) h⟩⟩
        refine ⟨_, _, rfl, vlit (j := 0) (by decide) (by decide), ⟨fun _ => ?_, fun h => absurd h hne⟩⟩
        refine ⟨2, 2, _, 83, Or.inl rfl, rfl, vlit (j := 0) (by decide) (by decide), rfl, ac_to hC ?_⟩
        exact ⟨congrArg (fun z => some (Value.int z)) hS.2.1, rfl⟩
      · refine acw gdX5_back 60 rfl ⟨fun h => absurd h (by decide), fun _ => ⟨fun _ => ?_, fun h => absurd (by decide) h⟩⟩
        refine ⟨_, _, rfl, vlit (j := 1) (by decide) (by decide), ⟨fun _ => ?_, fun h => absurd h hne⟩⟩
        refine ⟨2, 2, _, 88, Or.inl rfl, rfl, vlit (j := 1) (by decide) (by decide), rfl, ac_to hC ?_⟩
        exact ⟨congrArg (fun z => some (Value.int z)) hS.2.1, rfl⟩
    · refine acw gdX6_back 60 rfl (ac_to (am_in _ _ _ _) ⟨fun _ => ?_, fun h => absurd h (by rw [hin]; decide)⟩)
      refine ⟨_, _, rfl, vlit hk (by decide), ?_⟩
      rw [vcl (x := nI k) rfl (by omega)]
      refine ⟨fun _ => ?_, fun h => absurd ((ek.trans h).symm.trans h1) (by decide)⟩
      refine ac_ar (by rw [← e64]) (ac_to hB ?_)
      refine ⟨_, _, rfl, vlit (j := 13) (by decide) (by decide), ?_⟩
      exact ⟨congrArg (fun z => some (Value.int z)) hw.2.2.1, rfl⟩
end KB
