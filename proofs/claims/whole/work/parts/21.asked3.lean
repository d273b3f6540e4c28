section P4
variable {g : Glob} {S : Scn} {O : Oth}
theorem in_t {x : Int32} {n k : Nat} (hk : k ≤ n) (hn : n ≤ 2000) (h : x = nI k) : bi (!decide (x < 0) && !decide (nI n < x)) = 1 := by
  subst h
  have h1 : ¬ nI k < 0 := nlt0 k (by omega)
  have h2 : ¬ nI n < nI k := fun z => by have := (nltI hn (by omega)).mp z; omega
  simp [bi, h1, h2]
theorem ln_t {l m : Nat} (h : l < m) (hm : m ≤ 2000) : (!decide (nI l < 0) && !decide (nI m ≤ nI l)) = true := by
  have h1 : ¬ nI l < 0 := nlt0 l (by omega)
  have h2 : ¬ nI m ≤ nI l := nge h (by omega)
  simp [h1, h2]
theorem ln_f {x : Int32} {m : Nat} (h : x < 0 ∨ nI m ≤ x) : (!decide (x < 0) && !decide (nI m ≤ x)) = false := by
  rcases h with h | h <;> simp [h]
/-- the model's isLine, isShot in the class's words -/
theorem am_isLine' {m : Nat} (l : Int32) (hm : z_now (o_M O) 4 = nI m) (h8 : m ≤ 2000) : ACe g mX6_isLine [.ref 94, .int l] (lay (S, O)) (some (.int (bi (!decide (l < 0) && !decide (nI m ≤ l))))) (lay (S, O)) := by
  have := am_isLine (g := g) (S := S) (O := O) l
  rw [hm] at this
  rwa [show decide (nI m - 1 < l) = decide (nI m ≤ l) by rw [decide_eq_decide]; exact le_pred h8] at this
theorem am_isShot' {m : Nat} (l : Int32) (hm : z_now (o_M O) 13 = nI m) (h8 : m ≤ 2000) : ACe g mX6_isShot [.ref 94, .int l] (lay (S, O)) (some (.int (bi (!decide (l < 0) && !decide (nI m ≤ l))))) (lay (S, O)) := by
  have := am_isShot (g := g) (S := S) (O := O) l
  rw [hm] at this
  rwa [show decide (nI m - 1 < l) = decide (nI m ≤ l) by rw [decide_eq_decide]; exact le_pred h8] at this
theorem ac_hasLine' {m : Nat} (l : Int32) (hm : s_nl S = nI m) : ACe g mX3_hasLine [.ref 1, .int l] (lay (S, O)) (some (.int (bi (!decide (l < 0) && !decide (nI m ≤ l))))) (lay (S, O)) := by
  have := ac_hasLine (g := g) (S := S) (O := O) l
  rwa [hm] at this
theorem ac_hasShot' {m : Nat} (l : Int32) (hm : s_ns S = nI m) : ACe g mX3_hasShot [.ref 1, .int l] (lay (S, O)) (some (.int (bi (!decide (l < 0) && !decide (nI m ≤ l))))) (lay (S, O)) := by
  have := ac_hasShot (g := g) (S := S) (O := O) l
  rwa [hm] at this
theorem n01 : ¬ (1 : Int32) = 0 := by decide
theorem pr_line (l x : Int32) : Pr g mX5_line mX6_line [.int l, .int x] := by
  rintro ⟨S, O⟩ hI
  have hI0 := hI
  obtain ⟨⟨eo, m, n, hS, hw⟩, -⟩ := hI
  have h8 := hw.2.1
  have h6 := hw.2.2.2.1
  have C1 := ac_hasLine' (g := g) (S := S) (O := O) l hS.1
  have M1 := am_isLine' (g := g) (S := S) (O := O) l hw.1 (by omega)
  rcases ix l (n := m) (by omega) with h | h | ⟨j, hj, rfl⟩
  · rw [ln_f (Or.inl h)] at C1 M1
    refine ⟨-1, (S, O), (S, O), ?_, ?_, hI0⟩
    · exact acw gdX5_line 40 rfl (ac_to C1 ⟨fun h => absurd rfl h, fun _ => ⟨rfl, rfl⟩⟩)
    · exact acw gdX6_line 40 rfl (ac_to M1 ⟨fun _ => ⟨rfl, rfl⟩, fun h => absurd rfl h⟩)
  · rw [ln_f (Or.inr h)] at C1 M1
    refine ⟨-1, (S, O), (S, O), ?_, ?_, hI0⟩
    · exact acw gdX5_line 40 rfl (ac_to C1 ⟨fun h => absurd rfl h, fun _ => ⟨rfl, rfl⟩⟩)
    · exact acw gdX6_line 40 rfl (ac_to M1 ⟨fun _ => ⟨rfl, rfl⟩, fun h => absurd rfl h⟩)
  rw [ln_t hj (by omega)] at C1 M1
  by_cases hx : x < 0 ∨ 3 < x
  · refine ⟨-1, (S, O), (S, O), ?_, ?_, hI0⟩
    · have hx2 : x.toInt < 0 ∨ 3 < x.toInt := by
        rcases hx with hx | hx
        · exact Or.inl (Int32.lt_iff_toInt_lt.mp hx)
        · exact Or.inr (Int32.lt_iff_toInt_lt.mp hx)
      refine acw gdX5_line 40 rfl (ac_to C1 ⟨fun _ => ⟨fun _ => ⟨rfl, rfl⟩, fun h => ?_, fun h => ?_, fun h => ?_, fun h => ?_, trivial⟩, fun h => absurd h n01⟩) <;> (exfalso; omega)
    · refine acw gdX6_line 40 rfl (ac_to M1 ⟨fun h => absurd h n01, fun _ => ?_⟩)
      refine ac_to (am_in _ _ _ _) ⟨fun h1 => ?_, fun _ => ⟨rfl, rfl⟩⟩
      rw [bi_e0, Bool.not_eq_false] at h1
      simp only [Bool.and_eq_true, Bool.not_eq_true', decide_eq_false_iff_not] at h1
      rcases hx with hx | hx
      · exact absurd hx h1.1
      · exact absurd hx h1.2
  have h1 : ¬ x < 0 := fun z => hx (Or.inl z)
  have h2 : ¬ 3 < x := fun z => hx (Or.inr z)
  obtain ⟨k, hk, rfl⟩ := nI_of2 (M := 3) (n := 3) (by decide) h1 (Int32.not_lt.mp h2)
  have hed := hw.2.2.2.2.2.2.1 j (by omega)
  have e56 : 56 + nI j = nI (56 + j) := by simp only [nlit, nI_add]
  have e5 : 5 + nI j = nI (5 + j) := by simp only [nlit, nI_add]
  have ho6 : okO 6 (eo j) := fun s hs => Nat.lt_of_lt_of_le (hed.2 s hs) h6
  have e1 : s_ed S j = sh (eo j) := (hS.2.2.2.2.2 j (by omega)).trans hed.1
  have hin : ∀ (k : Nat), k ≤ 3 → bi (!decide (nI k < 0) && !decide (3 < nI k)) = 1 := fun k hk => in_t (n := 3) hk (by decide) rfl
  rcases (show k = 0 ∨ k = 1 ∨ k = 2 ∨ k = 3 by omega) with rfl | rfl | rfl | rfl
  · refine ⟨s_sp S j, (S, O), (S, O), ?_, ?_, hI0⟩
    · refine acw gdX5_line 40 rfl (ac_to C1 ⟨fun _ => ⟨fun h => absurd h (by decide), fun h => ?_, fun h => absurd h (by decide), fun h => absurd h (by decide), fun h => absurd h (by decide), trivial⟩, fun h => absurd h n01⟩)
      refine ⟨_, _, rfl, vlit (by omega) (by decide), ?_⟩
      rw [vcl rfl (by omega)]
      exact ⟨rfl, rfl⟩
    · refine acw gdX6_line 40 rfl (ac_to M1 ⟨fun h => absurd h n01, fun _ => ?_⟩)
      refine ac_to (am_in _ _ _ _) ⟨fun _ => ?_, fun h => absurd h (by rw [hin 0 (by omega)]; decide)⟩
      refine ⟨_, _, rfl, vin e56 (by omega) (by decide), ?_⟩
      refine ⟨fun h => absurd rfl h, fun _ => ?_⟩
      refine ⟨_, _, rfl, vin e5 (by omega) (by decide), ?_⟩
      rw [vcl e5 (by omega)]
      exact ⟨congrArg (fun z => some (Value.int z)) (hS.2.2.2.1 j hj).symm, rfl⟩
  · refine ⟨sh (eo j), (S, O), (S, O), ?_, ?_, hI0⟩
    · refine acw gdX5_line 40 rfl (ac_to C1 ⟨fun _ => ⟨fun h => absurd h (by decide), fun h => absurd h (by decide), fun h => ?_, fun h => absurd h (by decide), fun h => absurd h (by decide), trivial⟩, fun h => absurd h n01⟩)
      refine ⟨_, _, rfl, vlit (by omega) (by decide), ?_⟩
      rw [vcl rfl (by omega)]
      exact ⟨congrArg (fun z => some (Value.int z)) e1, rfl⟩
    · refine acw gdX6_line 40 rfl (ac_to M1 ⟨fun h => absurd h n01, fun _ => ?_⟩)
      refine ac_to (am_in _ _ _ _) ⟨fun _ => ?_, fun h => absurd h (by rw [hin 1 (by omega)]; decide)⟩
      refine ⟨_, _, rfl, vin e56 (by omega) (by decide), ?_⟩
      rw [vcl e56 (by omega)]
      refine ⟨fun _ => ⟨fun h => absurd rfl h, fun _ => ?_⟩, fun h => absurd h (by decide)⟩
      exact ⟨congrArg (fun z => some (Value.int z)) hed.1, rfl⟩
  · refine ⟨bi (reO (fcr (z_now (o_M O))) (spr (z_now (o_M O))) j (eo j)), (S, O), (S, O), ?_, ?_, hI0⟩
    · refine acw gdX5_line 40 rfl (ac_to C1 ⟨fun _ => ⟨fun h => absurd h (by decide), fun h => absurd h (by decide), fun h => absurd h (by decide), fun h => ?_, fun h => absurd h (by decide), trivial⟩, fun h => absurd h n01⟩)
      refine ⟨_, _, rfl, vlit (by omega) (by decide), ?_⟩
      rw [vcl rfl (by omega), show s_ed (S, O).fst j = sh (eo j) from e1]
      refine ac_to (ac_isReaction (by omega) ho6) ?_
      rw [hS.ro hed.2 hj]
      exact ⟨fun h => ⟨congrArg (fun z => some (Value.int z)) h.symm, rfl⟩, fun h => ⟨congrArg (fun z => some (Value.int z)) ((bi_01 _).resolve_left h).symm, rfl⟩⟩
    · refine acw gdX6_line 40 rfl (ac_to M1 ⟨fun h => absurd h n01, fun _ => ?_⟩)
      refine ac_to (am_in _ _ _ _) ⟨fun _ => ?_, fun h => absurd h (by rw [hin 2 (by omega)]; decide)⟩
      refine ⟨_, _, rfl, vin e56 (by omega) (by decide), ?_⟩
      rw [vcl e56 (by omega), show z_now (o_M (S, O).snd) (56 + j) = sh (eo j) from hed.1]
      refine ⟨fun _ => ⟨fun _ => ⟨fun h => absurd rfl h, fun _ => ?_⟩, fun h => absurd h (by decide)⟩, fun h => absurd h (by decide)⟩
      refine ac_to (am_isReaction (by omega) ho6) ?_
      exact ⟨fun h => ⟨congrArg (fun z => some (Value.int z)) h.symm, rfl⟩, fun h => ⟨congrArg (fun z => some (Value.int z)) ((bi_01 _).resolve_left h).symm, rfl⟩⟩
  · refine ⟨nI (msk (fun s => cvA (fcr (z_now (o_M O))) s j) n), (S, O), (S, O), ?_, ?_, hI0⟩
    · refine acw gdX5_line 40 rfl (ac_to C1 ⟨fun _ => ⟨fun h => absurd h (by decide), fun h => absurd h (by decide), fun h => absurd h (by decide), fun h => absurd h (by decide), fun h => ?_, trivial⟩, fun h => absurd h n01⟩)
      refine ac_to (ac_coverers hS.2.1 h6) ⟨?_, rfl⟩
      rw [msk_cg (q := fun s => cvA (fcr (z_now (o_M O))) s j) n (fun s hs => hS.cv hs)]
    · refine acw gdX6_line 40 rfl (ac_to M1 ⟨fun h => absurd h n01, fun _ => ?_⟩)
      refine ac_to (am_in _ _ _ _) ⟨fun _ => ?_, fun h => absurd h (by rw [hin 3 (by omega)]; decide)⟩
      refine ⟨_, _, rfl, vin e56 (by omega) (by decide), ?_⟩
      refine ⟨fun _ => ⟨fun _ => ⟨fun _ => ?_, fun h => absurd h (by decide)⟩, fun h => absurd h (by decide)⟩, fun h => absurd h (by decide)⟩
      exact ac_to (am_coversOf hw.2.2.1 h6) ⟨rfl, rfl⟩
end P4
