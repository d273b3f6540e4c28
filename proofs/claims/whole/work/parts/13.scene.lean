section SC
variable {g : Glob} {S : Scn} {O : Oth}
theorem ac_hasLine (l : Int32) : ACe g mX3_hasLine [.ref 1, .int l] (lay (S, O)) (some (.int (bi (!decide (l < 0) && !decide (s_nl S ≤ l))))) (lay (S, O)) := by
  refine acw gdX3_hasLine 20 rfl ?_
  refine ⟨fun h1 => ?_, fun h1 => ⟨fun h2 => ?_, fun h2 => ?_⟩⟩
  · refine ⟨rfl, ?_, rfl⟩
    simp [bi, h1]
  · refine ⟨rfl, ?_, rfl⟩
    simp [bi, h1, h2]
  · refine ⟨rfl, ?_, rfl⟩
    simp [bi, h1, h2]
theorem ac_hasShot (l : Int32) : ACe g mX3_hasShot [.ref 1, .int l] (lay (S, O)) (some (.int (bi (!decide (l < 0) && !decide (s_ns S ≤ l))))) (lay (S, O)) := by
  refine acw gdX3_hasShot 20 rfl ?_
  refine ⟨fun h1 => ?_, fun h1 => ⟨fun h2 => ?_, fun h2 => ?_⟩⟩
  · refine ⟨rfl, ?_, rfl⟩
    simp [bi, h1]
  · refine ⟨rfl, ?_, rfl⟩
    simp [bi, h1, h2]
  · refine ⟨rfl, ?_, rfl⟩
    simp [bi, h1, h2]
theorem ac_fact {s w : Nat} (hs : s < 6) (hw : w < 7) : ACe g mX3_fact [.ref 1, .int (nI s), .int (nI w)] (lay (S, O)) (some (.int (s_fc S (7 * s + w)))) (lay (S, O)) := by
  refine acw gdX3_fact 20 rfl ?_
  have e : nI s * 7 + nI w = nI (7 * s + w) := by simp only [nlit, pk_mul, nI_add]; congr 1; omega
  refine ⟨_, _, rfl, vin e (by omega) (by omega), ?_⟩
  rw [vcl e (by omega)]
  exact ⟨rfl, rfl⟩
theorem ac_covers {s l : Nat} (hs : s < 6) : ACe g mX3_covers [.ref 1, .int (nI s), .int (nI l)] (lay (S, O)) (some (.int (bi (!decide (nI l < s_fc S (7 * s + 4)) && !decide (s_fc S (7 * s + 5) < nI l))))) (lay (S, O)) := by
  refine acw gdX3_covers 30 rfl ?_
  refine ac_to (ac_fact (w := 4) hs (by decide)) ?_
  refine ⟨fun h1 => ?_, fun h1 => ?_⟩
  · refine ⟨rfl, ?_, rfl⟩
    simp [bi, h1]
  refine ac_to (ac_fact (w := 5) hs (by decide)) ?_
  refine ⟨fun h2 => ?_, fun h2 => ?_⟩
  · refine ⟨rfl, ?_, rfl⟩
    simp [bi, h1, h2]
  · refine ⟨rfl, ?_, rfl⟩
    simp [bi, h1, h2]
end SC
