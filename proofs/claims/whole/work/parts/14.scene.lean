section SC
variable {g : Glob} {S : Scn} {O : Oth}
theorem ac_signum (x : Int32) (h : AH) : ACe g mJ6_signum_0f7a4 [.int x] h (some (.int (sgnF x))) h := by
  refine acw gdJ6_signum_0f7a4 20 rfl ?_
  exact ⟨rfl, rfl⟩
theorem ac_hasLine (l : Int32) : ACe g mX3_hasLine [.ref 1, .int l] (lay (S, O)) (some (.int (bi (!decide (l < 0) && !decide (s_nl S ≤ l))))) (lay (S, O)) := by
  refine acw gdX3_hasLine 20 rfl ?_
  refine ⟨fun h1 => ?_, fun h1 => ⟨fun h2 => ?_, fun h2 => ?_⟩⟩
  · refine ⟨rfl, ?_, rfl⟩
    simp [bi, h1]
  · refine ⟨rfl, ?_, rfl⟩
    simp [bi, h1, h2]
  · refine ⟨rfl, ?_, rfl⟩
    simp [bi, h1, h2]
theorem ac_hasShot (l : Int32) : ACe g mX3_hasShot [.ref 1, .int l] (lay (S, O)) (some (.int (bi (!decide (l < 0) && !decide (s_ns S ≤ l))))) (lay (S, O)) := by
  refine acw gdX3_hasShot 20 rfl ?_
  refine ⟨fun h1 => ?_, fun h1 => ⟨fun h2 => ?_, fun h2 => ?_⟩⟩
  · refine ⟨rfl, ?_, rfl⟩
    simp [bi, h1]
  · refine ⟨rfl, ?_, rfl⟩
    simp [bi, h1, h2]
  · refine ⟨rfl, ?_, rfl⟩
    simp [bi, h1, h2]
theorem ac_fact {s w : Nat} (hs : s < 6) (hw : w < 7) : ACe g mX3_fact [.ref 1, .int (nI s), .int (nI w)] (lay (S, O)) (some (.int (s_fc S (7 * s + w)))) (lay (S, O)) := by
  refine acw gdX3_fact 20 rfl ?_
  have e : nI s * 7 + nI w = nI (7 * s + w) := by simp only [nlit, pk_mul, nI_add]; congr 1; omega
  refine ⟨_, _, rfl, vin e (by omega) (by omega), ?_⟩
  rw [vcl e (by omega)]
  exact ⟨rfl, rfl⟩
theorem ac_covers {s l : Nat} (hs : s < 6) : ACe g mX3_covers [.ref 1, .int (nI s), .int (nI l)] (lay (S, O)) (some (.int (bi (cvA (s_fc S) s l)))) (lay (S, O)) := by
  refine acw gdX3_covers 30 rfl ?_
  refine ac_to (ac_fact (w := 4) hs (by decide)) ?_
  unfold cvA
  refine ⟨fun h1 => ?_, fun h1 => ?_⟩
  · refine ⟨rfl, ?_, rfl⟩
    simp [bi, h1]
  refine ac_to (ac_fact (w := 5) hs (by decide)) ?_
  refine ⟨fun h2 => ?_, fun h2 => ?_⟩
  · refine ⟨rfl, ?_, rfl⟩
    simp [bi, h1, h2]
  · refine ⟨rfl, ?_, rfl⟩
    simp [bi, h1, h2]
theorem ac_side {s n : Nat} (hs : s < n) (hn : n ≤ 6) (hp : Okp (s_pl S)) (hf : Okf (s_fc S) n) : ACe g mX3_side [.ref 1, .int (nI s)] (lay (S, O)) (some (.int (sdA (s_pl S) (s_fc S) s))) (lay (S, O)) := by
  refine acw gdX3_side 60 rfl ?_
  refine ⟨_, _, rfl, vlit (j := 2) (by decide) (by decide), ?_⟩
  refine ⟨_, _, rfl, vlit (j := 0) (by decide) (by decide), ?_⟩
  refine ⟨_, _, rfl, vlit (j := 3) (by decide) (by decide), ?_⟩
  refine ⟨_, _, rfl, vlit (j := 1) (by decide) (by decide), ?_⟩
  refine ac_to (ac_fact (w := 0) (by omega) (by decide)) ?_
  refine ⟨_, _, rfl, vlit (j := 0) (by decide) (by decide), ?_⟩
  refine ac_to (ac_fact (w := 1) (by omega) (by decide)) ?_
  refine ⟨_, _, rfl, vlit (j := 1) (by decide) (by decide), ?_⟩
  refine ac_to (ac_signum _ _) ?_
  refine ⟨?_, rfl⟩
  exact congrArg (fun z => some (Value.int z)) (sd_sgn hp hf hs)
theorem ac_wayX {s : Nat} (hs : s < 6) : ACe g mX3_wayX [.ref 1, .int (nI s)] (lay (S, O)) (some (.int (wyA (s_pl S) (s_fc S) s 0))) (lay (S, O)) := by
  refine acw gdX3_wayX 60 rfl ?_
  have e : nI s * 7 + 0 = nI (7 * s + 0) := by simp only [nlit, pk_mul, nI_add]; congr 1; omega
  refine ⟨_, _, rfl, vin e (by omega) (by omega), ?_⟩
  rw [vcl e (by omega)]
  refine ⟨_, _, rfl, vlit (j := 0) (by decide) (by decide), ?_⟩
  refine ⟨_, _, rfl, vlit (j := 2) (by decide) (by decide), ?_⟩
  exact ⟨rfl, rfl⟩
theorem ac_wayY {s : Nat} (hs : s < 6) : ACe g mX3_wayY [.ref 1, .int (nI s)] (lay (S, O)) (some (.int (wyA (s_pl S) (s_fc S) s 1))) (lay (S, O)) := by
  refine acw gdX3_wayY 60 rfl ?_
  have e : nI s * 7 + 1 = nI (7 * s + 1) := by simp only [nlit, pk_mul, nI_add]; congr 1; omega
  refine ⟨_, _, rfl, vin e (by omega) (by omega), ?_⟩
  rw [vcl e (by omega)]
  refine ⟨_, _, rfl, vlit (j := 1) (by decide) (by decide), ?_⟩
  refine ⟨_, _, rfl, vlit (j := 3) (by decide) (by decide), ?_⟩
  exact ⟨rfl, rfl⟩
theorem ac_coverers {n l : Nat} (hn : s_ns S = nI n) (h6 : n ≤ 6) : ACe g mX3_coverers [.ref 1, .int (nI l)] (lay (S, O)) (some (.int (nI (msk (fun s => cvA (s_fc S) s l) n)))) (lay (S, O)) := by
  refine acw gdX3_coverers 60 rfl ?_
  refine dn (n := n) (P := fun i => AW g mX3_coverers _ 0 0 4 [some (.ref 1), some (.int (nI l)), some (.int (nI (msk (fun s => cvA (s_fc S) s l) i))), some (.int (nI i))] [] (lay (S, O))) ?_ (fun i hi ih => ?_) 0 (Nat.zero_le _)
  · exact lpw gdX3_coverers 30 ⟨fun _ => ⟨rfl, rfl⟩, fun h => absurd (by rw [hn]; exact nle (by omega) (by omega)) h⟩
  · refine lpw gdX3_coverers 30 ⟨fun h => absurd h (by rw [hn]; exact nge (by omega) (by omega)), fun _ => ?_⟩
    refine ac_to (ac_covers (l := l) (by omega)) ⟨fun hc => awl ?_ ih, fun hc => awl ?_ ih⟩
    · rw [msk_no (p := fun s => cvA (s_fc S) s l) ((bi_e0 _).mp hc), ← nI_1]
      rfl
    · rw [← msk_or (p := fun s => cvA (s_fc S) s l) (by omega) (by simpa [bi_e0] using hc), ← nI_1]
      rfl
theorem ac_near {s t n : Nat} (hs : s < n) (ht : t < n) (hn : n ≤ 6) (hp : Okp (s_pl S)) (hf : Okf (s_fc S) n) : ACe g mX3_near [.ref 1, .int (nI s), .int (nI t)] (lay (S, O)) (some (.int (bi (nrA (s_pl S) (s_fc S) s t)))) (lay (S, O)) := by
  have h0 := len0 hp hf hs ht
  refine acw gdX3_near 90 rfl ?_
  refine ac_to (ac_wayX (by omega)) ?_
  refine ac_to (ac_wayY (by omega)) ?_
  refine ac_to (ac_wayX (by omega)) ?_
  refine ac_to (ac_wayY (by omega)) ?_
  refine ⟨fun h1 => ?_, fun h1 => ?_⟩
  · have h2 := fun z => h1 (h0.mpr z)
    refine ⟨fun h3 => ?_, fun h3 => ⟨fun h4 => ?_, fun h4 => ?_⟩⟩
    · refine ⟨rfl, congrArg (fun z => some (Value.int z)) (bi_f ?_).symm, rfl⟩
      simp only [nrA, Bool.or_eq_false_iff, decide_eq_false_iff_not, Bool.and_eq_false_iff]
      exact ⟨⟨fun z => h2 (Or.inl z), fun z => h2 (Or.inr z)⟩, Or.inl (Int32.not_lt.mpr h3)⟩
    · refine ⟨rfl, congrArg (fun z => some (Value.int z)) (bi_f ?_).symm, rfl⟩
      simp only [nrA, Bool.or_eq_false_iff, decide_eq_false_iff_not, Bool.and_eq_false_iff]
      exact ⟨⟨fun z => h2 (Or.inl z), fun z => h2 (Or.inr z)⟩, Or.inr (by rw [Int32.mul_assoc 3]; exact Int32.not_lt.mpr h4)⟩
    · refine ⟨rfl, congrArg (fun z => some (Value.int z)) (bi_t ?_).symm, rfl⟩
      simp only [nrA, Bool.or_eq_true, decide_eq_true_eq, Bool.and_eq_true]
      exact Or.inr ⟨Int32.not_le.mp h3, by rw [Int32.mul_assoc 3]; exact Int32.not_le.mp h4⟩
  · refine ⟨rfl, congrArg (fun z => some (Value.int z)) (bi_t ?_).symm, rfl⟩
    simp only [nrA, Bool.or_eq_true, decide_eq_true_eq]
    exact Or.inl (h0.mp h1)
theorem ac_tooLike {s t n : Nat} (hs : s < n) (ht : t < n) (hn : n ≤ 6) (hp : Okp (s_pl S)) (hf : Okf (s_fc S) n) : ACe g mX3_tooLike [.ref 1, .int (nI s), .int (nI t)] (lay (S, O)) (some (.int (bi (lkA (s_pl S) (s_fc S) s t)))) (lay (S, O)) := by
  obtain ⟨q1, b1, e1⟩ := hf s hs 3 (by decide)
  obtain ⟨q2, b2, e2⟩ := hf t ht 3 (by decide)
  have ha := abs_lt2 b1 b2
  rw [← e1, ← e2] at ha
  refine acw gdX3_tooLike 90 rfl ?_
  refine ac_to (ac_fact (w := 2) (by omega) (by decide)) ?_
  refine ac_to (ac_fact (w := 2) (by omega) (by decide)) ?_
  refine ⟨fun h1 => ?_, fun h1 => ?_⟩
  · refine ⟨rfl, congrArg (fun z => some (Value.int z)) (bi_f ?_).symm, rfl⟩
    simp [lkA, h1]
  refine ac_to (ac_fact (w := 3) (by omega) (by decide)) ?_
  refine ac_to (ac_fact (w := 3) (by omega) (by decide)) ?_
  refine ⟨fun h2 => ?_, fun h2 => ?_⟩
  · refine ⟨rfl, congrArg (fun z => some (Value.int z)) (bi_f ?_).symm, rfl⟩
    have h3 := fun z => Int32.not_lt.mpr h2 (ha.mpr z)
    by_cases h4 : s_fc S (7 * s + 3) - s_fc S (7 * t + 3) < -1
    · simp [lkA, h4]
    · by_cases h5 : 1 < s_fc S (7 * s + 3) - s_fc S (7 * t + 3)
      · simp [lkA, h5]
      · exact absurd ⟨h4, h5⟩ h3
  have h3 := ha.mp (Int32.not_le.mp h2)
  refine ac_to (ac_near hs ht hn hp hf) ?_
  refine ⟨fun h4 => ?_, fun h4 => ?_⟩
  · refine ⟨rfl, congrArg (fun z => some (Value.int z)) (bi_f ?_).symm, rfl⟩
    simp [lkA, (bi_e0 _).mp h4]
  · refine ⟨rfl, congrArg (fun z => some (Value.int z)) (bi_t ?_).symm, rfl⟩
    rw [bi_e0, Bool.not_eq_false] at h4
    simp [lkA, h4, h1, h3.1, h3.2]
theorem ac_canBeCut {s t n : Nat} (hs : s < n) (ht : t < n) (hn : n ≤ 6) (hp : Okp (s_pl S)) (hf : Okf (s_fc S) n) : ACe g mX3_canBeCut [.ref 1, .int (nI s), .int (nI t)] (lay (S, O)) (some (.int (bi (cnA (s_pl S) (s_fc S) s t)))) (lay (S, O)) := by
  refine acw gdX3_canBeCut 90 rfl ?_
  refine ⟨fun h1 => ?_, fun h1 => ?_⟩
  · rw [neqI (by omega) (by omega)] at h1
    refine ⟨rfl, congrArg (fun z => some (Value.int z)) (bi_f ?_).symm, rfl⟩
    simp [cnA, h1]
  rw [neqI (by omega) (by omega)] at h1
  refine ac_to (ac_side hs hn hp hf) ?_
  refine ac_to (ac_side ht hn hp hf) ?_
  refine ⟨fun h2 => ?_, fun h2 => ?_⟩
  · refine ⟨rfl, congrArg (fun z => some (Value.int z)) (bi_f ?_).symm, rfl⟩
    simp [cnA, h2]
  refine ac_to (ac_tooLike hs ht hn hp hf) ?_
  refine ⟨fun h3 => ?_, fun h3 => ?_⟩
  · refine ⟨rfl, congrArg (fun z => some (Value.int z)) (bi_f ?_).symm, rfl⟩
    rw [bi_e0, Bool.not_eq_false] at h3
    simp [cnA, h3]
  · refine ⟨rfl, congrArg (fun z => some (Value.int z)) (bi_t ?_).symm, rfl⟩
    rw [bi_e0] at h3
    simp [cnA, h1, h2, h3]
theorem ac_partners {s n : Nat} (hs : s < n) (h6 : n ≤ 6) (hn : s_ns S = nI n) (hp : Okp (s_pl S)) (hf : Okf (s_fc S) n) : ACe g mX3_partners [.ref 1, .int (nI s)] (lay (S, O)) (some (.int (nI (msk (fun t => cnA (s_pl S) (s_fc S) s t) n)))) (lay (S, O)) := by
  refine acw gdX3_partners 60 rfl ?_
  refine dn (n := n) (P := fun i => AW g mX3_partners _ 0 0 4 [some (.ref 1), some (.int (nI s)), some (.int (nI (msk (fun t => cnA (s_pl S) (s_fc S) s t) i))), some (.int (nI i))] [] (lay (S, O))) ?_ (fun i hi ih => ?_) 0 (Nat.zero_le _)
  · exact lpw gdX3_partners 30 ⟨fun _ => ⟨rfl, rfl⟩, fun h => absurd (by rw [hn]; exact nle (by omega) (by omega)) h⟩
  · refine lpw gdX3_partners 30 ⟨fun h => absurd h (by rw [hn]; exact nge (by omega) (by omega)), fun _ => ?_⟩
    refine ac_to (ac_canBeCut hs hi h6 hp hf) ⟨fun hc => awl ?_ ih, fun hc => awl ?_ ih⟩
    · rw [msk_no (p := fun t => cnA (s_pl S) (s_fc S) s t) ((bi_e0 _).mp hc), ← nI_1]
      rfl
    · rw [← msk_or (p := fun t => cnA (s_pl S) (s_fc S) s t) (by omega) (by simpa [bi_e0] using hc), ← nI_1]
      rfl
theorem ac_isReaction {l : Nat} {o : Option Nat} (hl : l < 8) (ho : okO 6 o) : ACe g mX3_isReaction [.ref 1, .int (nI l), .int (sh o)] (lay (S, O)) (some (.int (bi (reO (s_fc S) (s_sp S) l o)))) (lay (S, O)) := by
  refine acw gdX3_isReaction 60 rfl ?_
  cases o with
  | none => exact ⟨fun _ => ⟨rfl, rfl, rfl⟩, fun h => absurd rfl h⟩
  | some s =>
    have hs := ho s rfl
    refine ⟨fun h => absurd h (nI_ne9 (by omega)), fun _ => ?_⟩
    refine ac_to (ac_fact (w := 2) hs (by decide)) ?_
    refine ⟨_, _, rfl, vlit hl (by decide), ?_⟩
    rw [vcl rfl (by omega)]
    refine ⟨fun h1 => ?_, fun h1 => ?_⟩
    · refine ⟨rfl, congrArg (fun z => some (Value.int z)) (bi_f ?_).symm, rfl⟩
      simp only [reO, reA, decide_eq_false_iff_not]
      exact h1
    · refine ⟨rfl, congrArg (fun z => some (Value.int z)) (bi_t ?_).symm, rfl⟩
      simp only [reO, reA, decide_eq_true_eq]
      exact h1
end SC
