/-! ===== the model's readers ===== -/
/-- a row's shots -/
abbrev fcr (r : Fn) : Fn := fun i => r (14 + i)
abbrev spr (r : Fn) : Fn := fun l => r (5 + l)
theorem cpy_step {f t : Fn} {i j k : Nat} : upd (va_cpy f t i j k) (j + k) (f (i + k)) = va_cpy f t i j (k + 1) := by
  funext x
  by_cases h : x = j + k
  · subst h
    rw [pk_us, pk_cpy_in (by omega) (by omega)]
    congr 1
    omega
  · rw [pk_un h]
    by_cases h2 : j ≤ x ∧ x < j + k
    · rw [pk_cpy_in h2.1 h2.2, pk_cpy_in h2.1 (by omega)]
    · rw [pk_cpy_out (by omega), pk_cpy_out (by omega)]
theorem cpy_0 {f t : Fn} {i j : Nat} : va_cpy f t i j 0 = t := by
  funext x
  exact pk_cpy_out (by omega)
theorem ac_ar {g : Glob} {M : Mth} {args args' : List Value} {h : AH} {Q : Option Value → AH → Prop} (e : args = args') (K : AC g M args' h Q) : AC g M args h Q := e ▸ K
theorem or0 (x : Int32) : x ||| 0 = x := by simp
section MR
variable {g : Glob} {S : Scn} {O : Oth}
theorem am_in (v a b : Int32) (h : AH) : ACe g mX6_in [.int v, .int a, .int b] h (some (.int (bi (!decide (v < a) && !decide (b < v))))) h := by
  refine acw gdX6_in 20 rfl ?_
  refine ⟨fun h1 => ?_, fun h1 => ⟨fun h2 => ?_, fun h2 => ?_⟩⟩
  · exact ⟨rfl, congrArg (fun z => some (Value.int z)) (bi_f (by simp [h1])).symm, rfl⟩
  · exact ⟨rfl, congrArg (fun z => some (Value.int z)) (bi_f (by simp [h2])).symm, rfl⟩
  · exact ⟨rfl, congrArg (fun z => some (Value.int z)) (bi_t (by simp [h1, h2])).symm, rfl⟩
theorem am_of {s w : Nat} (hs : s < 6) (hw : w < 7) : ACe g mX6_of [.ref 94, .int (nI s), .int (nI w)] (lay (S, O)) (some (.int (fcr (z_now (o_M O)) (7 * s + w)))) (lay (S, O)) := by
  refine acw gdX6_of 20 rfl ?_
  have e : 14 + 7 * nI s + nI w = nI (14 + (7 * s + w)) := by simp only [nlit, pk_mul, nI_add]; congr 1; omega
  refine ⟨_, _, rfl, vin e (by omega) (by decide), ?_⟩
  rw [vcl e (by omega)]
  exact ⟨rfl, rfl⟩
theorem am_isLine (l : Int32) : ACe g mX6_isLine [.ref 94, .int l] (lay (S, O)) (some (.int (bi (!decide (l < 0) && !decide (z_now (o_M O) 4 - 1 < l))))) (lay (S, O)) := by
  refine acw gdX6_isLine 30 rfl ?_
  refine ⟨_, _, rfl, vlit (j := 4) (by decide) (by decide), ?_⟩
  exact ac_to (am_in _ _ _ _) ⟨bi_n _, rfl, rfl⟩
theorem am_isShot (l : Int32) : ACe g mX6_isShot [.ref 94, .int l] (lay (S, O)) (some (.int (bi (!decide (l < 0) && !decide (z_now (o_M O) 13 - 1 < l))))) (lay (S, O)) := by
  refine acw gdX6_isShot 30 rfl ?_
  refine ⟨_, _, rfl, vlit (j := 13) (by decide) (by decide), ?_⟩
  exact ac_to (am_in _ _ _ _) ⟨bi_n _, rfl, rfl⟩
theorem am_sideOf {s : Nat} (hs : s < 6) : ACe g mX6_sideOf [.ref 94, .int (nI s)] (lay (S, O)) (some (.int (sdA (z_now (o_M O)) (fcr (z_now (o_M O))) s))) (lay (S, O)) := by
  refine acw gdX6_sideOf 80 rfl ?_
  refine ⟨_, _, rfl, vlit (j := 2) (by decide) (by decide), ?_⟩
  refine ⟨_, _, rfl, vlit (j := 0) (by decide) (by decide), ?_⟩
  refine ⟨_, _, rfl, vlit (j := 3) (by decide) (by decide), ?_⟩
  refine ⟨_, _, rfl, vlit (j := 1) (by decide) (by decide), ?_⟩
  refine ac_to (am_of (w := 0) hs (by decide)) ?_
  refine ⟨_, _, rfl, vlit (j := 0) (by decide) (by decide), ?_⟩
  refine ac_to (am_of (w := 1) hs (by decide)) ?_
  refine ⟨_, _, rfl, vlit (j := 1) (by decide) (by decide), ?_⟩
  refine ⟨fun h1 => ⟨fun h2 => ?_, fun h2 => ?_⟩, fun h1 => ?_⟩
  · refine ⟨congrArg (fun z => some (Value.int z)) ?_, rfl⟩
    unfold sdA
    exact ((if_neg (Int32.not_lt.mpr h1)).trans (if_neg (Int32.not_lt.mpr h2))).symm
  · refine ⟨congrArg (fun z => some (Value.int z)) ?_, rfl⟩
    unfold sdA
    exact ((if_neg (Int32.not_lt.mpr h1)).trans (if_pos (Int32.not_le.mp h2))).symm
  · refine ⟨congrArg (fun z => some (Value.int z)) ?_, rfl⟩
    unfold sdA
    exact (if_pos (Int32.not_le.mp h1)).symm
theorem am_wayOf {s k : Nat} (hs : s < 6) (hk : k < 2) : ACe g mX6_wayOf [.ref 94, .int (nI s), .int (nI k)] (lay (S, O)) (some (.int (wyA (z_now (o_M O)) (fcr (z_now (o_M O))) s k))) (lay (S, O)) := by
  refine acw gdX6_wayOf 80 rfl ?_
  refine ac_to (am_of hs (by omega)) ?_
  refine ⟨_, _, rfl, vlit (by omega) (by decide), ?_⟩
  rw [vcl rfl (by omega)]
  have e : 2 + nI k = nI (2 + k) := by simp only [nlit, nI_add]
  refine ⟨_, _, rfl, vin e (by omega) (by decide), ?_⟩
  rw [vcl e (by omega)]
  exact ⟨rfl, rfl⟩
theorem am_areNear {s t : Nat} (hs : s < 6) (ht : t < 6) : ACe g mX6_areNear [.ref 94, .int (nI s), .int (nI t)] (lay (S, O)) (some (.int (bi (nrA (z_now (o_M O)) (fcr (z_now (o_M O))) s t)))) (lay (S, O)) := by
  refine acw gdX6_areNear 90 rfl ?_
  refine ac_to (am_wayOf (k := 0) hs (by decide)) ?_
  refine ac_to (am_wayOf (k := 1) hs (by decide)) ?_
  refine ac_to (am_wayOf (k := 0) ht (by decide)) ?_
  refine ac_to (am_wayOf (k := 1) ht (by decide)) ?_
  refine ⟨fun h1 => ?_, fun h1 => ⟨fun h2 => ?_, fun h2 => ⟨fun h3 => ?_, fun h3 => ⟨fun h4 => ?_, fun h4 => ?_⟩⟩⟩⟩
  · exact ⟨rfl, congrArg (fun z => some (Value.int z)) (bi_t (by simp only [nrA, Bool.or_eq_true, decide_eq_true_eq]; exact Or.inl (Or.inl h1))).symm, rfl⟩
  · exact ⟨rfl, congrArg (fun z => some (Value.int z)) (bi_t (by simp only [nrA, Bool.or_eq_true, decide_eq_true_eq]; exact Or.inl (Or.inr h2))).symm, rfl⟩
  · refine ⟨rfl, congrArg (fun z => some (Value.int z)) (bi_f ?_).symm, rfl⟩
    simp only [nrA, Bool.or_eq_false_iff, decide_eq_false_iff_not, Bool.and_eq_false_iff]
    exact ⟨⟨h1, h2⟩, Or.inl (Int32.not_lt.mpr h3)⟩
  · refine ⟨rfl, congrArg (fun z => some (Value.int z)) (bi_f ?_).symm, rfl⟩
    simp only [nrA, Bool.or_eq_false_iff, decide_eq_false_iff_not, Bool.and_eq_false_iff]
    exact ⟨⟨h1, h2⟩, Or.inr (Int32.not_lt.mpr h4)⟩
  · refine ⟨rfl, congrArg (fun z => some (Value.int z)) (bi_t ?_).symm, rfl⟩
    simp only [nrA, Bool.or_eq_true, decide_eq_true_eq, Bool.and_eq_true]
    exact Or.inr ⟨Int32.not_le.mp h3, Int32.not_le.mp h4⟩
theorem am_canCut {s t : Nat} (hs : s < 6) (ht : t < 6) : ACe g mX6_canCut [.ref 94, .int (nI s), .int (nI t)] (lay (S, O)) (some (.int (bi (cnA (z_now (o_M O)) (fcr (z_now (o_M O))) s t)))) (lay (S, O)) := by
  refine acw gdX6_canCut 90 rfl ?_
  refine ac_to (am_of (w := 3) hs (by decide)) ?_
  refine ac_to (am_of (w := 3) ht (by decide)) ?_
  refine ac_to (am_of (w := 2) hs (by decide)) ?_
  refine ac_to (am_of (w := 2) ht (by decide)) ?_
  have J : ∀ (v : Int32) (b : Bool), b = lkA (z_now (o_M O)) (fcr (z_now (o_M O))) s t → v = bi b → AW g mX6_canCut (fun r h' => r = some (.int (bi (cnA (z_now (o_M O)) (fcr (z_now (o_M O))) s t))) ∧ h' = lay (S, O)) 0 0 52 [some (.ref 94), some (.int (nI s)), some (.int (nI t)), some (.int (fcr (z_now (o_M O)) (7 * s + 3) - fcr (z_now (o_M O)) (7 * t + 3))), none] [.int v] (lay (S, O)) := by
    intro v b hb hv
    refine lpw gdX6_canCut 60 ⟨fun h1 => ?_, fun h1 => ?_⟩
    · rw [neqI (by omega) (by omega)] at h1
      exact ⟨rfl, congrArg (fun z => some (Value.int z)) (bi_f (by simp [cnA, h1])).symm, rfl⟩
    rw [neqI (by omega) (by omega)] at h1
    refine ac_to (am_sideOf hs) ?_
    refine ac_to (am_sideOf ht) ?_
    refine ⟨fun h2 => ?_, fun h2 => ?_⟩
    · exact ⟨rfl, congrArg (fun z => some (Value.int z)) (bi_f (by simp [cnA, h2])).symm, rfl⟩
    refine ⟨fun h3 => ?_, fun h3 => ?_⟩
    · replace h3 : ¬ v = 0 := h3
      rw [hv, bi_e0, Bool.not_eq_false, hb] at h3
      exact ⟨rfl, congrArg (fun z => some (Value.int z)) (bi_f (by simp [cnA, h3])).symm, rfl⟩
    · replace h3 : v = 0 := h3
      rw [hv, bi_e0, hb] at h3
      exact ⟨rfl, congrArg (fun z => some (Value.int z)) (bi_t (by simp [cnA, h1, h2, h3])).symm, rfl⟩
  refine ⟨fun h1 => ?_, fun h1 => ?_⟩
  · exact J 0 false (by simp [lkA, show ¬ z_now (o_M O) (14 + (7 * s + 2)) = z_now (o_M O) (14 + (7 * t + 2)) from h1]) rfl
  refine ac_to (am_in _ _ _ _) ⟨fun h2 => ?_, fun h2 => ?_⟩
  · rw [bi_e0] at h2
    refine J 0 false ?_ rfl
    unfold lkA
    rw [show (!decide (fcr (z_now (o_M O)) (7 * s + 3) - fcr (z_now (o_M O)) (7 * t + 3) < -1) && !decide (1 < fcr (z_now (o_M O)) (7 * s + 3) - fcr (z_now (o_M O)) (7 * t + 3))) = false from h2]
    simp
  rw [bi_e0, Bool.not_eq_false] at h2
  refine ac_to (am_areNear hs ht) ⟨fun h3 => ?_, fun h3 => ?_⟩
  · rw [bi_e0] at h3
    exact J 0 false (by simp [lkA, h3]) rfl
  · rw [bi_e0, Bool.not_eq_false] at h3
    refine J 1 true ?_ rfl
    unfold lkA
    rw [show (!decide (fcr (z_now (o_M O)) (7 * s + 3) - fcr (z_now (o_M O)) (7 * t + 3) < -1) && !decide (1 < fcr (z_now (o_M O)) (7 * s + 3) - fcr (z_now (o_M O)) (7 * t + 3))) = true from h2, h3]
    simp [show z_now (o_M O) (14 + (7 * s + 2)) = z_now (o_M O) (14 + (7 * t + 2)) from h1]
theorem am_covers {s l : Nat} (hs : s < 6) : ACe g mX6_covers [.ref 94, .int (nI s), .int (nI l)] (lay (S, O)) (some (.int (bi (cvA (fcr (z_now (o_M O))) s l)))) (lay (S, O)) := by
  refine acw gdX6_covers 30 rfl ?_
  refine ac_to (am_of (w := 4) hs (by decide)) ?_
  refine ac_to (am_of (w := 5) hs (by decide)) ?_
  exact ac_to (am_in _ _ _ _) ⟨bi_n _, rfl, rfl⟩
theorem am_isReaction {l : Nat} {o : Option Nat} (hl : l < 8) (ho : okO 6 o) : ACe g mX6_isReaction [.ref 94, .int (nI l), .int (sh o)] (lay (S, O)) (some (.int (bi (reO (fcr (z_now (o_M O))) (spr (z_now (o_M O))) l o)))) (lay (S, O)) := by
  refine acw gdX6_isReaction 60 rfl ?_
  cases o with
  | none => exact ⟨fun _ => ⟨rfl, rfl, rfl⟩, fun h => absurd rfl h⟩
  | some s =>
    have hs := ho s rfl
    refine ⟨fun h => absurd h (nI_ne9 (by omega)), fun _ => ?_⟩
    refine ac_to (am_of (w := 2) hs (by decide)) ?_
    have e : 5 + nI l = nI (5 + l) := by simp only [nlit, nI_add]
    refine ⟨_, _, rfl, vin e (by omega) (by decide), ?_⟩
    rw [vcl e (by omega)]
    refine ⟨fun h1 => ?_, fun h1 => ?_⟩
    · refine ⟨rfl, congrArg (fun z => some (Value.int z)) (bi_f ?_).symm, rfl⟩
      simp only [reO, reA, decide_eq_false_iff_not]
      exact h1
    · refine ⟨rfl, congrArg (fun z => some (Value.int z)) (bi_t ?_).symm, rfl⟩
      simp only [reO, reA, decide_eq_true_eq]
      exact h1
theorem am_coversOf {n l : Nat} (hn : z_now (o_M O) 13 = nI n) (h6 : n ≤ 6) : ACe g mX6_coversOf [.ref 94, .int (nI l)] (lay (S, O)) (some (.int (nI (msk (fun s => cvA (fcr (z_now (o_M O))) s l) n)))) (lay (S, O)) := by
  have hn : z_now (o_M (S, O).snd) 13 = nI n := hn
  refine acw gdX6_coversOf 60 rfl ?_
  refine dn (n := n) (P := fun i => AW g mX6_coversOf _ 0 0 4 [some (.ref 94), some (.int (nI l)), some (.int (nI (msk (fun s => cvA (fcr (z_now (o_M O))) s l) i))), some (.int (nI i))] [] (lay (S, O))) ?_ (fun i hi ih => ?_) 0 (Nat.zero_le _)
  · refine lpw gdX6_coversOf 30 ⟨_, _, rfl, vlit (j := 13) (by decide) (by decide), ?_⟩
    exact ⟨fun _ => ⟨rfl, rfl⟩, fun h => absurd (by rw [vcl (x := 13) (j := 13) rfl (by decide), hn]; exact nle (by omega) (by omega)) h⟩
  · refine lpw gdX6_coversOf 30 ⟨_, _, rfl, vlit (j := 13) (by decide) (by decide), ?_⟩
    refine ⟨fun h => absurd h (by rw [vcl (x := 13) (j := 13) rfl (by decide), hn]; exact nge (by omega) (by omega)), fun _ => ?_⟩
    refine ac_to (am_covers (l := l) (by omega)) ⟨fun hc => awl ?_ ih, fun hc => awl ?_ ih⟩
    · rw [msk_no (p := fun s => cvA (fcr (z_now (o_M O))) s l) ((bi_e0 _).mp hc), ← nI_1]
      simp only [or0]
      rfl
    · rw [← msk_or (p := fun s => cvA (fcr (z_now (o_M O))) s l) (by omega) (by simpa [bi_e0] using hc), ← nI_1]
      rfl
theorem am_cutsOf {n s : Nat} (hs : s < n) (hn : z_now (o_M O) 13 = nI n) (h6 : n ≤ 6) : ACe g mX6_cutsOf [.ref 94, .int (nI s)] (lay (S, O)) (some (.int (nI (msk (fun t => cnA (z_now (o_M O)) (fcr (z_now (o_M O))) s t) n)))) (lay (S, O)) := by
  have hn : z_now (o_M (S, O).snd) 13 = nI n := hn
  refine acw gdX6_cutsOf 60 rfl ?_
  refine dn (n := n) (P := fun i => AW g mX6_cutsOf _ 0 0 4 [some (.ref 94), some (.int (nI s)), some (.int (nI (msk (fun t => cnA (z_now (o_M O)) (fcr (z_now (o_M O))) s t) i))), some (.int (nI i))] [] (lay (S, O))) ?_ (fun i hi ih => ?_) 0 (Nat.zero_le _)
  · refine lpw gdX6_cutsOf 30 ⟨_, _, rfl, vlit (j := 13) (by decide) (by decide), ?_⟩
    exact ⟨fun _ => ⟨rfl, rfl⟩, fun h => absurd (by rw [vcl (x := 13) (j := 13) rfl (by decide), hn]; exact nle (by omega) (by omega)) h⟩
  · refine lpw gdX6_cutsOf 30 ⟨_, _, rfl, vlit (j := 13) (by decide) (by decide), ?_⟩
    refine ⟨fun h => absurd h (by rw [vcl (x := 13) (j := 13) rfl (by decide), hn]; exact nge (by omega) (by omega)), fun _ => ?_⟩
    refine ac_to (am_canCut (by omega) (by omega)) ⟨fun hc => awl ?_ ih, fun hc => awl ?_ ih⟩
    · rw [msk_no (p := fun t => cnA (z_now (o_M O)) (fcr (z_now (o_M O))) s t) ((bi_e0 _).mp hc), ← nI_1]
      simp only [or0]
      rfl
    · rw [← msk_or (p := fun t => cnA (z_now (o_M O)) (fcr (z_now (o_M O))) s t) (by omega) (by simpa [bi_e0] using hc), ← nI_1]
      rfl
theorem am_mayFollow {l s t : Nat} (hl : l + 1 < 8) (hs : s < 6) (ht : t < 6) : ACe g mX6_mayFollow [.ref 94, .int (nI l), .int (nI s), .int (nI t)] (lay (S, O)) (some (.int (bi ((decide (s = t) || cnA (z_now (o_M O)) (fcr (z_now (o_M O))) s t) && !(reA (fcr (z_now (o_M O))) (spr (z_now (o_M O))) l s && reA (fcr (z_now (o_M O))) (spr (z_now (o_M O))) (l + 1) t))))) (lay (S, O)) := by
  have J : (decide (s = t) || cnA (z_now (o_M O)) (fcr (z_now (o_M O))) s t) = true → AW g mX6_mayFollow (fun r h' => r = some (.int (bi ((decide (s = t) || cnA (z_now (o_M O)) (fcr (z_now (o_M O))) s t) && !(reA (fcr (z_now (o_M O))) (spr (z_now (o_M O))) l s && reA (fcr (z_now (o_M O))) (spr (z_now (o_M O))) (l + 1) t)))) ∧ h' = lay (S, O)) 0 0 14 [some (.ref 94), some (.int (nI l)), some (.int (nI s)), some (.int (nI t))] [] (lay (S, O)) := by
    intro h0
    refine lpw gdX6_mayFollow 40 ?_
    refine ac_to (am_isReaction (o := some s) (by omega) (fun _ z => by cases z; exact hs)) ⟨fun h1 => ?_, fun h1 => ?_⟩
    · have h1 : reA (fcr (z_now (o_M O))) (spr (z_now (o_M O))) l s = false := (bi_e0 _).mp h1
      exact ⟨rfl, congrArg (fun z => some (Value.int z)) (bi_t (by rw [h0, h1]; rfl)).symm, rfl⟩
    have h1 : reA (fcr (z_now (o_M O))) (spr (z_now (o_M O))) l s = true := by rw [bi_e0, Bool.not_eq_false] at h1; exact h1
    refine ac_ar (by rw [nI_1]; rfl) (ac_to (am_isReaction (l := l + 1) (o := some t) (by omega) (fun _ z => by cases z; exact ht)) ⟨fun h2 => ?_, fun h2 => ?_⟩)
    · have h2 : reA (fcr (z_now (o_M O))) (spr (z_now (o_M O))) (l + 1) t = true := by rw [bi_e0, Bool.not_eq_false] at h2; exact h2
      exact ⟨rfl, congrArg (fun z => some (Value.int z)) (bi_f (by rw [h0, h1, h2]; rfl)).symm, rfl⟩
    · have h2 : reA (fcr (z_now (o_M O))) (spr (z_now (o_M O))) (l + 1) t = false := (bi_e0 _).mp h2
      exact ⟨rfl, congrArg (fun z => some (Value.int z)) (bi_t (by rw [h0, h1, h2]; rfl)).symm, rfl⟩
  refine acw gdX6_mayFollow 40 rfl ⟨fun h1 => ?_, fun h1 => ?_⟩
  · rw [neqI (by omega) (by omega)] at h1
    exact J (by simp [h1])
  rw [neqI (by omega) (by omega)] at h1
  refine ac_to (am_canCut hs ht) ⟨fun h2 => ?_, fun h2 => ?_⟩
  · rw [bi_e0] at h2
    exact ⟨rfl, congrArg (fun z => some (Value.int z)) (bi_f (by rw [h2]; simp [h1])).symm, rfl⟩
  · rw [bi_e0, Bool.not_eq_false] at h2
    exact J (by simp [h2])
end MR
