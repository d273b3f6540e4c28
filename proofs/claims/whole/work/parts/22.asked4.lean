section P5
variable {g : Glob} {S : Scn} {O : Oth}
theorem pr_shot (l x : Int32) : Pr g mX5_shot mX6_shot [.int l, .int x] := by
  rintro ⟨S, O⟩ hI
  have hI0 := hI
  obtain ⟨⟨eo, m, n, hS, hw⟩, -⟩ := hI
  have h6 := hw.2.2.2.1
  have C1 := ac_hasShot' (g := g) (S := S) (O := O) l hS.2.1
  have M1 := am_isShot' (g := g) (S := S) (O := O) l hw.2.2.1 (by omega)
  rcases ix l (n := n) (by omega) with h | h | ⟨j, hj, rfl⟩
  · rw [ln_f (Or.inl h)] at C1 M1
    refine ⟨-1000000, (S, O), (S, O), ?_, ?_, hI0⟩
    · exact acw gdX5_shot 40 rfl (ac_to C1 ⟨fun _ => ⟨rfl, rfl⟩, fun h => absurd rfl h⟩)
    · exact acw gdX6_shot 40 rfl (ac_to M1 ⟨fun _ => ⟨rfl, rfl⟩, fun h => absurd rfl h⟩)
  · rw [ln_f (Or.inr h)] at C1 M1
    refine ⟨-1000000, (S, O), (S, O), ?_, ?_, hI0⟩
    · exact acw gdX5_shot 40 rfl (ac_to C1 ⟨fun _ => ⟨rfl, rfl⟩, fun h => absurd rfl h⟩)
    · exact acw gdX6_shot 40 rfl (ac_to M1 ⟨fun _ => ⟨rfl, rfl⟩, fun h => absurd rfl h⟩)
  rw [ln_t hj (by omega)] at C1 M1
  by_cases hx : x < 0 ∨ 10 < x
  · refine ⟨-1000000, (S, O), (S, O), ?_, ?_, hI0⟩
    · refine acw gdX5_shot 40 rfl (ac_to C1 ⟨fun h => absurd h n01, fun _ => ⟨fun h1 => ⟨fun h2 => ?_, fun h2 => ?_⟩, fun _ => ⟨rfl, rfl⟩⟩⟩)
      · have h3 : 10 < x.toInt := by
          rcases hx with hx | hx
          · exact absurd hx (Int32.not_lt.mpr h1)
          · exact Int32.lt_iff_toInt_lt.mp hx
        refine ⟨fun _ => ⟨rfl, rfl⟩, fun h => ?_, fun h => ?_, fun h => ?_, fun h => ?_, trivial⟩ <;> (exfalso; omega)
      · exfalso
        have h3 : x.toInt < 7 := Int32.lt_iff_toInt_lt.mp (Int32.not_le.mp h2)
        rcases hx with hx | hx
        · exact absurd hx (Int32.not_lt.mpr h1)
        · have : (10 : Int32).toInt < x.toInt := Int32.lt_iff_toInt_lt.mp hx
          have e : (10 : Int32).toInt = 10 := by decide
          omega
    · refine acw gdX6_shot 40 rfl (ac_to M1 ⟨fun h => absurd h n01, fun _ => ?_⟩)
      refine ac_to (am_in _ _ _ _) ⟨fun h1 => ?_, fun _ => ⟨rfl, rfl⟩⟩
      rw [bi_e0, Bool.not_eq_false] at h1
      simp only [Bool.and_eq_true, Bool.not_eq_true', decide_eq_false_iff_not] at h1
      rcases hx with hx | hx
      · exact absurd hx h1.1
      · exact absurd hx h1.2
  have h1 : ¬ x < 0 := fun z => hx (Or.inl z)
  have h2 : ¬ 10 < x := fun z => hx (Or.inr z)
  obtain ⟨k, hk, rfl⟩ := nI_of2 (M := 10) (n := 10) (by decide) h1 (Int32.not_lt.mp h2)
  have hin : ∀ (k : Nat), k ≤ 10 → bi (!decide (nI k < 0) && !decide (10 < nI k)) = 1 := fun k hk => in_t (n := 10) hk (by decide) rfl
  have hge : ∀ k : Nat, k ≤ 10 → (0 : Int32) ≤ nI k := fun k hk => nI_pos' (by omega)
  by_cases h7 : k < 7
  · refine ⟨s_fc S (7 * j + k), (S, O), (S, O), ?_, ?_, hI0⟩
    · refine acw gdX5_shot 40 rfl (ac_to C1 ⟨fun h => absurd h n01, fun _ => ⟨fun _ => ⟨fun h => absurd h (nge (n := 7) h7 (by omega)), fun _ => ?_⟩, fun h => absurd (hge k hk) h⟩⟩)
      exact ac_to (ac_fact (by omega) h7) ⟨rfl, rfl⟩
    · refine acw gdX6_shot 40 rfl (ac_to M1 ⟨fun h => absurd h n01, fun _ => ?_⟩)
      refine ac_to (am_in _ _ _ _) ⟨fun _ => ⟨fun h => absurd h (nge (n := 7) h7 (by omega)), fun _ => ?_⟩, fun h => absurd h (by rw [hin k hk]; decide)⟩
      exact ac_to (am_of (by omega) h7) ⟨congrArg (fun z => some (Value.int z)) (hS.2.2.2.2.1 (7 * j + k) (by omega)).symm, rfl⟩
  rcases (show k = 7 ∨ k = 8 ∨ k = 9 ∨ k = 10 by omega) with rfl | rfl | rfl | rfl
  · refine ⟨sdA (z_now (o_M O)) (fcr (z_now (o_M O))) j, (S, O), (S, O), ?_, ?_, hI0⟩
    · refine acw gdX5_shot 40 rfl (ac_to C1 ⟨fun h => absurd h n01, fun _ => ⟨fun _ => ⟨fun _ => ⟨fun h => absurd h (by decide), fun h => ?_, fun h => absurd h (by decide), fun h => absurd h (by decide), fun h => absurd h (by decide), trivial⟩, fun h => absurd (by decide) h⟩, fun h => absurd (hge 7 hk) h⟩⟩)
      exact ac_to (ac_side hj h6 (hS.okp hw) (hS.okf hw)) ⟨congrArg (fun z => some (Value.int z)) (hS.sd hj), rfl⟩
    · refine acw gdX6_shot 40 rfl (ac_to M1 ⟨fun h => absurd h n01, fun _ => ?_⟩)
      refine ac_to (am_in _ _ _ _) ⟨fun _ => ⟨fun _ => ⟨fun h => absurd rfl h, fun _ => ?_⟩, fun h => absurd (by decide) h⟩, fun h => absurd h (by rw [hin 7 hk]; decide)⟩
      exact ac_to (am_sideOf (by omega)) ⟨rfl, rfl⟩
  · refine ⟨wyA (z_now (o_M O)) (fcr (z_now (o_M O))) j 0, (S, O), (S, O), ?_, ?_, hI0⟩
    · refine acw gdX5_shot 40 rfl (ac_to C1 ⟨fun h => absurd h n01, fun _ => ⟨fun _ => ⟨fun _ => ⟨fun h => absurd h (by decide), fun h => absurd h (by decide), fun h => ?_, fun h => absurd h (by decide), fun h => absurd h (by decide), trivial⟩, fun h => absurd (by decide) h⟩, fun h => absurd (hge 8 hk) h⟩⟩)
      exact ac_to (ac_wayX (by omega)) ⟨congrArg (fun z => some (Value.int z)) (hS.wy hj (by decide)), rfl⟩
    · refine acw gdX6_shot 40 rfl (ac_to M1 ⟨fun h => absurd h n01, fun _ => ?_⟩)
      refine ac_to (am_in _ _ _ _) ⟨fun _ => ⟨fun _ => ⟨fun _ => ⟨fun h => absurd h (by decide), fun _ => ?_⟩, fun h => absurd h (by decide)⟩, fun h => absurd (by decide) h⟩, fun h => absurd h (by rw [hin 8 hk]; decide)⟩
      exact ac_to (am_wayOf (k := 0) (by omega) (by decide)) ⟨rfl, rfl⟩
  · refine ⟨wyA (z_now (o_M O)) (fcr (z_now (o_M O))) j 1, (S, O), (S, O), ?_, ?_, hI0⟩
    · refine acw gdX5_shot 40 rfl (ac_to C1 ⟨fun h => absurd h n01, fun _ => ⟨fun _ => ⟨fun _ => ⟨fun h => absurd h (by decide), fun h => absurd h (by decide), fun h => absurd h (by decide), fun h => ?_, fun h => absurd h (by decide), trivial⟩, fun h => absurd (by decide) h⟩, fun h => absurd (hge 9 hk) h⟩⟩)
      exact ac_to (ac_wayY (by omega)) ⟨congrArg (fun z => some (Value.int z)) (hS.wy hj (by decide)), rfl⟩
    · refine acw gdX6_shot 40 rfl (ac_to M1 ⟨fun h => absurd h n01, fun _ => ?_⟩)
      refine ac_to (am_in _ _ _ _) ⟨fun _ => ⟨fun _ => ⟨fun _ => ⟨fun h => absurd h (by decide), fun _ => ?_⟩, fun h => absurd h (by decide)⟩, fun h => absurd (by decide) h⟩, fun h => absurd h (by rw [hin 9 hk]; decide)⟩
      exact ac_to (am_wayOf (k := 1) (by omega) (by decide)) ⟨rfl, rfl⟩
  · refine ⟨nI (msk (fun t => cnA (z_now (o_M O)) (fcr (z_now (o_M O))) j t) n), (S, O), (S, O), ?_, ?_, hI0⟩
    · refine acw gdX5_shot 40 rfl (ac_to C1 ⟨fun h => absurd h n01, fun _ => ⟨fun _ => ⟨fun _ => ⟨fun h => absurd h (by decide), fun h => absurd h (by decide), fun h => absurd h (by decide), fun h => absurd h (by decide), fun h => ?_, trivial⟩, fun h => absurd (by decide) h⟩, fun h => absurd (hge 10 hk) h⟩⟩)
      refine ac_to (ac_partners hj h6 hS.2.1 (hS.okp hw) (hS.okf hw)) ⟨?_, rfl⟩
      rw [msk_cg (q := fun t => cnA (z_now (o_M O)) (fcr (z_now (o_M O))) j t) n (fun s hs => hS.cn hj hs)]
    · refine acw gdX6_shot 40 rfl (ac_to M1 ⟨fun h => absurd h n01, fun _ => ?_⟩)
      refine ac_to (am_in _ _ _ _) ⟨fun _ => ⟨fun _ => ⟨fun _ => ⟨fun _ => ?_, fun h => absurd (by decide) h⟩, fun h => absurd h (by decide)⟩, fun h => absurd (by decide) h⟩, fun h => absurd h (by rw [hin 10 hk]; decide)⟩
      exact ac_to (am_cutsOf hj hw.2.2.1 h6) ⟨rfl, rfl⟩
/-! edit -/
theorem ct_some {a b : Option Nat} (h : ctO a b = true) : ∃ s t, a = some s ∧ b = some t ∧ s ≠ t := by
  cases a with
  | none => cases b <;> cases h
  | some s =>
    cases b with
    | none => cases h
    | some t => exact ⟨s, t, rfl, rfl, by simpa [ctO] using h⟩
theorem am_edit {eo : Nat → Option Nat} {m n k : Nat} (hk : k < 5) (hw : WfR (z_now (o_M O)) eo m n) : ACe g mX6_edit [.ref 94, .int (nI k)] (lay (S, O)) (some (.int (if k = 4 then nI (pop6 (usd eo m)) else nI (cnt (pE (z_now (o_M O)) eo m k) m)))) (lay (S, O)) := by
  obtain ⟨w4, h8, w13, h6, wp, wf, we, wn⟩ := hw
  have e4 : z_now (o_M (S, O).snd) 4 = nI m := w4
  have hu : ∀ i, i ≤ m → usd eo i < 64 := usd_lt (m := m) (fun l hl s hs => Nat.lt_of_lt_of_le ((we l (by omega)).2 s hs) h6)
  refine acw gdX6_edit 60 rfl (ac_to (am_in _ _ _ _) ⟨fun _ => ?_, fun h => absurd h (by rw [show bi (!decide (nI k < 0) && !decide (4 < nI k)) = 1 from in_t (n := 4) (by omega) (by decide) rfl]; decide)⟩)
  refine dn (n := m) (P := fun i => AW g mX6_edit _ 0 0 18 [some (.ref 94), some (.int (nI k)), some (.int (nI (usd eo i))), some (.int (nI (cnt (pE (z_now (o_M O)) eo m k) i))), some (.int (nI i)), none, none, none, none] [] (lay (S, O))) ?_ (fun i hi ih => ?_) 0 (Nat.zero_le _)
  · refine lpw gdX6_edit 60 ⟨_, _, rfl, vlit (j := 4) (by decide) (by decide), ?_⟩
    rw [vcl (x := 4) (j := 4) rfl (by decide), e4]
    refine ⟨fun _ => ⟨fun h1 => ?_, fun h1 => ?_⟩, fun h => absurd (nle (by omega) (by omega)) h⟩
    · have h2 : ¬ k = 4 := fun z => h1 (by rw [z]; rfl)
      rw [if_neg h2]
      exact ⟨rfl, rfl⟩
    · have h2 : k = 4 := (neqI (b := 4) (by omega) (by omega)).mp h1
      rw [if_pos h2]
      exact ac_to (am_ones (hu m (Nat.le_refl m)) _) ⟨rfl, rfl⟩
  · have ed := we i (by omega)
    have e56 : 56 + nI i = nI (56 + i) := by simp only [nlit, nI_add]
    have o6 : okO 6 (eo i) := fun s hs => Nat.lt_of_lt_of_le (ed.2 s hs) h6
    -- the end of a turn
    have J213 : ∀ (x : Int32), x = nI (cnt (pE (z_now (o_M O)) eo m k) (i + 1)) → ∀ a6 a7 a8, AW g mX6_edit (fun r h' => r = some (.int (if k = 4 then nI (pop6 (usd eo m)) else nI (cnt (pE (z_now (o_M O)) eo m k) m))) ∧ h' = lay (S, O)) 0 0 213 [some (.ref 94), some (.int (nI k)), some (.int (nI (usd eo (i + 1)))), some (.int x), some (.int (nI i)), some (.int (sh (eo i))), a6, a7, a8] [] (lay (S, O)) := by
      intro x hx a6 a7 a8
      refine lpw gdX6_edit 60 (awf ?_ ih)
      rw [hx, ← nI_1]
      exact ⟨rfl, rfl, rfl, rfl, rfl, trivial⟩
    have cb : ∀ b : Bool, b = pE (z_now (o_M O)) eo m k i → nI (cnt (pE (z_now (o_M O)) eo m k) i) + bi b = nI (cnt (pE (z_now (o_M O)) eo m k) (i + 1)) := by
      intro b hb
      cases hp : pE (z_now (o_M O)) eo m k i with
      | false => rw [hb, hp, cnt_f hp]; exact nI_add _ 0
      | true => rw [hb, hp, cnt_t hp]; exact nI_1 _
    -- behind what counts for a pair
    have J198 : ∀ (N : Int32) (b : Bool), N + bi b = nI (cnt (pE (z_now (o_M O)) eo m k) (i + 1)) → ∀ x6 x7 : Int32, AW g mX6_edit (fun r h' => r = some (.int (if k = 4 then nI (pop6 (usd eo m)) else nI (cnt (pE (z_now (o_M O)) eo m k) m))) ∧ h' = lay (S, O)) 0 0 198 [some (.ref 94), some (.int (nI k)), some (.int (nI (usd eo (i + 1)))), some (.int N), some (.int (nI i)), some (.int (sh (eo i))), some (.int x6), some (.int x7), none] [.int (bi b)] (lay (S, O)) := by
      intro N b hN x6 x7
      refine lpw gdX6_edit 60 ⟨fun h3 => ?_, fun h3 => ?_⟩
      · rw [h3] at hN
        exact lpw gdX6_edit 60 (J213 _ hN _ _ _)
      · rw [(bi_01 b).resolve_left h3] at hN
        exact lpw gdX6_edit 60 (J213 _ hN _ _ _)
    -- the pair
    have J131 : i + 1 < m → ∀ (N : Int32) (b : Bool), N = (if k = 0 then nI (cnt (pE (z_now (o_M O)) eo m k) (i + 1)) else nI (cnt (pE (z_now (o_M O)) eo m k) i)) → b = ctO (eo i) (eo (i + 1)) → AW g mX6_edit (fun r h' => r = some (.int (if k = 4 then nI (pop6 (usd eo m)) else nI (cnt (pE (z_now (o_M O)) eo m k) m))) ∧ h' = lay (S, O)) 0 0 131 [some (.ref 94), some (.int (nI k)), some (.int (nI (usd eo (i + 1)))), some (.int N), some (.int (nI i)), some (.int (sh (eo i))), some (.int (sh (eo (i + 1)))), none, none] [.int (bi b)] (lay (S, O)) := by
      intro h1 N b hN hb
      have ed2 := we (i + 1) (by omega)
      have o62 : okO 6 (eo (i + 1)) := fun s hs => Nat.lt_of_lt_of_le (ed2.2 s hs) h6
      by_cases h2 : k = 0
      · subst h2
        rw [if_pos rfl] at hN
        refine lpw gdX6_edit 60 ⟨fun _ => ⟨fun _ => ⟨fun _ => ?_, fun h => absurd h (by decide)⟩, fun h => absurd h (by decide)⟩, fun h => absurd h (by decide)⟩
        exact J198 N false (by rw [hN]; exact nI_add _ 0) _ _
      rw [if_neg h2] at hN
      subst hN
      rcases (show k = 1 ∨ k = 2 ∨ k = 3 ∨ k = 4 by omega) with rfl | rfl | rfl | rfl
      · have ep : pE (z_now (o_M O)) eo m 1 i = (ctO (eo i) (eo (i + 1)) && !cnO (z_now (o_M O)) (fcr (z_now (o_M O))) (eo i) (eo (i + 1))) := by simp [pE, h1]
        refine lpw gdX6_edit 60 ⟨fun h => absurd rfl h, fun _ => ⟨fun h3 => ?_, fun h3 => ?_⟩⟩
        · rw [bi_e0, hb] at h3
          refine ⟨fun _ => ⟨fun _ => ?_, fun h => absurd h (by decide)⟩, fun h => absurd h (by decide)⟩
          exact J198 _ false (cb false (by rw [ep, h3]; rfl)) _ _
        · rw [bi_e0, Bool.not_eq_false, hb] at h3
          obtain ⟨s, t, es, et, -⟩ := ct_some h3
          have hs := ed.2 s es
          have ht := ed2.2 t et
          rw [es, et]
          refine ac_to (am_canCut (by omega) (by omega)) ⟨fun h4 => ?_, fun h4 => ?_⟩
          · rw [bi_e0] at h4
            have := J198 _ true (cb true (by rw [ep, h3, es, et]; simp [cnO, h4]))
            rw [es] at this
            exact this _ _
          · rw [bi_e0, Bool.not_eq_false] at h4
            refine ⟨fun _ => ⟨fun _ => ?_, fun h => absurd h (by decide)⟩, fun h => absurd h (by decide)⟩
            have := J198 _ false (cb false (by rw [ep, h3, es, et]; simp [cnO, h4]))
            rw [es] at this
            exact this _ _
      · have ep : pE (z_now (o_M O)) eo m 2 i = (reO (fcr (z_now (o_M O))) (spr (z_now (o_M O))) i (eo i) && reO (fcr (z_now (o_M O))) (spr (z_now (o_M O))) (i + 1) (eo (i + 1))) := by simp [pE, h1]
        refine lpw gdX6_edit 60 ⟨fun _ => ⟨fun h => absurd rfl h, fun _ => ?_⟩, fun h => absurd h (by decide)⟩
        refine ac_to (am_isReaction (by omega) o6) ⟨fun h3 => ?_, fun h3 => ?_⟩
        · rw [bi_e0] at h3
          refine ⟨fun _ => ?_, fun h => absurd h (by decide)⟩
          exact J198 _ false (cb false (by rw [ep, h3]; rfl)) _ _
        rw [bi_e0, Bool.not_eq_false] at h3
        refine ac_ar (by rw [nI_1]) (ac_to (am_isReaction (l := i + 1) (by omega) o62) ⟨fun h4 => ?_, fun h4 => ?_⟩)
        · rw [bi_e0, Bool.not_eq_false] at h4
          exact J198 _ true (cb true (by rw [ep, h3, h4]; rfl)) _ _
        · rw [bi_e0] at h4
          refine ⟨fun _ => ?_, fun h => absurd h (by decide)⟩
          exact J198 _ false (cb false (by rw [ep, h3, h4]; rfl)) _ _
      · have ep : pE (z_now (o_M O)) eo m 3 i = ctO (eo i) (eo (i + 1)) := by simp [pE, h1]
        refine lpw gdX6_edit 60 ⟨fun _ => ⟨fun _ => ⟨fun h => absurd rfl h, fun _ => ⟨fun h3 => ?_, fun h3 => ?_⟩⟩, fun h => absurd h (by decide)⟩, fun h => absurd h (by decide)⟩
        · rw [bi_e0, hb] at h3
          exact J198 _ false (cb false (by rw [ep, h3])) _ _
        · rw [bi_e0, Bool.not_eq_false, hb] at h3
          exact J198 _ true (cb true (by rw [ep, h3])) _ _
      · have ep : pE (z_now (o_M O)) eo m 4 i = false := by simp [pE]
        refine lpw gdX6_edit 60 ⟨fun _ => ⟨fun _ => ⟨fun _ => ?_, fun h => absurd h (by decide)⟩, fun h => absurd h (by decide)⟩, fun h => absurd h (by decide)⟩
        exact J198 _ false (cb false ep.symm) _ _
    -- behind the line itself
    have J76 : ∀ (b : Bool), b = (decide (k = 0) && pE (z_now (o_M O)) eo m k i) → AW g mX6_edit (fun r h' => r = some (.int (if k = 4 then nI (pop6 (usd eo m)) else nI (cnt (pE (z_now (o_M O)) eo m k) m))) ∧ h' = lay (S, O)) 0 0 76 [some (.ref 94), some (.int (nI k)), some (.int (nI (usd eo (i + 1)))), some (.int (nI (cnt (pE (z_now (o_M O)) eo m k) i))), some (.int (nI i)), some (.int (sh (eo i))), none, none, none] [.int (bi b), .int (nI (cnt (pE (z_now (o_M O)) eo m k) i))] (lay (S, O)) := by
      intro b hb
      refine lpw gdX6_edit 60 ⟨_, _, rfl, vlit (j := 4) (by decide) (by decide), ?_⟩
      rw [vcl (x := 4) (j := 4) rfl (by decide), e4]
      have ei : nI i + 1 = nI (i + 1) := nI_1 i
      refine ⟨fun h1 => ?_, fun h1 => ?_⟩
      · refine J213 _ ?_ _ _ _
        have h1 : ¬ i + 1 < m := fun z => absurd h1 (by rw [ei]; exact nge z (by omega))
        by_cases h0 : k = 0
        · rw [decide_eq_true h0, Bool.true_and] at hb
          exact cb b hb
        · have hp : pE (z_now (o_M O)) eo m k i = false := by simp [pE, h0, h1]
          exact cb b (by rw [hb, hp, Bool.and_false])
      · have h1 : i + 1 < m := by
          rcases Nat.lt_or_ge (i + 1) m with z | z
          · exact z
          · exact absurd (by rw [ei]; exact nle z (by omega)) h1
        have ed2 := we (i + 1) (by omega)
        have e57 : 56 + nI i + 1 = nI (56 + (i + 1)) := by rw [e56, nI_1]; rfl
        refine ⟨_, _, rfl, vin e57 (by omega) (by decide), ?_⟩
        rw [vcl e57 (by omega), show z_now (o_M (S, O).snd) (56 + (i + 1)) = sh (eo (i + 1)) from ed2.1]
        have hN : nI (cnt (pE (z_now (o_M O)) eo m k) i) + bi b = (if k = 0 then nI (cnt (pE (z_now (o_M O)) eo m k) (i + 1)) else nI (cnt (pE (z_now (o_M O)) eo m k) i)) := by
          by_cases h0 : k = 0
          · rw [if_pos h0]
            rw [decide_eq_true h0, Bool.true_and] at hb
            exact cb b hb
          · rw [if_neg h0, hb, decide_eq_false h0]
            exact nI_add _ 0
        refine ⟨fun h3 => ?_, fun h3 => ⟨fun h4 => ?_, fun h4 => ⟨fun h5 => ?_, fun h5 => ?_⟩⟩⟩
        · rw [sh_none ed.2 (by omega)] at h3
          exact J131 h1 _ false hN (by rw [h3]; rfl)
        · rw [sh_none ed2.2 (by omega)] at h4
          exact J131 h1 _ false hN (by rw [h4]; cases eo i <;> rfl)
        · have := (sh_eq ed.2 ed2.2 (by omega) (fun z => h3 ((sh_none ed.2 (by omega)).mpr z)) (fun z => h4 ((sh_none ed2.2 (by omega)).mpr z))).mp h5
          exact J131 h1 _ false hN this.symm
        · have h6 := fun z => h5 ((sh_eq ed.2 ed2.2 (by omega) (fun z => h3 ((sh_none ed.2 (by omega)).mpr z)) (fun z => h4 ((sh_none ed2.2 (by omega)).mpr z))).mpr z)
          exact J131 h1 _ true hN (by simpa using h6)
    -- behind what is used
    have J57 : ∀ x : Int32, nI (usd eo i) ||| x = nI (usd eo (i + 1)) → AW g mX6_edit (fun r h' => r = some (.int (if k = 4 then nI (pop6 (usd eo m)) else nI (cnt (pE (z_now (o_M O)) eo m k) m))) ∧ h' = lay (S, O)) 0 0 57 [some (.ref 94), some (.int (nI k)), some (.int (nI (usd eo i))), some (.int (nI (cnt (pE (z_now (o_M O)) eo m k) i))), some (.int (nI i)), some (.int (sh (eo i))), none, none, none] [.int x, .int (nI (usd eo i))] (lay (S, O)) := by
      intro x hx
      refine lpw gdX6_edit 60 ?_
      rw [← hx] at J76
      refine ⟨fun h1 => ?_, fun h1 => ?_⟩
      · have h2 : ¬ k = 0 := fun z => h1 (by rw [z]; rfl)
        exact J76 false (by simp [h2])
      · have h2 : k = 0 := (neqI (b := 0) (by omega) (by omega)).mp h1
        refine ⟨fun h3 => ?_, fun h3 => ?_⟩
        · rw [sh_none ed.2 (by omega)] at h3
          exact J76 false (by simp [h2, pE, h3])
        · rw [sh_none ed.2 (by omega)] at h3
          exact J76 true (by simp [h2, pE, h3])
    refine lpw gdX6_edit 60 ⟨_, _, rfl, vlit (j := 4) (by decide) (by decide), ?_⟩
    rw [vcl (x := 4) (j := 4) rfl (by decide), e4]
    refine ⟨fun h => absurd h (nge (by omega) (by omega)), fun _ => ?_⟩
    refine ⟨_, _, rfl, vin e56 (by omega) (by decide), ?_⟩
    rw [vcl e56 (by omega), show z_now (o_M (S, O).snd) (56 + i) = sh (eo i) from ed.1]
    cases hs : eo i with
    | none =>
      rw [hs] at J57
      refine ⟨fun h => absurd rfl h, fun _ => ?_⟩
      exact J57 0 (by rw [or0]; simp [usd, hs])
    | some s =>
      rw [hs] at J57
      have h1 := ed.2 s hs
      refine ⟨fun _ => ?_, fun h => absurd h (nI_ne9 (by omega))⟩
      exact J57 _ (by rw [show usd eo (i + 1) = usd eo i ||| 2 ^ s by simp [usd, hs]]; exact (or_lt _ (hu i (by omega)) s (by omega)).2)
theorem pr_edit (x : Int32) : Pr g mX5_edit mX6_edit [.int x] := by
  rintro ⟨S, O⟩ hI
  have hI0 := hI
  obtain ⟨⟨eo, m, n, hS, hw⟩, -⟩ := hI
  by_cases hx : x < 0 ∨ 4 < x
  · refine ⟨-1, (S, O), (S, O), ?_, ?_, hI0⟩
    · have hx2 : x.toInt < 0 ∨ 4 < x.toInt := by
        rcases hx with hx | hx
        · exact Or.inl (Int32.lt_iff_toInt_lt.mp hx)
        · exact Or.inr (Int32.lt_iff_toInt_lt.mp hx)
      refine acw gdX5_edit 40 rfl ⟨fun _ => ⟨rfl, rfl⟩, fun h => ?_, fun h => ?_, fun h => ?_, fun h => ?_, fun h => ?_, trivial⟩ <;> (exfalso; omega)
    · refine acw gdX6_edit 40 rfl (ac_to (am_in _ _ _ _) ⟨fun h1 => ?_, fun _ => ⟨rfl, rfl⟩⟩)
      rw [bi_e0, Bool.not_eq_false] at h1
      simp only [Bool.and_eq_true, Bool.not_eq_true', decide_eq_false_iff_not] at h1
      rcases hx with hx | hx
      · exact absurd hx h1.1
      · exact absurd hx h1.2
  have h1 : ¬ x < 0 := fun z => hx (Or.inl z)
  have h2 : ¬ 4 < x := fun z => hx (Or.inr z)
  obtain ⟨k, hk, rfl⟩ := nI_of2 (M := 4) (n := 4) (by decide) h1 (Int32.not_lt.mp h2)
  have hE := hS.ed hw
  have hM := am_edit (g := g) (S := S) (O := O) (eo := eo) (m := m) (n := n) (k := k) (by omega) hw
  refine ⟨_, (S, O), (S, O), ?_, hM, hI0⟩
  have hd := fun l (hl : l < m - 1) => hS.ro (l := l) (hE.2.2.2 l (by have := hE.2.1; omega)).2 (by omega)
  rcases (show k = 0 ∨ k = 1 ∨ k = 2 ∨ k = 3 ∨ k = 4 by omega) with rfl | rfl | rfl | rfl | rfl
  · refine acw gdX5_edit 40 rfl ⟨fun h => absurd h (by decide), fun h => ?_, fun h => absurd h (by decide), fun h => absurd h (by decide), fun h => absurd h (by decide), fun h => absurd h (by decide), trivial⟩
    refine ac_to (ac_lws hE) ⟨?_, rfl⟩
    rw [if_neg (by decide)]
    rfl
  · refine acw gdX5_edit 40 rfl ⟨fun h => absurd h (by decide), fun h => absurd h (by decide), fun h => ?_, fun h => absurd h (by decide), fun h => absurd h (by decide), fun h => absurd h (by decide), trivial⟩
    refine ac_to (ac_wrongCuts hE (hS.okp hw) (hS.okf hw)) ⟨?_, rfl⟩
    rw [if_neg (by decide), ← cnt_pred]
    refine congrArg (fun z => some (Value.int (nI z))) (cnt_cg m (fun l hl => ?_))
    by_cases h : l + 1 < m
    · have := hE.2.1
      rw [hS.co (hE.2.2.2 l (by omega)).2 (hE.2.2.2 (l + 1) (by omega)).2]
      simp [pE]
    · simp [pE, h]
  · refine acw gdX5_edit 40 rfl ⟨fun h => absurd h (by decide), fun h => absurd h (by decide), fun h => absurd h (by decide), fun h => ?_, fun h => absurd h (by decide), fun h => absurd h (by decide), trivial⟩
    refine ac_to (ac_doubleReactions hE) ⟨?_, rfl⟩
    rw [if_neg (by decide), ← cnt_pred]
    refine congrArg (fun z => some (Value.int (nI z))) (cnt_cg m (fun l hl => ?_))
    by_cases h : l + 1 < m
    · have := hE.2.1
      rw [hS.ro (hE.2.2.2 l (by omega)).2 (by omega), hS.ro (hE.2.2.2 (l + 1) (by omega)).2 h]
      simp [pE]
    · simp [pE, h]
  · refine acw gdX5_edit 40 rfl ⟨fun h => absurd h (by decide), fun h => absurd h (by decide), fun h => absurd h (by decide), fun h => absurd h (by decide), fun h => ?_, fun h => absurd h (by decide), trivial⟩
    refine ac_to (ac_cuts hE) ⟨?_, rfl⟩
    rw [if_neg (by decide), ← cnt_pred]
    refine congrArg (fun z => some (Value.int (nI z))) (cnt_cg m (fun l hl => ?_))
    simp [pE]
  · refine acw gdX5_edit 40 rfl ⟨fun h => absurd h (by decide), fun h => absurd h (by decide), fun h => absurd h (by decide), fun h => absurd h (by decide), fun h => absurd h (by decide), fun h => ?_, trivial⟩
    exact ac_to (ac_shotsUsed hE) ⟨rfl, rfl⟩
end P5
