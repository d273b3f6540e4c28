def subL : List (Option Value) → List (Option Value) → Prop
  | [], _ => True
  | none :: a, [] => subL a []
  | none :: a, _ :: b => subL a b
  | some v :: a, some w :: b => v = w ∧ subL a b
  | some _ :: _, none :: _ => False
  | some _ :: _, [] => False
theorem subL_get : ∀ (a b : List (Option Value)), subL a b → ∀ (k : Nat) (v : Value), a[k]? = some (some v) → b[k]? = some (some v) := by
  intro a
  induction a with
  | nil => intro b _ k v h; simp at h
  | cons x a ih =>
    intro b hb k v h
    cases x with
    | none =>
      cases b with
      | nil =>
        cases k with
        | zero => simp at h
        | succ k =>
          have := ih [] hb k v (by simpa using h)
          simp at this
      | cons y b =>
        cases k with
        | zero => simp at h
        | succ k => simpa using ih b hb k v (by simpa using h)
    | some w =>
      cases b with
      | nil => exact hb.elim
      | cons y b =>
        cases y with
        | none => exact hb.elim
        | some z =>
          obtain ⟨rfl, hb⟩ := hb
          cases k with
          | zero => simpa using h
          | succ k => simpa using ih b hb k v (by simpa using h)
theorem awf {g : Glob} {M : Mth} {Post : Option Value → AH → Prop} {cl sl pc : Nat} {ls ls' : List (Option Value)} {st : List Value} {h : AH} (e : subL ls' ls) (k : AW g M Post cl sl pc ls' st h) : AW g M Post cl sl pc ls st h := by
  intro p e0 s m args below meth c H locs lsA al0 n0 al C ha hw hl
  exact k p e0 s m args below meth c H locs lsA al0 n0 al C ha hw ⟨hl.1, hl.2.1, fun k v hk => hl.2.2 k v (subL_get _ _ e k v hk)⟩
theorem bit_at : ∀ u : Nat, u < 64 → ∀ i : Nat, i < 6 → (nI u >>> (nI i &&& 31)) &&& 1 = nI (u / 2 ^ i % 2) := by decide +kernel
def popi (u : Nat) : Nat → Nat
  | 0 => 0
  | i + 1 => popi u i + u / 2 ^ i % 2
theorem popi_6 (u : Nat) : popi u 6 = pop6 u := by simp [popi, pop6]
theorem cnt_pred {p : Nat → Bool} {m : Nat} : cnt (fun l => decide (l + 1 < m) && p l) m = cnt p (m - 1) := by
  cases m with
  | zero => rfl
  | succ m =>
    rw [cnt_f (by simp)]
    exact cnt_cg m (fun s hs => by simp [hs])
/-- what a line brings to edit(k) -/
def pE (r : Fn) (eo : Nat → Option Nat) (m k l : Nat) : Bool :=
  if k = 0 then decide (eo l = none) else decide (l + 1 < m) && (if k = 1 then ctO (eo l) (eo (l + 1)) && !cnO r (fcr r) (eo l) (eo (l + 1)) else if k = 2 then reO (fcr r) (spr r) l (eo l) && reO (fcr r) (spr r) (l + 1) (eo (l + 1)) else if k = 3 then ctO (eo l) (eo (l + 1)) else false)
theorem msk_pop {p : Nat → Bool} : ∀ n, n ≤ 6 → pop6 (msk p n) = cnt p n := by
  intro n hn
  rcases (show n = 0 ∨ n = 1 ∨ n = 2 ∨ n = 3 ∨ n = 4 ∨ n = 5 ∨ n = 6 by omega) with rfl | rfl | rfl | rfl | rfl | rfl | rfl
  · simp [msk, cnt, pop6]
  · cases h0 : p 0 <;> simp [msk, cnt, pop6, h0]
  · cases h0 : p 0 <;> cases h1 : p 1 <;> simp [msk, cnt, pop6, h0, h1]
  · cases h0 : p 0 <;> cases h1 : p 1 <;> cases h2 : p 2 <;> simp [msk, cnt, pop6, h0, h1, h2]
  · cases h0 : p 0 <;> cases h1 : p 1 <;> cases h2 : p 2 <;> cases h3 : p 3 <;> simp [msk, cnt, pop6, h0, h1, h2, h3]
  · cases h0 : p 0 <;> cases h1 : p 1 <;> cases h2 : p 2 <;> cases h3 : p 3 <;> cases h4 : p 4 <;> simp [msk, cnt, pop6, h0, h1, h2, h3, h4]
  · cases h0 : p 0 <;> cases h1 : p 1 <;> cases h2 : p 2 <;> cases h3 : p 3 <;> cases h4 : p 4 <;> cases h5 : p 5 <;> simp [msk, cnt, pop6, h0, h1, h2, h3, h4, h5]
section P2
variable {g : Glob} {S : Scn} {O : Oth}
theorem pr_clear : Pr g mX5_clear mX6_clear [] := by
  rintro ⟨S, O⟩ ⟨i1, i2, i3, ⟨t, ht, hl, hl2, htx⟩, i5⟩
  refine ⟨nI t, (S, o_R' O (r_len' (o_R O) 0)), (S, o_M' (o_R' O (r_len' (o_R O) 0)) (z_let' (o_M O) 0)), ?_, ?_, ⟨i1, i2, i3, ⟨0, by decide, rfl, rfl, fun i hi => absurd hi (by omega)⟩, i5⟩⟩
  · refine acw gdX5_clear 20 rfl ?_
    have h : ACe g mX2_dropText [.ref 53] (lay (S, O)) (some (.int (nI t))) (lay (S, o_R' O (r_len' (o_R O) 0))) := acw gdX2_dropText 20 rfl ⟨congrArg (fun z => some (Value.int z)) hl, rfl⟩
    exact ac_to h ⟨rfl, rfl⟩
  · exact acw gdX6_clear 20 rfl ⟨congrArg (fun z => some (Value.int z)) hl2, rfl⟩
theorem pr_forget : Pr g mX5_forget mX6_forget [] := by
  rintro ⟨S, O⟩ ⟨i1, i2, i3, i4, ⟨q, kw, hq, hs, hs2, hk⟩⟩
  refine ⟨nI q, (S, o_G' O (q_sn' (o_G O) 0)), (S, o_M' (o_G' O (q_sn' (o_G O) 0)) (z_seen' (o_M O) 0)), ?_, ?_, ⟨i1, i2, i3, i4, ⟨0, kw, by decide, rfl, rfl, fun i hi => absurd hi (by omega)⟩⟩⟩
  · refine acw gdX5_forget 20 rfl ?_
    have h : ACe g mX4_dropAll [.ref 79] (lay (S, O)) (some (.int (nI q))) (lay (S, o_G' O (q_sn' (o_G O) 0))) := acw gdX4_dropAll 20 rfl ⟨congrArg (fun z => some (Value.int z)) hs, rfl⟩
    exact ac_to h ⟨rfl, rfl⟩
  · exact acw gdX6_forget 20 rfl ⟨congrArg (fun z => some (Value.int z)) hs2, rfl⟩
theorem pr_player (a b : Int32) : Pr g mX5_player mX6_player [.int a, .int b] := by
  rintro ⟨S, O⟩ hI
  by_cases h : a < 0 ∨ 1 < a ∨ b < 0 ∨ 1 < b
  · refine ⟨-1, (S, O), (S, O), ac_cplayer_bad a b h, ?_, hI⟩
    refine acw gdX6_player 40 rfl (ac_to (am_in _ _ _ _) ⟨fun _ => ⟨rfl, rfl⟩, fun h1 => ?_⟩)
    refine ac_to (am_in _ _ _ _) ⟨fun _ => ⟨rfl, rfl⟩, fun h2 => ?_⟩
    rw [bi_e0, Bool.not_eq_false] at h1 h2
    simp only [Bool.and_eq_true, Bool.not_eq_true', decide_eq_false_iff_not] at h1 h2
    rcases h with h | h | h | h
    · exact absurd h h1.1
    · exact absurd h h1.2
    · exact absurd h h2.1
    · exact absurd h h2.2
  · have h1 : ¬ a < 0 := fun z => h (Or.inl z)
    have h2 : ¬ 1 < a := fun z => h (Or.inr (Or.inl z))
    have h3 : ¬ b < 0 := fun z => h (Or.inr (Or.inr (Or.inl z)))
    have h4 : ¬ 1 < b := fun z => h (Or.inr (Or.inr (Or.inr z)))
    obtain ⟨p, k, hp, hk, rfl, rfl, hC⟩ := ac_cplayer (g := g) (S := S) (O := O) a b h1 h2 h3 h4
    refine ⟨_, (S, O), (S, O), hC, ?_, hI⟩
    obtain ⟨⟨eo, m, n, hS, hw⟩, -⟩ := hI
    refine acw gdX6_player 40 rfl (ac_to (am_in _ _ _ _) ⟨fun z => absurd z (by simp [bi, h1, h2]), fun _ => ?_⟩)
    refine ac_to (am_in _ _ _ _) ⟨fun z => absurd z (by simp [bi, h3, h4]), fun _ => ?_⟩
    have e : 2 * nI p + nI k = nI (2 * p + k) := by simp only [nlit, pk_mul, nI_add]
    refine ⟨_, _, rfl, vin e (by omega) (by decide), ?_⟩
    rw [vcl e (by omega)]
    exact ⟨congrArg (fun z => some (Value.int z)) (hS.2.2.1 (2 * p + k) (by omega)).symm, rfl⟩
theorem pr_sees (a b : Int32) : Pr g mX5_sees mX6_sees [.int a, .int b] := by
  rintro ⟨S, O⟩ ⟨i1, i2, i3, i4, ⟨q, kw, hq, hs, hs2, hk⟩⟩
  by_cases h : a < 0 ∨ 2 < a ∨ b < -1 ∨ 5 < b
  · refine ⟨-1, (S, O), (S, O), ac_csees_bad a b h, ?_, ⟨i1, i2, i3, i4, ⟨q, kw, hq, hs, hs2, hk⟩⟩⟩
    refine acw gdX6_sees 40 rfl (ac_to (am_in _ _ _ _) ⟨fun _ => ⟨rfl, rfl⟩, fun h1 => ?_⟩)
    refine ac_to (am_in _ _ _ _) ⟨fun h2 => ?_, fun _ => ⟨rfl, rfl⟩⟩
    rw [bi_e0, Bool.not_eq_false] at h1 h2
    simp only [Bool.and_eq_true, Bool.not_eq_true', decide_eq_false_iff_not] at h1 h2
    rcases h with h | h | h | h
    · exact absurd h h1.1
    · exact absurd h h1.2
    · exact absurd h h2.1
    · exact absurd h h2.2
  have h1 : ¬ a < 0 := fun z => h (Or.inl z)
  have h2 : ¬ 2 < a := fun z => h (Or.inr (Or.inl z))
  have h3 : ¬ b < -1 := fun z => h (Or.inr (Or.inr (Or.inl z)))
  have h4 : ¬ 5 < b := fun z => h (Or.inr (Or.inr (Or.inr z)))
  obtain ⟨k, hk2, rfl⟩ := nI_of2 (M := 2) (n := 2) (by decide) h1 (Int32.not_lt.mp h2)
  by_cases h6 : q = 6
  · subst h6
    refine ⟨-3, (S, O), (S, O), ?_, ?_, ⟨i1, i2, i3, i4, ⟨_, kw, hq, hs, hs2, hk⟩⟩⟩
    · refine acw gdX5_sees 40 rfl ⟨fun h => absurd h h1, fun _ => ⟨fun h => absurd h h2, fun _ => ⟨fun h => absurd h h3, fun _ => ⟨fun _ => ?_, fun h => absurd (Int32.not_lt.mp h4) h⟩⟩⟩⟩
      exact ac_to (ac_snote_full hs) ⟨fun _ => ⟨rfl, rfl⟩, fun h => absurd rfl h⟩
    · refine acw gdX6_sees 40 rfl (ac_to (am_in _ _ _ _) ⟨fun z => absurd z (by simp [bi, h1, h2]), fun _ => ?_⟩)
      refine ac_to (am_in _ _ _ _) ⟨fun _ => ?_, fun z => absurd z (by simp [bi, h3, h4])⟩
      have e : z_seen (o_M (S, O).snd) = nI 6 := hs2
      exact ⟨fun h => absurd e h, fun _ => ⟨rfl, rfl⟩⟩
  · refine ⟨nI (q + 1), (S, o_G' O (upd (q_wh (o_G O)) q (nI k), upd (q_nu (o_G O)) q b, nI (q + 1))), (S, o_M' (o_G' O (upd (q_wh (o_G O)) q (nI k), upd (q_nu (o_G O)) q b, nI (q + 1))) (z_seen' (z_si' (z_sw' (o_M O) (upd (z_sw (o_M O)) q (nI k))) (upd (z_si (o_M O)) q b)) (nI (q + 1)))), ?_, ?_, ⟨i1, i2, i3, i4, ⟨q + 1, fun j => if j = q then k else kw j, by omega, rfl, rfl, ?_⟩⟩⟩
    · refine acw gdX5_sees 40 rfl ⟨fun h => absurd h h1, fun _ => ⟨fun h => absurd h h2, fun _ => ⟨fun h => absurd h h3, fun _ => ⟨fun _ => ?_, fun h => absurd (Int32.not_lt.mp h4) h⟩⟩⟩⟩
      exact ac_to (ac_snote hs (by omega)) ⟨fun h => absurd h (by decide), fun _ => ⟨rfl, rfl⟩⟩
    · refine acw gdX6_sees 60 rfl (ac_to (am_in _ _ _ _) ⟨fun z => absurd z (by simp [bi, h1, h2]), fun _ => ?_⟩)
      refine ac_to (am_in _ _ _ _) ⟨fun _ => ?_, fun z => absurd z (by simp [bi, h3, h4])⟩
      have e : z_seen (o_M O) = nI q := hs2
      refine ⟨fun _ => ?_, fun h => absurd ((neqI (b := 6) (by omega) (by omega)).mp (e.symm.trans h)) h6⟩
      refine ⟨_, _, rfl, vin e (by omega) (by decide), ?_⟩
      refine ⟨_, _, rfl, vin e (by omega) (by decide), ?_⟩
      refine ⟨?_, ?_⟩
      · show some (Value.int (z_seen (o_M O) + 1)) = _
        rw [e, nI_1]
      · rw [vcl e (by omega)]
        show List.set (List.set (List.set (lay _) 101 _) 102 _) 94 (.inr (6, [_, _, _, _, _, _, _, _, _, _, _, _, _, .int (z_seen (o_M O) + 1), _, _, _, _, _, _, _, _, _])) = _
        rw [e, nI_1]
        rfl
    · intro j hj
      by_cases h : j = q
      · subst h
        have e9 : (if j = j then k else kw j) = k := if_pos rfl
        exact ⟨pk_us.trans (congrArg nI e9.symm), Nat.le_trans (Nat.le_of_eq e9) hk2, pk_us.trans (congrArg nI e9.symm), pk_us.trans pk_us.symm⟩
      · obtain ⟨z1, z2, z3, z4⟩ := hk j (by omega)
        have e9 : (if j = q then k else kw j) = kw j := if_neg h
        exact ⟨(pk_un h).trans (z1.trans (congrArg nI e9.symm)), Nat.le_trans (Nat.le_of_eq e9) z2, (pk_un h).trans (z3.trans (congrArg nI e9.symm)), (pk_un h).trans (z4.trans (pk_un h).symm)⟩
theorem pr_count (x : Int32) : Pr g mX5_count mX6_count [.int x] := by
  rintro ⟨S, O⟩ hI
  have hI0 := hI
  obtain ⟨⟨eo, m, n, hS, hw⟩, ⟨d, y, hd, hy, k1, k2, -⟩, -, ⟨t, ht, hl, hl2, -⟩, ⟨q, kw, hq, hs, hs2, -⟩⟩ := hI
  by_cases hx : x.toInt < 0 ∨ 4 < x.toInt
  · refine ⟨-1, (S, O), (S, O), ?_, ?_, hI0⟩
    · refine acw gdX5_count 40 rfl ⟨fun _ => ⟨rfl, rfl⟩, fun h => ?_, fun h => ?_, fun h => ?_, fun h => ?_, fun h => ?_, trivial⟩ <;> (exfalso; omega)
    · refine acw gdX6_count 40 rfl ⟨fun _ => ⟨rfl, rfl⟩, fun h => ?_, fun h => ?_, fun h => ?_, fun h => ?_, fun h => ?_, trivial⟩ <;> (exfalso; omega)
  have key : ∀ v : Int32, (x.toInt = 0 → v = nI m) → (x.toInt = 1 → v = nI n) → (x.toInt = 2 → v = nI q) → (x.toInt = 3 → v = nI t) → (x.toInt = 4 → v = nI d) → ∃ (v : Int32) (X1 X2 : St), ACe g mX5_count [.ref 0, .int x] (lay (S, O)) (some (.int v)) (lay X1) ∧ ACe g mX6_count [.ref 94, .int x] (lay X1) (some (.int v)) (lay X2) ∧ Inv X2 := by
    intro v v0 v1 v2 v3 v4
    refine ⟨v, (S, O), (S, O), ?_, ?_, hI0⟩
    · refine acw gdX5_count 40 rfl ⟨fun h => absurd h hx, fun h => ?_, fun h => ?_, fun h => ?_, fun h => ?_, fun h => ?_, trivial⟩
      · exact ⟨congrArg (fun z => some (Value.int z)) (hS.1.trans (v0 (by omega)).symm), rfl⟩
      · exact ⟨congrArg (fun z => some (Value.int z)) (hS.2.1.trans (v1 (by omega)).symm), rfl⟩
      · exact ⟨congrArg (fun z => some (Value.int z)) (hs.trans (v2 (by omega)).symm), rfl⟩
      · exact ⟨congrArg (fun z => some (Value.int z)) (hl.trans (v3 (by omega)).symm), rfl⟩
      · exact ⟨congrArg (fun z => some (Value.int z)) (k1.trans (v4 (by omega)).symm), rfl⟩
    · refine acw gdX6_count 40 rfl ⟨fun h => absurd h hx, fun h => ?_, fun h => ?_, fun h => ?_, fun h => ?_, fun h => ?_, trivial⟩
      · exact ⟨_, _, rfl, vlit (j := 4) (by decide) (by decide), congrArg (fun z => some (Value.int z)) (hw.1.trans (v0 (by omega)).symm), rfl⟩
      · exact ⟨_, _, rfl, vlit (j := 13) (by decide) (by decide), congrArg (fun z => some (Value.int z)) (hw.2.2.1.trans (v1 (by omega)).symm), rfl⟩
      · exact ⟨congrArg (fun z => some (Value.int z)) (hs2.trans (v2 (by omega)).symm), rfl⟩
      · exact ⟨congrArg (fun z => some (Value.int z)) (hl2.trans (v3 (by omega)).symm), rfl⟩
      · exact ⟨congrArg (fun z => some (Value.int z)) (k2.trans (v4 (by omega)).symm), rfl⟩
  rcases (show x.toInt = 0 ∨ x.toInt = 1 ∨ x.toInt = 2 ∨ x.toInt = 3 ∨ x.toInt = 4 by omega) with h | h | h | h | h
  · exact key (nI m) (fun _ => rfl) (fun _ => by omega) (fun _ => by omega) (fun _ => by omega) (fun _ => by omega)
  · exact key (nI n) (fun _ => by omega) (fun _ => rfl) (fun _ => by omega) (fun _ => by omega) (fun _ => by omega)
  · exact key (nI q) (fun _ => by omega) (fun _ => by omega) (fun _ => rfl) (fun _ => by omega) (fun _ => by omega)
  · exact key (nI t) (fun _ => by omega) (fun _ => by omega) (fun _ => by omega) (fun _ => rfl) (fun _ => by omega)
  · exact key (nI d) (fun _ => by omega) (fun _ => by omega) (fun _ => by omega) (fun _ => by omega) (fun _ => rfl)
end P2
