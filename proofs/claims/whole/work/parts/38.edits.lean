/-! ===== the pairs whose answers come with cells that are not told ===== -/
def PrA (g : Glob) (Mx Mm : Mth) (as : List Value) : Prop := ∀ X : St, Inv X → AC g Mx (.ref 0 :: as) (lay X) (fun r h1 => ∃ (v : Int32) (X1 : St), r = some (.int v) ∧ h1 = lay X1 ∧ AC g Mm (.ref 94 :: as) (lay X1) (fun r2 h2 => r2 = some (.int v) ∧ ∃ X2 : St, h2 = lay X2 ∧ Inv X2))
theorem Pr.a {g : Glob} {Mx Mm : Mth} {as : List Value} (h : Pr g Mx Mm as) : PrA g Mx Mm as := fun X hI => by
  obtain ⟨v, X1, X2, h1, h2, h3⟩ := h X hI
  exact ac_mono h1 (fun r h' z => ⟨v, X1, z.1, z.2, ac_mono h2 (fun r h' z => ⟨z.1, X2, z.2, h3⟩)⟩)
theorem PS.md {S : Scn} {r : Fn} {Q : Pln} {m n : Nat} (hS : ScC S r m n) (h : PS Q m n (cvL (s_fc S)) (mfA (s_pl S) (s_fc S) (s_sp S))) : PS Q m n (cvL (fcr r)) (mfA r (fcr r) (spr r)) := by
  refine ⟨h.1, h.2.1, fun l hl => ?_, fun l s hl hs => ?_⟩
  · rw [h.2.2.1 l hl]
    exact congrArg nI (msk_cg n (fun t ht => hS.cv ht))
  · rw [h.2.2.2 l s hl hs]
    refine congrArg nI (msk_cg n (fun t ht => ?_))
    show (mfA (s_pl S) (s_fc S) (s_sp S) l s t && cvA (s_fc S) t (l + 1)) = _
    unfold mfA
    rw [hS.cn hs ht, hS.re hs (l := l) (by omega), hS.re ht hl, hS.cv ht]
theorem ixm (k : Int32) {m : Nat} (hm : m ≤ 2000) : k < -2 ∨ k = -2 ∨ k = -1 ∨ nI m ≤ k ∨ ∃ j : Nat, j < m ∧ k = nI j := by
  rcases ix k hm with h | h | h
  · have h0 : (0 : Int32).toInt = 0 := by decide
    have h2 : (-2 : Int32).toInt = -2 := by decide
    have h1 : (-1 : Int32).toInt = -1 := by decide
    by_cases a : k < -2
    · exact Or.inl a
    rw [Int32.lt_iff_toInt_lt, h0] at h
    rw [Int32.lt_iff_toInt_lt, h2] at a
    rcases (show k.toInt = -2 ∨ k.toInt = -1 by omega) with z | z
    · exact Or.inr (Or.inl (Int32.toInt_inj.mp (z.trans h2.symm)))
    · exact Or.inr (Or.inr (Or.inl (Int32.toInt_inj.mp (z.trans h1.symm))))
  · exact Or.inr (Or.inr (Or.inr (Or.inl h)))
  · exact Or.inr (Or.inr (Or.inr (Or.inr h)))
/-- what best(k) answers -/
def bAns (n m : Nat) (cv : Nat → Nat → Bool) (mf : Nat → Nat → Nat → Bool) (k : Int32) : Int32 := match fbF n m cv mf (n + 1) 0 with
  | none => -9
  | some (z, v) => if k = -2 then nI z else if k = -1 then nI (tk n m cv mf v) else nI (tw n m cv mf v k.toNatClampNeg)
section PE
variable {g : Glob} {S : Scn} {O : Oth}
theorem am_best {m n : Nat} (k : Int32) (hm : z_now (o_M O) 4 = nI m) (h8 : m ≤ 8) (hn : z_now (o_M O) 13 = nI n) (h6 : n ≤ 6) (h1 : ¬ k < -2) (h2 : k < nI m) : AC g mX6_best [.ref 94, .int k] (lay (S, O)) (fun r h' => r = some (.int (bAns n m (mcv O) (mmf O) k)) ∧ ∃ K W wc B bc bs, h' = lay (S, o_M' O (mW (o_M O) K W wc B bc bs))) := by
  refine acw gdX6_best 60 rfl ⟨fun h => absurd h h1, fun _ => ?_⟩
  refine ⟨_, _, rfl, vlit (j := 4) (by decide) (by decide), ?_⟩
  refine ⟨fun _ => ?_, fun h => absurd (show k < z_now (o_M O) 4 by rw [hm]; exact h2) h⟩
  refine ac_mono (am_findBest (g := g) (S := S) (O := O) (K0 := z_cuts (o_M O)) (W0 := z_way (o_M O)) (wc0 := z_wc (o_M O)) (B0 := z_best (o_M O)) (bc0 := z_bc (o_M O)) (bs0 := z_bs (o_M O)) hm h8 hn h6) ?_
  rintro r h' ⟨K, W, wc, B, bc, bs, rfl, ⟨hf, rfl⟩ | ⟨z, v, hf, rfl, hB⟩⟩
  · refine ⟨fun h => absurd rfl h, fun _ => ⟨?_, K, W, wc, B, bc, bs, rfl⟩⟩
    unfold bAns
    rw [hf]
  · refine ⟨fun _ => ?_, fun h => absurd h n01⟩
    obtain ⟨b1, b2, b3⟩ := hB
    refine ⟨fun h3 => ⟨fun h4 => ?_, fun h4 => ?_⟩, fun h3 => ?_⟩
    · obtain ⟨j, hj, rfl⟩ : ∃ j : Nat, j < m ∧ k = nI j := by
        rcases ixm k (m := m) (by omega) with h | h | h | h | h
        · exact absurd h h1
        · exact absurd h h3
        · exact absurd h h4
        · exact absurd h2 (Int32.not_lt.mpr h)
        · exact h
      refine ⟨_, _, rfl, vlit (by omega) (by decide), ?_⟩
      refine ⟨congrArg (fun z => some (Value.int z)) ?_, K, W, wc, B, bc, bs, rfl⟩
      unfold bAns
      rw [hf]
      show B (nI j).toNatClampNeg = _
      rw [vcl (x := nI j) rfl (by omega), b3 j hj]
      dsimp only
      rw [if_neg h3, if_neg h4]
    · refine ⟨congrArg (fun z => some (Value.int z)) ?_, K, W, wc, B, bc, bs, rfl⟩
      unfold bAns
      rw [hf]
      show bc = _
      dsimp only
      rw [b2, if_neg h3, if_pos h4]
    · refine ⟨congrArg (fun z => some (Value.int z)) ?_, K, W, wc, B, bc, bs, rfl⟩
      unfold bAns
      rw [hf]
      show bs = _
      dsimp only
      rw [b1, if_pos h3]
theorem pa_best (k : Int32) : PrA g mX5_best mX6_best [.int k] := by
  rintro ⟨S, O⟩ hI
  have hI0 := hI
  obtain ⟨hR, hP, i3, i4, i5⟩ := hI
  have hR0 := hR
  obtain ⟨eo, m, n, hS, hw⟩ := hR
  have h8 := hw.2.1
  have h6 := hw.2.2.2.1
  by_cases hb : k < -2 ∨ nI m ≤ k
  · refine acw gdX5_best 60 rfl ⟨fun _ => ?_, fun h1 => ⟨fun h => ?_, fun _ => ?_⟩⟩
    · refine ⟨-1, (S, O), rfl, rfl, ?_⟩
      refine acw gdX6_best 60 rfl ⟨fun _ => ⟨rfl, (S, O), rfl, hI0⟩, fun h1 => ?_⟩
      refine ⟨_, _, rfl, vlit (j := 4) (by decide) (by decide), ?_⟩
      refine ⟨fun h => ?_, fun _ => ⟨rfl, (S, O), rfl, hI0⟩⟩
      rcases hb with hb | hb
      · exact absurd hb h1
      · exact absurd (show k < z_now (o_M O) 4 from h) (by rw [hw.1]; exact Int32.not_lt.mpr hb)
    · rcases hb with hb | hb
      · exact absurd hb h1
      · exact absurd (show k < s_nl S from h) (by rw [hS.1]; exact Int32.not_lt.mpr hb)
    · refine ⟨-1, (S, O), rfl, rfl, ?_⟩
      refine acw gdX6_best 60 rfl ⟨fun _ => ⟨rfl, (S, O), rfl, hI0⟩, fun h1 => ?_⟩
      refine ⟨_, _, rfl, vlit (j := 4) (by decide) (by decide), ?_⟩
      refine ⟨fun h => ?_, fun _ => ⟨rfl, (S, O), rfl, hI0⟩⟩
      rcases hb with hb | hb
      · exact absurd hb h1
      · exact absurd (show k < z_now (o_M O) 4 from h) (by rw [hw.1]; exact Int32.not_lt.mpr hb)
  have h1 : ¬ k < -2 := fun z => hb (Or.inl z)
  have h2 : k < nI m := Int32.not_le.mp (fun z => hb (Or.inr z))
  have ML : ∀ Q2 : Pln, AC g mX6_best [.ref 94, .int k] (lay (S, o_Q' O Q2)) (fun r2 h2 => r2 = some (.int (bAns n m (mcv O) (mmf O) k)) ∧ ∃ X2 : St, h2 = lay X2 ∧ Inv X2) := fun Q2 => by
    refine ac_mono (am_best (g := g) (S := S) (O := o_Q' O Q2) (n := n) k hw.1 h8 hw.2.2.1 h6 h1 h2) ?_
    rintro r h' ⟨rfl, K, W, wc, B, bc, bs, rfl⟩
    exact ⟨rfl, (S, o_M' (o_Q' O Q2) (mW (o_M O) K W wc B bc bs)), rfl, ⟨hR0, hP, i3, i4, i5⟩⟩
  refine acw gdX5_best 60 rfl ⟨fun h => absurd h h1, fun _ => ⟨fun _ => ?_, fun h => absurd (show k < s_nl S by rw [hS.1]; exact h2) h⟩⟩
  refine ac_mono (ac_study (g := g) (S := S) (O := O) hS.1 h8 hS.2.1 h6 (hS.okp hw) (hS.okf hw)) ?_
  rintro r h' ⟨rfl, Q, hQ, -, rfl⟩
  have hQ := hQ.md hS
  refine ac_mono (ac_findBest (g := g) (S := S) (O := o_Q' O Q) hQ h8 h6) ?_
  rintro r h' ⟨Q2, hQ2, rfl, ⟨hf, rfl⟩ | ⟨z, v, hf, rfl, hB⟩⟩
  · refine ⟨fun h => absurd rfl h, fun _ => ⟨_, (S, o_Q' O Q2), ?_, rfl, ML Q2⟩⟩
    unfold bAns
    rw [show fbF n m (mcv O) (mmf O) (n + 1) 0 = none from hf]
  · refine ⟨fun _ => ?_, fun h => absurd h n01⟩
    obtain ⟨b1, b2, b3⟩ := hB
    have hf : fbF n m (mcv O) (mmf O) (n + 1) 0 = some (z, v) := hf
    refine ⟨fun h3 => ⟨fun h4 => ?_, fun h4 => ?_⟩, fun h3 => ?_⟩
    · obtain ⟨j, hj, rfl⟩ : ∃ j : Nat, j < m ∧ k = nI j := by
        rcases ixm k (m := m) (by omega) with h | h | h | h | h
        · exact absurd h h1
        · exact absurd h h3
        · exact absurd h h4
        · exact absurd h2 (Int32.not_lt.mpr h)
        · exact h
      refine ⟨_, _, rfl, vlit (by omega) (by decide), ?_⟩
      refine ⟨_, (S, o_Q' O Q2), congrArg (fun z => some (Value.int z)) ?_, rfl, ML Q2⟩
      unfold bAns
      rw [hf]
      show p_bes Q2 (nI j).toNatClampNeg = _
      rw [vcl (x := nI j) rfl (by omega), b3 j hj]
      dsimp only
      rw [if_neg h3, if_neg h4]
    · refine ⟨_, (S, o_Q' O Q2), congrArg (fun z => some (Value.int z)) ?_, rfl, ML Q2⟩
      unfold bAns
      rw [hf]
      show p_bc Q2 = _
      dsimp only
      rw [b2, if_neg h3, if_pos h4]
    · refine ⟨_, (S, o_Q' O Q2), congrArg (fun z => some (Value.int z)) ?_, rfl, ML Q2⟩
      unfold bAns
      rw [hf]
      show p_bz Q2 = _
      dsimp only
      rw [b1, if_pos h3]
/-! needed -/
def nAns (n m : Nat) (cv : Nat → Nat → Bool) (mf : Nat → Nat → Nat → Bool) : Nat := if hasU n m (2 ^ n - 1) cv mf then msk (fun s => !hasU n m ((2 ^ n - 1) &&& (63 ^^^ 2 ^ s)) cv mf) n else 0
theorem am_needed {m n : Nat} (hm : z_now (o_M O) 4 = nI m) (h8 : m ≤ 8) (hn : z_now (o_M O) 13 = nI n) (h6 : n ≤ 6) : AC g mX6_needed [.ref 94] (lay (S, O)) (fun r h' => r = some (.int (nI (nAns n m (mcv O) (mmf O)))) ∧ ∃ K W wc, h' = lay (S, o_M' O (mW (o_M O) K W wc (z_best (o_M O)) (z_bc (o_M O)) (z_bs (o_M O))))) := by
  have hall := all_lt h6
  have h1n : 1 ≤ 2 ^ n := Nat.one_le_two_pow
  have ea : (1 : Int32) <<< (z_now (o_M O) 13 &&& 31) - 1 = nI (2 ^ n - 1) := by
    rw [hn, shlI n (by omega)]
    obtain ⟨j, hj⟩ : ∃ j, 2 ^ n = j + 1 := ⟨2 ^ n - 1, by omega⟩
    rw [hj, nI_pred]
    rfl
  have hAn : 2 ^ n - 1 < 2 ^ n := by omega
  unfold nAns
  generalize hA : 2 ^ n - 1 = A at *
  have key := dn (n := n) (P := fun i => ∀ (K W : Fn) (wc : Int32), (i = 0 ∨ hasU n m A (mcv O) (mmf O) = true) → AW g mX6_needed (fun r h' => r = some (.int (nI (if hasU n m A (mcv O) (mmf O) then msk (fun s => !hasU n m (A &&& (63 ^^^ 2 ^ s)) (mcv O) (mmf O)) n else 0))) ∧ ∃ K W wc, h' = lay (S, o_M' O (mW (o_M O) K W wc (z_best (o_M O)) (z_bc (o_M O)) (z_bs (o_M O))))) 0 0 16 [some (.ref 94), some (.int (nI A)), some (.int (nI (msk (fun s => !hasU n m (A &&& (63 ^^^ 2 ^ s)) (mcv O) (mmf O)) i))), some (.int (nI i))] [] (lay (S, o_M' O (mW (o_M O) K W wc (z_best (o_M O)) (z_bc (o_M O)) (z_bs (o_M O)))))) ?_ (fun i hi ih => ?_) 0 (Nat.zero_le _)
  · refine acw gdX6_needed 60 rfl ?_
    refine ⟨_, _, rfl, vlit (j := 13) (by decide) (by decide), ?_⟩
    refine awl ?_ (key (z_cuts (o_M O)) (z_way (o_M O)) (z_wc (o_M O)) (Or.inl rfl))
    show [some (Value.ref 94), some (Value.int ((1 : Int32) <<< (z_now (o_M O) 13 &&& 31) - 1)), some (Value.int 0), some (Value.int 0)] = _
    rw [ea]
    rfl
  · intro K W wc hh
    refine lpw gdX6_needed 60 ⟨_, _, rfl, vlit (j := 13) (by decide) (by decide), ?_⟩
    refine ⟨fun _ => ⟨?_, K, W, wc, rfl⟩, fun h => absurd (show z_now (o_M O) 13 ≤ nI n by rw [hn]; exact nle (by omega) (by omega)) h⟩
    refine congrArg (fun z => some (Value.int (nI z))) ?_
    rcases hh with hh | hh
    · rw [hh]
      split <;> rfl
    · rw [if_pos hh]
  · intro K W wc hh
    refine lpw gdX6_needed 60 ⟨_, _, rfl, vlit (j := 13) (by decide) (by decide), ?_⟩
    refine ⟨fun h => absurd (show z_now (o_M O) 13 ≤ nI i from h) (by rw [hn]; exact nge (by omega) (by omega)), fun _ => ?_⟩
    refine ac_mono (am_findWay (g := g) (S := S) (O := O) (n := n) (u := A) hm h8 h6 hAn) ?_
    rintro r h' ⟨K2, W2, wc2, rfl, rfl, -⟩
    refine ⟨fun h => ?_, fun h => ?_⟩
    · have h' := (bi_e0 _).mp h
      rw [h'] at hh
      obtain rfl : i = 0 := by
        rcases hh with hh | hh
        · exact hh
        · cases hh
      refine ⟨?_, K2, W2, wc2, rfl⟩
      rw [h']
      rfl
    · have hA1 : hasU n m A (mcv O) (mmf O) = true := by rw [bi_e0, Bool.not_eq_false] at h; exact h
      refine ac_ar (by rw [notI A hall i (by omega)]) (ac_mono (am_findWay (g := g) (S := S) (O := O) (n := n) (u := A &&& (63 ^^^ 2 ^ i)) hm h8 h6 (Nat.lt_of_le_of_lt Nat.and_le_left hAn)) ?_)
      rintro r h' ⟨K3, W3, wc3, rfl, rfl, -⟩
      refine ⟨fun h => awl ?_ (ih K3 W3 wc3 (Or.inr hA1)), fun h => awl ?_ (ih K3 W3 wc3 (Or.inr hA1))⟩
      · rw [← msk_or (p := fun s => !hasU n m (A &&& (63 ^^^ 2 ^ s)) (mcv O) (mmf O)) (by omega) (by rw [(bi_e0 _).mp h]; rfl), ← nI_1]
        rfl
      · rw [bi_e0, Bool.not_eq_false] at h
        rw [msk_no (p := fun s => !hasU n m (A &&& (63 ^^^ 2 ^ s)) (mcv O) (mmf O)) (by simp [h]), ← nI_1]
        simp only [or0]
        rfl
theorem pa_needed : PrA g mX5_needed mX6_needed [] := by
  rintro ⟨S, O⟩ hI
  obtain ⟨hR, hP, i3, i4, i5⟩ := hI
  have hR0 := hR
  obtain ⟨eo, m, n, hS, hw⟩ := hR
  have h8 := hw.2.1
  have h6 := hw.2.2.2.1
  refine acw gdX5_needed 60 rfl ?_
  refine ac_mono (ac_study (g := g) (S := S) (O := O) hS.1 h8 hS.2.1 h6 (hS.okp hw) (hS.okf hw)) ?_
  rintro r h' ⟨rfl, Q, hQ, -, rfl⟩
  have hQ := hQ.md hS
  refine ac_to (ac_neededShots (g := g) (S := S) (O := o_Q' O Q) hQ h8 h6) ?_
  refine ⟨nI (nAns n m (mcv O) (mmf O)), (S, o_Q' O Q), rfl, rfl, ?_⟩
  refine ac_mono (am_needed (g := g) (S := S) (O := o_Q' O Q) (n := n) hw.1 h8 hw.2.2.1 h6) ?_
  rintro r h' ⟨rfl, K, W, wc, rfl⟩
  exact ⟨rfl, (S, o_M' (o_Q' O Q) (mW (o_M O) K W wc (z_best (o_M O)) (z_bc (o_M O)) (z_bs (o_M O)))), rfl, ⟨hR0, hP, i3, i4, i5⟩⟩
end PE
