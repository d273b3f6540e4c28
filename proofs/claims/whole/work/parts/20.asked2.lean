section P3
variable {g : Glob} {S : Scn} {O : Oth}
theorem am_ones {u : Nat} (hu : u < 64) (h : AH) : ACe g mX6_ones [.int (nI u)] h (some (.int (nI (pop6 u)))) h := by
  refine acw gdX6_ones 30 rfl ?_
  rw [← popi_6]
  refine dn (n := 6) (P := fun i => AW g mX6_ones _ 0 0 4 [some (.int (nI u)), some (.int (nI (popi u i))), some (.int (nI i))] [] h) ?_ (fun i hi ih => ?_) 0 (Nat.zero_le _)
  · exact lpw gdX6_ones 30 ⟨fun _ => ⟨rfl, rfl⟩, fun h => absurd (nle (n := 6) (by omega) (by omega)) h⟩
  · refine lpw gdX6_ones 30 ⟨fun h => absurd h (nge (n := 6) (by omega) (by omega)), fun _ => awl ?_ ih⟩
    show [some (Value.int (nI u)), some (Value.int (nI (popi u i) + (nI u >>> (nI i &&& 31) &&& 1))), some (Value.int (nI i + 1))] = _
    rw [bit_at u hu i hi, nI_add, nI_1]
    rfl
theorem am_isSo {s q : Nat} {kw : Nat → Nat} (hs : s < 6) (hq : z_seen (o_M O) = nI q) (hq6 : q ≤ 6) (hk : ∀ j, j < q → z_sw (o_M O) j = nI (kw j) ∧ kw j ≤ 2) : ACe g mX6_isSo [.ref 94, .int (nI s)] (lay (S, O)) (some (.int (bi (soA (z_now (o_M O)) (fcr (z_now (o_M O))) kw (z_si (o_M O)) q s)))) (lay (S, O)) := by
  have e0 : z_seen (o_M (S, O).snd) = nI q := hq
  refine acw gdX6_isSo 60 rfl ?_
  refine dn (n := q) (P := fun i => AW g mX6_isSo _ 0 0 4 [some (.ref 94), some (.int (nI s)), some (.int (bi (soA (z_now (o_M O)) (fcr (z_now (o_M O))) kw (z_si (o_M O)) i s))), some (.int (nI i)), none] [] (lay (S, O))) ?_ (fun i hi ih => ?_) 0 (Nat.zero_le _)
  · exact lpw gdX6_isSo 40 ⟨fun _ => ⟨bi_n _, rfl, rfl⟩, fun h => absurd (by rw [e0]; exact nle (by omega) (by omega)) h⟩
  · obtain ⟨k1, k2⟩ := hk i hi
    have J65 : ∀ v : Int32, v = bi (soA (z_now (o_M O)) (fcr (z_now (o_M O))) kw (z_si (o_M O)) (i + 1) s) → ∀ x : Value, AW g mX6_isSo (fun r h' => r = some (.int (bi (soA (z_now (o_M O)) (fcr (z_now (o_M O))) kw (z_si (o_M O)) q s))) ∧ h' = lay (S, O)) 0 0 65 [some (.ref 94), some (.int (nI s)), some (.int (bi (soA (z_now (o_M O)) (fcr (z_now (o_M O))) kw (z_si (o_M O)) i s))), some (.int (nI i)), some x] [.int v] (lay (S, O)) := by
      intro v hv x
      refine lpw gdX6_isSo 40 (awf ?_ ih)
      rw [hv, ← nI_1]
      exact ⟨rfl, rfl, rfl, rfl, trivial⟩
    have J43 : AW g mX6_isSo (fun r h' => r = some (.int (bi (soA (z_now (o_M O)) (fcr (z_now (o_M O))) kw (z_si (o_M O)) q s))) ∧ h' = lay (S, O)) 0 0 43 [some (.ref 94), some (.int (nI s)), some (.int (bi (soA (z_now (o_M O)) (fcr (z_now (o_M O))) kw (z_si (o_M O)) i s))), some (.int (nI i)), none] [.int (lkS (z_now (o_M O)) (fcr (z_now (o_M O))) s (kw i))] (lay (S, O)) := by
      refine lpw gdX6_isSo 40 ⟨fun h1 => ?_, fun h1 => ?_⟩
      · replace h1 : soA (z_now (o_M O)) (fcr (z_now (o_M O))) kw (z_si (o_M O)) i s = false := (bi_e0 _).mp h1
        exact J65 0 (bi_f (by unfold soA allB; unfold soA at h1; rw [h1]; rfl)).symm _
      replace h1 : soA (z_now (o_M O)) (fcr (z_now (o_M O))) kw (z_si (o_M O)) i s = true := by rw [bi_e0, Bool.not_eq_false] at h1; exact h1
      refine ⟨_, _, rfl, vlit (by omega) (by decide), ?_⟩
      rw [vcl rfl (by omega)]
      refine ⟨fun h2 => ?_, fun h2 => ?_⟩
      · exact J65 0 (bi_f (by unfold soA allB; simp only [Bool.and_eq_false_iff, decide_eq_false_iff_not]; exact Or.inr h2)).symm _
      · exact J65 1 (bi_t (by unfold soA allB; unfold soA at h1; rw [h1]; simp only [Bool.true_and, decide_eq_true_eq]; exact h2)).symm _
    refine lpw gdX6_isSo 40 ⟨fun h => absurd h (by rw [e0]; exact nge (by omega) (by omega)), fun _ => ?_⟩
    refine ⟨_, _, rfl, vlit (by omega) (by decide), ?_⟩
    rw [vcl rfl (by omega), show z_sw (o_M (S, O).snd) i = nI (kw i) from k1]
    refine ⟨fun h1 => ?_, fun h1 => ?_⟩
    · have h2 : ¬ kw i = 2 := fun z => h1 (by rw [z]; rfl)
      refine ⟨_, _, rfl, vlit (by omega) (by decide), ?_⟩
      rw [vcl rfl (by omega), show z_sw (o_M (S, O).snd) i = nI (kw i) from k1]
      refine ac_ar (by rw [show (2 : Int32) + nI (kw i) = nI (2 + kw i) by simp only [nlit, nI_add]]) (ac_to (am_of (w := 2 + kw i) hs (by omega)) ?_)
      have e : lkS (z_now (o_M O)) (fcr (z_now (o_M O))) s (kw i) = fcr (z_now (o_M O)) (7 * s + (2 + kw i)) := if_neg h2
      rw [← e]
      exact J43
    · have h2 : kw i = 2 := (neqI (b := 2) (by omega) (by omega)).mp h1
      refine ac_to (am_sideOf hs) ?_
      have e : lkS (z_now (o_M O)) (fcr (z_now (o_M O))) s (kw i) = sdA (z_now (o_M O)) (fcr (z_now (o_M O))) s := if_pos h2
      rw [← e]
      exact J43
/-- the lowest of the last k below n -/
def loF (p : Nat → Bool) (n : Nat) : Nat → Option Nat
  | 0 => none
  | k + 1 => if p (n - (k + 1)) then some (n - (k + 1)) else loF p n k
theorem loF_st {p : Nat → Bool} {n j : Nat} (h : j < n) : loF p n (n - j) = if p j then some j else loF p n (n - (j + 1)) := by
  obtain ⟨k, hk⟩ : ∃ k, n - j = k + 1 := ⟨n - j - 1, by omega⟩
  rw [hk]
  conv => lhs; unfold loF
  rw [show n - (k + 1) = j by omega, show n - (j + 1) = k by omega]
theorem am_which {n q x : Nat} {kw : Nat → Nat} (hx : x ≤ 1) (hn : z_now (o_M O) 13 = nI n) (h6 : n ≤ 6) (hq : z_seen (o_M O) = nI q) (hq6 : q ≤ 6) (hk : ∀ j, j < q → z_sw (o_M O) j = nI (kw j) ∧ kw j ≤ 2) :
    ACe g mX6_which [.ref 94, .int (nI x)] (lay (S, O)) (some (.int (if x = 0 then nI (cnt (soA (z_now (o_M O)) (fcr (z_now (o_M O))) kw (z_si (o_M O)) q) n) else sh (loF (soA (z_now (o_M O)) (fcr (z_now (o_M O))) kw (z_si (o_M O)) q) n n)))) (lay (S, O)) := by
  have e0 : z_now (o_M (S, O).snd) 13 = nI n := hn
  generalize hp : soA (z_now (o_M O)) (fcr (z_now (o_M O))) kw (z_si (o_M O)) q = p
  refine acw gdX6_which 60 rfl (ac_to (am_in _ _ _ _) ⟨fun _ => ?_, fun h => absurd h ?_⟩)
  · have Q : ∀ j, j ≤ n → AW g mX6_which (fun r h' => r = some (.int (if x = 0 then nI (cnt p n) else sh (loF p n n))) ∧ h' = lay (S, O)) 0 0 27 [some (.ref 94), some (.int (nI x)), some (.int (nI (cnt p n - cnt p j))), some (.int (sh (loF p n (n - j)))), some (.int (nI j - 1)), none] [] (lay (S, O)) := by
      intro j
      induction j with
      | zero =>
        intro _
        refine lpw gdX6_which 40 ⟨fun _ => ⟨fun h1 => ?_, fun h1 => ?_⟩, fun h => absurd (by decide) h⟩
        · have h2 : ¬ x = 0 := fun z => h1 (by rw [z]; rfl)
          rw [if_neg h2]
          exact ⟨rfl, rfl⟩
        · have h2 : x = 0 := (neqI (b := 0) (by omega) (by omega)).mp h1
          rw [if_pos h2]
          exact ⟨rfl, rfl⟩
      | succ j ih =>
        intro hj
        have e1 : nI (j + 1) - 1 = nI j := nI_pred j
        have c1 : cnt p (j + 1) ≤ cnt p n := by
          obtain ⟨k, rfl⟩ : ∃ k, n = j + 1 + k := ⟨n - (j + 1), by omega⟩
          clear ih hj e0 hn h6
          induction k with
          | zero => exact Nat.le_refl _
          | succ k ih =>
            rw [show j + 1 + (k + 1) = (j + 1 + k) + 1 by omega]
            conv => rhs; unfold cnt
            split <;> omega
        have c2 := cnt_le p n
        rw [e1]
        refine lpw gdX6_which 40 ⟨fun h => absurd h (nlt0 j (by omega)), fun _ => ?_⟩
        refine ac_to (am_isSo (kw := kw) (by omega) hq hq6 hk) ?_
        rw [hp]
        have hlo := loF_st (p := p) (show j < n by omega)
        refine ⟨fun hc => ⟨fun _ => awf ?_ (ih (by omega)), fun h => absurd hc h⟩, fun hc => ⟨fun h => absurd h hc, fun _ => awf ?_ (ih (by omega))⟩⟩
        · rw [bi_e0] at hc
          rw [hc] at hlo
          rw [hlo, show cnt p j = cnt p (j + 1) from (cnt_f hc).symm]
          refine ⟨rfl, rfl, ?_, rfl, congrArg Value.int (Int32.sub_eq_add_neg _ _), trivial⟩
          show Value.int (nI (cnt p n - cnt p (j + 1))) = Value.int (nI (cnt p n - cnt p (j + 1)) + 0)
          rw [nlit, nI_add]
          rfl
        · rw [bi_e0, Bool.not_eq_false] at hc
          rw [hc] at hlo
          rw [hlo, show cnt p n - cnt p j = cnt p n - cnt p (j + 1) + 1 by rw [cnt_t hc] at c1 ⊢; omega]
          refine ⟨rfl, rfl, ?_, rfl, congrArg Value.int (Int32.sub_eq_add_neg _ _), trivial⟩
          rw [← nI_1]
    refine ⟨_, _, rfl, vlit (j := 13) (by decide) (by decide), ?_⟩
    rw [vcl (x := 13) (j := 13) rfl (by decide), e0]
    have Qn := Q n (Nat.le_refl n)
    rw [Nat.sub_self, Nat.sub_self] at Qn
    exact Qn
  · have h1 : ¬ nI x < 0 := nlt0 x (by omega)
    have h2 : ¬ 1 < nI x := fun z => by
      have := (nltI (a := 1) (b := x) (by omega) (by omega)).mp z
      omega
    simp [bi, h1, h2]
def tzN (u : Nat) : Nat := if u % 2 = 1 then 0 else if u / 2 % 2 = 1 then 1 else if u / 4 % 2 = 1 then 2 else if u / 8 % 2 = 1 then 3 else if u / 16 % 2 = 1 then 4 else 5
theorem nz_fin : ∀ u : Nat, u < 64 → u ≠ 0 → nzF (nI u) = nI (tzN u) := by decide +kernel
theorem msk_lo {p : Nat → Bool} : ∀ n, n ≤ 6 → loF p n n = if msk p n = 0 then none else some (tzN (msk p n)) := by
  intro n hn
  rcases (show n = 0 ∨ n = 1 ∨ n = 2 ∨ n = 3 ∨ n = 4 ∨ n = 5 ∨ n = 6 by omega) with rfl | rfl | rfl | rfl | rfl | rfl | rfl
  · simp [msk, loF]
  · cases h0 : p 0 <;> simp [msk, loF, tzN, h0]
  · cases h0 : p 0 <;> cases h1 : p 1 <;> simp [msk, loF, tzN, h0, h1]
  · cases h0 : p 0 <;> cases h1 : p 1 <;> cases h2 : p 2 <;> simp [msk, loF, tzN, h0, h1, h2]
  · cases h0 : p 0 <;> cases h1 : p 1 <;> cases h2 : p 2 <;> cases h3 : p 3 <;> simp [msk, loF, tzN, h0, h1, h2, h3]
  · cases h0 : p 0 <;> cases h1 : p 1 <;> cases h2 : p 2 <;> cases h3 : p 3 <;> cases h4 : p 4 <;> simp [msk, loF, tzN, h0, h1, h2, h3, h4]
  · cases h0 : p 0 <;> cases h1 : p 1 <;> cases h2 : p 2 <;> cases h3 : p 3 <;> cases h4 : p 4 <;> cases h5 : p 5 <;> simp [msk, loF, tzN, h0, h1, h2, h3, h4, h5]
theorem ScC.so {S : Scn} {r : Fn} {m n q s : Nat} {kw : Nat → Nat} {nu si : Fn} (h : ScC S r m n) (hs : s < n) (hk : ∀ j, j < q → kw j ≤ 2 ∧ si j = nu j) : soA (s_pl S) (s_fc S) kw nu q s = soA r (fcr r) kw si q s := by
  unfold soA
  refine allB_cg q (fun j hj => ?_)
  obtain ⟨k1, k2⟩ := hk j hj
  have e : lkS (s_pl S) (s_fc S) s (kw j) = lkS r (fcr r) s (kw j) := by
    unfold lkS
    by_cases h2 : kw j = 2
    · rw [if_pos h2, if_pos h2, h.sd hs]
    · rw [if_neg h2, if_neg h2, h.2.2.2.2.1 _ (by omega)]
  rw [e, k2]
theorem pr_which (x : Int32) : Pr g mX5_which mX6_which [.int x] := by
  rintro ⟨S, O⟩ hI
  have hI0 := hI
  obtain ⟨⟨eo, m, n, hS, hw⟩, -, -, -, ⟨q, kw, hq, hs, hs2, hk⟩⟩ := hI
  by_cases hx : x < 0 ∨ 1 < x
  · refine ⟨-1, (S, O), (S, O), ?_, ?_, hI0⟩
    · refine acw gdX5_which 40 rfl ⟨fun _ => ⟨rfl, rfl⟩, fun h1 => ⟨fun h2 => ?_, fun _ => ⟨rfl, rfl⟩⟩⟩
      rcases hx with hx | hx
      · exact absurd hx h1
      · exact absurd hx (Int32.not_lt.mpr h2)
    · refine acw gdX6_which 40 rfl (ac_to (am_in _ _ _ _) ⟨fun h1 => ?_, fun _ => ⟨rfl, rfl⟩⟩)
      rw [bi_e0, Bool.not_eq_false] at h1
      simp only [Bool.and_eq_true, Bool.not_eq_true', decide_eq_false_iff_not] at h1
      rcases hx with hx | hx
      · exact absurd hx h1.1
      · exact absurd hx h1.2
  have h1 : ¬ x < 0 := fun z => hx (Or.inl z)
  have h2 : ¬ 1 < x := fun z => hx (Or.inr z)
  obtain ⟨k, hk1, rfl⟩ := nI_of2 (M := 1) (n := 1) (by decide) h1 (Int32.not_lt.mp h2)
  have hn6 := hw.2.2.2.1
  have hM := am_which (g := g) (S := S) (O := O) (kw := kw) hk1 hw.2.2.1 hn6 hs2 hq (fun j hj => ⟨(hk j hj).2.2.1, (hk j hj).2.1⟩)
  refine ⟨_, (S, O), (S, O), ?_, hM, hI0⟩
  have hF := ac_fitting (g := g) (S := S) (O := O) (kw := kw) hS.2.1 hn6 (hS.okp hw) (hS.okf hw) hs hq (fun j hj => ⟨(hk j hj).1, (hk j hj).2.1⟩)
  have eM : msk (soA (s_pl S) (s_fc S) kw (q_nu (o_G O)) q) n = msk (soA (z_now (o_M O)) (fcr (z_now (o_M O))) kw (z_si (o_M O)) q) n := msk_cg n (fun s hs => hS.so hs (fun j hj => ⟨(hk j hj).2.1, (hk j hj).2.2.2⟩))
  rw [eM] at hF
  generalize soA (z_now (o_M O)) (fcr (z_now (o_M O))) kw (z_si (o_M O)) q = p at hF
  have hu : msk p n < 64 := Nat.lt_of_lt_of_le (msk_lt p n) (Nat.le_trans (Nat.pow_le_pow_right (by decide) hn6) (by decide))
  refine acw gdX5_which 40 rfl ⟨fun h => absurd h h1, fun _ => ⟨fun _ => ?_, fun h => absurd (Int32.not_lt.mp h2) h⟩⟩
  refine ac_to hF ⟨fun h3 => ?_, fun h3 => ?_⟩
  · have h4 : ¬ k = 0 := fun z => h3 (by rw [z]; rfl)
    rw [if_neg h4, msk_lo n hn6]
    refine ⟨fun h5 => ?_, fun h5 => ?_⟩
    · have h6 : ¬ msk p n = 0 := fun z => h5 (by rw [z]; rfl)
      rw [if_neg h6]
      refine ac_to (ac_ntz _ _) ⟨?_, rfl⟩
      rw [nz_fin _ hu h6]
      rfl
    · have h6 : msk p n = 0 := (neqI (b := 0) (by omega) (by omega)).mp h5
      rw [if_pos h6]
      exact ⟨rfl, rfl⟩
  · have h4 : k = 0 := (neqI (b := 0) (by omega) (by omega)).mp h3
    rw [if_pos h4]
    refine ac_to (ac_bitCount _ _) ⟨?_, rfl⟩
    rw [bc_fin _ hu, msk_pop n hn6]
end P3
