section PC
variable {g : Glob} {S : Scn} {O : Oth}
/-- what cheapest(k) answers -/
def cAns (n m : Nat) (cv : Nat → Nat → Bool) (mf : Nat → Nat → Nat → Bool) (pr : Nat → Int32) (k : Int32) : Int32 := match chF n m cv mf pr (2 ^ n) with
  | none => -9
  | some v => if k = 0 then nI v else FP.f2i (FP.fmul (UInt32.ofNat 1148846080) (dF pr v n))
theorem am_cheapest {m n : Nat} (k : Int32) (hm : z_now (o_M O) 4 = nI m) (h8 : m ≤ 8) (hn : z_now (o_M O) 13 = nI n) (h6 : n ≤ 6) (hp : ∀ s, s < n → ∃ q : Nat, q ≤ 9 ∧ fcr (z_now (o_M O)) (7 * s + 6) = nI q) (hk : (!decide (k < 0) && !decide (1 < k)) = true) : AC g mX6_cheapest [.ref 94, .int k] (lay (S, O)) (fun r h' => r = some (.int (cAns n m (mcv O) (mmf O) (fun s => fcr (z_now (o_M O)) (7 * s + 6)) k)) ∧ ∃ K W wc, h' = lay (S, o_M' O (mW (o_M O) K W wc (z_best (o_M O)) (z_bc (o_M O)) (z_bs (o_M O))))) := by
  have e64 := p64 h6
  generalize hpr : (fun s => fcr (z_now (o_M O)) (7 * s + 6)) = pr at *
  have hp' : ∀ s, s < n → ∃ q : Nat, q ≤ 9 ∧ pr s = nI q := fun s hs => by rw [← hpr]; exact hp s hs
  have DE : ∀ (K W : Fn) (wc : Int32) (u : Nat), u < 64 → ACe g mX6_dearOf [.ref 94, .int (nI u)] (lay (S, o_M' O (mW (o_M O) K W wc (z_best (o_M O)) (z_bc (o_M O)) (z_bs (o_M O))))) (some (.float (dF pr u n))) (lay (S, o_M' O (mW (o_M O) K W wc (z_best (o_M O)) (z_bc (o_M O)) (z_bs (o_M O))))) := fun K W wc u hu => by
    have := am_dearOf (g := g) (S := S) (O := o_M' O (mW (o_M O) K W wc (z_best (o_M O)) (z_bc (o_M O)) (z_bs (o_M O)))) h6 hu hn hp
    rw [show (fun s => fcr (z_now (o_M (o_M' O (mW (o_M O) K W wc (z_best (o_M O)) (z_bc (o_M O)) (z_bs (o_M O)))))) (7 * s + 6)) = pr from hpr] at this
    exact this
  have key := dn (n := 2 ^ n) (P := fun u => ∀ (K W : Fn) (wc : Int32), AW g mX6_cheapest (fun r h' => r = some (.int (cAns n m (mcv O) (mmf O) pr k)) ∧ ∃ K W wc, h' = lay (S, o_M' O (mW (o_M O) K W wc (z_best (o_M O)) (z_bc (o_M O)) (z_bs (o_M O))))) 0 0 16 [some (.ref 94), some (.int k), some (.int (sh (chF n m (mcv O) (mmf O) pr u))), some (.int (nI u))] [] (lay (S, o_M' O (mW (o_M O) K W wc (z_best (o_M O)) (z_bc (o_M O)) (z_bs (o_M O)))))) ?_ (fun u hu ih => ?_) 0 (Nat.zero_le _)
  · refine acw gdX6_cheapest 60 rfl (ac_to (am_in _ _ _ _) ⟨fun _ => ?_, fun h => ?_⟩)
    · exact key (z_cuts (o_M O)) (z_way (o_M O)) (z_wc (o_M O))
    · exact absurd h (by rw [show (!decide (k < 0) && !decide (1 < k)) = true from hk]; decide)
  · intro K W wc
    refine lpw gdX6_cheapest 60 ⟨_, _, rfl, vlit (j := 13) (by decide) (by decide), ?_⟩
    refine ⟨fun _ => ?_, fun h => ?_⟩
    · cases hc : chF n m (mcv O) (mmf O) pr (2 ^ n) with
      | none =>
        refine ⟨fun h => absurd rfl h, fun _ => ⟨?_, K, W, wc, rfl⟩⟩
        unfold cAns
        rw [hc]
      | some v =>
        have hv := ch_in _ _ hc
        refine ⟨fun _ => ⟨fun h0 => ?_, fun h0 => ?_⟩, fun h => absurd h (nI_ne9 (by omega))⟩
        · refine ac_to (DE K W wc v (by omega)) ⟨(dF_n (u := v) h6 hp' (Nat.le_refl n)).2, ?_, K, W, wc, rfl⟩
          unfold cAns
          rw [hc]
          dsimp only
          rw [if_neg h0]
        · refine ⟨?_, K, W, wc, rfl⟩
          unfold cAns
          rw [hc]
          dsimp only
          rw [if_pos h0]
          rfl
    · refine absurd (show (1 : Int32) <<< (z_now (o_M O) 13 &&& 31) ≤ nI (2 ^ n) from ?_) h
      rw [hn, shlI n (by omega)]
      exact nle (Nat.le_refl _) (by omega)
  · intro K W wc
    have hu64 : u < 64 := by omega
    have J59 : ∀ (K W : Fn) (wc c : Int32), c = sh (chF n m (mcv O) (mmf O) pr (u + 1)) → AW g mX6_cheapest (fun r h' => r = some (.int (cAns n m (mcv O) (mmf O) pr k)) ∧ ∃ K W wc, h' = lay (S, o_M' O (mW (o_M O) K W wc (z_best (o_M O)) (z_bc (o_M O)) (z_bs (o_M O))))) 0 0 59 [some (.ref 94), some (.int k), some (.int c), some (.int (nI u))] [] (lay (S, o_M' O (mW (o_M O) K W wc (z_best (o_M O)) (z_bc (o_M O)) (z_bs (o_M O))))) := by
      intro K W wc c hc
      subst hc
      exact lpw gdX6_cheapest 60 (awl (by rw [← nI_1]; rfl) (ih K W wc))
    have J49 : (∀ v, chF n m (mcv O) (mmf O) pr u = some v → lessF (dF pr u n) (dF pr v n) = true) → AW g mX6_cheapest (fun r h' => r = some (.int (cAns n m (mcv O) (mmf O) pr k)) ∧ ∃ K W wc, h' = lay (S, o_M' O (mW (o_M O) K W wc (z_best (o_M O)) (z_bc (o_M O)) (z_bs (o_M O))))) 0 0 49 [some (.ref 94), some (.int k), some (.int (sh (chF n m (mcv O) (mmf O) pr u))), some (.int (nI u))] [] (lay (S, o_M' O (mW (o_M O) K W wc (z_best (o_M O)) (z_bc (o_M O)) (z_bs (o_M O))))) := by
      intro hl
      refine lpw gdX6_cheapest 60 (ac_mono (am_findWay (g := g) (S := S) (O := O) (n := n) (u := u) hm h8 h6 hu) ?_)
      rintro r h' ⟨K2, W2, wc2, rfl, rfl, -⟩
      refine ⟨fun h => ?_, fun h => ?_⟩
      · have hh := (bi_e0 _).mp h
        have e : chF n m (mcv O) (mmf O) pr (u + 1) = chF n m (mcv O) (mmf O) pr u := by
          show (match chF n m (mcv O) (mmf O) pr u with | none => if hasU n m u (mcv O) (mmf O) then some u else none | some v => if lessF (dF pr u n) (dF pr v n) && hasU n m u (mcv O) (mmf O) then some u else some v) = _
          split
          · rename_i h0; rw [hh, h0]; rfl
          · rename_i v h0; rw [hh, h0, Bool.and_false]; rfl
        exact J59 _ _ _ _ (by rw [e])
      · rw [bi_e0, Bool.not_eq_false] at h
        have e : chF n m (mcv O) (mmf O) pr (u + 1) = some u := by
          show (match chF n m (mcv O) (mmf O) pr u with | none => if hasU n m u (mcv O) (mmf O) then some u else none | some v => if lessF (dF pr u n) (dF pr v n) && hasU n m u (mcv O) (mmf O) then some u else some v) = _
          split
          · rw [if_pos h]
          · rename_i v h0; rw [h, hl v h0]; rfl
        exact J59 _ _ _ _ (by rw [e]; rfl)
    refine lpw gdX6_cheapest 60 ⟨_, _, rfl, vlit (j := 13) (by decide) (by decide), ?_⟩
    refine ⟨fun h => ?_, fun _ => ?_⟩
    · have h' : (1 : Int32) <<< (z_now (o_M O) 13 &&& 31) ≤ nI u := h
      rw [hn, shlI n (by omega)] at h'
      exact absurd h' (nge hu (by omega))
    cases hc : chF n m (mcv O) (mmf O) pr u with
    | none =>
      rw [hc] at J49
      exact ⟨fun _ => J49 (fun v hv => by cases hv), fun h => absurd rfl h⟩
    | some v =>
      have hv := ch_in _ _ hc
      refine ⟨fun h => absurd h (nI_ne9 (by omega)), fun _ => ?_⟩
      refine ac_to (DE K W wc u hu64) (ac_to (DE K W wc v (by omega)) ⟨fun h => ?_, fun h => ?_⟩)
      · have hle : lessF (dF pr u n) (dF pr v n) = false := by
          unfold lessF
          rw [decide_eq_false_iff_not]
          exact Int32.not_lt.mpr h
        have e : chF n m (mcv O) (mmf O) pr (u + 1) = some v := by
          show (match chF n m (mcv O) (mmf O) pr u with | none => if hasU n m u (mcv O) (mmf O) then some u else none | some v => if lessF (dF pr u n) (dF pr v n) && hasU n m u (mcv O) (mmf O) then some u else some v) = _
          rw [hc]
          exact if_neg (by rw [hle]; simp)
        exact J59 _ _ _ _ (by rw [e])
      · rw [hc] at J49
        refine J49 (fun w hw => ?_)
        cases hw
        unfold lessF
        rw [decide_eq_true_eq]
        exact Int32.not_le.mp h
theorem pa_cheapest (k : Int32) : PrA g mX5_cheapest mX6_cheapest [.int k] := by
  rintro ⟨S, O⟩ hI
  have hI0 := hI
  obtain ⟨hR, hP, i3, i4, i5⟩ := hI
  have hR0 := hR
  obtain ⟨eo, m, n, hS, hw⟩ := hR
  have h8 := hw.2.1
  have h6 := hw.2.2.2.1
  have e64 := p64 h6
  by_cases hb : k < 0 ∨ 1 < k
  · have hin : (!decide (k < 0) && !decide (1 < k)) = false := by rcases hb with h | h <;> simp [h]
    have MB : AC g mX6_cheapest [.ref 94, .int k] (lay (S, O)) (fun r2 h2 => r2 = some (.int (-1)) ∧ ∃ X2 : St, h2 = lay X2 ∧ Inv X2) := by
      refine acw gdX6_cheapest 60 rfl (ac_to (am_in _ _ _ _) ⟨fun h => absurd (show bi (!decide (k < 0) && !decide (1 < k)) = 0 by rw [hin]; rfl) h, fun _ => ⟨rfl, (S, O), rfl, hI0⟩⟩)
    refine acw gdX5_cheapest 60 rfl ⟨fun _ => ⟨-1, (S, O), rfl, rfl, MB⟩, fun h1 => ⟨fun h2 => ?_, fun _ => ⟨-1, (S, O), rfl, rfl, MB⟩⟩⟩
    rcases hb with h | h
    · exact absurd h h1
    · exact absurd h (Int32.not_lt.mpr h2)
  have h1 : ¬ k < 0 := fun z => hb (Or.inl z)
  have h2 : ¬ 1 < k := fun z => hb (Or.inr z)
  have hp : ∀ s, s < n → ∃ q : Nat, q ≤ 9 ∧ fcr (z_now (o_M O)) (7 * s + 6) = nI q := fun s hs => hw.2.2.2.2.2.1 s hs 6 (by decide)
  have ML : ∀ Q2 : Pln, AC g mX6_cheapest [.ref 94, .int k] (lay (S, o_Q' O Q2)) (fun r2 h2 => r2 = some (.int (cAns n m (mcv O) (mmf O) (fun s => fcr (z_now (o_M O)) (7 * s + 6)) k)) ∧ ∃ X2 : St, h2 = lay X2 ∧ Inv X2) := fun Q2 => by
    refine ac_mono (am_cheapest (g := g) (S := S) (O := o_Q' O Q2) (n := n) k hw.1 h8 hw.2.2.1 h6 hp (by simp [h1, h2])) ?_
    rintro r h' ⟨rfl, K, W, wc, rfl⟩
    exact ⟨rfl, (S, o_M' (o_Q' O Q2) (mW (o_M O) K W wc (z_best (o_M O)) (z_bc (o_M O)) (z_bs (o_M O)))), rfl, ⟨hR0, hP, i3, i4, i5⟩⟩
  refine acw gdX5_cheapest 60 rfl ⟨fun h => absurd h h1, fun _ => ⟨fun _ => ?_, fun h => absurd (Int32.not_lt.mp h2) h⟩⟩
  refine ac_mono (ac_study (g := g) (S := S) (O := O) hS.1 h8 hS.2.1 h6 (hS.okp hw) (hS.okf hw)) ?_
  rintro r h' ⟨rfl, Q, hQ, hq, rfl⟩
  have hQ := hQ.md hS
  have hq' : ∀ s, s < n → p_pri Q s = fcr (z_now (o_M O)) (7 * s + 6) := fun s hs => (hq s hs).trans (hS.2.2.2.2.1 (7 * s + 6) (by omega))
  refine ac_to (ac_cheapestSet (g := g) (S := S) (O := o_Q' O Q) (pr := fun s => fcr (z_now (o_M O)) (7 * s + 6)) hQ h8 h6 hp hq') ?_
  have ML := ML Q
  unfold cAns at ML
  rw [show mcv O = cvL (fcr (z_now (o_M O))) from rfl, show mmf O = mfA (z_now (o_M O)) (fcr (z_now (o_M O))) (spr (z_now (o_M O))) from rfl] at ML
  cases hc : chF n m (cvL (fcr (z_now (o_M O)))) (mfA (z_now (o_M O)) (fcr (z_now (o_M O))) (spr (z_now (o_M O)))) (fun s => fcr (z_now (o_M O)) (7 * s + 6)) (2 ^ n) with
  | none =>
    rw [hc] at ML
    exact ⟨fun _ => ⟨-9, (S, o_Q' O Q), rfl, rfl, ML⟩, fun h => absurd rfl h⟩
  | some v =>
    have hv := ch_in _ _ hc
    rw [hc] at ML
    dsimp only at ML
    refine ⟨fun h => absurd h (nI_ne9 (by omega)), fun _ => ⟨fun h0 => ?_, fun h0 => ?_⟩⟩
    · rw [if_neg h0] at ML
      refine ac_to (ac_dear (g := g) (S := S) (O := o_Q' O Q) (u := v) (pr := fun s => fcr (z_now (o_M O)) (7 * s + 6)) h6 (by omega) hQ.2.1 hp hq') ?_
      exact ⟨(dF_n (u := v) (pr := fun s => fcr (z_now (o_M O)) (7 * s + 6)) h6 hp (Nat.le_refl n)).2, _, (S, o_Q' O Q), rfl, rfl, ML⟩
    · rw [if_pos h0] at ML
      exact ⟨_, (S, o_Q' O Q), rfl, rfl, ML⟩
/-! makes -/
set_option maxRecDepth 10000 in
theorem Lnow {f : Fn} : (lay (S, O)).set 95 (ia 64 f) = lay (S, o_M' O (z_now' (o_M O) f)) := by rfl
theorem am_mk68 {m : Nat} {c : Int32} {Post : Option Value → AH → Prop} (hm : z_now (o_M O) 4 = nI m) (h8 : m ≤ 8) (hK : Post (some (.int c)) (lay (S, o_M' O (z_now' (o_M O) (va_cpy (z_best (o_M O)) (z_now (o_M O)) 0 56 m))))) : AW g mX6_makes Post 0 0 68 [some (.ref 94), some (.int c), none, some (.int (nI 0))] [] (lay (S, O)) := by
  have h4 : ∀ k, va_cpy (z_best (o_M O)) (z_now (o_M O)) 0 56 k 4 = nI m := fun k => by rw [pk_cpy_out (by omega)]; exact hm
  have key := dn (n := m) (P := fun l => AW g mX6_makes Post 0 0 68 [some (.ref 94), some (.int c), none, some (.int (nI l))] [] (lay (S, o_M' O (z_now' (o_M O) (va_cpy (z_best (o_M O)) (z_now (o_M O)) 0 56 l))))) ?_ (fun l hl ih => ?_) 0 (Nat.zero_le _)
  · rw [cpy_0] at key
    exact key
  · refine lpw gdX6_makes 60 ⟨_, _, rfl, vlit (j := 4) (by decide) (by decide), ?_⟩
    exact ⟨fun _ => hK, fun h => absurd (show va_cpy (z_best (o_M O)) (z_now (o_M O)) 0 56 m 4 ≤ nI m by rw [h4]; exact nle (by omega) (by omega)) h⟩
  · have e56 : 56 + nI l = nI (56 + l) := by simp only [nlit, nI_add]
    have e1 := cpy_step (f := z_best (o_M O)) (t := z_now (o_M O)) (i := 0) (j := 56) (k := l)
    rw [Nat.zero_add] at e1
    rw [← e1] at ih
    have h4 := h4 l
    generalize va_cpy (z_best (o_M O)) (z_now (o_M O)) 0 56 l = F at ih h4 ⊢
    refine lpw gdX6_makes 60 ⟨_, _, rfl, vlit (j := 4) (by decide) (by decide), ?_⟩
    refine ⟨fun h => absurd (show F 4 ≤ nI l from h) (by rw [h4]; exact nge (by omega) (by omega)), fun _ => ?_⟩
    refine ⟨_, _, rfl, vlit (by omega) (by decide), ?_⟩
    refine ⟨_, _, rfl, vin e56 (by omega) (by decide), ?_⟩
    rw [vcl (x := nI l) rfl (by omega), vcl e56 (by omega)]
    exact aw_hp Lnow (awl (by rw [← nI_1]; rfl) ih)
theorem Rw.mke {r : Fn} {eo : Nat → Option Nat} {m n : Nat} {w : Nat → Nat} {bes B : Fn} (hS : ScC S r m n) (hw : WfR r eo m n) (hb : ∀ l, l < m → bes l = nI (w l)) (hB : ∀ l, l < m → B l = nI (w l)) (hwn : ∀ l, l < m → w l < n) : Rw (s_ed' S (va_cpy bes (s_ed S) 0 0 m)) (va_cpy B r 0 56 m) := by
  have h8 := hw.2.1
  have h6 := hw.2.2.2.1
  have hlo : ∀ i, i < 56 → va_cpy B r 0 56 m i = r i := fun i hi => pk_cpy_out (by omega)
  refine ⟨fun i => if i < m then some (w i) else eo i, m, n, ⟨hS.1, hS.2.1, fun i hi => ?_, fun i hi => ?_, fun i hi => ?_, fun i hi => ?_⟩, ⟨?_, h8, ?_, h6, fun i hi => ?_, fun s hs k hk => ?_, fun i hi => ?_, fun i hi => ?_⟩⟩
  · rw [hlo i (by omega)]; exact hS.2.2.1 i hi
  · rw [hlo _ (by omega)]; exact hS.2.2.2.1 i hi
  · rw [hlo _ (by omega)]; exact hS.2.2.2.2.1 i hi
  · show va_cpy bes (s_ed S) 0 0 m i = _
    by_cases h : i < m
    · rw [pk_cpy_in (by omega) (by omega), pk_cpy_in (by omega) (by omega), show 0 + (i - 0) = i by omega, show 0 + (56 + i - 56) = i by omega, hb i h, hB i h]
    · rw [pk_cpy_out (by omega), pk_cpy_out (by omega)]; exact hS.2.2.2.2.2 i hi
  · rw [hlo 4 (by decide)]; exact hw.1
  · rw [hlo 13 (by decide)]; exact hw.2.2.1
  · rw [hlo i (by omega)]; exact hw.2.2.2.2.1 i hi
  · show ∃ v : Nat, v ≤ 9 ∧ va_cpy B r 0 56 m (14 + (7 * s + k)) = nI v
    rw [hlo _ (by omega)]; exact hw.2.2.2.2.2.1 s hs k hk
  · dsimp only
    by_cases h : i < m
    · rw [pk_cpy_in (by omega) (by omega), show 0 + (56 + i - 56) = i by omega, if_pos h, hB i h]
      exact ⟨rfl, fun s z => by cases z; exact hwn i h⟩
    · rw [pk_cpy_out (by omega), if_neg h]; exact hw.2.2.2.2.2.2.1 i hi
  · have : ¬ i < m := by omega
    simp only [this, if_false]
    exact hw.2.2.2.2.2.2.2 i hi
theorem am_makes0 {m n : Nat} (hm : z_now (o_M O) 4 = nI m) (h8 : m ≤ 8) (hn : z_now (o_M O) 13 = nI n) (h6 : n ≤ 6) (hf : fbF n m (mcv O) (mmf O) (n + 1) 0 = none) : AC g mX6_makes [.ref 94] (lay (S, O)) (fun r h' => r = some (.int (-2)) ∧ ∃ K W wc B bc bs, h' = lay (S, o_M' O (mW (o_M O) K W wc B bc bs))) := by
  refine acw gdX6_makes 60 rfl ?_
  refine ac_mono (am_findBest (g := g) (S := S) (O := O) (K0 := z_cuts (o_M O)) (W0 := z_way (o_M O)) (wc0 := z_wc (o_M O)) (B0 := z_best (o_M O)) (bc0 := z_bc (o_M O)) (bs0 := z_bs (o_M O)) hm h8 hn h6) ?_
  rintro r h' ⟨K, W, wc, B, bc, bs, rfl, ⟨-, rfl⟩ | ⟨z, v, hf2, -, -⟩⟩
  · have J55 : AW g mX6_makes (fun r h' => r = some (.int (-2)) ∧ ∃ K W wc B bc bs, h' = lay (S, o_M' O (mW (o_M O) K W wc B bc bs))) 0 0 55 [some (.ref 94), some (.int 0), some (.int 0), some (.int 0)] [] (lay (S, o_M' O (mW (o_M O) K W wc B bc bs))) :=
      lpw gdX6_makes 60 ⟨fun h => absurd rfl h, fun _ => ⟨rfl, K, W, wc, B, bc, bs, rfl⟩⟩
    refine lpw gdX6_makes 60 ⟨_, _, rfl, vlit (j := 4) (by decide) (by decide), ?_⟩
    exact ⟨fun _ => J55, fun _ => ⟨fun _ => J55, fun h => absurd rfl h⟩⟩
  · rw [hf] at hf2
    cases hf2
theorem am_makes1 {m n z v : Nat} {eo : Nat → Option Nat} {G : Fn} {kn : Int32} (hm : z_now (o_M O) 4 = nI m) (h8 : m ≤ 8) (hn : z_now (o_M O) 13 = nI n) (h6 : n ≤ 6) (hE : ∀ l, l < 8 → z_now (o_M O) (56 + l) = sh (eo l) ∧ okO n (eo l)) (hwn : ∀ l, l < m → tw n m (mcv O) (mmf O) v l < n) (hf : fbF n m (mcv O) (mmf O) (n + 1) 0 = some (z, v)) (dM : ∀ (S' : Scn) (O' : Oth), z_now (o_M O') = z_now (o_M O) → z_past (o_M O') = z_past (o_M O) → z_deeds (o_M O') = z_deeds (o_M O) → ACe g mX6_note [.ref 94] (lay (S', O')) none (lay (S', o_M' O' (z_deeds' (z_past' (o_M O') G) kn)))) : AC g mX6_makes [.ref 94] (lay (S, O)) (fun r h' => ∃ K W wc B bc bs, (∀ l, l < m → B l = nI (tw n m (mcv O) (mmf O) v l)) ∧ ((cnt (fun l => !decide (eo l = some (tw n m (mcv O) (mmf O) v l))) m = 0 ∧ r = some (.int (-2)) ∧ h' = lay (S, o_M' O (mW (o_M O) K W wc B bc bs))) ∨ (cnt (fun l => !decide (eo l = some (tw n m (mcv O) (mmf O) v l))) m ≠ 0 ∧ r = some (.int (nI (cnt (fun l => !decide (eo l = some (tw n m (mcv O) (mmf O) v l))) m))) ∧ h' = lay (S, o_M' O (z_now' (z_deeds' (z_past' (mW (o_M O) K W wc B bc bs) G) kn) (va_cpy B (z_now (o_M O)) 0 56 m)))))) := by
  generalize hw : tw n m (mcv O) (mmf O) v = w at *
  generalize hp : (fun l => !decide (eo l = some (w l))) = p
  refine acw gdX6_makes 60 rfl ?_
  refine ac_mono (am_findBest (g := g) (S := S) (O := O) (K0 := z_cuts (o_M O)) (W0 := z_way (o_M O)) (wc0 := z_wc (o_M O)) (B0 := z_best (o_M O)) (bc0 := z_bc (o_M O)) (bs0 := z_bs (o_M O)) hm h8 hn h6) ?_
  rintro r h' ⟨K, W, wc, B, bc, bs, rfl, ⟨hf2, -⟩ | ⟨z2, v2, hf2, rfl, hB⟩⟩
  · rw [hf] at hf2
    cases hf2
  rw [hf] at hf2
  obtain ⟨rfl, rfl⟩ : z = z2 ∧ v = v2 := by cases hf2; exact ⟨rfl, rfl⟩
  have b3 : ∀ l, l < m → B l = nI (w l) := fun l hl => by rw [← hw]; exact hB.2.2 l hl
  generalize hPo : (fun (r : Option Value) (h' : AH) => ∃ K W wc B bc bs, (∀ l, l < m → B l = nI (w l)) ∧ ((cnt p m = 0 ∧ r = some (.int (-2)) ∧ h' = lay (S, o_M' O (mW (o_M O) K W wc B bc bs))) ∨ (cnt p m ≠ 0 ∧ r = some (.int (nI (cnt p m))) ∧ h' = lay (S, o_M' O (z_now' (z_deeds' (z_past' (mW (o_M O) K W wc B bc bs) G) kn) (va_cpy B (z_now (o_M O)) 0 56 m)))))) = Post
  have hcl := cnt_le p m
  have J55 : AW g mX6_makes Post 0 0 55 [some (.ref 94), some (.int (nI (cnt p m))), none, none] [] (lay (S, o_M' O (mW (o_M O) K W wc B bc bs))) := by
    refine lpw gdX6_makes 60 ⟨fun h => ?_, fun h => ?_⟩
    · have h' : cnt p m ≠ 0 := fun z => h (by rw [z]; rfl)
      refine ac_to (dM S (o_M' O (mW (o_M O) K W wc B bc bs)) rfl rfl rfl) ?_
      refine awf ?_ (am_mk68 (g := g) (S := S) (O := o_M' O (z_deeds' (z_past' (mW (o_M O) K W wc B bc bs) G) kn)) (m := m) (c := nI (cnt p m)) hm h8 ?_)
      · exact ⟨rfl, rfl, rfl, trivial⟩
      · rw [← hPo]
        exact ⟨K, W, wc, B, bc, bs, b3, Or.inr ⟨h', rfl, rfl⟩⟩
    · have h' : cnt p m = 0 := (neqI (b := 0) (by omega) (by omega)).mp h
      rw [← hPo]
      exact ⟨K, W, wc, B, bc, bs, b3, Or.inl ⟨h', rfl, rfl⟩⟩
  have key := dn (n := m) (P := fun l => AW g mX6_makes Post 0 0 9 [some (.ref 94), some (.int (nI (cnt p l))), some (.int 1), some (.int (nI l))] [] (lay (S, o_M' O (mW (o_M O) K W wc B bc bs)))) ?_ (fun l hl ih => ?_) 0 (Nat.zero_le _)
  · exact key
  · refine lpw gdX6_makes 60 ⟨_, _, rfl, vlit (j := 4) (by decide) (by decide), ?_⟩
    refine ⟨fun _ => awf ?_ J55, fun h => absurd (show z_now (o_M O) 4 ≤ nI m by rw [hm]; exact nle (by omega) (by omega)) h⟩
    exact ⟨rfl, rfl, trivial⟩
  · have e56 : 56 + nI l = nI (56 + l) := by simp only [nlit, nI_add]
    have J47 : ∀ x : Nat, cnt p l + x = cnt p (l + 1) → AW g mX6_makes Post 0 0 47 [some (.ref 94), some (.int (nI (cnt p l))), some (.int 1), some (.int (nI l))] [.int (nI x), .int (nI (cnt p l))] (lay (S, o_M' O (mW (o_M O) K W wc B bc bs))) := by
      intro x hx
      rw [← hx] at ih
      exact lpw gdX6_makes 60 (awl (by rw [← nI_1, ← nI_add]; rfl) ih)
    have e : sh (eo l) = nI (w l) ↔ eo l = some (w l) := by
      have hbl := hwn l hl
      cases h : eo l with
      | none => exact ⟨fun z => absurd z.symm (nI_ne9 (by omega)), fun z => by cases z⟩
      | some s =>
        have hs := (hE l (by omega)).2 s h
        exact ⟨fun z => congrArg some ((neqI (by omega) (by omega)).mp z), fun z => by cases z; rfl⟩
    refine lpw gdX6_makes 60 ⟨_, _, rfl, vlit (j := 4) (by decide) (by decide), ?_⟩
    refine ⟨fun h => absurd (show z_now (o_M O) 4 ≤ nI l from h) (by rw [hm]; exact nge (by omega) (by omega)), fun _ => ⟨fun h => absurd h n01, fun _ => ?_⟩⟩
    refine ⟨_, _, rfl, vin e56 (by omega) (by decide), ?_⟩
    refine ⟨_, _, rfl, vlit (by omega) (by decide), ?_⟩
    rw [vcl (x := nI l) rfl (by omega), vcl e56 (by omega), show z_now (o_M (S, o_M' O (mW (o_M O) K W wc B bc bs)).snd) (56 + l) = sh (eo l) from (hE l (by omega)).1, show z_best (o_M (S, o_M' O (mW (o_M O) K W wc B bc bs)).snd) l = nI (w l) from b3 l hl]
    refine ⟨fun h => J47 1 ?_, fun h => J47 0 ?_⟩
    · rw [e] at h
      rw [cnt_t (by rw [← hp]; simp [h])]
    · rw [e] at h
      rw [cnt_f (by rw [← hp]; simp [h]), Nat.add_zero]
theorem pa_makes : PrA g mX5_makes mX6_makes [] := by
  rintro ⟨S, O⟩ hI
  obtain ⟨hR, hP, i3, i4, i5⟩ := hI
  have hR0 := hR
  obtain ⟨eo, m, n, hS, hw⟩ := hR
  have h8 := hw.2.1
  have h6 := hw.2.2.2.1
  have hE := hw.2.2.2.2.2.2.1
  have hES : ∀ l, l < m → s_ed S l = sh (eo l) ∧ okO n (eo l) := fun l hl => ⟨(hS.2.2.2.2.2 l (by omega)).trans (hE l (by omega)).1, (hE l (by omega)).2⟩
  refine acw gdX5_makes 60 rfl ?_
  refine ac_mono (ac_study (g := g) (S := S) (O := O) hS.1 h8 hS.2.1 h6 (hS.okp hw) (hS.okf hw)) ?_
  rintro r h' ⟨rfl, Q, hQ, -, rfl⟩
  have hQ := hQ.md hS
  refine ac_mono (ac_findBest (g := g) (S := S) (O := o_Q' O Q) hQ h8 h6) ?_
  rintro r h' ⟨Q2, hQ2, rfl, ⟨hf, rfl⟩ | ⟨z, v, hf, rfl, hB⟩⟩
  · refine ⟨fun h => absurd rfl h, fun _ => ⟨-2, (S, o_Q' O Q2), rfl, rfl, ?_⟩⟩
    refine ac_mono (am_makes0 (g := g) (S := S) (O := o_Q' O Q2) (n := n) hw.1 h8 hw.2.2.1 h6 hf) ?_
    rintro r h' ⟨rfl, K, W, wc, B, bc, bs, rfl⟩
    exact ⟨rfl, (S, o_M' (o_Q' O Q2) (mW (o_M O) K W wc B bc bs)), rfl, ⟨hR0, hP, i3, i4, i5⟩⟩
  refine ⟨fun _ => ?_, fun h => absurd h n01⟩
  obtain ⟨b1, b2, b3⟩ := hB
  obtain ⟨-, hv, hh⟩ := fb_in _ _ _ _ hf
  obtain ⟨hv1, -, -⟩ := has_tw hv h6 h8 hh
  have hwn : ∀ l, l < m → tw n m (mcv O) (mmf O) v l < n := fun l hl => (hv1 l hl).2.1
  obtain ⟨PP, kn, nx, G, dC, dM, dI⟩ := deed (g := g) (S := S) (O := o_Q' O Q2) hR0 hP
  refine ac_to (ac_differsFrom (g := g) (S := S) (O := o_Q' O Q2) (k := n) (b := tw n m (mcv O) (mmf O) v) h6 hQ2.1 h8 (fun l hl => ⟨b3 l hl, hwn l hl⟩) hES) ?_
  have M1 := fun S' O' h1 h2 h3 h4 => am_makes1 (g := g) (S := S') (O := O') (m := m) (n := n) (z := z) (v := v) (eo := eo) (G := G) (kn := kn) h1 h8 h2 h6 h3 h4
  have hcl := cnt_le (fun l => !decide (eo l = some (tw n m (mcv O) (mmf O) v l))) m
  by_cases hc : cnt (fun l => !decide (eo l = some (tw n m (mcv O) (mmf O) v l))) m = 0
  · refine ⟨fun h => absurd (by rw [hc]; rfl) h, fun _ => ⟨-2, (S, o_Q' O Q2), rfl, rfl, ?_⟩⟩
    refine ac_mono (M1 S (o_Q' O Q2) hw.1 hw.2.2.1 hE hwn hf dM) ?_
    rintro r h' ⟨K, W, wc, B, bc, bs, hB, ⟨-, rfl, rfl⟩ | ⟨hc2, -, -⟩⟩
    · exact ⟨rfl, (S, o_M' (o_Q' O Q2) (mW (o_M O) K W wc B bc bs)), rfl, ⟨hR0, hP, i3, i4, i5⟩⟩
    · exact absurd hc hc2
  · refine ⟨fun _ => ?_, fun h => absurd ((neqI (b := 0) (by omega) (by omega)).mp h) hc⟩
    refine ac_to dC ?_
    refine ac_to (ac_giveBestTo (g := g) (S := S) (O := o_nx' (o_kn' (o_P' (o_Q' O Q2) PP) kn) nx) hQ2.1 h8) ?_
    refine ⟨_, (s_ed' S (va_cpy (p_bes Q2) (s_ed S) 0 0 m), o_nx' (o_kn' (o_P' (o_Q' O Q2) PP) kn) nx), rfl, rfl, ?_⟩
    refine ac_mono (M1 (s_ed' S (va_cpy (p_bes Q2) (s_ed S) 0 0 m)) (o_nx' (o_kn' (o_P' (o_Q' O Q2) PP) kn) nx) hw.1 hw.2.2.1 hE hwn hf dM) ?_
    rintro r h' ⟨K, W, wc, B, bc, bs, hB, ⟨hc2, -, -⟩ | ⟨-, rfl, rfl⟩⟩
    · exact absurd hc2 hc
    · refine ⟨rfl, (s_ed' S (va_cpy (p_bes Q2) (s_ed S) 0 0 m), o_M' (o_nx' (o_kn' (o_P' (o_Q' O Q2) PP) kn) nx) (z_now' (z_deeds' (z_past' (mW (o_M O) K W wc B bc bs) G) kn) (va_cpy B (z_now (o_M O)) 0 56 m))), rfl, ⟨?_, dI _ rfl rfl rfl rfl rfl, i3, i4, i5⟩⟩
      exact Rw.mke hS hw b3 hB hwn
end PC
