/-- what the planner keeps while it tries -/
def sameQ (Q Q' : Pln) : Prop := p_nl Q' = p_nl Q ∧ p_ns Q' = p_ns Q ∧ p_cov Q' = p_cov Q ∧ p_fol Q' = p_fol Q ∧ p_pri Q' = p_pri Q ∧ p_bes Q' = p_bes Q ∧ p_bz Q' = p_bz Q ∧ p_bc Q' = p_bc Q
theorem sameQ.ps {Q Q' : Pln} {m n : Nat} {cv : Nat → Nat → Bool} {mf : Nat → Nat → Nat → Bool} (h : sameQ Q Q') (hP : PS Q m n cv mf) : PS Q' m n cv mf := hP.cg h.1 h.2.1 h.2.2.1 h.2.2.2.1
theorem amF_no {c : Nat → Nat} {X : Nat} (p : Nat → Bool) (n : Nat) (h : ∀ t, t < n → p t = false) : amF p c X n = none := by
  rcases mn_spec p c X n with ⟨-, z, -⟩ | ⟨t, z1, z2, -⟩
  · exact z
  · rw [h t z1] at z2; cases z2
theorem dC_100 {n u k l s : Nat} {cv : Nat → Nat → Bool} {mf : Nat → Nat → Nat → Bool} (hk : k < 90) : dC n u cv mf k l s ≤ 100 := by
  rcases dC_b (n := n) (u := u) (cv := cv) (mf := mf) k l s hk with h | h <;> omega
theorem tr_ok {n m u l : Nat} {cv : Nat → Nat → Bool} {mf : Nat → Nat → Nat → Bool} : okO n (tr n m u cv mf l) := by
  cases l with
  | zero => exact amF_ok n
  | succ l =>
    intro s hs
    unfold tr at hs
    split at hs
    · cases hs
    · exact amF_ok n s hs
section TL
variable {g : Glob} {S : Scn} {O : Oth}
theorem ac_planTrial {m n u : Nat} {cv : Nat → Nat → Bool} {mf : Nat → Nat → Nat → Bool} (hP : PS (o_Q O) m n cv mf) (h8 : m ≤ 8) (h6 : n ≤ 6) (hu : u < 64) : AC g mX1_planTrial [.ref 55, .int (nI u)] (lay (S, O)) (fun r h' => r = some (.int (nI (if m = 0 then 0 else trK n m u cv mf))) ∧ ∃ Q, sameQ (o_Q O) Q ∧ (∀ l, l < m → p_tri Q l = sh (tr n m u cv mf l)) ∧ h' = lay (S, o_Q' O Q)) := by
  by_cases h0 : m = 0
  · subst h0
    exact acw gdX1_planTrial 40 rfl ⟨fun h => absurd hP.1 h, fun _ => ⟨rfl, o_Q O, ⟨rfl, rfl, rfl, rfl, rfl, rfl, rfl, rfl⟩, fun l hl => absurd hl (by omega), rfl⟩⟩
  rw [if_neg h0]
  -- the trial
  have LB : ∀ Q : Pln, sameQ (o_Q O) Q → (∀ l s, l < m → s < n → p_cut Q l s = nI (dC n u cv mf (m - 1 - l) l s)) → p_tri Q 0 = sh (tr n m u cv mf 0) → AW g mX1_planTrial (fun r h' => r = some (.int (nI (trK n m u cv mf))) ∧ ∃ Q, sameQ (o_Q O) Q ∧ (∀ l, l < m → p_tri Q l = sh (tr n m u cv mf l)) ∧ h' = lay (S, o_Q' O Q)) 0 0 97 [some (.ref 55), some (.int (nI u)), none, some (.int (nI (trK n m u cv mf))), some (.int (nI 1)), none] [] (lay (S, o_Q' O Q)) := by
    intro Q0 hQ0 hD0 hT0
    have key := dn (n := m - 1) (P := fun i => ∀ Q : Pln, sameQ (o_Q O) Q → (∀ l s, l < m → s < n → p_cut Q l s = nI (dC n u cv mf (m - 1 - l) l s)) → (∀ l, l < i + 1 → p_tri Q l = sh (tr n m u cv mf l)) → AW g mX1_planTrial (fun r h' => r = some (.int (nI (trK n m u cv mf))) ∧ ∃ Q, sameQ (o_Q O) Q ∧ (∀ l, l < m → p_tri Q l = sh (tr n m u cv mf l)) ∧ h' = lay (S, o_Q' O Q)) 0 0 97 [some (.ref 55), some (.int (nI u)), none, some (.int (nI (trK n m u cv mf))), some (.int (nI (i + 1))), none] [] (lay (S, o_Q' O Q))) ?_ (fun i hi ih => ?_) 0 (Nat.zero_le _)
    · exact key Q0 hQ0 hD0 (fun l hl => by rw [show l = 0 by omega]; exact hT0)
    · intro Q hQ hD hT
      have hPQ := hQ.ps hP
      refine lpw gdX1_planTrial 60 ⟨fun _ => ⟨rfl, Q, hQ, fun l hl => hT l (by omega), rfl⟩, fun h => absurd (show p_nl Q ≤ _ by rw [hPQ.1]; exact nle (by omega) (by omega)) h⟩
    · intro Q hQ hD hT
      have hPQ := hQ.ps hP
      have e1 : nI (i + 1) - 1 = nI i := nI_pred i
      have hb : okO 6 (tr n m u cv mf i) := fun s hs => by have := tr_ok s hs; omega
      have J : ∀ a : Nat, a < 64 → amF (fun t => a.testBit t) (fun t => cF (tr n m u cv mf i) t (dC n u cv mf (m - 1 - (i + 1)) (i + 1) t)) 100 n = tr n m u cv mf (i + 1) → AW g mX1_planTrial (fun r h' => r = some (.int (nI (trK n m u cv mf))) ∧ ∃ Q, sameQ (o_Q O) Q ∧ (∀ l, l < m → p_tri Q l = sh (tr n m u cv mf l)) ∧ h' = lay (S, o_Q' O Q)) 0 0 142 [some (.ref 55), some (.int (nI u)), none, some (.int (nI (trK n m u cv mf))), some (.int (nI (i + 1))), some (.int (sh (tr n m u cv mf i)))] [.int (nI a)] (lay (S, o_Q' O Q)) := by
        intro a ha he
        have C1 := ac_cheapestOf (g := g) (S := S) (O := o_Q' O Q) (l := i + 1) (a := a) (b := tr n m u cv mf i) (k := fun t => dC n u cv mf (m - 1 - (i + 1)) (i + 1) t) (by omega) h6 hPQ.2.1 ha hb (fun t ht => ⟨hD (i + 1) t (by omega) ht, dC_100 (by omega)⟩)
        rw [he] at C1
        refine lpw gdX1_planTrial 60 (ac_to C1 ?_)
        refine ⟨_, _, rfl, vlit (by omega) (by decide), ?_⟩
        rw [vcl (x := nI (i + 1)) rfl (by omega)]
        refine aw_hp Ltri (awf ?_ (ih (p_tri' Q (upd (p_tri Q) (i + 1) (sh (tr n m u cv mf (i + 1))))) hQ hD (fun l hl => ?_)))
        · rw [← nI_1 (i + 1)]
          exact ⟨rfl, rfl, rfl, rfl, trivial⟩
        · show upd (p_tri Q) (i + 1) _ l = _
          by_cases hl2 : l = i + 1
          · subst hl2; rw [pk_us]
          · rw [pk_un hl2]; exact hT l (by omega)
      refine lpw gdX1_planTrial 60 ⟨fun h => absurd (show p_nl Q ≤ _ from h) (by rw [hPQ.1]; exact nge (by omega) (by omega)), fun _ => ?_⟩
      refine ⟨_, _, rfl, vin e1 (by omega) (by decide), ?_⟩
      rw [vcl e1 (by omega), show p_tri (o_Q (S, o_Q' O Q).snd) i = _ from hT i (by omega)]
      cases htr : tr n m u cv mf i with
      | none =>
        rw [htr] at J
        refine ⟨fun h => absurd rfl h, fun _ => J 0 (by decide) ?_⟩
        have e : tr n m u cv mf (i + 1) = none := by unfold tr; rw [htr]
        rw [e]
        exact amF_no _ n (fun t _ => Nat.zero_testBit t)
      | some s =>
        have hs := tr_ok s htr
        rw [htr] at J
        refine ⟨fun _ => ?_, fun h => absurd h (nI_ne9 (by omega))⟩
        refine ⟨3, 8, _, 57 + 1 + i, Or.inr rfl, rfl, vin e1 (by omega) (by decide), rowF e1 (by omega), ?_⟩
        refine bEl_t (hat_lt (Hfol (S := S) (O := o_Q' O Q) (l := i) (by omega))) ⟨6, _, Hfol (by omega), vlit (by omega) (by decide), ?_⟩
        have J2 := J (msk (fun t => mf i s t && cv (i + 1) t) n &&& u) (and_lt64 hu) ?_
        · rw [← andI _ (msk64 h6) _ hu, ← hPQ.2.2.2 i s (by omega) hs] at J2
          have e3 : (sh (some s)).toNatClampNeg = s := vcl rfl (by omega)
          rw [e3]
          exact J2
        · have e : tr n m u cv mf (i + 1) = amF (fun t => (mf i s t && cv (i + 1) t) && u.testBit t) (fun t => cF (some s) t (dC n u cv mf (m - 1 - (i + 1)) (i + 1) t)) 100 n := by
            show (match tr n m u cv mf i with | none => none | some s => amF (fun t => (mf i s t && cv (i + 1) t) && u.testBit t) (fun t => cF (some s) t (dC n u cv mf (m - 1 - (i + 1)) (i + 1) t)) 100 n) = _
            rw [htr]
          rw [e]
          exact (mnF_cg n (fun t ht => ⟨by rw [Nat.testBit_and, tb_msk]; simp [ht], rfl⟩)).2
  -- its beginning
  have LS : ∀ Q : Pln, sameQ (o_Q O) Q → (∀ l s, l < m → s < n → p_cut Q l s = nI (dC n u cv mf (m - 1 - l) l s)) → AW g mX1_planTrial (fun r h' => r = some (.int (nI (trK n m u cv mf))) ∧ ∃ Q, sameQ (o_Q O) Q ∧ (∀ l, l < m → p_tri Q l = sh (tr n m u cv mf l)) ∧ h' = lay (S, o_Q' O Q)) 0 0 16 [some (.ref 55), some (.int (nI u)), some (.int (-1)), none, none, none] [] (lay (S, o_Q' O Q)) := by
    intro Q hQ hD
    have hPQ := hQ.ps hP
    have C1 := ac_cheapestOf (g := g) (S := S) (O := o_Q' O Q) (l := 0) (a := msk (cv 0) n &&& u) (b := none) (k := fun t => dC n u cv mf (m - 1) 0 t) (by omega) h6 hPQ.2.1 (and_lt64 hu) (fun s hs => by cases hs) (fun t ht => ⟨hD 0 t (by omega) ht, dC_100 (by omega)⟩)
    have e : amF (fun t => (msk (cv 0) n &&& u).testBit t) (fun t => cF none t (dC n u cv mf (m - 1) 0 t)) 100 n = tr n m u cv mf 0 := by
      unfold tr
      exact (mnF_cg n (fun t ht => ⟨by rw [Nat.testBit_and, tb_msk]; simp [ht], rfl⟩)).2
    rw [e, ← andI _ (msk64 h6) _ hu, ← hPQ.2.2.1 0 (by omega)] at C1
    have hLB := LB (p_tri' Q (upd (p_tri Q) 0 (sh (tr n m u cv mf 0)))) hQ hD (by show upd (p_tri Q) 0 _ 0 = _; exact pk_us)
    refine lpw gdX1_planTrial 60 ⟨fun _ => ?_, fun h => absurd (by decide) h⟩
    refine ⟨_, _, rfl, vlit (j := 0) (by decide) (by decide), ?_⟩
    refine ac_to C1 ?_
    refine ⟨_, _, rfl, vlit (j := 0) (by decide) (by decide), ?_⟩
    refine ⟨_, _, rfl, vlit (j := 0) (by decide) (by decide), ?_⟩
    rw [show (0 : Int32).toNatClampNeg = 0 from rfl, pk_us]
    have C2 : ACe g mX1_cutsFrom [.ref 55, .int (nI 0), .int (sh (tr n m u cv mf 0)), .int (-9)] (lay (S, o_Q' O (p_tri' Q (upd (p_tri Q) 0 (sh (tr n m u cv mf 0)))))) (some (.int (nI (trK n m u cv mf)))) (lay (S, o_Q' O (p_tri' Q (upd (p_tri Q) 0 (sh (tr n m u cv mf 0)))))) := by
      generalize upd (p_tri Q) 0 (sh (tr n m u cv mf 0)) = T
      unfold trK
      cases h : tr n m u cv mf 0 with
      | none => exact ac_cutsFrom0
      | some s =>
        have hs := tr_ok s h
        exact ac_cutsFrom (b := none) (by omega) (by omega) (fun s hs => by cases hs) (hD 0 s (by omega) hs) (dC_100 (by omega))
    generalize upd (p_tri Q) 0 (sh (tr n m u cv mf 0)) = T at C2 hLB ⊢
    refine ac_hp Ltri (ac_to C2 ?_)
    refine awf ?_ hLB
    exact ⟨rfl, rfl, rfl, rfl, trivial⟩
  -- the fewest cuts behind
  have key := dn (n := m) (P := fun j => ∀ Q : Pln, sameQ (o_Q O) Q → (∀ l s, m - j ≤ l → l < m → s < n → p_cut Q l s = nI (dC n u cv mf (m - 1 - l) l s)) → AW g mX1_planTrial (fun r h' => r = some (.int (nI (trK n m u cv mf))) ∧ ∃ Q, sameQ (o_Q O) Q ∧ (∀ l, l < m → p_tri Q l = sh (tr n m u cv mf l)) ∧ h' = lay (S, o_Q' O Q)) 0 0 16 [some (.ref 55), some (.int (nI u)), some (.int (nI (m - j) - 1)), none, none, none] [] (lay (S, o_Q' O Q))) ?_ (fun j hj ih => ?_) 0 (Nat.zero_le _)
  · refine acw gdX1_planTrial 60 rfl ⟨fun _ => ?_, fun h => ?_⟩
    · refine awl ?_ (key (o_Q O) ⟨rfl, rfl, rfl, rfl, rfl, rfl, rfl, rfl⟩ (fun l s h1 h2 => absurd h1 (by omega)))
      rw [Nat.sub_zero, ← hP.1]
      rfl
    · exact absurd ((neqI (a := m) (b := 0) (by omega) (by omega)).mp (hP.1.symm.trans h)) h0
  · intro Q hQ hD
    rw [Nat.sub_self]
    exact LS Q hQ (fun l s hl hs => hD l s (by omega) hl hs)
  · intro Q hQ hD
    obtain ⟨l, hl⟩ : ∃ l, m - j = l + 1 := ⟨m - j - 1, by omega⟩
    rw [hl, nI_pred]
    rw [show m - (j + 1) = l by omega] at ih
    refine lpw gdX1_planTrial 60 ⟨fun h => absurd h (nlt0 l (by omega)), fun _ => ?_⟩
    have key2 := dn (n := n) (P := fun s => ∀ Q : Pln, sameQ (o_Q O) Q → (∀ k v, l ≤ k → k < m → v < n → (k = l → v < s) → p_cut Q k v = nI (dC n u cv mf (m - 1 - k) k v)) → AW g mX1_planTrial (fun r h' => r = some (.int (nI (trK n m u cv mf))) ∧ ∃ Q, sameQ (o_Q O) Q ∧ (∀ l, l < m → p_tri Q l = sh (tr n m u cv mf l)) ∧ h' = lay (S, o_Q' O Q)) 0 0 22 [some (.ref 55), some (.int (nI u)), some (.int (nI l)), some (.int (nI s)), none, none] [] (lay (S, o_Q' O Q))) ?_ (fun s hs ihs => ?_) 0 (Nat.zero_le _)
    · exact key2 Q hQ (fun k v h1 h2 h3 h4 => hD k v (Nat.le_of_not_lt (fun z => absurd (h4 (by omega)) (by omega))) h2 h3)
    · intro Q hQ hD
      have hPQ := hQ.ps hP
      refine lpw gdX1_planTrial 60 ⟨fun _ => ?_, fun h => absurd (show p_ns Q ≤ _ by rw [hPQ.2.1]; exact nle (by omega) (by omega)) h⟩
      refine awf ?_ (ih Q hQ (fun k v h1 h2 h3 => hD k v h1 h2 h3 (fun _ => h3)))
      exact ⟨rfl, rfl, congrArg Value.int (Int32.sub_eq_add_neg _ _), trivial⟩
    · intro Q hQ hD
      have hPQ := hQ.ps hP
      have CF : ACe g mX1_fewestBehind [.ref 55, .int (nI l), .int (nI s), .int (nI u)] (lay (S, o_Q' O Q)) (some (.int (nI (dC n u cv mf (m - 1 - l) l s)))) (lay (S, o_Q' O Q)) := by
        by_cases hlm : l = m - 1
        · have e : m - 1 - l = 0 := by omega
          rw [e]
          refine ac_fewest0 (m := l) ?_
          rw [show l + 1 = m by omega]
          exact hPQ.1
        · obtain ⟨k, hk⟩ : ∃ k, m - 1 - l = k + 1 := ⟨m - 1 - l - 1, by omega⟩
          rw [hk]
          exact ac_fewest (k := fun t => dC n u cv mf k (l + 1) t) hPQ h8 h6 (by omega) hs hu (fun t ht => ⟨by have := hD (l + 1) t (by omega) (by omega) ht (fun z => by omega); rw [show m - 1 - (l + 1) = k by omega] at this; exact this, dC_100 (by omega)⟩)
      refine lpw gdX1_planTrial 60 ⟨fun h => absurd (show p_ns Q ≤ _ from h) (by rw [hPQ.2.1]; exact nge (by omega) (by omega)), fun _ => ?_⟩
      refine ⟨3, 8, _, 66 + 1 + l, Or.inr rfl, rfl, vlit (by omega) (by decide), rowC rfl (by omega), ?_⟩
      refine ac_to CF ?_
      refine ⟨6, _, Hcut (by omega), vlit (by omega) (by decide), ?_⟩
      rw [vcl (x := nI s) rfl (by omega)]
      refine aw_hp (Lcut (by omega)) (awl (by rw [← nI_1]; rfl) (ihs (p_cut' Q (putP (p_cut Q) l (upd (p_cut Q l) s (nI (dC n u cv mf (m - 1 - l) l s))))) hQ (fun k v h1 h2 h3 h4 => ?_)))
      show putP (p_cut Q) l (upd (p_cut Q l) s _) k v = _
      by_cases hkl : k = l
      · subst hkl
        rw [putP_s]
        by_cases hvs : v = s
        · subst hvs; rw [pk_us]
        · rw [pk_un hvs]; exact hD k v h1 h2 h3 (fun z => by have := h4 z; omega)
      · rw [putP_n hkl]; exact hD k v h1 h2 h3 (fun z => absurd z hkl)
end TL
