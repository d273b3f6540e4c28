section SU
variable {g : Glob} {S : Scn} {O : Oth}
set_option maxRecDepth 10000 in
theorem Lpar {f : Fn} : (lay (S, O)).set 75 (ia 6 f) = lay (S, o_Q' O (p_par' (o_Q O) f)) := by rfl
set_option maxRecDepth 10000 in
theorem Lpri {f : Fn} : (lay (S, O)).set 76 (ia 6 f) = lay (S, o_Q' O (p_pri' (o_Q O) f)) := by rfl
set_option maxRecDepth 10000 in
theorem Lcov {f : Fn} : (lay (S, O)).set 56 (ia 8 f) = lay (S, o_Q' O (p_cov' (o_Q O) f)) := by rfl
set_option maxRecDepth 10000 in
theorem Ltri {f : Fn} : (lay (S, O)).set 77 (ia 8 f) = lay (S, o_Q' O (p_tri' (o_Q O) f)) := by rfl
theorem putP_s {α : Type} {P : Nat → α} {i : Nat} {v : α} : putP P i v i = v := if_pos rfl
theorem putP_n {α : Type} {P : Nat → α} {i j : Nat} {v : α} (h : j ≠ i) : putP P i v j = P j := if_neg h
theorem aw_hp {M : Mth} {Post : Option Value → AH → Prop} {cl sl pc : Nat} {ls : List (Option Value)} {st : List Value} {h h' : AH} (e : h = h') (k : AW g M Post cl sl pc ls st h') : AW g M Post cl sl pc ls st h := e ▸ k
abbrev cvL (fc : Fn) (l t : Nat) : Bool := cvA fc t l
theorem ac_study {m n : Nat} (hm : s_nl S = nI m) (h8 : m ≤ 8) (hn : s_ns S = nI n) (h6 : n ≤ 6) (hp : Okp (s_pl S)) (hf : Okf (s_fc S) n) : AC g mX1_study [.ref 55, .ref 1] (lay (S, O)) (fun r h' => r = none ∧ ∃ Q, PS Q m n (cvL (s_fc S)) (mfA (s_pl S) (s_fc S) (s_sp S)) ∧ (∀ s, s < n → p_pri Q s = s_fc S (7 * s + 6)) ∧ h' = lay (S, o_Q' O Q)) := by
  -- followers
  have L3 : ∀ Q : Pln, (p_nl Q = nI m ∧ p_ns Q = nI n ∧ (∀ s, s < n → p_par Q s = nI (msk (fun t => cnA (s_pl S) (s_fc S) s t) n) ∧ p_pri Q s = s_fc S (7 * s + 6)) ∧ (∀ l, l < m → p_cov Q l = nI (msk (cvL (s_fc S) l) n))) → AW g mX1_study (fun r h' => r = none ∧ ∃ Q, PS Q m n (cvL (s_fc S)) (mfA (s_pl S) (s_fc S) (s_sp S)) ∧ (∀ s, s < n → p_pri Q s = s_fc S (7 * s + 6)) ∧ h' = lay (S, o_Q' O Q)) 0 0 85 [some (.ref 55), some (.ref 1), some (.int (nI 0)), none] [] (lay (S, o_Q' O Q)) := by
    intro Q0 hQ0
    have key := dn (n := m - 1) (P := fun l => ∀ Q : Pln, (p_nl Q = nI m ∧ p_ns Q = nI n ∧ (∀ s, s < n → p_par Q s = nI (msk (fun t => cnA (s_pl S) (s_fc S) s t) n) ∧ p_pri Q s = s_fc S (7 * s + 6)) ∧ (∀ l, l < m → p_cov Q l = nI (msk (cvL (s_fc S) l) n))) → (∀ k s, k < l → s < n → p_fol Q k s = nI (msk (fun t => mfA (s_pl S) (s_fc S) (s_sp S) k s t && cvL (s_fc S) (k + 1) t) n)) → AW g mX1_study (fun r h' => r = none ∧ ∃ Q, PS Q m n (cvL (s_fc S)) (mfA (s_pl S) (s_fc S) (s_sp S)) ∧ (∀ s, s < n → p_pri Q s = s_fc S (7 * s + 6)) ∧ h' = lay (S, o_Q' O Q)) 0 0 85 [some (.ref 55), some (.ref 1), some (.int (nI l)), none] [] (lay (S, o_Q' O Q))) ?_ (fun l hl ih => ?_) 0 (Nat.zero_le _)
    · exact key Q0 hQ0 (fun k s hk => absurd hk (by omega))
    · intro Q hQ hF
      refine lpw gdX1_study 60 ⟨fun _ => ?_, fun h => ?_⟩
      · exact ⟨rfl, Q, ⟨hQ.1, hQ.2.1, hQ.2.2.2, fun l s hl hs => hF l s (by omega) hs⟩, fun s hs => (hQ.2.2.1 s hs).2, rfl⟩
      · refine absurd (show p_nl Q ≤ nI (m - 1) + 1 from ?_) h
        rw [hQ.1, nI_1]
        exact nle (by omega) (by omega)
    · intro Q hQ hF
      refine lpw gdX1_study 60 ⟨fun h => ?_, fun _ => ?_⟩
      · have h' : p_nl Q ≤ nI l + 1 := h
        rw [hQ.1, nI_1] at h'
        exact absurd h' (nge (by omega) (by omega))
      have key2 := dn (n := n) (P := fun s => ∀ Q : Pln, (p_nl Q = nI m ∧ p_ns Q = nI n ∧ (∀ s, s < n → p_par Q s = nI (msk (fun t => cnA (s_pl S) (s_fc S) s t) n) ∧ p_pri Q s = s_fc S (7 * s + 6)) ∧ (∀ l, l < m → p_cov Q l = nI (msk (cvL (s_fc S) l) n))) → (∀ k v, (k < l ∨ (k = l ∧ v < s)) → v < n → p_fol Q k v = nI (msk (fun t => mfA (s_pl S) (s_fc S) (s_sp S) k v t && cvL (s_fc S) (k + 1) t) n)) → AW g mX1_study (fun r h' => r = none ∧ ∃ Q, PS Q m n (cvL (s_fc S)) (mfA (s_pl S) (s_fc S) (s_sp S)) ∧ (∀ s, s < n → p_pri Q s = s_fc S (7 * s + 6)) ∧ h' = lay (S, o_Q' O Q)) 0 0 97 [some (.ref 55), some (.ref 1), some (.int (nI l)), some (.int (nI s))] [] (lay (S, o_Q' O Q))) ?_ (fun s hs ihs => ?_) 0 (Nat.zero_le _)
      · exact key2 Q hQ (fun k v hk hv => hF k v (by omega) hv)
      · intro Q hQ hF
        refine lpw gdX1_study 60 ⟨fun _ => ?_, fun h => absurd (show p_ns Q ≤ _ by rw [hQ.2.1]; exact nle (by omega) (by omega)) h⟩
        refine awf ?_ (ih Q hQ (fun k s hk hs => hF k s (by omega) hs))
        rw [← nI_1]
        exact ⟨rfl, rfl, rfl, trivial⟩
      · intro Q hQ hF
        refine lpw gdX1_study 60 ⟨fun h => absurd (show p_ns Q ≤ _ from h) (by rw [hQ.2.1]; exact nge (by omega) (by omega)), fun _ => ?_⟩
        refine ⟨3, 8, _, 57 + 1 + l, Or.inr rfl, rfl, vlit (by omega) (by decide), rowF rfl (by omega), ?_⟩
        refine ac_to (ac_followersOf (g := g) (S := S) (O := o_Q' O Q) (n := n) (l := l) (s := s) (by omega) h6 hs hQ.2.1 (hQ.2.2.1 s hs).1 (hQ.2.2.2 (l + 1) (by omega))) ?_
        refine ⟨6, _, Hfol (by omega), vlit (by omega) (by decide), ?_⟩
        rw [vcl (x := nI s) rfl (by omega)]
        refine aw_hp (Lfol (by omega)) (awl (by rw [← nI_1]; rfl) (ihs (p_fol' Q (putP (p_fol Q) l (upd (p_fol Q l) s (nI (msk (fun t => mfA (s_pl S) (s_fc S) (s_sp S) l s t && cvA (s_fc S) t (l + 1)) n))))) hQ (fun k v hk hv => ?_)))
        show putP (p_fol Q) l (upd (p_fol Q l) s _) k v = _
        by_cases hkl : k = l
        · subst hkl
          rw [putP_s]
          by_cases hvs : v = s
          · subst hvs; rw [pk_us]
          · rw [pk_un hvs]; exact hF k v (by omega) hv
        · rw [putP_n hkl]; exact hF k v (by omega) hv
  -- coverers
  have L2 : ∀ Q : Pln, (p_nl Q = nI m ∧ p_ns Q = nI n ∧ (∀ s, s < n → p_par Q s = nI (msk (fun t => cnA (s_pl S) (s_fc S) s t) n) ∧ p_pri Q s = s_fc S (7 * s + 6))) → AW g mX1_study (fun r h' => r = none ∧ ∃ Q, PS Q m n (cvL (s_fc S)) (mfA (s_pl S) (s_fc S) (s_sp S)) ∧ (∀ s, s < n → p_pri Q s = s_fc S (7 * s + 6)) ∧ h' = lay (S, o_Q' O Q)) 0 0 58 [some (.ref 55), some (.ref 1), some (.int (nI 0)), none] [] (lay (S, o_Q' O Q)) := by
    intro Q0 hQ0
    have key := dn (n := m) (P := fun l => ∀ Q : Pln, (p_nl Q = nI m ∧ p_ns Q = nI n ∧ (∀ s, s < n → p_par Q s = nI (msk (fun t => cnA (s_pl S) (s_fc S) s t) n) ∧ p_pri Q s = s_fc S (7 * s + 6))) → (∀ k, k < l → p_cov Q k = nI (msk (cvL (s_fc S) k) n)) → AW g mX1_study (fun r h' => r = none ∧ ∃ Q, PS Q m n (cvL (s_fc S)) (mfA (s_pl S) (s_fc S) (s_sp S)) ∧ (∀ s, s < n → p_pri Q s = s_fc S (7 * s + 6)) ∧ h' = lay (S, o_Q' O Q)) 0 0 58 [some (.ref 55), some (.ref 1), some (.int (nI l)), none] [] (lay (S, o_Q' O Q))) ?_ (fun l hl ih => ?_) 0 (Nat.zero_le _)
    · exact key Q0 hQ0 (fun k hk => absurd hk (by omega))
    · intro Q hQ hF
      exact lpw gdX1_study 60 ⟨fun _ => L3 Q ⟨hQ.1, hQ.2.1, hQ.2.2, hF⟩, fun h => absurd (show p_nl Q ≤ _ by rw [hQ.1]; exact nle (by omega) (by omega)) h⟩
    · intro Q hQ hF
      refine lpw gdX1_study 60 ⟨fun h => absurd (show p_nl Q ≤ _ from h) (by rw [hQ.1]; exact nge (by omega) (by omega)), fun _ => ?_⟩
      refine ac_to (ac_coverers (g := g) (S := S) (O := o_Q' O Q) (l := l) hn h6) ?_
      refine ⟨_, _, rfl, vlit (by omega) (by decide), ?_⟩
      rw [vcl (x := nI l) rfl (by omega)]
      refine aw_hp Lcov (awl (by rw [← nI_1]; rfl) (ih (p_cov' Q (upd (p_cov Q) l (nI (msk (fun s => cvA (s_fc S) s l) n)))) hQ (fun k hk => ?_)))
      show upd (p_cov Q) l _ k = _
      by_cases hkl : k = l
      · subst hkl; rw [pk_us]
      · rw [pk_un hkl]; exact hF k (by omega)
  -- partners and prices
  have key := dn (n := n) (P := fun i => ∀ Q : Pln, (p_nl Q = nI m ∧ p_ns Q = nI n) → (∀ s, s < i → p_par Q s = nI (msk (fun t => cnA (s_pl S) (s_fc S) s t) n) ∧ p_pri Q s = s_fc S (7 * s + 6)) → AW g mX1_study (fun r h' => r = none ∧ ∃ Q, PS Q m n (cvL (s_fc S)) (mfA (s_pl S) (s_fc S) (s_sp S)) ∧ (∀ s, s < n → p_pri Q s = s_fc S (7 * s + 6)) ∧ h' = lay (S, o_Q' O Q)) 0 0 18 [some (.ref 55), some (.ref 1), some (.int (nI i)), none] [] (lay (S, o_Q' O Q))) ?_ (fun i hi ih => ?_) 0 (Nat.zero_le _)
  · refine acw gdX1_study 60 rfl ?_
    exact key (p_ns' (p_nl' (o_Q O) (s_nl S)) (s_ns S)) ⟨hm, hn⟩ (fun s hs => absurd hs (by omega))
  · intro Q hQ hF
    exact lpw gdX1_study 60 ⟨fun _ => L2 Q ⟨hQ.1, hQ.2, hF⟩, fun h => absurd (show p_ns Q ≤ _ by rw [hQ.2]; exact nle (by omega) (by omega)) h⟩
  · intro Q hQ hF
    refine lpw gdX1_study 60 ⟨fun h => absurd (show p_ns Q ≤ _ from h) (by rw [hQ.2]; exact nge (by omega) (by omega)), fun _ => ?_⟩
    refine ac_to (ac_partners (g := g) (S := S) (O := o_Q' O Q) (s := i) hi h6 hn hp hf) ?_
    refine ⟨_, _, rfl, vlit (by omega) (by decide), ?_⟩
    rw [vcl (x := nI i) rfl (by omega)]
    refine ac_hp Lpar (ac_to (ac_fact (g := g) (S := S) (s := i) (w := 6) (by omega) (by decide)) ?_)
    refine ⟨_, _, rfl, vlit (by omega) (by decide), ?_⟩
    rw [vcl (x := nI i) rfl (by omega)]
    refine aw_hp Lpri (awl (by rw [← nI_1]; rfl) (ih (p_pri' (p_par' Q (upd (p_par Q) i (nI (msk (fun t => cnA (s_pl S) (s_fc S) i t) n)))) (upd (p_pri Q) i (s_fc S (7 * i + 6)))) hQ (fun k hk => ?_)))
    show upd (p_par Q) i _ k = _ ∧ upd (p_pri Q) i _ k = _
    by_cases hki : k = i
    · subst hki; rw [pk_us, pk_us]; exact ⟨rfl, rfl⟩
    · rw [pk_un hki, pk_un hki]; exact hF k (by omega)
end SU
