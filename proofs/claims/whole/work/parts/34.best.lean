section BS
variable (n m : Nat) (cv : Nat → Nat → Bool) (mf : Nat → Nat → Nat → Bool)
def tk (u : Nat) : Nat := if m = 0 then 0 else trK n m u cv mf
def tw (u l : Nat) : Nat := (tr n m u cv mf l).getD 0
def ltU (u v : Nat) : Bool := decide (tk n m cv mf u < tk n m cv mf v) || (decide (tk n m cv mf u = tk n m cv mf v) && lowF (tw n m cv mf u) (tw n m cv mf v) m)
/-- the best of the sets of a size, up to a set -/
def fsF (z : Nat) : Nat → Option Nat
  | 0 => none
  | u + 1 => if decide (pop6 u = z) && hasU n m u cv mf then (match fsF z u with
    | none => some u
    | some v => if ltU n m cv mf u v then some u else some v) else fsF z u
def fbF : Nat → Nat → Option (Nat × Nat)
  | 0, _ => none
  | k + 1, z => match fsF n m cv mf z (2 ^ n) with
    | some v => some (z, v)
    | none => fbF k (z + 1)
/-- the cheapest set, up to a set -/
def lessF (x y : UInt32) : Bool := decide (Op.cmpValue (FP.fcmp x y) .g < 0)
def chF (pr : Nat → Int32) : Nat → Option Nat
  | 0 => none
  | u + 1 => match chF pr u with
    | none => if hasU n m u cv mf then some u else none
    | some v => if lessF (dF pr u n) (dF pr v n) && hasU n m u cv mf then some u else some v
end BS
section BT
variable {n m : Nat} {cv : Nat → Nat → Bool} {mf : Nat → Nat → Nat → Bool}
theorem tb_lt {u t n : Nat} (h : u < 2 ^ n) (ht : u.testBit t = true) : t < n := by
  apply Nat.lt_of_not_le
  intro z
  have : u.testBit t = false := Nat.testBit_lt_two_pow (Nat.lt_of_lt_of_le h (Nat.pow_le_pow_right (by decide) z))
  rw [this] at ht
  cases ht
theorem p64 {n : Nat} (h : n ≤ 6) : 2 ^ n ≤ 64 := (Nat.pow_le_pow_right (by decide) h : 2 ^ n ≤ 2 ^ 6)
theorem has_tw {u : Nat} (hu : u < 2 ^ n) (h6 : n ≤ 6) (h8 : m ≤ 8) (hh : hasU n m u cv mf = true) : (∀ l, l < m → tr n m u cv mf l = some (tw n m cv mf u l) ∧ tw n m cv mf u l < n ∧ (u.testBit (tw n m cv mf u l) && cv l (tw n m cv mf u l)) = true) ∧ wayOk (n := n) (m := m) (u := u) (cv := cv) (mf := mf) (tw n m cv mf u) ∧ tk n m cv mf u = wC m u cv mf := by
  obtain ⟨w, h1, h2, h3⟩ := tr_way (fun t ht => tb_lt hu ht) h6 (by omega) hh
  have hw : ∀ l, l < m → w l = tw n m cv mf u l := fun l hl => by
    unfold tw
    rw [(h1 l hl).1]
    rfl
  refine ⟨fun l hl => ?_, ?_, ?_⟩
  · rw [← hw l hl]; exact h1 l hl
  · refine ⟨fun h => ?_, fun l hl => ?_⟩
    · rw [← hw 0 h]; exact h2.1 h
    · rw [← hw l (by omega), ← hw (l + 1) hl]; exact h2.2 l hl
  · unfold tk
    by_cases h0 : m = 0
    · rw [if_pos h0]; unfold wC; rw [if_pos h0]
    · rw [if_neg h0]; exact h3 (by omega)
theorem tk_le {u : Nat} (h6 : n ≤ 6) (h8 : m ≤ 8) : tk n m cv mf u ≤ 100 := by
  unfold tk
  split
  · omega
  · unfold trK
    split
    · omega
    · exact cF_le
theorem fs_in {z : Nat} : ∀ u v, fsF n m cv mf z u = some v → v < u ∧ hasU n m v cv mf = true := by
  intro u
  induction u with
  | zero => intro v h; cases h
  | succ u ih =>
    intro v h
    unfold fsF at h
    split at h
    · rename_i hc
      rw [Bool.and_eq_true] at hc
      split at h
      · cases h; exact ⟨by omega, hc.2⟩
      · rename_i w hw
        split at h
        · cases h; exact ⟨by omega, hc.2⟩
        · cases h
          have := ih v hw
          exact ⟨by omega, this.2⟩
    · have := ih v h
      exact ⟨by omega, this.2⟩
theorem fs_no {z u : Nat} (h : (decide (pop6 u = z) && hasU n m u cv mf) = false) : fsF n m cv mf z (u + 1) = fsF n m cv mf z u := if_neg (by rw [h]; decide)
theorem fs_ye {z u : Nat} (h1 : pop6 u = z) (h2 : hasU n m u cv mf = true) (h3 : ∀ v, fsF n m cv mf z u = some v → ltU n m cv mf u v = true) : fsF n m cv mf z (u + 1) = some u := by
  unfold fsF
  rw [if_pos (by simp [h1, h2])]
  split
  · rfl
  · rename_i v hv
    rw [if_pos (h3 v hv)]
theorem fs_st {z u v : Nat} (h1 : fsF n m cv mf z u = some v) (h3 : ltU n m cv mf u v = false) : fsF n m cv mf z (u + 1) = some v := by
  unfold fsF
  split
  · rw [h1]
    exact if_neg (by rw [h3]; decide)
  · exact h1
theorem fb_in : ∀ k z a v, fbF n m cv mf k z = some (a, v) → a < z + k ∧ v < 2 ^ n ∧ hasU n m v cv mf = true := by
  intro k
  induction k with
  | zero => intro z a v h; cases h
  | succ k ih =>
    intro z a v h
    unfold fbF at h
    split at h
    · rename_i w hw
      cases h
      have := fs_in _ _ hw
      exact ⟨by omega, this⟩
    · have := ih _ _ _ h
      exact ⟨by omega, this.2⟩
theorem ch_in {pr : Nat → Int32} : ∀ u v, chF n m cv mf pr u = some v → v < u := by
  intro u
  induction u with
  | zero => intro v h; cases h
  | succ u ih =>
    intro v h
    unfold chF at h
    split at h
    · split at h
      · cases h; omega
      · cases h
    · rename_i w hw
      have := ih w hw
      split at h
      · cases h; omega
      · cases h; omega
end BT
/-- a best edit lies in the planner -/
def BestQ (Q : Pln) (n m : Nat) (cv : Nat → Nat → Bool) (mf : Nat → Nat → Nat → Bool) (z v : Nat) : Prop := p_bz Q = nI z ∧ p_bc Q = nI (tk n m cv mf v) ∧ ∀ l, l < m → p_bes Q l = nI (tw n m cv mf v l)
section BU
variable {g : Glob} {S : Scn} {O : Oth}
theorem ac_takeTrial {m : Nat} {z c : Int32} (hm : p_nl (o_Q O) = nI m) (h8 : m ≤ 8) : ACe g mX1_takeTrial [.ref 55, .int z, .int c] (lay (S, O)) none (lay (S, o_Q' O (p_bes' (p_bc' (p_bz' (o_Q O) z) c) (va_cpy (p_tri (o_Q O)) (p_bes (o_Q O)) 0 0 m)))) := by
  refine acw gdX1_takeTrial 40 rfl ?_
  refine ⟨8, _, 8, _, rfl, rfl, ?_, ?_⟩
  · have e : (p_nl (o_Q O)).toNatClampNeg = m := vcl hm (by omega)
    refine ⟨by decide, by decide, ?_, ?_, ?_⟩
    · show ¬ p_nl (o_Q O) < 0
      rw [hm]; exact nlt0 m (by omega)
    · show (0 : Int32).toNatClampNeg + (p_nl (o_Q O)).toNatClampNeg ≤ 8
      rw [e]
      show 0 + m ≤ 8
      omega
    · show (0 : Int32).toNatClampNeg + (p_nl (o_Q O)).toNatClampNeg ≤ 8
      rw [e]
      show 0 + m ≤ 8
      omega
  · have e : (p_nl (o_Q (S, O).snd)).toNatClampNeg = m := vcl hm (by omega)
    rw [e]
    generalize hG : va_cpy (p_tri (o_Q O)) (p_bes (o_Q O)) 0 0 m = G
    refine ⟨rfl, ?_⟩
    show List.set (_ : AH) 78 (ia 8 (va_cpy (p_tri (o_Q O)) (p_bes (o_Q O)) 0 0 m)) = _
    rw [hG]
    rfl
theorem ac_findBest {m n : Nat} {cv : Nat → Nat → Bool} {mf : Nat → Nat → Nat → Bool} (hP : PS (o_Q O) m n cv mf) (h8 : m ≤ 8) (h6 : n ≤ 6) : AC g mX1_findBest [.ref 55] (lay (S, O)) (fun r h' => ∃ Q, PS Q m n cv mf ∧ h' = lay (S, o_Q' O Q) ∧ ((fbF n m cv mf (n + 1) 0 = none ∧ r = some (.int 0)) ∨ ∃ z v, fbF n m cv mf (n + 1) 0 = some (z, v) ∧ r = some (.int 1) ∧ BestQ Q n m cv mf z v)) := by
  have e64 := p64 h6
  have key := dn (n := n + 1) (P := fun z => fbF n m cv mf (n + 1) 0 = fbF n m cv mf (n + 1 - z) z → ∀ Q : Pln, PS Q m n cv mf → AW g mX1_findBest (fun r h' => ∃ Q, PS Q m n cv mf ∧ h' = lay (S, o_Q' O Q) ∧ ((fbF n m cv mf (n + 1) 0 = none ∧ r = some (.int 0)) ∨ ∃ z v, fbF n m cv mf (n + 1) 0 = some (z, v) ∧ r = some (.int 1) ∧ BestQ Q n m cv mf z v)) 0 0 2 [some (.ref 55), some (.int (nI z)), none, none, none] [] (lay (S, o_Q' O Q))) ?_ (fun z hz ih => ?_) 0 (Nat.zero_le _)
  · exact acw gdX1_findBest 40 rfl (key rfl (o_Q O) hP)
  · intro hfb Q hQ
    rw [Nat.sub_self] at hfb
    refine lpw gdX1_findBest 60 ⟨fun _ => ⟨rfl, Q, hQ, rfl, Or.inl ⟨hfb, rfl⟩⟩, fun h => absurd (show p_ns Q < _ by rw [hQ.2.1]; exact (nltI (by omega) (by omega)).mpr (by omega)) h⟩
  · intro hfb Q hQ
    refine lpw gdX1_findBest 60 ⟨fun h => ?_, fun _ => ?_⟩
    · have h' : p_ns Q < nI z := h
      rw [hQ.2.1] at h'
      have := (nltI (by omega) (by omega)).mp h'
      omega
    have key2 := dn (n := 2 ^ n) (P := fun u => ∀ Q : Pln, PS Q m n cv mf → (∀ v, fsF n m cv mf z u = some v → BestQ Q n m cv mf z v) → AW g mX1_findBest (fun r h' => ∃ Q, PS Q m n cv mf ∧ h' = lay (S, o_Q' O Q) ∧ ((fbF n m cv mf (n + 1) 0 = none ∧ r = some (.int 0)) ∨ ∃ z v, fbF n m cv mf (n + 1) 0 = some (z, v) ∧ r = some (.int 1) ∧ BestQ Q n m cv mf z v)) 0 0 14 [some (.ref 55), some (.int (nI z)), some (.int (bi (fsF n m cv mf z u).isSome)), some (.int (nI u)), none] [] (lay (S, o_Q' O Q))) ?_ (fun u hu ihu => ?_) 0 (Nat.zero_le _)
    · exact key2 Q hQ (fun v hv => by cases hv)
    · intro Q hQ hB
      refine lpw gdX1_findBest 60 ⟨fun _ => ?_, fun h => ?_⟩
      · have ek : n + 1 - z = (n - z) + 1 := by omega
        rw [ek] at hfb
        unfold fbF at hfb
        cases hf : fsF n m cv mf z (2 ^ n) with
        | none =>
          rw [hf] at hfb
          refine ⟨fun _ => ?_, fun h => absurd rfl h⟩
          refine awf ?_ (ih (by rw [show n + 1 - (z + 1) = n - z by omega]; exact hfb) Q hQ)
          rw [← nI_1]
          exact ⟨rfl, rfl, trivial⟩
        | some v =>
          rw [hf] at hfb
          refine ⟨fun h => absurd h n01, fun _ => ?_⟩
          exact ⟨rfl, Q, hQ, rfl, Or.inr ⟨z, v, hfb, rfl, hB v hf⟩⟩
      · refine absurd (show (1 : Int32) <<< (p_ns Q &&& 31) ≤ nI (2 ^ n) from ?_) h
        rw [hQ.2.1, shlI n (by omega)]
        exact nle (Nat.le_refl _) (by omega)
    · intro Q hQ hB
      have J85 : ∀ (Q : Pln) (f : Int32) (c : Option Value), PS Q m n cv mf → f = bi (fsF n m cv mf z (u + 1)).isSome → (∀ v, fsF n m cv mf z (u + 1) = some v → BestQ Q n m cv mf z v) → AW g mX1_findBest (fun r h' => ∃ Q, PS Q m n cv mf ∧ h' = lay (S, o_Q' O Q) ∧ ((fbF n m cv mf (n + 1) 0 = none ∧ r = some (.int 0)) ∨ ∃ z v, fbF n m cv mf (n + 1) 0 = some (z, v) ∧ r = some (.int 1) ∧ BestQ Q n m cv mf z v)) 0 0 85 [some (.ref 55), some (.int (nI z)), some (.int f), some (.int (nI u)), none] [] (lay (S, o_Q' O Q)) := by
        intro Q f c hQ hf hB
        subst hf
        exact lpw gdX1_findBest 60 (awl (by rw [← nI_1]; rfl) (ihu Q hQ hB))
      have J83 : ∀ (Q : Pln) (f c : Int32), PS Q m n cv mf → (∃ v, fsF n m cv mf z (u + 1) = some v) → (∀ v, fsF n m cv mf z (u + 1) = some v → BestQ Q n m cv mf z v) → AW g mX1_findBest (fun r h' => ∃ Q, PS Q m n cv mf ∧ h' = lay (S, o_Q' O Q) ∧ ((fbF n m cv mf (n + 1) 0 = none ∧ r = some (.int 0)) ∨ ∃ z v, fbF n m cv mf (n + 1) 0 = some (z, v) ∧ r = some (.int 1) ∧ BestQ Q n m cv mf z v)) 0 0 83 [some (.ref 55), some (.int (nI z)), some (.int f), some (.int (nI u)), some (.int c)] [] (lay (S, o_Q' O Q)) := by
        intro Q f c hQ hf hB
        refine lpw gdX1_findBest 60 (awf ?_ (J85 Q 1 none hQ (by obtain ⟨v, hv⟩ := hf; rw [hv]; rfl) hB))
        exact ⟨rfl, rfl, rfl, rfl, trivial⟩
      have hu64 : u < 64 := by omega
      refine lpw gdX1_findBest 60 ⟨fun h => ?_, fun _ => ?_⟩
      · have h' : (1 : Int32) <<< (p_ns Q &&& 31) ≤ nI u := h
        rw [hQ.2.1, shlI n (by omega)] at h'
        exact absurd h' (nge hu (by omega))
      refine ac_to (ac_bitCount _ _) ?_
      have hpop : pop6 u ≤ 6 := by unfold pop6; omega
      refine ⟨fun h => ?_, fun h => ?_⟩
      · have h' : ¬ pop6 u = z := fun w => h (by rw [bc_fin u hu64, w])
        refine J85 Q _ none hQ ?_ ?_
        · rw [fs_no (by simp [h'])]
        · rw [fs_no (by simp [h'])]; exact hB
      rw [bc_fin u hu64] at h
      have hpz : pop6 u = z := (neqI (by omega) (by omega)).mp h
      refine ac_to (ac_hasWholeEdit (g := g) (S := S) (O := o_Q' O Q) (u := u) hQ h8 h6 hu64) ⟨fun h => ?_, fun h => ?_⟩
      · have hh : hasU n m u cv mf = false := (bi_e0 _).mp h
        refine J85 Q _ none hQ ?_ ?_
        · rw [fs_no (by simp [hh])]
        · rw [fs_no (by simp [hh])]; exact hB
      have hh : hasU n m u cv mf = true := by rw [bi_e0, Bool.not_eq_false] at h; exact h
      obtain ⟨hw1, -, -⟩ := has_tw hu h6 h8 hh
      have htk := tk_le (n := n) (m := m) (cv := cv) (mf := mf) (u := u) h6 h8
      refine ac_mono (ac_planTrial (g := g) (S := S) (O := o_Q' O Q) (u := u) hQ h8 h6 hu64) ?_
      rintro r h' ⟨rfl, Q2, hs2, ht2, rfl⟩
      have hQ2 := hs2.ps hQ
      have htri : ∀ l, l < m → p_tri Q2 l = nI (tw n m cv mf u l) ∧ tw n m cv mf u l ≤ 6 := fun l hl => by
        rw [ht2 l hl, (hw1 l hl).1]
        have := (hw1 l hl).2.1
        exact ⟨rfl, by omega⟩
      have hB2 : ∀ v, fsF n m cv mf z u = some v → BestQ Q2 n m cv mf z v := fun v hv => by
        obtain ⟨b1, b2, b3⟩ := hB v hv
        obtain ⟨s1, s2, s3, s4, s5, s6, s7, s8⟩ := hs2
        refine ⟨s7.trans b1, s8.trans b2, fun l hl => ?_⟩
        rw [s6]
        exact b3 l hl
      have J76 : ∀ f : Int32, (∀ v, fsF n m cv mf z u = some v → ltU n m cv mf u v = true) → AW g mX1_findBest (fun r h' => ∃ Q, PS Q m n cv mf ∧ h' = lay (S, o_Q' O Q) ∧ ((fbF n m cv mf (n + 1) 0 = none ∧ r = some (.int 0)) ∨ ∃ z v, fbF n m cv mf (n + 1) 0 = some (z, v) ∧ r = some (.int 1) ∧ BestQ Q n m cv mf z v)) 0 0 76 [some (.ref 55), some (.int (nI z)), some (.int f), some (.int (nI u)), some (.int (nI (tk n m cv mf u)))] [] (lay (S, o_Q' O Q2)) := by
        intro f hlt
        have hfs := fs_ye hpz hh hlt
        have C1 := ac_takeTrial (g := g) (S := S) (O := o_Q' O Q2) (z := nI z) (c := nI (tk n m cv mf u)) hQ2.1 h8
        have hG : ∀ l, l < m → va_cpy (p_tri Q2) (p_bes Q2) 0 0 m l = nI (tw n m cv mf u l) := fun l hl => by
          rw [pk_cpy_in (by omega) (by omega), show 0 + (l - 0) = l by omega]
          exact (htri l hl).1
        replace C1 : ACe g mX1_takeTrial [.ref 55, .int (nI z), .int (nI (tk n m cv mf u))] (lay (S, o_Q' O Q2)) none (lay (S, o_Q' O (p_bes' (p_bc' (p_bz' Q2 (nI z)) (nI (tk n m cv mf u))) (va_cpy (p_tri Q2) (p_bes Q2) 0 0 m)))) := C1
        generalize va_cpy (p_tri Q2) (p_bes Q2) 0 0 m = G at C1 hG
        refine lpw gdX1_findBest 60 (ac_to C1 ?_)
        refine J83 (p_bes' (p_bc' (p_bz' Q2 (nI z)) (nI (tk n m cv mf u))) G) f _ hQ2 ⟨u, hfs⟩ (fun v hv => ?_)
        rw [hfs] at hv
        cases hv
        exact ⟨rfl, rfl, hG⟩
      cases hfs : fsF n m cv mf z u with
      | none =>
        exact ⟨fun _ => J76 _ (fun v hv => by rw [hfs] at hv; cases hv), fun h => absurd rfl h⟩
      | some v =>
        have hvv := fs_in _ _ hfs
        obtain ⟨b1, b2, b3⟩ := hB2 v hfs
        have htv := tk_le (n := n) (m := m) (cv := cv) (mf := mf) (u := v) h6 h8
        obtain ⟨hv1, -, -⟩ := has_tw (u := v) (by omega) h6 h8 hvv.2
        refine ⟨fun h => absurd h n01, fun _ => ⟨fun h1 => ?_, fun h1 => ?_⟩⟩
        · have h1' : nI (tk n m cv mf u) < p_bc Q2 := h1
          rw [b2] at h1'
          have h1' := (nltI (by omega) (by omega)).mp h1'
          refine J76 _ (fun w hw => ?_)
          rw [hfs] at hw; cases hw
          unfold ltU
          simp [h1']
        · have h1' : ¬ tk n m cv mf u < tk n m cv mf v := fun w => h1 (show nI (tk n m cv mf u) < p_bc Q2 by rw [b2]; exact (nltI (by omega) (by omega)).mpr w)
          refine ⟨fun h2 => ?_, fun h2 => ?_⟩
          · have h2' : ¬ tk n m cv mf u = tk n m cv mf v := fun w => h2 (show nI (tk n m cv mf u) = p_bc Q2 by rw [b2, w])
            have hl : ltU n m cv mf u v = false := by unfold ltU; simp [h1', h2']
            have hst := fs_st hfs hl
            refine J83 Q2 _ _ hQ2 ⟨v, hst⟩ (fun w hw => ?_)
            rw [hst] at hw; cases hw
            exact hB2 v hfs
          · have h2' : nI (tk n m cv mf u) = p_bc Q2 := h2
            rw [b2] at h2'
            have h2' := (neqI (by omega) (by omega)).mp h2'
            refine ac_to (ac_trialIsLower (g := g) (S := S) (O := o_Q' O Q2) (a := tw n m cv mf u) (b := tw n m cv mf v) hQ2.1 h8 htri (fun l hl => ⟨b3 l hl, by have := (hv1 l hl).2.1; omega⟩)) ⟨fun h3 => ?_, fun h3 => ?_⟩
            · have h3' := (bi_e0 _).mp h3
              have hl : ltU n m cv mf u v = false := by unfold ltU; simp [h2', h3']
              have hst := fs_st hfs hl
              refine J83 Q2 _ _ hQ2 ⟨v, hst⟩ (fun w hw => ?_)
              rw [hst] at hw; cases hw
              exact hB2 v hfs
            · rw [bi_e0, Bool.not_eq_false] at h3
              refine J76 _ (fun w hw => ?_)
              rw [hfs] at hw; cases hw
              unfold ltU
              simp [h2', h3]
theorem ac_differsFrom {m : Nat} {b : Nat → Nat} {eo : Nat → Option Nat} {k : Nat} (h6 : k ≤ 6) (hm : p_nl (o_Q O) = nI m) (h8 : m ≤ 8) (hb : ∀ l, l < m → p_bes (o_Q O) l = nI (b l) ∧ b l < k) (hE : ∀ l, l < m → s_ed S l = sh (eo l) ∧ okO k (eo l)) : ACe g mX1_differsFrom [.ref 55, .ref 1] (lay (S, O)) (some (.int (nI (cnt (fun l => !decide (eo l = some (b l))) m)))) (lay (S, O)) := by
  refine acw gdX1_differsFrom 40 rfl ?_
  refine dn (n := m) (P := fun l => AW g mX1_differsFrom _ 0 0 4 [some (.ref 55), some (.ref 1), some (.int (nI (cnt (fun l => !decide (eo l = some (b l))) l))), some (.int (nI l))] [] (lay (S, O))) ?_ (fun l hl ih => ?_) 0 (Nat.zero_le _)
  · exact lpw gdX1_differsFrom 40 ⟨fun _ => ⟨rfl, rfl⟩, fun h => absurd (show p_nl (o_Q O) ≤ _ by rw [hm]; exact nle (by omega) (by omega)) h⟩
  · refine lpw gdX1_differsFrom 40 ⟨fun h => absurd (show p_nl (o_Q O) ≤ _ from h) (by rw [hm]; exact nge (by omega) (by omega)), fun _ => ?_⟩
    refine ⟨_, _, rfl, vlit (by omega) (by decide), ?_⟩
    refine ⟨_, _, rfl, vlit (by omega) (by decide), ?_⟩
    rw [vcl (x := nI l) rfl (by omega), show s_ed (S, O).fst l = _ from (hE l hl).1, show p_bes (o_Q (S, O).snd) l = _ from (hb l hl).1]
    have e : sh (eo l) = nI (b l) ↔ eo l = some (b l) := by
      have hbl := (hb l hl).2
      cases h : eo l with
      | none => exact ⟨fun z => absurd z.symm (nI_ne9 (by omega)), fun z => by cases z⟩
      | some s =>
        have hs := (hE l hl).2 s h
        exact ⟨fun z => congrArg some ((neqI (by omega) (by omega)).mp z), fun z => by cases z; rfl⟩
    refine ⟨fun h => awl ?_ ih, fun h => awl ?_ ih⟩
    · rw [e] at h
      rw [cnt_f (p := fun l => !decide (eo l = some (b l))) (by simp [h]), ← nI_1]
      rfl
    · rw [e] at h
      rw [cnt_t (p := fun l => !decide (eo l = some (b l))) (by simp [h]), ← nI_1, ← nI_1]
      rfl
theorem ac_giveBestTo {m : Nat} (hm : p_nl (o_Q O) = nI m) (h8 : m ≤ 8) : ACe g mX1_giveBestTo [.ref 55, .ref 1] (lay (S, O)) none (lay (s_ed' S (va_cpy (p_bes (o_Q O)) (s_ed S) 0 0 m), O)) := by
  refine acw gdX1_giveBestTo 40 rfl ?_
  refine ⟨8, _, 8, _, rfl, rfl, ?_, ?_⟩
  · have e : (p_nl (o_Q O)).toNatClampNeg = m := vcl hm (by omega)
    refine ⟨by decide, by decide, ?_, ?_, ?_⟩
    · show ¬ p_nl (o_Q O) < 0
      rw [hm]; exact nlt0 m (by omega)
    · show (0 : Int32).toNatClampNeg + (p_nl (o_Q O)).toNatClampNeg ≤ 8
      rw [e]
      show 0 + m ≤ 8
      omega
    · show (0 : Int32).toNatClampNeg + (p_nl (o_Q O)).toNatClampNeg ≤ 8
      rw [e]
      show 0 + m ≤ 8
      omega
  · have e : (p_nl (o_Q (S, O).snd)).toNatClampNeg = m := vcl hm (by omega)
    rw [e]
    generalize hG : va_cpy (p_bes (o_Q O)) (s_ed S) 0 0 m = G
    refine ⟨rfl, ?_⟩
    show List.set (_ : AH) 4 (ia 8 (va_cpy (p_bes (o_Q O)) (s_ed S) 0 0 m)) = _
    rw [hG]
    rfl
theorem ac_cheapestSet {m n : Nat} {cv : Nat → Nat → Bool} {mf : Nat → Nat → Nat → Bool} {pr : Nat → Int32} (hP : PS (o_Q O) m n cv mf) (h8 : m ≤ 8) (h6 : n ≤ 6) (hp : ∀ s, s < n → ∃ q : Nat, q ≤ 9 ∧ pr s = nI q) (hq : ∀ s, s < n → p_pri (o_Q O) s = pr s) : ACe g mX1_cheapestSet [.ref 55] (lay (S, O)) (some (.int (sh (chF n m cv mf pr (2 ^ n))))) (lay (S, O)) := by
  have e64 := p64 h6
  have key := dn (n := 2 ^ n) (P := fun u => ∀ (x : UInt32) (y : Option Value), (∀ v, chF n m cv mf pr u = some v → x = dF pr v n) → AW g mX1_cheapestSet (fun r h' => r = some (.int (sh (chF n m cv mf pr (2 ^ n)))) ∧ h' = lay (S, O)) 0 0 7 [some (.ref 55), some (.int (sh (chF n m cv mf pr u))), some (.float x), some (.int (nI u)), none] [] (lay (S, O))) ?_ (fun u hu ih => ?_) 0 (Nat.zero_le _)
  · exact acw gdX1_cheapestSet 40 rfl (key FP.fconst0 none (fun v hv => by cases hv))
  · intro x _ hx
    refine lpw gdX1_cheapestSet 40 ⟨fun _ => ⟨rfl, rfl⟩, fun h => absurd (show (1 : Int32) <<< (p_ns (o_Q O) &&& 31) ≤ nI (2 ^ n) from ?_) h⟩
    rw [hP.2.1, shlI n (by omega)]
    exact nle (Nat.le_refl _) (by omega)
  · intro x _ hx
    have hu64 : u < 64 := by omega
    have CH := ac_hasWholeEdit (g := g) (S := S) (O := O) (u := u) hP h8 h6 hu64
    have J50 : ∀ (c : Int32) (x : UInt32) (y : UInt32), c = sh (chF n m cv mf pr (u + 1)) → (∀ v, chF n m cv mf pr (u + 1) = some v → x = dF pr v n) → AW g mX1_cheapestSet (fun r h' => r = some (.int (sh (chF n m cv mf pr (2 ^ n)))) ∧ h' = lay (S, O)) 0 0 50 [some (.ref 55), some (.int c), some (.float x), some (.int (nI u)), some (.float y)] [] (lay (S, O)) := by
      intro c x y hc hx
      subst hc
      refine lpw gdX1_cheapestSet 40 (awf ?_ (ih x none hx))
      rw [← nI_1]
      exact ⟨rfl, rfl, rfl, rfl, trivial⟩
    have J37 : (∀ v, chF n m cv mf pr u = some v → lessF (dF pr u n) (dF pr v n) = true) → AW g mX1_cheapestSet (fun r h' => r = some (.int (sh (chF n m cv mf pr (2 ^ n)))) ∧ h' = lay (S, O)) 0 0 37 [some (.ref 55), some (.int (sh (chF n m cv mf pr u))), some (.float x), some (.int (nI u)), some (.float (dF pr u n))] [] (lay (S, O)) := by
      intro hl
      refine lpw gdX1_cheapestSet 40 (ac_to CH ⟨fun h => ?_, fun h => ?_⟩)
      · have hh := (bi_e0 _).mp h
        have e : chF n m cv mf pr (u + 1) = chF n m cv mf pr u := by
          show (match chF n m cv mf pr u with | none => if hasU n m u cv mf then some u else none | some v => if lessF (dF pr u n) (dF pr v n) && hasU n m u cv mf then some u else some v) = _
          split
          · rename_i h0; rw [hh, h0]; rfl
          · rename_i v h0; rw [hh, h0, Bool.and_false]; rfl
        refine J50 _ _ _ (by rw [e]) (fun v hv => hx v (by rw [← e]; exact hv))
      · rw [bi_e0, Bool.not_eq_false] at h
        have e : chF n m cv mf pr (u + 1) = some u := by
          show (match chF n m cv mf pr u with | none => if hasU n m u cv mf then some u else none | some v => if lessF (dF pr u n) (dF pr v n) && hasU n m u cv mf then some u else some v) = _
          split
          · rw [if_pos h]
          · rename_i v h0; rw [h, hl v h0]; rfl
        exact J50 _ _ _ (by rw [e]; rfl) (fun v hv => by rw [e] at hv; cases hv; rfl)
    refine lpw gdX1_cheapestSet 40 ⟨fun h => ?_, fun _ => ?_⟩
    · have h' : (1 : Int32) <<< (p_ns (o_Q O) &&& 31) ≤ nI u := h
      rw [hP.2.1, shlI n (by omega)] at h'
      exact absurd h' (nge hu (by omega))
    refine ac_to (ac_dear (g := g) (S := S) (O := O) (u := u) h6 hu64 hP.2.1 hp hq) ?_
    cases hc : chF n m cv mf pr u with
    | none =>
      rw [hc] at J37
      exact ⟨fun _ => J37 (fun v hv => by cases hv), fun h => absurd rfl h⟩
    | some v =>
      have hv := ch_in _ _ hc
      have hxv := hx v hc
      refine ⟨fun h => absurd h (nI_ne9 (by omega)), fun _ => ⟨fun h => ?_, fun h => ?_⟩⟩
      · have hle : lessF (dF pr u n) (dF pr v n) = false := by
          unfold lessF
          rw [decide_eq_false_iff_not, ← hxv]
          exact Int32.not_lt.mpr h
        have e : chF n m cv mf pr (u + 1) = some v := by
          show (match chF n m cv mf pr u with | none => if hasU n m u cv mf then some u else none | some v => if lessF (dF pr u n) (dF pr v n) && hasU n m u cv mf then some u else some v) = _
          rw [hc]
          exact if_neg (by rw [hle]; simp)
        exact J50 _ _ _ (by rw [e]) (fun w hw => by rw [e] at hw; cases hw; exact hxv)
      · rw [hc] at J37
        refine J37 (fun w hw => ?_)
        cases hw
        unfold lessF
        rw [decide_eq_true_eq, ← hxv]
        exact Int32.not_le.mp h
theorem all_lt {n : Nat} (h6 : n ≤ 6) : (2 ^ n - 1) < 64 := by have := p64 h6; omega
theorem ac_neededShots {m n : Nat} {cv : Nat → Nat → Bool} {mf : Nat → Nat → Nat → Bool} (hP : PS (o_Q O) m n cv mf) (h8 : m ≤ 8) (h6 : n ≤ 6) : ACe g mX1_neededShots [.ref 55] (lay (S, O)) (some (.int (nI (if hasU n m (2 ^ n - 1) cv mf then msk (fun s => !hasU n m ((2 ^ n - 1) &&& (63 ^^^ 2 ^ s)) cv mf) n else 0)))) (lay (S, O)) := by
  have hall := all_lt h6
  have h1n : 1 ≤ 2 ^ n := Nat.one_le_two_pow
  have ea : (1 : Int32) <<< (p_ns (o_Q O) &&& 31) - 1 = nI (2 ^ n - 1) := by
    rw [hP.2.1, shlI n (by omega)]
    obtain ⟨j, hj⟩ : ∃ j, 2 ^ n = j + 1 := ⟨2 ^ n - 1, by omega⟩
    rw [hj, nI_pred]
    rfl
  have CH := ac_hasWholeEdit (g := g) (S := S) (O := O) (u := 2 ^ n - 1) hP h8 h6 hall
  generalize hA : 2 ^ n - 1 = A at *
  refine acw gdX1_neededShots 40 rfl (ac_ar (by show [Value.ref 55, Value.int ((1 : Int32) <<< (p_ns (o_Q O) &&& 31) - 1)] = _; rw [ea]) (ac_to CH ⟨fun h => ?_, fun h => ?_⟩))
  · rw [bi_e0, Bool.not_eq_false] at h
    rw [if_pos h]
    have key := dn (n := n) (P := fun i => AW g mX1_neededShots (fun r h' => r = some (.int (nI (msk (fun s => !hasU n m (A &&& (63 ^^^ 2 ^ s)) cv mf) n))) ∧ h' = lay (S, O)) 0 0 23 [some (.ref 55), some (.int (nI A)), some (.int (nI (msk (fun s => !hasU n m (A &&& (63 ^^^ 2 ^ s)) cv mf) i))), some (.int (nI i))] [] (lay (S, O))) ?_ (fun i hi ih => ?_) 0 (Nat.zero_le _)
    · refine awl ?_ key
      rw [← ea]
      rfl
    · exact lpw gdX1_neededShots 40 ⟨fun _ => ⟨rfl, rfl⟩, fun h => absurd (show p_ns (o_Q O) ≤ _ by rw [hP.2.1]; exact nle (by omega) (by omega)) h⟩
    · refine lpw gdX1_neededShots 40 ⟨fun h => absurd (show p_ns (o_Q O) ≤ _ from h) (by rw [hP.2.1]; exact nge (by omega) (by omega)), fun _ => ?_⟩
      refine ac_ar (by rw [notI A hall i (by omega)]) (ac_to (ac_hasWholeEdit (g := g) (S := S) (O := O) (u := A &&& (63 ^^^ 2 ^ i)) hP h8 h6 (and_lt64' hall)) ⟨fun h => awl ?_ ih, fun h => awl ?_ ih⟩)
      · rw [bi_e0, Bool.not_eq_false] at h
        rw [msk_no (p := fun s => !hasU n m (A &&& (63 ^^^ 2 ^ s)) cv mf) (by simp [h]), ← nI_1]
        rfl
      · rw [← msk_or (p := fun s => !hasU n m (A &&& (63 ^^^ 2 ^ s)) cv mf) (by omega) (by rw [(bi_e0 _).mp h]; rfl), ← nI_1]
        rfl
  · rw [(bi_e0 _).mp h]
    exact ⟨rfl, rfl⟩
end BU
