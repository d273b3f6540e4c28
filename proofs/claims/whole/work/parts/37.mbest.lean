/-! ===== the model's best edit ===== -/
def BM (n m : Nat) (cv : Nat → Nat → Bool) (mf : Nat → Nat → Nat → Bool) (B : Fn) (bc bs : Int32) (z v : Nat) : Prop := bs = nI z ∧ bc = nI (tk n m cv mf v) ∧ ∀ l, l < m → B l = nI (tw n m cv mf v l)
def FbP (S : Scn) (O : Oth) (n m : Nat) (r : Option Value) (h' : AH) : Prop := ∃ K W wc B bc bs, h' = lay (S, o_M' O (mW (o_M O) K W wc B bc bs)) ∧ ((fbF n m (mcv O) (mmf O) (n + 1) 0 = none ∧ r = some (.int 0)) ∨ ∃ z v, fbF n m (mcv O) (mmf O) (n + 1) 0 = some (z, v) ∧ r = some (.int 1) ∧ BM n m (mcv O) (mmf O) B bc bs z v)
section FB
variable {g : Glob} {S : Scn} {O : Oth}
theorem am_isBefore {m c d : Nat} {a b : Nat → Nat} (hm : z_now (o_M O) 4 = nI m) (h8 : m ≤ 8) (hc : z_wc (o_M O) = nI c) (hd : z_bc (o_M O) = nI d) (hc' : c ≤ 1000) (hd' : d ≤ 1000) (ha : ∀ l, l < m → z_way (o_M O) l = nI (a l) ∧ a l ≤ 6) (hb : ∀ l, l < m → z_best (o_M O) l = nI (b l) ∧ b l ≤ 6) : ACe g mX6_isBefore [.ref 94] (lay (S, O)) (some (.int (bi (decide (c < d) || (decide (c = d) && lowF a b m))))) (lay (S, O)) := by
  have ec : z_wc (o_M (S, O).snd) = nI c := hc
  have ed : z_bc (o_M (S, O).snd) = nI d := hd
  have L : c = d → AW g mX6_isBefore (fun r h' => r = some (.int (bi (decide (c < d) || (decide (c = d) && lowF a b m)))) ∧ h' = lay (S, O)) 0 0 30 [some (.ref 94), some (.int (nI 0))] [] (lay (S, O)) := by
    intro hcd
    rw [show (decide (c < d) || (decide (c = d) && lowF a b m)) = lowF a b m by simp [hcd]]
    refine dn (n := m) (P := fun l => (∀ k, k < l → a k = b k) → AW g mX6_isBefore _ 0 0 30 [some (.ref 94), some (.int (nI l))] [] (lay (S, O))) (fun hk => ?_) (fun l hl ih hk => ?_) 0 (Nat.zero_le _) (fun k hk => absurd hk (by omega))
    · refine lpw gdX6_isBefore 40 ⟨_, _, rfl, vlit (j := 4) (by decide) (by decide), ?_⟩
      exact ⟨fun _ => ⟨rfl, congrArg (fun z => some (Value.int z)) (bi_f (low_eq hk)).symm, rfl⟩, fun h => absurd (show z_now (o_M O) 4 ≤ nI m by rw [hm]; exact nle (by omega) (by omega)) h⟩
    · have ea := ha l hl
      have eb := hb l hl
      refine lpw gdX6_isBefore 40 ⟨_, _, rfl, vlit (j := 4) (by decide) (by decide), ?_⟩
      refine ⟨fun h => absurd (show z_now (o_M O) 4 ≤ nI l from h) (by rw [hm]; exact nge (by omega) (by omega)), fun _ => ?_⟩
      refine ⟨_, _, rfl, vlit (by omega) (by decide), ?_⟩
      refine ⟨_, _, rfl, vlit (by omega) (by decide), ?_⟩
      rw [vcl (x := nI l) rfl (by omega), show z_way (o_M (S, O).snd) l = _ from ea.1, show z_best (o_M (S, O).snd) l = _ from eb.1]
      refine ⟨fun h => ?_, fun h => ?_⟩
      · have h' := (neqI (by omega) (by omega)).mp h
        refine awl (by rw [← nI_1]; rfl) (ih (fun k hk' => ?_))
        by_cases hkl : k = l
        · subst hkl; exact h'
        · exact hk k (by omega)
      · have h' : a l ≠ b l := fun z => h (by rw [z])
        refine ⟨_, _, rfl, vlit (by omega) (by decide), ?_⟩
        refine ⟨_, _, rfl, vlit (by omega) (by decide), ?_⟩
        rw [vcl (x := nI l) rfl (by omega), show z_way (o_M (S, O).snd) l = _ from ea.1, show z_best (o_M (S, O).snd) l = _ from eb.1]
        refine ⟨fun h2 => ?_, fun h2 => ?_⟩
        · have h2 := (nleI (by omega) (by omega)).mp h2
          exact ⟨rfl, congrArg (fun z => some (Value.int z)) (bi_f (by rw [low_ne hl hk h']; simp; omega)).symm, rfl⟩
        · have h2 : ¬ b l ≤ a l := fun z => h2 ((nleI (by omega) (by omega)).mpr z)
          exact ⟨rfl, congrArg (fun z => some (Value.int z)) (bi_t (by rw [low_ne hl hk h']; simp; omega)).symm, rfl⟩
  refine acw gdX6_isBefore 40 rfl ⟨fun h => ?_, fun h => ⟨fun h2 => ?_, fun h2 => ?_⟩⟩
  · rw [ec, ed] at h
    exact L ((neqI (by omega) (by omega)).mp h)
  · rw [ec, ed] at h h2
    have h1 : ¬ c = d := fun z => h (by rw [z])
    have h2 := (nleI (by omega) (by omega)).mp h2
    exact ⟨rfl, congrArg (fun z => some (Value.int z)) (bi_f (by simp [h1]; omega)).symm, rfl⟩
  · rw [ec, ed] at h h2
    have h2 : ¬ d ≤ c := fun z => h2 ((nleI (by omega) (by omega)).mpr z)
    exact ⟨rfl, congrArg (fun z => some (Value.int z)) (bi_t (by simp; omega)).symm, rfl⟩
theorem am_findBest {m n : Nat} {K0 W0 : Fn} {wc0 : Int32} {B0 : Fn} {bc0 bs0 : Int32} (hm : z_now (o_M O) 4 = nI m) (h8 : m ≤ 8) (hn : z_now (o_M O) 13 = nI n) (h6 : n ≤ 6) : AC g mX6_findBest [.ref 94] (lay (S, o_M' O (mW (o_M O) K0 W0 wc0 B0 bc0 bs0))) (FbP S O n m) := by
  have e64 := p64 h6
  have key := dn (n := n + 1) (P := fun z => fbF n m (mcv O) (mmf O) (n + 1) 0 = fbF n m (mcv O) (mmf O) (n + 1 - z) z → ∀ (K W : Fn) (wc : Int32) (B : Fn) (bc bs : Int32), AW g mX6_findBest (FbP S O n m) 0 0 2 [some (.ref 94), some (.int (nI z)), none, none, none] [] (lay (S, o_M' O (mW (o_M O) K W wc B bc bs)))) ?_ (fun z hz ih => ?_) 0 (Nat.zero_le _)
  · exact acw gdX6_findBest 40 rfl (key rfl _ _ _ _ _ _)
  · intro hfb K W wc B bc bs
    rw [Nat.sub_self] at hfb
    refine lpw gdX6_findBest 60 ⟨_, _, rfl, vlit (j := 13) (by decide) (by decide), ?_⟩
    exact ⟨fun _ => ⟨rfl, K, W, wc, B, bc, bs, rfl, Or.inl ⟨hfb, rfl⟩⟩, fun h => absurd (show z_now (o_M O) 13 < nI (n + 1) by rw [hn]; exact (nltI (by omega) (by omega)).mpr (by omega)) h⟩
  · intro hfb K W wc B bc bs
    refine lpw gdX6_findBest 60 ⟨_, _, rfl, vlit (j := 13) (by decide) (by decide), ?_⟩
    refine ⟨fun h => ?_, fun _ => ?_⟩
    · have h' : z_now (o_M O) 13 < nI z := h
      rw [hn] at h'
      have := (nltI (by omega) (by omega)).mp h'
      omega
    have key2 := dn (n := 2 ^ n) (P := fun u => ∀ (K W : Fn) (wc : Int32) (B : Fn) (bc bs : Int32), (∀ v, fsF n m (mcv O) (mmf O) z u = some v → BM n m (mcv O) (mmf O) B bc bs z v) → AW g mX6_findBest (FbP S O n m) 0 0 17 [some (.ref 94), some (.int (nI z)), some (.int (bi (fsF n m (mcv O) (mmf O) z u).isSome)), some (.int (nI u)), none] [] (lay (S, o_M' O (mW (o_M O) K W wc B bc bs)))) ?_ (fun u hu ihu => ?_) 0 (Nat.zero_le _)
    · exact key2 _ _ _ _ _ _ (fun v hv => by cases hv)
    · intro K W wc B bc bs hB
      refine lpw gdX6_findBest 60 ⟨_, _, rfl, vlit (j := 13) (by decide) (by decide), ?_⟩
      refine ⟨fun _ => ?_, fun h => ?_⟩
      · have ek : n + 1 - z = (n - z) + 1 := by omega
        rw [ek] at hfb
        unfold fbF at hfb
        cases hf : fsF n m (mcv O) (mmf O) z (2 ^ n) with
        | none =>
          rw [hf] at hfb
          refine ⟨fun _ => ?_, fun h => absurd rfl h⟩
          refine awf ?_ (ih (by rw [show n + 1 - (z + 1) = n - z by omega]; exact hfb) K W wc B bc bs)
          rw [← nI_1]
          exact ⟨rfl, rfl, trivial⟩
        | some v =>
          rw [hf] at hfb
          refine ⟨fun h => absurd h n01, fun _ => ?_⟩
          exact ⟨rfl, K, W, wc, B, bc, bs, rfl, Or.inr ⟨z, v, hfb, rfl, hB v hf⟩⟩
      · refine absurd (show (1 : Int32) <<< (z_now (o_M O) 13 &&& 31) ≤ nI (2 ^ n) from ?_) h
        rw [hn, shlI n (by omega)]
        exact nle (Nat.le_refl _) (by omega)
    · intro K W wc B bc bs hB
      have hu64 : u < 64 := by omega
      have J102 : ∀ (K W : Fn) (wc : Int32) (B : Fn) (bc bs : Int32) (f : Int32), f = bi (fsF n m (mcv O) (mmf O) z (u + 1)).isSome → (∀ v, fsF n m (mcv O) (mmf O) z (u + 1) = some v → BM n m (mcv O) (mmf O) B bc bs z v) → AW g mX6_findBest (FbP S O n m) 0 0 102 [some (.ref 94), some (.int (nI z)), some (.int f), some (.int (nI u)), none] [] (lay (S, o_M' O (mW (o_M O) K W wc B bc bs))) := by
        intro K W wc B bc bs f hf hB
        subst hf
        exact lpw gdX6_findBest 60 (awl (by rw [← nI_1]; rfl) (ihu K W wc B bc bs hB))
      have J57 : ∀ (K W : Fn) (f : Int32), (∀ l, l < m → W l = nI (tw n m (mcv O) (mmf O) u l)) → fsF n m (mcv O) (mmf O) z (u + 1) = some u → AW g mX6_findBest (FbP S O n m) 0 0 57 [some (.ref 94), some (.int (nI z)), some (.int f), some (.int (nI u)), none] [] (lay (S, o_M' O (mW (o_M O) K W (nI (tk n m (mcv O) (mmf O) u)) B bc bs))) := by
        intro K W f hW hfs
        generalize hT : nI (tk n m (mcv O) (mmf O) u) = T
        have L := dn (n := 8) (P := fun l => AW g mX6_findBest (FbP S O n m) 0 0 75 [some (.ref 94), some (.int (nI z)), some (.int 1), some (.int (nI u)), some (.int (nI l))] [] (lay (S, o_M' O (mW (o_M O) K W T (va_cpy W B 0 0 l) T (nI z))))) ?_ (fun l hl ihl => ?_) 0 (Nat.zero_le _)
        · rw [cpy_0] at L
          refine lpw gdX6_findBest 60 ?_
          refine aw_hp ?_ L
          show List.set (List.set (lay (S, o_M' O (mW (o_M O) K W T B bc bs))) 94 (.inr (6, [.ref 95, .ref 96, .ref 97, .int (z_deeds (o_M O)), .ref 98, .ref 99, .ref 100, .int (z_let (o_M O)), .int (z_at (o_M O)), .int (z_tok (o_M O)), .int (z_tat (o_M O)), .ref 101, .ref 102, .int (z_seen (o_M O)), .int (z_aP (o_M O)), .int (z_aL (o_M O)), .int (z_items (o_M O)), .ref 103, .ref 104, .int T, .ref 105, .int bc, .int (nI z)]))) 94 (.inr (6, [.ref 95, .ref 96, .ref 97, .int (z_deeds (o_M O)), .ref 98, .ref 99, .ref 100, .int (z_let (o_M O)), .int (z_at (o_M O)), .int (z_tok (o_M O)), .int (z_tat (o_M O)), .ref 101, .ref 102, .int (z_seen (o_M O)), .int (z_aP (o_M O)), .int (z_aL (o_M O)), .int (z_items (o_M O)), .ref 103, .ref 104, .int T, .ref 105, .int T, .int (nI z)])) = _
          rw [List.set_set]
          exact Lbc
        · refine lpw gdX6_findBest 60 ⟨fun _ => ?_, fun h => absurd (by decide) h⟩
          refine awf ?_ (J102 K W T (va_cpy W B 0 0 8) T (nI z) 1 (by rw [hfs]; rfl) (fun v hv => ?_))
          · exact ⟨rfl, rfl, rfl, rfl, trivial⟩
          · rw [hfs] at hv; cases hv
            refine ⟨rfl, hT.symm, fun l hl => ?_⟩
            rw [pk_cpy_in (by omega) (by omega), show 0 + (l - 0) = l by omega]
            exact hW l hl
        · have e1 := cpy_step (f := W) (t := B) (i := 0) (j := 0) (k := l)
          rw [Nat.zero_add] at e1
          rw [← e1] at ihl
          refine lpw gdX6_findBest 60 ⟨fun h => absurd h (nge (n := 8) (by omega) (by omega)), fun _ => ?_⟩
          refine ⟨_, _, rfl, vlit (by omega) (by decide), ?_⟩
          refine ⟨_, _, rfl, vlit (by omega) (by decide), ?_⟩
          rw [vcl (x := nI l) rfl (by omega)]
          exact aw_hp L105 (awl (by rw [← nI_1]; rfl) ihl)
      refine lpw gdX6_findBest 60 ⟨_, _, rfl, vlit (j := 13) (by decide) (by decide), ?_⟩
      refine ⟨fun h => ?_, fun _ => ?_⟩
      · have h' : (1 : Int32) <<< (z_now (o_M O) 13 &&& 31) ≤ nI u := h
        rw [hn, shlI n (by omega)] at h'
        exact absurd h' (nge hu (by omega))
      refine ac_to (am_ones hu64 _) ?_
      have hpop : pop6 u ≤ 6 := by unfold pop6; omega
      refine ⟨fun h => ?_, fun h => ?_⟩
      · have h' : ¬ pop6 u = z := fun w => h (by rw [w])
        refine J102 _ _ _ _ _ _ _ ?_ ?_
        · rw [fs_no (by simp [h'])]
        · rw [fs_no (by simp [h'])]; exact hB
      have hpz : pop6 u = z := (neqI (by omega) (by omega)).mp h
      refine ac_mono (am_findWay (g := g) (S := S) (O := O) (n := n) (u := u) hm h8 h6 hu) ?_
      rintro r h' ⟨K2, W2, wc2, rfl, rfl, hW2⟩
      refine ⟨fun h => ?_, fun h => ?_⟩
      · have hh : hasU n m u (mcv O) (mmf O) = false := (bi_e0 _).mp h
        refine J102 _ _ _ _ _ _ _ ?_ ?_
        · rw [fs_no (by simp [hh])]
        · rw [fs_no (by simp [hh])]; exact hB
      have hh : hasU n m u (mcv O) (mmf O) = true := by rw [bi_e0, Bool.not_eq_false] at h; exact h
      obtain ⟨hwc, hw⟩ := hW2 hh
      subst hwc
      cases hfs : fsF n m (mcv O) (mmf O) z u with
      | none => exact ⟨fun _ => J57 K2 W2 _ hw (fs_ye hpz hh (fun v hv => by rw [hfs] at hv; cases hv)), fun h => absurd rfl h⟩
      | some v =>
        refine ⟨fun h => absurd h n01, fun _ => ?_⟩
        obtain ⟨b1, b2, b3⟩ := hB v hfs
        have hvv := fs_in _ _ hfs
        obtain ⟨hv1, -, -⟩ := has_tw (u := v) (by omega) h6 h8 hvv.2
        obtain ⟨hu1, -, -⟩ := has_tw hu h6 h8 hh
        have htu := tk_le (n := n) (m := m) (cv := mcv O) (mf := mmf O) (u := u) h6 h8
        have htv := tk_le (n := n) (m := m) (cv := mcv O) (mf := mmf O) (u := v) h6 h8
        refine ac_to (am_isBefore (g := g) (S := S) (O := o_M' O (mW (o_M O) K2 W2 (nI (tk n m (mcv O) (mmf O) u)) B bc bs)) (m := m) (c := tk n m (mcv O) (mmf O) u) (d := tk n m (mcv O) (mmf O) v) (a := tw n m (mcv O) (mmf O) u) (b := tw n m (mcv O) (mmf O) v) hm h8 rfl b2 (by omega) (by omega) (fun l hl => ⟨hw l hl, by have := (hu1 l hl).2.1; omega⟩) (fun l hl => ⟨b3 l hl, by have := (hv1 l hl).2.1; omega⟩)) ⟨fun h3 => ?_, fun h3 => ?_⟩
        · have hl : ltU n m (mcv O) (mmf O) u v = false := (bi_e0 _).mp h3
          have hst := fs_st hfs hl
          refine J102 _ _ _ _ _ _ _ ?_ (fun w hw => ?_)
          · rw [hst]
          · rw [hst] at hw; cases hw
            exact ⟨b1, b2, b3⟩
        · have hl : ltU n m (mcv O) (mmf O) u v = true := by rw [bi_e0, Bool.not_eq_false] at h3; exact h3
          refine J57 K2 W2 _ hw (fs_ye hpz hh (fun w hw' => ?_))
          rw [hfs] at hw'; cases hw'
          exact hl
end FB
