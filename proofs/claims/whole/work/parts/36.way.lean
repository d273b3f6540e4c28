section FW
variable {g : Glob} {S : Scn} {O : Oth}
set_option maxRecDepth 10000 in
theorem Lwcg {x : Int32} : (lay (S, O)).set 94 (.inr (6, [.ref 95, .ref 96, .ref 97, .int (z_deeds (o_M O)), .ref 98, .ref 99, .ref 100, .int (z_let (o_M O)), .int (z_at (o_M O)), .int (z_tok (o_M O)), .int (z_tat (o_M O)), .ref 101, .ref 102, .int (z_seen (o_M O)), .int (z_aP (o_M O)), .int (z_aL (o_M O)), .int (z_items (o_M O)), .ref 103, .ref 104, .int x, .ref 105, .int (z_bc (o_M O)), .int (z_bs (o_M O))])) = lay (S, o_M' O (z_wc' (o_M O) x)) := by rfl
set_option maxRecDepth 10000 in
theorem Lbcg {x y : Int32} : (lay (S, O)).set 94 (.inr (6, [.ref 95, .ref 96, .ref 97, .int (z_deeds (o_M O)), .ref 98, .ref 99, .ref 100, .int (z_let (o_M O)), .int (z_at (o_M O)), .int (z_tok (o_M O)), .int (z_tat (o_M O)), .ref 101, .ref 102, .int (z_seen (o_M O)), .int (z_aP (o_M O)), .int (z_aL (o_M O)), .int (z_items (o_M O)), .ref 103, .ref 104, .int (z_wc (o_M O)), .ref 105, .int x, .int y])) = lay (S, o_M' O (z_bs' (z_bc' (o_M O) x) y)) := by rfl
theorem Lwc {M : Mdl} {K W : Fn} {wc : Int32} {B : Fn} {bc bs x : Int32} : (lay (S, o_M' O (mW M K W wc B bc bs))).set 94 (.inr (6, [.ref 95, .ref 96, .ref 97, .int (z_deeds M), .ref 98, .ref 99, .ref 100, .int (z_let M), .int (z_at M), .int (z_tok M), .int (z_tat M), .ref 101, .ref 102, .int (z_seen M), .int (z_aP M), .int (z_aL M), .int (z_items M), .ref 103, .ref 104, .int x, .ref 105, .int bc, .int bs])) = lay (S, o_M' O (mW M K W x B bc bs)) := Lwcg (O := o_M' O (mW M K W wc B bc bs))
theorem Lbc {M : Mdl} {K W : Fn} {wc : Int32} {B : Fn} {bc bs x y : Int32} : (lay (S, o_M' O (mW M K W wc B bc bs))).set 94 (.inr (6, [.ref 95, .ref 96, .ref 97, .int (z_deeds M), .ref 98, .ref 99, .ref 100, .int (z_let M), .int (z_at M), .int (z_tok M), .int (z_tat M), .ref 101, .ref 102, .int (z_seen M), .int (z_aP M), .int (z_aL M), .int (z_items M), .ref 103, .ref 104, .int wc, .ref 105, .int x, .int y])) = lay (S, o_M' O (mW M K W wc B x y)) := Lbcg (O := o_M' O (mW M K W wc B bc bs))
theorem am_findWay {m n u : Nat} {K0 W0 : Fn} {wc0 : Int32} {B : Fn} {bc bs : Int32} (hm : z_now (o_M O) 4 = nI m) (h8 : m ≤ 8) (h6 : n ≤ 6) (hu : u < 2 ^ n) : AC g mX6_findWay [.ref 94, .int (nI u)] (lay (S, o_M' O (mW (o_M O) K0 W0 wc0 B bc bs))) (fun r h' => ∃ K W wc, h' = lay (S, o_M' O (mW (o_M O) K W wc B bc bs)) ∧ r = some (.int (bi (hasU n m u (mcv O) (mmf O)))) ∧ (hasU n m u (mcv O) (mmf O) = true → wc = nI (tk n m (mcv O) (mmf O) u) ∧ ∀ l, l < m → W l = nI (tw n m (mcv O) (mmf O) u l))) := by
  have hu64 : u < 64 := by have := p64 h6; omega
  have hub : ∀ t, u.testBit t = true → t < n := fun t ht => tb_lt hu ht
  have hHW := has_w (n := n) (m := m) (u := u) (cv := mcv O) (mf := mmf O) hub h6 (by omega)
  have hwl : wC m u (mcv O) (mmf O) ≤ 1000 := by
    unfold wC
    split
    · omega
    · exact mnF_le 6
  -- the way itself
  have LW : ∀ K : Fn, (∀ l s, l < m → s < 6 → K (6 * l + s) = nI (mC u (mcv O) (mmf O) (m - 1 - l) l s)) → hasU n m u (mcv O) (mmf O) = true → AW g mX6_findWay (fun r h' => ∃ K W wc, h' = lay (S, o_M' O (mW (o_M O) K W wc B bc bs)) ∧ r = some (.int (bi (hasU n m u (mcv O) (mmf O)))) ∧ (hasU n m u (mcv O) (mmf O) = true → wc = nI (tk n m (mcv O) (mmf O) u) ∧ ∀ l, l < m → W l = nI (tw n m (mcv O) (mmf O) u l))) 0 0 95 [some (.ref 94), some (.int (nI u)), some (.int (nI m)), some (.int (nI (wC m u (mcv O) (mmf O)))), some (.int (nI 0)), none] [] (lay (S, o_M' O (mW (o_M O) K W0 (nI (wC m u (mcv O) (mmf O))) B bc bs))) := by
    intro K hK hh
    obtain ⟨hw1, hw2, hw3⟩ := has_tw hu h6 h8 hh
    generalize htw : tw n m (mcv O) (mmf O) u = w at *
    rw [hw3]
    generalize hP : (fun (r : Option Value) (h' : AH) => ∃ K W wc, h' = lay (S, o_M' O (mW (o_M O) K W wc B bc bs)) ∧ r = some (.int (bi (hasU n m u (mcv O) (mmf O)))) ∧ (hasU n m u (mcv O) (mmf O) = true → wc = nI (wC m u (mcv O) (mmf O)) ∧ ∀ l, l < m → W l = nI (w l))) = Post
    have key := dn (n := m) (P := fun l => ∀ W : Fn, (∀ k, k < l → W k = nI (w k)) → AW g mX6_findWay Post 0 0 95 [some (.ref 94), some (.int (nI u)), some (.int (nI m)), some (.int (nI (if l = 0 then wC m u (mcv O) (mmf O) else mC u (mcv O) (mmf O) (m - 1 - (l - 1)) (l - 1) (w (l - 1))))), some (.int (nI l)), none] [] (lay (S, o_M' O (mW (o_M O) K W (nI (wC m u (mcv O) (mmf O))) B bc bs)))) ?_ (fun l hl ih => ?_) 0 (Nat.zero_le _)
    · exact key W0 (fun k hk => absurd hk (by omega))
    · intro W hW
      refine lpw gdX6_findWay 60 ⟨fun _ => ?_, fun h => absurd (nle (by omega) (by omega)) h⟩
      rw [← hP]
      exact ⟨rfl, K, W, _, rfl, congrArg (fun z => some (Value.int z)) (bi_t hh).symm, fun _ => ⟨rfl, hW⟩⟩
    · intro W hW
      obtain ⟨hwt, hwn, hwc⟩ := hw1 l hl
      generalize hL : (if l = 0 then wC m u (mcv O) (mmf O) else mC u (mcv O) (mmf O) (m - 1 - (l - 1)) (l - 1) (w (l - 1))) = left
      have hleft : left ≤ 1000 := by
        rw [← hL]
        split
        · exact hwl
        · exact mC_le _ _ _
      refine lpw gdX6_findWay 60 ⟨fun h => absurd h (nge (by omega) (by omega)), fun _ => ?_⟩
      have ei : ∀ s, 6 * nI l + nI s = nI (6 * l + s) := fun s => by simp only [nlit, pk_mul, nI_add]
      have J179 : AW g mX6_findWay Post 0 0 179 [some (.ref 94), some (.int (nI u)), some (.int (nI m)), some (.int (nI left)), some (.int (nI l)), some (.int (nI (w l)))] [] (lay (S, o_M' O (mW (o_M O) K W (nI (wC m u (mcv O) (mmf O))) B bc bs))) := by
        refine lpw gdX6_findWay 60 ?_
        refine ⟨_, _, rfl, vin (ei (w l)) (by omega) (by decide), ?_⟩
        refine ⟨_, _, rfl, vlit (by omega) (by decide), ?_⟩
        rw [vcl (ei (w l)) (by omega), vcl (x := nI l) rfl (by omega), show z_cuts (o_M (S, o_M' O (mW (o_M O) K W (nI (wC m u (mcv O) (mmf O))) B bc bs)).snd) (6 * l + w l) = nI (mC u (mcv O) (mmf O) (m - 1 - l) l (w l)) from hK l (w l) hl (by omega)]
        refine aw_hp L104 (awf ?_ (ih (upd W l (nI (w l))) (fun k hk => ?_)))
        · rw [← nI_1 l, if_neg (by omega), show l + 1 - 1 = l by omega]
          exact ⟨rfl, rfl, rfl, rfl, rfl, trivial⟩
        · by_cases hkl : k = l
          · subst hkl; rw [pk_us]
          · rw [pk_un hkl]; exact hW k (by omega)
      have key2 := dn (n := w l) (P := fun s => AW g mX6_findWay Post 0 0 104 [some (.ref 94), some (.int (nI u)), some (.int (nI m)), some (.int (nI left)), some (.int (nI l)), some (.int (nI s))] [] (lay (S, o_M' O (mW (o_M O) K W (nI (wC m u (mcv O) (mmf O))) B bc bs)))) ?_ (fun s hs ihs => ?_) 0 (Nat.zero_le _)
      · exact key2
      · -- found
        have J141 : ∀ x : Nat, mC u (mcv O) (mmf O) (m - 1 - l) l (w l) + x = left → AW g mX6_findWay Post 0 0 141 [some (.ref 94), some (.int (nI u)), some (.int (nI m)), some (.int (nI left)), some (.int (nI l)), some (.int (nI (w l)))] [.int (nI x), .int (nI (mC u (mcv O) (mmf O) (m - 1 - l) l (w l)))] (lay (S, o_M' O (mW (o_M O) K W (nI (wC m u (mcv O) (mmf O))) B bc bs))) := by
          intro x hx
          have ev : nI (mC u (mcv O) (mmf O) (m - 1 - l) l (w l)) + nI x = nI left := by rw [nI_add, hx]
          refine lpw gdX6_findWay 60 ⟨fun h => absurd ev h, fun _ => ⟨fun _ => J179, fun h => ?_⟩⟩
          obtain ⟨k, rfl⟩ : ∃ k, l = k + 1 := ⟨l - 1, by
            have : ¬ l = 0 := fun z => h (by rw [z]; decide)
            omega⟩
          have e1 : nI (k + 1) - 1 = nI k := nI_pred k
          obtain ⟨-, hf, -, -⟩ := hw2.2 k hl
          refine ⟨_, _, rfl, vin e1 (by omega) (by decide), ?_⟩
          rw [vcl e1 (by omega), show z_way (o_M (S, o_M' O (mW (o_M O) K W (nI (wC m u (mcv O) (mmf O))) B bc bs)).snd) k = nI (w k) from hW k (by omega)]
          refine ac_ar (by rw [e1]) (ac_to (am_mayFollow (g := g) (S := S) (O := o_M' O (mW (o_M O) K W (nI (wC m u (mcv O) (mmf O))) B bc bs)) (l := k) (s := w k) (t := w (k + 1)) (by omega) (by have := (hw1 k (by omega)).2.1; omega) (by omega)) ⟨fun _ => J179, fun z => ?_⟩)
          have z' : mmf O k (w k) (w (k + 1)) = false := (bi_e0 _).mp z
          rw [hf] at z'
          cases z'
        refine lpw gdX6_findWay 60 ⟨_, _, rfl, vin (ei (w l)) (by omega) (by decide), ?_⟩
        rw [vcl (ei (w l)) (by omega), show z_cuts (o_M (S, o_M' O (mW (o_M O) K W (nI (wC m u (mcv O) (mmf O))) B bc bs)).snd) (6 * l + w l) = nI (mC u (mcv O) (mmf O) (m - 1 - l) l (w l)) from hK l (w l) hl (by omega)]
        by_cases h0 : l = 0
        · subst h0
          refine ⟨fun _ => J141 0 ?_, fun h => absurd (by decide) h⟩
          rw [← hL, if_pos rfl, Nat.add_zero, Nat.sub_zero]
          exact (hw2.1 (by omega)).1
        · obtain ⟨k, rfl⟩ : ∃ k, l = k + 1 := ⟨l - 1, by omega⟩
          have e1 : nI (k + 1) - 1 = nI k := nI_pred k
          obtain ⟨-, hf, he, -⟩ := hw2.2 k hl
          refine ⟨fun h => absurd ((nleI (b := 0) (by omega) (by omega)).mp h) (by omega), fun _ => ?_⟩
          refine ⟨_, _, rfl, vin e1 (by omega) (by decide), ?_⟩
          rw [vcl e1 (by omega), show z_way (o_M (S, o_M' O (mW (o_M O) K W (nI (wC m u (mcv O) (mmf O))) B bc bs)).snd) k = nI (w k) from hW k (by omega)]
          have hL' : left = mC u (mcv O) (mmf O) (m - 1 - k) k (w k) := by rw [← hL, if_neg (by omega), show k + 1 - 1 = k by omega]
          have hwk := (hw1 k (by omega)).2.1
          refine ⟨fun h => J141 0 ?_, fun h => J141 1 ?_⟩
          · rw [hL', ← he, if_pos ((neqI (by omega) (by omega)).mp h)]
          · rw [hL', ← he, if_neg (fun z => h (by rw [z]))]
      · -- not yet
        have hs6 : s < 6 := by omega
        have J173 : AW g mX6_findWay Post 0 0 173 [some (.ref 94), some (.int (nI u)), some (.int (nI m)), some (.int (nI left)), some (.int (nI l)), some (.int (nI s))] [] (lay (S, o_M' O (mW (o_M O) K W (nI (wC m u (mcv O) (mmf O))) B bc bs))) :=
          lpw gdX6_findWay 60 (awl (by rw [← nI_1]; rfl) ihs)
        have hmc := mC_le (u := u) (cv := mcv O) (mf := mmf O) (m - 1 - l) l s
        refine lpw gdX6_findWay 60 ⟨_, _, rfl, vin (ei s) (by omega) (by decide), ?_⟩
        rw [vcl (ei s) (by omega), show z_cuts (o_M (S, o_M' O (mW (o_M O) K W (nI (wC m u (mcv O) (mmf O))) B bc bs)).snd) (6 * l + s) = nI (mC u (mcv O) (mmf O) (m - 1 - l) l s) from hK l s hl hs6]
        by_cases h0 : l = 0
        · subst h0
          refine ⟨fun _ => ?_, fun h => absurd (by decide) h⟩
          refine lpw gdX6_findWay 60 ⟨fun _ => J173, fun h => ?_⟩
          have h' : nI (mC u (mcv O) (mmf O) (m - 1 - 0) 0 s) + nI 0 = nI left := h
          rw [nI_add, Nat.add_zero, neqI (by omega) (by omega), ← hL, if_pos rfl, Nat.sub_zero] at h'
          exact absurd h' ((hw2.1 (by omega)).2.2 s hs)
        · obtain ⟨k, rfl⟩ : ∃ k, l = k + 1 := ⟨l - 1, by omega⟩
          have e1 : nI (k + 1) - 1 = nI k := nI_pred k
          obtain ⟨-, -, -, hno⟩ := hw2.2 k hl
          have hwk := (hw1 k (by omega)).2.1
          have hL' : left = mC u (mcv O) (mmf O) (m - 1 - k) k (w k) := by rw [← hL, if_neg (by omega), show k + 1 - 1 = k by omega]
          have J141 : ∀ x : Nat, x = (if w k = s then 0 else 1) → AW g mX6_findWay Post 0 0 141 [some (.ref 94), some (.int (nI u)), some (.int (nI m)), some (.int (nI left)), some (.int (nI (k + 1))), some (.int (nI s))] [.int (nI x), .int (nI (mC u (mcv O) (mmf O) (m - 1 - (k + 1)) (k + 1) s))] (lay (S, o_M' O (mW (o_M O) K W (nI (wC m u (mcv O) (mmf O))) B bc bs))) := by
            intro x hx
            have hx1 : x ≤ 1 := by rw [hx]; split <;> omega
            refine lpw gdX6_findWay 60 ⟨fun _ => J173, fun h => ⟨fun z => absurd ((nleI (b := 0) (by omega) (by omega)).mp z) (by omega), fun _ => ?_⟩⟩
            rw [nI_add, neqI (by omega) (by omega)] at h
            refine ⟨_, _, rfl, vin e1 (by omega) (by decide), ?_⟩
            rw [vcl e1 (by omega), show z_way (o_M (S, o_M' O (mW (o_M O) K W (nI (wC m u (mcv O) (mmf O))) B bc bs)).snd) k = nI (w k) from hW k (by omega)]
            refine ac_ar (by rw [e1]) (ac_to (am_mayFollow (g := g) (S := S) (O := o_M' O (mW (o_M O) K W (nI (wC m u (mcv O) (mmf O))) B bc bs)) (l := k) (s := w k) (t := s) (by omega) (by omega) (by omega)) ⟨fun z => ?_, fun _ => J173⟩)
            have z' : mmf O k (w k) s = true := by rw [bi_e0, Bool.not_eq_false] at z; exact z
            exact absurd ⟨z', by rw [← hx, h, hL']⟩ (hno s hs)
          refine ⟨fun h => absurd ((nleI (b := 0) (by omega) (by omega)).mp h) (by omega), fun _ => ?_⟩
          refine ⟨_, _, rfl, vin e1 (by omega) (by decide), ?_⟩
          rw [vcl e1 (by omega), show z_way (o_M (S, o_M' O (mW (o_M O) K W (nI (wC m u (mcv O) (mmf O))) B bc bs)).snd) k = nI (w k) from hW k (by omega)]
          refine ⟨fun h => J141 0 ?_, fun h => J141 1 ?_⟩
          · rw [if_pos ((neqI (by omega) (by omega)).mp h)]
          · rw [if_neg (fun z => h (by rw [z]))]
  generalize hP : (fun (r : Option Value) (h' : AH) => ∃ K W wc, h' = lay (S, o_M' O (mW (o_M O) K W wc B bc bs)) ∧ r = some (.int (bi (hasU n m u (mcv O) (mmf O)))) ∧ (hasU n m u (mcv O) (mmf O) = true → wc = nI (tk n m (mcv O) (mmf O) u) ∧ ∀ l, l < m → W l = nI (tw n m (mcv O) (mmf O) u l))) = Post at LW ⊢
  have hfin : ∀ (K W : Fn) (wc : Int32), hasU n m u (mcv O) (mmf O) = false → Post (some (.int 0)) (lay (S, o_M' O (mW (o_M O) K W wc B bc bs))) := by
    intro K W wc hh
    rw [← hP]
    exact ⟨K, W, wc, rfl, congrArg (fun z => some (Value.int z)) (bi_f hh).symm, fun z => by rw [hh] at z; cases z⟩
  refine acw gdX6_findWay 60 rfl ⟨_, _, rfl, vlit (j := 4) (by decide) (by decide), ?_⟩
  refine ac_mono (am_findCuts (g := g) (S := S) (O := o_M' O (mW (o_M O) K0 W0 wc0 B bc bs)) (K0 := K0) (W := W0) (wc := wc0) (B := B) (bc := bc) (bs := bs) hm h8 hu64) ?_
  rintro r h' ⟨rfl, K, hK, rfl⟩
  replace hK : ∀ l s, l < m → s < 6 → K (6 * l + s) = nI (mC u (mcv O) (mmf O) (m - 1 - l) l s) := hK
  have hm2 : z_now (o_M (S, o_M' O (mW (o_M O) K0 W0 wc0 B bc bs)).snd) (4 : Int32).toNatClampNeg = nI m := hm
  rw [hm2]
  by_cases h0 : m = 0
  · have hh : hasU n m u (mcv O) (mmf O) = true := by unfold hasU; simp [h0]
    have hwc : wC m u (mcv O) (mmf O) = 0 := if_pos h0
    have hl := LW K hK hh
    rw [hwc] at hl
    subst h0
    refine ⟨fun h => absurd rfl h, fun _ => ?_⟩
    refine lpw gdX6_findWay 60 ⟨fun h => absurd h (by decide), fun _ => ⟨fun _ => ?_, fun h => absurd (by decide) h⟩⟩
    refine ⟨fun _ => ?_, fun h => absurd (show (0 : Int32) < 1000 by decide) h⟩
    refine aw_hp ?_ (awl ?_ hl)
    · exact Lwc
    · rfl
  · have ew : wC m u (mcv O) (mmf O) = mnF (fun _ => true) (fun s => mC u (mcv O) (mmf O) (m - 1) 0 s) 1000 6 := if_neg h0
    have key := dn (n := 6) (P := fun s => AW g mX6_findWay Post 0 0 29 [some (.ref 94), some (.int (nI u)), some (.int (nI m)), some (.int (nI s)), none, none] [] (lay (S, o_M' O (mW (o_M O) K W0 (nI (mnF (fun _ => true) (fun s => mC u (mcv O) (mmf O) (m - 1) 0 s) 1000 s)) B bc bs)))) ?_ (fun s hs ih => ?_) 0 (Nat.zero_le _)
    · refine ⟨fun _ => ?_, fun h => absurd ((neqI (b := 0) (by omega) (by omega)).mp h) h0⟩
      exact aw_hp Lwc (awl rfl key)
    · rw [← ew]
      refine lpw gdX6_findWay 60 ⟨fun _ => ?_, fun h => absurd (by decide) h⟩
      refine ⟨fun h => ?_, fun h => ?_⟩
      · have h' := (nltI (b := 1000) (by omega) (by omega)).mp h
        have hh : hasU n m u (mcv O) (mmf O) = true := by rw [hHW]; exact decide_eq_true h'
        exact awl rfl (LW K hK hh)
      · have hh : hasU n m u (mcv O) (mmf O) = false := by
          rw [hHW]
          exact decide_eq_false (fun z => h ((nltI (b := 1000) (by omega) (by omega)).mpr z))
        exact ⟨rfl, hfin _ _ _ hh⟩
    · have hmn := mnF_le (p := fun _ => true) (c := fun s => mC u (mcv O) (mmf O) (m - 1) 0 s) (X := 1000) s
      have hmc := mC_le (u := u) (cv := mcv O) (mf := mmf O) (m - 1) 0 s
      generalize hq : mnF (fun _ => true) (fun s => mC u (mcv O) (mmf O) (m - 1) 0 s) 1000 s = q at hmn ⊢
      have eq1 : mnF (fun _ => true) (fun s => mC u (mcv O) (mmf O) (m - 1) 0 s) 1000 (s + 1) = if mC u (mcv O) (mmf O) (m - 1) 0 s < q then mC u (mcv O) (mmf O) (m - 1) 0 s else q := by
        rw [← hq]
        show (if _ then _ else _) = _
        by_cases h : mC u (mcv O) (mmf O) (m - 1) 0 s < mnF (fun _ => true) (fun s => mC u (mcv O) (mmf O) (m - 1) 0 s) 1000 s
        · rw [if_pos h, if_pos (by simp [h])]
        · rw [if_neg h, if_neg (by simp [h])]
      have J66 : ∀ v : Int32, v = nI (mnF (fun _ => true) (fun s => mC u (mcv O) (mmf O) (m - 1) 0 s) 1000 (s + 1)) → AW g mX6_findWay Post 0 0 66 [some (.ref 94), some (.int (nI u)), some (.int (nI m)), some (.int (nI s)), none, none] [.int v, .ref 94] (lay (S, o_M' O (mW (o_M O) K W0 (nI q) B bc bs))) := by
        intro v hv
        subst hv
        exact lpw gdX6_findWay 60 (aw_hp Lwc (awl (by rw [← nI_1]; rfl) ih))
      have hK0 : K s = nI (mC u (mcv O) (mmf O) (m - 1) 0 s) := by
        have := hK 0 s (by omega) hs
        rw [Nat.mul_zero, Nat.zero_add, Nat.sub_zero] at this
        exact this
      refine lpw gdX6_findWay 60 ⟨fun h => absurd h (nge (n := 6) (by omega) (by omega)), fun _ => ⟨fun h => absurd ((nleI (b := 0) (by omega) (by omega)).mp h) (by omega), fun _ => ?_⟩⟩
      refine ⟨_, _, rfl, vlit (by omega) (by decide), ?_⟩
      rw [vcl (x := nI s) rfl (by omega), show z_cuts (o_M (S, o_M' O (mW (o_M O) K W0 (nI q) B bc bs)).snd) s = nI (mC u (mcv O) (mmf O) (m - 1) 0 s) from hK0]
      refine ⟨fun h => ?_, fun h => ?_⟩
      · have h' : ¬ mC u (mcv O) (mmf O) (m - 1) 0 s < q := by
          have := (nleI (by omega) (by omega)).mp h
          omega
        refine J66 _ ?_
        rw [eq1, if_neg h']
      · have h' : mC u (mcv O) (mmf O) (m - 1) 0 s < q := by
          apply Nat.lt_of_not_le
          intro z
          exact h ((nleI (by omega) (by omega)).mpr z)
        refine ⟨_, _, rfl, vlit (by omega) (by decide), ?_⟩
        rw [vcl (x := nI s) rfl (by omega), show z_cuts (o_M (S, o_M' O (mW (o_M O) K W0 (nI q) B bc bs)).snd) s = nI (mC u (mcv O) (mmf O) (m - 1) 0 s) from hK0]
        refine J66 _ ?_
        rw [eq1, if_pos h']
end FW
