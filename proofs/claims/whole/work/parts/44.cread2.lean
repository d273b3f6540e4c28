/-- the class's draft beside the numbers -/
def DC (Dc : Scn) (D : Dr) : Prop := s_nl Dc = nI D.2.2.2.1 ∧ s_ns Dc = nI D.2.2.2.2 ∧ (∀ i, i < 4 → s_pl Dc i = nI (D.1 i)) ∧ (∀ l, l < D.2.2.2.1 → s_sp Dc l = nI (D.2.1 l)) ∧ (∀ i, i < 7 * D.2.2.2.2 → s_fc Dc i = nI (D.2.2.1 i)) ∧ (∀ l, l < 8 → s_ed Dc l = -9)
theorem tW_1 {c : Nat → Nat} {t p : Nat} : tW c t p = 1003 ↔ (tK c t p = 1 ∧ isW c wPl (tS c t p) (tE c t p - tS c t p) = true) := by
  unfold tW
  constructor
  · intro h
    split at h
    · omega
    · split at h
      · rename_i h1
        split at h
        · rename_i h2; exact ⟨h1, h2⟩
        · split at h
          · omega
          · split at h <;> omega
      · split at h
        · omega
        · split at h <;> omega
  · rintro ⟨h1, h2⟩
    rw [if_neg (by omega), if_pos h1, if_pos h2]
theorem tW_2 {c : Nat → Nat} {t p : Nat} : tW c t p = 1004 ↔ (tK c t p = 1 ∧ ¬ isW c wPl (tS c t p) (tE c t p - tS c t p) = true ∧ isW c wLi (tS c t p) (tE c t p - tS c t p) = true) := by
  unfold tW
  constructor
  · intro h
    split at h
    · omega
    · split at h
      · rename_i h1
        split at h
        · omega
        · rename_i h2
          split at h
          · rename_i h3; exact ⟨h1, h2, h3⟩
          · split at h <;> omega
      · split at h
        · omega
        · split at h <;> omega
  · rintro ⟨h1, h2, h3⟩
    rw [if_neg (by omega), if_pos h1, if_neg h2, if_pos h3]
theorem tW_3 {c : Nat → Nat} {t p : Nat} : tW c t p = 1005 ↔ (tK c t p = 1 ∧ ¬ isW c wPl (tS c t p) (tE c t p - tS c t p) = true ∧ ¬ isW c wLi (tS c t p) (tE c t p - tS c t p) = true ∧ isW c wSh (tS c t p) (tE c t p - tS c t p) = true) := by
  unfold tW
  constructor
  · intro h
    split at h
    · omega
    · split at h
      · rename_i h1
        split at h
        · omega
        · rename_i h2
          split at h
          · omega
          · rename_i h3
            split at h
            · rename_i h4; exact ⟨h1, h2, h3, h4⟩
            · omega
      · split at h
        · omega
        · split at h <;> omega
  · rintro ⟨h1, h2, h3, h4⟩
    rw [if_neg (by omega), if_pos h1, if_neg h2, if_neg h3, if_pos h4]
section CS
variable {g : Glob} {S : Scn} {O : Oth} {c : Nat → Nat} {t : Nat}
theorem ac_readShot {Dc : Scn} {k a pt lt : Int32} {p n : Nat} (hT : TX (o_R O) c t) (hp : p ≤ t) (hn : s_ns Dc = nI n) (h6 : n < 6) : AC g mX2_readShot [.ref 53, .ref 6] (lay (S, rO O Dc k a (nI p) pt lt)) (fun r h' => ∃ f x k' a' b', h' = lay (S, rO O (s_ns' (s_fc' Dc f) x) k' a' b' pt lt) ∧ (match shA c t p with
    | .inl q => r = some (.int 0) ∧ a' = nI q
    | .inr q => r = some (.int 1) ∧ b' = nI q ∧ x = nI (n + 1) ∧ (∀ i, i < 7 * n → f i = s_fc Dc i) ∧ ∀ i, i < 7 → f (7 * n + i) = nI (vlA c t p i))) := by
  have TX' : ∀ Dc k a b pt lt, TX (o_R (rO O Dc k a b pt lt)) c t := fun _ _ _ _ _ _ => hT
  have h160 := hT.2.1
  generalize hPo : (fun (r : Option Value) (h' : AH) => ∃ f x k' a' b', h' = lay (S, rO O (s_ns' (s_fc' Dc f) x) k' a' b' pt lt) ∧ (match shA c t p with
    | .inl q => r = some (.int 0) ∧ a' = nI q
    | .inr q => r = some (.int 1) ∧ b' = nI q ∧ x = nI (n + 1) ∧ (∀ i, i < 7 * n → f i = s_fc Dc i) ∧ ∀ i, i < 7 → f (7 * n + i) = nI (vlA c t p i))) = Post
  have PF : ∀ (f : Fn) (x k a b : Int32) (q : Nat), shA c t p = .inl q → a = nI q → Post (some (.int 0)) (lay (S, rO O (s_ns' (s_fc' Dc f) x) k a b pt lt)) := fun f x k a b q h1 h2 => by
    rw [← hPo]
    refine ⟨f, x, k, a, b, rfl, ?_⟩
    rw [h1]
    exact ⟨rfl, h2⟩
  have eb : s_ns Dc * 7 = nI (7 * n) := by rw [hn, nlit, pk_mul, Nat.mul_comm]
  have key := dn (n := 7) (P := fun i => ∀ (f : Fn) (k a : Int32), (∀ j, j < 7 * n → f j = s_fc Dc j) → (∀ j, j < i → f (7 * n + j) = nI (vlA c t p j)) → (∀ j, j < i → fgA c t (loA c t p j) (hiA j) (itA c t p j) = true) → AW g mX2_readShot Post 0 0 10 [some (.ref 53), some (.ref 6), some (.int (nI (7 * n))), some (.int (nI i)), none] [] (lay (S, rO O (s_fc' Dc f) k a (nI (itA c t p i)) pt lt))) ?_ (fun i hi ih => ?_) 0 (Nat.zero_le _)
  · refine acw gdX2_readShot 60 rfl (awl ?_ (key (s_fc Dc) k a (fun j hj => rfl) (fun j hj => absurd hj (by omega)) (fun j hj => absurd hj (by omega))))
    rw [← eb]
    rfl
  · intro f k a hf0 hf hok
    refine lpw gdX2_readShot 60 ⟨fun _ => ac_hp Ld6 ?_, fun h => absurd (by decide) h⟩
    have e1 : shA c t p = stA c t (itA c t p 7) := by
      unfold shA
      rw [ff_al 7 hok]
    have en : s_ns Dc + 1 = nI (n + 1) := by rw [hn, nI_1]
    refine ac_to (ac_stepToStop (g := g) (S := S) (O := rO O (s_ns' (s_fc' Dc f) (s_ns Dc + 1)) k a (nI (itA c t p 7)) pt lt) (p := itA c t p 7) (TX' _ _ _ _ _ _) rfl (it_le hp 7)) ⟨bi_n _, ?_⟩
    rw [← hPo]
    refine ⟨f, s_ns Dc + 1, _, _, _, rfl, ?_⟩
    rw [e1]
    unfold stA
    by_cases h3 : tK c t (itA c t p 7) = 3
    · rw [if_pos h3]
      exact ⟨congrArg (fun z => some (Value.int z)) (bi_t (by simp [h3])), rfl, en, hf0, hf⟩
    · rw [if_neg h3]
      exact ⟨congrArg (fun z => some (Value.int z)) (bi_f (by simp [h3])), rfl⟩
  · intro f k a hf0 hf hok
    have hit := it_le (c := c) hp i
    have hS := tS_le (c := c) hit
    have ei : nI (7 * n) + nI i = nI (7 * n + i) := nI_add _ _
    have hlo : loA c t p i ≤ 9 := by
      unfold loA
      split
      · rename_i h5
        have h1 := (fg_v (hok 4 (by omega))).2.1
        exact Nat.le_trans h1 (hi_9 4)
      · split <;> omega
    have J37 : ∀ x : Int32, x = nI (loA c t p i) → AW g mX2_readShot Post 0 0 37 [some (.ref 53), some (.ref 6), some (.int (nI (7 * n))), some (.int (nI i)), none] [.int x] (lay (S, rO O (s_fc' Dc f) k a (nI (itA c t p i)) pt lt)) := by
      intro x hx
      subst hx
      refine lpw gdX2_readShot 60 ⟨_, _, rfl, vlit hi (by decide), ?_⟩
      rw [vcl (x := nI i) rfl (by omega), hi_tab i hi]
      refine ac_to (ac_stepToFigure (g := g) (S := S) (O := rO O (s_fc' Dc f) k a (nI (itA c t p i)) pt lt) (p := itA c t p i) (lo := loA c t p i) (hi := hiA i) (TX' _ _ _ _ _ _) rfl hit hlo (hi_9 i)) ⟨fun h => ?_, fun h => ?_⟩
      · have h' : fgA c t (loA c t p i) (hiA i) (itA c t p i) = true := by rw [bi_e0, Bool.not_eq_false] at h; exact h
        have hv := fg_v h'
        have hlt : tS c t (itA c t p i) < t := by
          refine tS_lt (fun z => ?_)
          unfold fgA at h'
          rw [z] at h'
          simp at h'
        obtain ⟨hc1, hc2⟩ := hT.2.2 _ hlt
        refine ⟨_, _, rfl, vlit (by omega) (by decide), ?_⟩
        refine ⟨_, _, rfl, vin ei (by omega) (by decide), ?_⟩
        rw [vcl (x := nI (tS c t (itA c t p i))) rfl (by omega), vcl ei (by omega), show r_t (o_R (S, rO O (s_fc' Dc f) (nI (tK c t (itA c t p i))) (nI (tS c t (itA c t p i))) (nI (tE c t (itA c t p i))) pt lt).snd) (tS c t (itA c t p i)) = _ from hc1]
        refine aw_hp Ldfc ?_
        rw [show nI (c (tS c t (itA c t p i))) - 48 = nI (vlA c t p i) from sub48 hv.2.2]
        refine awf ?_ (ih (upd f (7 * n + i) (nI (vlA c t p i))) (nI (tK c t (itA c t p i))) (nI (tS c t (itA c t p i))) (fun j hj => ?_) (fun j hj => ?_) (fun j hj => ?_))
        · rw [← nI_1]
          exact ⟨rfl, rfl, rfl, rfl, trivial⟩
        · rw [pk_un (by omega)]; exact hf0 j hj
        · by_cases hji : j = i
          · subst hji; rw [pk_us]
          · rw [pk_un (by omega)]; exact hf j (by omega)
        · by_cases hji : j = i
          · subst hji; exact h'
          · exact hok j (by omega)
      · have h' : fgA c t (loA c t p i) (hiA i) (itA c t p i) = false := (bi_e0 _).mp h
        refine ⟨rfl, PF f (s_ns Dc) _ _ _ (tS c t (itA c t p i)) ?_ rfl⟩
        unfold shA
        rw [ff_at (ok := fun k => fgA c t (loA c t p k) (hiA k) (itA c t p k)) hok h' 7 hi]
    refine lpw gdX2_readShot 60 ⟨fun h => absurd h (nge (n := 7) (by omega) (by omega)), fun _ => ⟨fun h => ?_, fun h => ?_⟩⟩
    · have h5 : i ≠ 5 := fun z => h (by rw [z]; rfl)
      refine ⟨_, _, rfl, vlit hi (by decide), ?_⟩
      rw [vcl (x := nI i) rfl (by omega), lo_tab i hi h5]
      refine J37 _ ?_
      unfold loA
      rw [if_neg h5]
    · have h5 : i = 5 := (neqI (b := 5) (by omega) (by omega)).mp h
      have e4 : nI (7 * n) + 4 = nI (7 * n + 4) := nI_add _ _
      refine ⟨_, _, rfl, vin e4 (by omega) (by decide), ?_⟩
      rw [vcl e4 (by omega)]
      refine J37 _ ?_
      unfold loA
      rw [if_pos h5]
      exact hf 4 (by omega)
theorem ac_startAnewD : ACe g mX3_startAnew [.ref 6] (lay (S, O)) none (lay (S, o_D' O (upd (upd (upd (upd (s_pl (o_D O)) 0 3) 1 5) 2 6) 3 5, s_sp (o_D O), va_cpy (fun _ => -9) (s_ed (o_D O)) 0 0 8, s_fc (o_D O), 0, 0))) := by
  have key := dn (n := 8) (P := fun i => ∀ f : Fn, AW g mX3_startAnew (fun r h' => r = none ∧ h' = lay (S, o_D' O (f, s_sp (o_D O), va_cpy (fun _ => -9) (s_ed (o_D O)) 0 0 8, s_fc (o_D O), 0, 0))) 0 0 31 [some (.ref 6), some (.int (nI i))] [] (lay (S, o_D' O (f, s_sp (o_D O), va_cpy (fun _ => -9) (s_ed (o_D O)) 0 0 i, s_fc (o_D O), s_nl (o_D O), s_ns (o_D O))))) ?_ (fun i hi ih => ?_) 0 (Nat.zero_le _)
  · have key := key (upd (upd (upd (upd (s_pl (o_D O)) 0 3) 1 5) 2 6) 3 5)
    rw [cpy_0] at key
    refine acw gdX3_startAnew 60 rfl ?_
    refine ⟨_, _, rfl, vlit (j := 0) (by decide) (by decide), ?_⟩
    refine ⟨_, _, rfl, vlit (j := 1) (by decide) (by decide), ?_⟩
    refine ⟨_, _, rfl, vlit (j := 2) (by decide) (by decide), ?_⟩
    refine ⟨_, _, rfl, vlit (j := 3) (by decide) (by decide), ?_⟩
    refine aw_hp ?_ key
    show List.set (List.set (List.set (List.set (lay (S, O)) 7 _) 7 _) 7 _) 7 (ia 4 (upd (upd (upd (upd (s_pl (o_D O)) 0 3) 1 5) 2 6) 3 5)) = _
    rw [List.set_set, List.set_set, List.set_set]
    exact Ldpl
  · intro f
    refine lpw gdX3_startAnew 60 ⟨fun _ => ⟨rfl, ?_⟩, fun h => absurd (by decide) h⟩
    generalize va_cpy (fun _ => -9) (s_ed (o_D O)) 0 0 8 = E
    show List.set (List.set (lay (S, o_D' O (f, s_sp (o_D O), E, s_fc (o_D O), s_nl (o_D O), s_ns (o_D O)))) 6 _) 6 (.inr (3, [.ref 7, .ref 8, .ref 9, .ref 10, .int 0, .int 0])) = _
    rw [List.set_set]
    exact Ld6
  · intro f
    have e1 := cpy_step (f := fun _ => -9) (t := s_ed (o_D O)) (i := 0) (j := 0) (k := i)
    rw [Nat.zero_add] at e1
    have ih := ih f
    rw [← e1] at ih
    refine lpw gdX3_startAnew 60 ⟨fun h => absurd h (nge (n := 8) (by omega) (by omega)), fun _ => ?_⟩
    refine ⟨_, _, rfl, vlit (by omega) (by decide), ?_⟩
    rw [vcl (x := nI i) rfl (by omega)]
    exact aw_hp Lded (awl (by rw [← nI_1]; rfl) ih)
/-- what readItem leaves -/
def RIP (S : Scn) (O : Oth) (R : Nat ⊕ (Bool × Bool × Dr × Nat)) (r : Option Value) (h' : AH) : Prop := ∃ Dc k a b pt lt, h' = lay (S, rO O Dc k a b pt lt) ∧ (match R with
    | .inl f => r = some (.int 0) ∧ a = nI f
    | .inr (pt2, lt2, D2, q) => r = some (.int 1) ∧ b = nI q ∧ pt = bi pt2 ∧ lt = bi lt2 ∧ DC Dc D2)
theorem ac_readItem {Dc : Scn} {D : Dr} {pt lt : Bool} {p : Nat} (hT : TX (o_R O) c t) (hp : p ≤ t) (hD : DC Dc D) (hOk : DOk D) : AC g mX2_readItem [.ref 53, .ref 6] (lay (S, rO O Dc (nI (tK c t p)) (nI (tS c t p)) (nI (tE c t p)) (bi pt) (bi lt))) (RIP S O (itm c t pt lt D p)) := by
  have hS := tS_le (c := c) hp
  have hE := tE_le (c := c) hp
  have k4 : tK c t p ≤ 4 := kd_4 (c := c) (t := t) _
  have hSE : tS c t p ≤ tE c t p := by
    by_cases h0 : tK c t p = 0
    · unfold tE; rw [if_pos h0]; exact Nat.le_refl _
    · exact Nat.le_of_lt (tE_gt h0)
  have TX' : TX (o_R (rO O Dc (nI (tK c t p)) (nI (tS c t p)) (nI (tE c t p)) (bi pt) (bi lt))) c t := hT
  have W1 := ac_isWord (g := g) (S := S) (O := rO O Dc (nI (tK c t p)) (nI (tS c t p)) (nI (tE c t p)) (bi pt) (bi lt)) (w := wPl) (Or.inl rfl) aj_length0 aj_at0 (by decide) (fun i => wPl_l) TX' (s := tS c t p) (e := tE c t p) (q := tK c t p) rfl rfl rfl k4 hSE hE
  have W2 := ac_isWord (g := g) (S := S) (O := rO O Dc (nI (tK c t p)) (nI (tS c t p)) (nI (tE c t p)) (bi pt) (bi lt)) (w := wLi) (Or.inr (Or.inl rfl)) aj_length1 aj_at1 (by decide) (fun i => wLi_l) TX' (s := tS c t p) (e := tE c t p) (q := tK c t p) rfl rfl rfl k4 hSE hE
  have W3 := ac_isWord (g := g) (S := S) (O := rO O Dc (nI (tK c t p)) (nI (tS c t p)) (nI (tE c t p)) (bi pt) (bi lt)) (w := wSh) (Or.inr (Or.inr rfl)) aj_length2 aj_at2 (by decide) (fun i => wSh_l) TX' (s := tS c t p) (e := tE c t p) (q := tK c t p) rfl rfl rfl k4 hSE hE
  have PF : itm c t pt lt D p = .inl (tS c t p) → RIP S O (itm c t pt lt D p) (some (.int 0)) (lay (S, rO O Dc (nI (tK c t p)) (nI (tS c t p)) (nI (tE c t p)) (bi pt) (bi lt))) := fun h => by
    rw [h]
    exact ⟨Dc, _, _, _, _, _, rfl, rfl, rfl⟩
  refine acw gdX2_readItem 60 rfl (ac_to W1 ⟨fun h => ?_, fun h => ?_⟩)
  · -- not players
    have h1 : ¬ tW c t p = 1003 := fun z => by
      have z := tW_1.mp z
      have h := (bi_e0 _).mp h
      rw [z.2, z.1] at h
      cases h
    refine ac_to W2 ⟨fun h => ?_, fun h => ?_⟩
    · have h2 : ¬ tW c t p = 1004 := fun z => by
        have z := tW_2.mp z
        have h := (bi_e0 _).mp h
        rw [z.2.2, z.1] at h
        cases h
      refine ac_to W3 ⟨fun h => ?_, fun h => ?_⟩
      · have h3 : ¬ tW c t p = 1005 := fun z => by
          have z := tW_3.mp z
          have h := (bi_e0 _).mp h
          rw [z.2.2.2, z.1] at h
          cases h
        refine ⟨rfl, PF ?_⟩
        unfold itm
        rw [if_neg h1, if_neg h2, if_neg (fun z => h3 z.1)]
      · rw [bi_e0, Bool.not_eq_false, Bool.and_eq_true, decide_eq_true_eq] at h
        have h3 : tW c t p = 1005 := by
          refine tW_3.mpr ⟨h.1, fun z => h1 (tW_1.mpr ⟨h.1, z⟩), fun z => h2 (tW_2.mpr ⟨h.1, fun y => h1 (tW_1.mpr ⟨h.1, y⟩), z⟩), h.2⟩
        have hns : s_ns Dc = nI D.2.2.2.2 := hD.2.1
        have h6 := hOk.2.1
        refine ⟨fun h7 => ?_, fun h7 => ?_⟩
        · have h7 : (6 : Int32) ≤ s_ns Dc := h7
          rw [hns] at h7
          have h7 := (nleI (a := 6) (by omega) (by omega)).mp h7
          refine ⟨rfl, PF ?_⟩
          unfold itm
          rw [if_neg h1, if_neg h2, if_neg (fun z => by omega)]
        · have h7 : ¬ (6 : Int32) ≤ s_ns Dc := h7
          rw [hns] at h7
          have h7 : ¬ 6 ≤ D.2.2.2.2 := fun z => h7 ((nleI (a := 6) (by omega) (by omega)).mpr z)
          refine ac_mono (ac_readShot (g := g) (S := S) (O := O) hT hE hns (by omega)) ?_
          rintro r h' ⟨f, x, k', a', b', rfl, hm⟩
          have ei : itm c t pt lt D p = (match shA c t (tE c t p) with
            | .inl f => .inl f
            | .inr q => .inr (pt, lt, (D.1, D.2.1, fun i => if i < 7 * D.2.2.2.2 then D.2.2.1 i else vlA c t (tE c t p) (i - 7 * D.2.2.2.2), D.2.2.2.1, D.2.2.2.2 + 1), q)) := by
            unfold itm
            rw [if_neg h1, if_neg h2, if_pos ⟨h3, by omega⟩]
            cases shA c t (tE c t p) <;> rfl
          rw [ei]
          cases hs : shA c t (tE c t p) with
          | inl q =>
            rw [hs] at hm
            obtain ⟨rfl, rfl⟩ := hm
            exact ⟨fun _ => ⟨rfl, _, _, _, _, _, _, rfl, rfl, rfl⟩, fun h => absurd rfl h⟩
          | inr q =>
            rw [hs] at hm
            obtain ⟨rfl, rfl, rfl, hf0, hf⟩ := hm
            refine ⟨fun h => absurd h n01, fun _ => ⟨rfl, _, _, _, _, _, _, rfl, rfl, rfl, rfl, rfl, hD.1, rfl, hD.2.2.1, hD.2.2.2.1, fun i hi => ?_, hD.2.2.2.2.2⟩⟩
            show f i = nI (if i < 7 * D.2.2.2.2 then D.2.2.1 i else vlA c t (tE c t p) (i - 7 * D.2.2.2.2))
            have hi : i < 7 * (D.2.2.2.2 + 1) := hi
            by_cases hi' : i < 7 * D.2.2.2.2
            · rw [if_pos hi', hf0 i hi']; exact hD.2.2.2.2.1 i hi'
            · rw [if_neg hi']
              have := hf (i - 7 * D.2.2.2.2) (by omega)
              rw [show 7 * D.2.2.2.2 + (i - 7 * D.2.2.2.2) = i by omega] at this
              exact this
    · rw [bi_e0, Bool.not_eq_false, Bool.and_eq_true, decide_eq_true_eq] at h
      have h2 : tW c t p = 1004 := tW_2.mpr ⟨h.1, fun z => h1 (tW_1.mpr ⟨h.1, z⟩), h.2⟩
      refine ⟨fun h7 => ?_, fun h7 => ?_⟩
      · have h7 : ¬ bi lt = 0 := h7
        rw [bi_e0, Bool.not_eq_false] at h7
        refine ⟨rfl, PF ?_⟩
        unfold itm
        rw [if_neg h1, if_pos h2, if_pos h7]
      · have h7 : bi lt = 0 := h7
        rw [bi_e0] at h7
        refine ac_mono (ac_readLines (g := g) (S := S) (O := O) hT hE) ?_
        rintro r h' ⟨f, x, k', a', b', rfl, hm⟩
        have ei : itm c t pt lt D p = (match liA c t (tE c t p) with
            | .inl f => .inl f
            | .inr q => .inr (pt, true, (D.1, fun l => c (tS c t (tE c t p) + l) - 48, D.2.2.1, tE c t (tE c t p) - tS c t (tE c t p), D.2.2.2.2), q)) := by
          unfold itm
          rw [if_neg h1, if_pos h2, if_neg (by rw [h7]; decide)]
          cases liA c t (tE c t p) <;> rfl
        rw [ei]
        cases hs : liA c t (tE c t p) with
        | inl q =>
          rw [hs] at hm
          obtain ⟨rfl, rfl⟩ := hm
          exact ⟨fun _ => ⟨rfl, _, _, _, _, _, _, rfl, rfl, rfl⟩, fun h => absurd rfl h⟩
        | inr q =>
          rw [hs] at hm
          obtain ⟨rfl, rfl, rfl, hf⟩ := hm
          exact ⟨fun h => absurd h n01, fun _ => ⟨rfl, _, _, _, _, _, _, rfl, rfl, rfl, rfl, rfl, rfl, hD.2.1, hD.2.2.1, hf, hD.2.2.2.2.1, hD.2.2.2.2.2⟩⟩
  · rw [bi_e0, Bool.not_eq_false, Bool.and_eq_true, decide_eq_true_eq] at h
    have h1 : tW c t p = 1003 := tW_1.mpr h
    refine ⟨fun h7 => ?_, fun h7 => ?_⟩
    · have h7 : ¬ bi pt = 0 := h7
      rw [bi_e0, Bool.not_eq_false] at h7
      refine ⟨rfl, PF ?_⟩
      unfold itm
      rw [if_pos h1, if_pos h7]
    · have h7 : bi pt = 0 := h7
      rw [bi_e0] at h7
      refine ac_mono (ac_readPlayers (g := g) (S := S) (O := O) hT hE) ?_
      rintro r h' ⟨f, k', a', b', rfl, hm⟩
      have ei : itm c t pt lt D p = (match plA c t (tE c t p) with
            | .inl f => .inl f
            | .inr q => .inr (true, lt, (fun i => vlA c t (tE c t p) i, D.2.1, D.2.2.1, D.2.2.2.1, D.2.2.2.2), q)) := by
        unfold itm
        rw [if_pos h1, if_neg (by rw [h7]; decide)]
        cases plA c t (tE c t p) <;> rfl
      rw [ei]
      cases hs : plA c t (tE c t p) with
      | inl q =>
        rw [hs] at hm
        obtain ⟨rfl, rfl⟩ := hm
        exact ⟨fun _ => ⟨rfl, _, _, _, _, _, _, rfl, rfl, rfl⟩, fun h => absurd rfl h⟩
      | inr q =>
        rw [hs] at hm
        obtain ⟨rfl, rfl, hf⟩ := hm
        exact ⟨fun h => absurd h n01, fun _ => ⟨rfl, _, _, _, _, _, _, rfl, rfl, rfl, rfl, rfl, hD.1, hD.2.1, hf, hD.2.2.2.1, hD.2.2.2.2.1, hD.2.2.2.2.2⟩⟩
/-- what readInto leaves -/
def RTP (S : Scn) (O : Oth) (R : Nat ⊕ (Nat × Dr)) (r : Option Value) (h' : AH) : Prop := ∃ Dc k a b pt lt, h' = lay (S, rO O Dc k a b pt lt) ∧ (match R with
    | .inl f => r = some (.int (-10 - nI f))
    | .inr (i, D2) => r = some (.int (nI i)) ∧ DC Dc D2)
theorem ac_readInto (hT : TX (o_R O) c t) : AC g mX2_readInto [.ref 53, .ref 6] (lay (S, O)) (RTP S O (psA c t 9 0 false false D0 0)) := by
  have TX' : ∀ Dc k a b pt lt, TX (o_R (rO O Dc k a b pt lt)) c t := fun _ _ _ _ _ _ => hT
  have key : ∀ (k i : Nat) (pt lt : Bool) (D : Dr) (p : Nat) (Dc : Scn) (kd a : Int32), i + k = 9 → p ≤ t → DC Dc D → DOk D → b2n pt + b2n lt + D.2.2.2.2 = i → psA c t k i pt lt D p = psA c t 9 0 false false D0 0 → AW g mX2_readInto (RTP S O (psA c t 9 0 false false D0 0)) 0 0 21 [some (.ref 53), some (.ref 6), some (.int (nI i))] [] (lay (S, rO O Dc kd a (nI p) (bi pt) (bi lt))) := by
    intro k
    induction k with
    | zero =>
      intro i pt lt D p Dc kd a h1 hp hD hOk hc
      have := b2n_1 pt
      have := b2n_1 lt
      have := hOk.2.1
      omega
    | succ k ih =>
      intro i pt lt D p Dc kd a h1 hp hD hOk hc hps
      refine lpw gdX2_readInto 60 ⟨fun h => absurd ((nltI (a := 8) (by omega) (by omega)).mp h) (by omega), fun _ => ?_⟩
      refine ac_to (ac_step (g := g) (S := S) (O := rO O Dc kd a (nI p) (bi pt) (bi lt)) (p := p) (TX' _ _ _ _ _ _) rfl hp) ?_
      have k4 : tK c t p ≤ 4 := kd_4 (c := c) (t := t) _
      unfold psA at hps
      refine ⟨fun h => ?_, fun h => ?_⟩
      · have h0 : ¬ tK c t p = 0 := fun z => h (by show nI (tK c t p) = 0; rw [z]; rfl)
        rw [if_neg h0] at hps
        refine ac_mono (ac_readItem (g := g) (S := S) (O := O) (pt := pt) (lt := lt) hT hp hD hOk) ?_
        rintro r h' ⟨Dc', k', a', b', pt', lt', rfl, hm⟩
        cases hi : itm c t pt lt D p with
        | inl f =>
          rw [hi] at hm hps
          obtain ⟨rfl, rfl⟩ := hm
          refine ⟨fun h => absurd rfl h, fun _ => ?_⟩
          refine ⟨Dc', _, _, _, _, _, rfl, ?_⟩
          rw [← show Sum.inl f = psA c t 9 0 false false D0 0 from hps]
        | inr z =>
          obtain ⟨pt2, lt2, D2, q⟩ := z
          rw [hi] at hm hps
          obtain ⟨rfl, rfl, rfl, rfl, hD2⟩ := hm
          have hk := itm_ok hp hOk hi
          refine ⟨fun _ => ?_, fun h => absurd h n01⟩
          refine awl (by rw [← nI_1]; rfl) (ih (i + 1) pt2 lt2 D2 q Dc' k' a' (by omega) hk.1 hD2 hk.2.1 (by omega) hps)
      · have h0 : tK c t p = 0 := (neqI (b := 0) (by omega) (by omega)).mp h
        rw [if_pos h0] at hps
        refine ⟨Dc, _, _, _, _, _, rfl, ?_⟩
        rw [← show Sum.inr (i, D) = psA c t 9 0 false false D0 0 from hps]
        exact ⟨rfl, hD⟩
  refine acw gdX2_readInto 60 rfl (ac_to ac_startAnewD ?_)
  generalize hE : va_cpy (fun _ => -9) (s_ed (o_D O)) 0 0 8 = E
  have hE8 : ∀ l, l < 8 → E l = -9 := fun l hl => by rw [← hE, pk_cpy_in (by omega) (by omega)]
  refine ⟨Or.inl rfl, Or.inl rfl, ?_⟩
  refine aw_hp ?_ (key 9 0 false false D0 0 (upd (upd (upd (upd (s_pl (o_D O)) 0 3) 1 5) 2 6) 3 5, s_sp (o_D O), E, s_fc (o_D O), 0, 0) (r_kd (o_R O)) (r_st (o_R O)) rfl (Nat.zero_le _) ⟨rfl, rfl, fun i hi => ?_, fun l hl => absurd hl (Nat.not_lt_zero _), fun i hi => absurd hi (Nat.not_lt_zero _), hE8⟩ ⟨by decide, by decide, by decide, fun i hi => absurd hi (Nat.not_lt_zero _)⟩ rfl rfl)
  · show List.set (List.set (List.set (lay _) 53 _) 53 _) 53 (.inr (2, [.ref 54, .int (r_len (o_R O)), .int (r_kd (o_R O)), .int (r_st (o_R O)), .int 0, .int 0, .int 0])) = _
    rw [List.set_set, List.set_set]
    exact Lrd
  · rcases (show i = 0 ∨ i = 1 ∨ i = 2 ∨ i = 3 by omega) with rfl | rfl | rfl | rfl <;> rfl
end CS
