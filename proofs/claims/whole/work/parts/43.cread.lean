/-! ===== the class reads a text into its draft ===== -/
abbrev rO (O : Oth) (Dc : Scn) (k a b pt lt : Int32) : Oth := o_R' (o_D' O Dc) (r_t (o_R O), r_len (o_R O), k, a, b, pt, lt)
theorem lo_tab : ∀ j : Nat, j < 7 → j ≠ 5 → ([0, 0, 0, 1, 0, 0, 1] : List Int32).getD j 0 = nI (if j = 3 ∨ j = 6 then 1 else 0) := by decide
theorem hi_tab : ∀ j : Nat, j < 7 → ([9, 9, 2, 5, 7, 7, 9] : List Int32).getD j 0 = nI (hiA j) := by decide
section CR
variable {g : Glob} {S : Scn} {O : Oth} {c : Nat → Nat} {t : Nat}
set_option maxRecDepth 10000 in
theorem Ldpl {f : Fn} : (lay (S, O)).set 7 (ia 4 f) = lay (S, o_D' O (s_pl' (o_D O) f)) := by rfl
set_option maxRecDepth 10000 in
theorem Ldsp {f : Fn} : (lay (S, O)).set 8 (ia 8 f) = lay (S, o_D' O (s_sp' (o_D O) f)) := by rfl
set_option maxRecDepth 10000 in
theorem Lded {f : Fn} : (lay (S, O)).set 9 (ia 8 f) = lay (S, o_D' O (s_ed' (o_D O) f)) := by rfl
set_option maxRecDepth 10000 in
theorem Ldfc {f : Fn} : (lay (S, O)).set 10 (ia 42 f) = lay (S, o_D' O (s_fc' (o_D O) f)) := by rfl
set_option maxRecDepth 10000 in
theorem Ld6 {x y : Int32} : (lay (S, O)).set 6 (.inr (3, [.ref 7, .ref 8, .ref 9, .ref 10, .int x, .int y])) = lay (S, o_D' O (s_ns' (s_nl' (o_D O) x) y)) := by rfl
theorem ac_readPlayers {Dc : Scn} {k a pt lt : Int32} {p : Nat} (hT : TX (o_R O) c t) (hp : p ≤ t) : AC g mX2_readPlayers [.ref 53, .ref 6] (lay (S, rO O Dc k a (nI p) pt lt)) (fun r h' => ∃ f k' a' b', h' = lay (S, rO O (s_pl' Dc f) k' a' b' 1 lt) ∧ (match plA c t p with
    | .inl q => r = some (.int 0) ∧ a' = nI q
    | .inr q => r = some (.int 1) ∧ b' = nI q ∧ ∀ i, i < 4 → f i = nI (vlA c t p i))) := by
  have TX' : ∀ Dc k a b pt lt, TX (o_R (rO O Dc k a b pt lt)) c t := fun _ _ _ _ _ _ => hT
  have h160 := hT.2.1
  generalize hPo : (fun (r : Option Value) (h' : AH) => ∃ f k' a' b', h' = lay (S, rO O (s_pl' Dc f) k' a' b' 1 lt) ∧ (match plA c t p with
    | .inl q => r = some (.int 0) ∧ a' = nI q
    | .inr q => r = some (.int 1) ∧ b' = nI q ∧ ∀ i, i < 4 → f i = nI (vlA c t p i))) = Post
  have PF : ∀ (f : Fn) (k a b : Int32) (q : Nat), plA c t p = .inl q → a = nI q → Post (some (.int 0)) (lay (S, rO O (s_pl' Dc f) k a b 1 lt)) := fun f k a b q h1 h2 => by
    rw [← hPo]
    refine ⟨f, k, a, b, rfl, ?_⟩
    rw [h1]
    exact ⟨rfl, h2⟩
  have PS : ∀ (f : Fn) (k a b : Int32) (q : Nat), plA c t p = .inr q → b = nI q → (∀ i, i < 4 → f i = nI (vlA c t p i)) → Post (some (.int 1)) (lay (S, rO O (s_pl' Dc f) k a b 1 lt)) := fun f k a b q h1 h2 h3 => by
    rw [← hPo]
    refine ⟨f, k, a, b, rfl, ?_⟩
    rw [h1]
    exact ⟨rfl, h2, h3⟩
  have key := dn (n := 4) (P := fun i => ∀ (f : Fn) (k a : Int32), (∀ j, j < i → f j = nI (vlA c t p j)) → (∀ j, j < i → fgA c t 0 9 (itA c t p j) = true) → (i = 4 → a = nI (tS c t (itA c t p 3))) → AW g mX2_readPlayers Post 0 0 7 [some (.ref 53), some (.ref 6), some (.int (nI i))] [] (lay (S, rO O (s_pl' Dc f) k a (nI (itA c t p i)) 1 lt))) ?_ (fun i hi ih => ?_) 0 (Nat.zero_le _)
  · refine acw gdX2_readPlayers 60 rfl ⟨Or.inr rfl, aw_hp Lrd ?_⟩
    exact key (s_pl Dc) k a (fun j hj => absurd hj (by omega)) (fun j hj => absurd hj (by omega)) (fun h => absurd h (by decide))
  · intro f k a hf hok ha
    have hff : ffA (fun k => fgA c t 0 9 (itA c t p k)) 4 = none := ff_al 4 hok
    have hv : ∀ i, i < 4 → vlA c t p i ≤ 9 := fun i hi => (fg_v (hok i hi)).2.1
    have ha := ha rfl
    have J99 : ∀ (x : Int32) (k a b : Int32) (q : Nat), plA c t p = .inl q → a = nI q → AW g mX2_readPlayers Post 0 0 99 [some (.ref 53), some (.ref 6), some (.int x)] [] (lay (S, rO O (s_pl' Dc f) k a b 1 lt)) := fun x k a b q h1 h2 => lpw gdX2_readPlayers 60 ⟨rfl, PF f k a b q h1 h2⟩
    have J83 : ¬ (vlA c t p 0 = vlA c t p 2 ∧ vlA c t p 1 = vlA c t p 3) → AW g mX2_readPlayers Post 0 0 83 [some (.ref 53), some (.ref 6), some (.int (nI 4))] [.int 1] (lay (S, rO O (s_pl' Dc f) k a (nI (itA c t p 4)) 1 lt)) := by
      intro hne
      have e1 : plA c t p = stA c t (itA c t p 4) := by
        unfold plA
        rw [hff]
        exact if_neg hne
      refine lpw gdX2_readPlayers 60 ⟨fun h => absurd h n01, fun _ => ?_⟩
      refine ac_to (ac_stepToStop (g := g) (S := S) (O := rO O (s_pl' Dc f) k a (nI (itA c t p 4)) 1 lt) (p := itA c t p 4) (TX' _ _ _ _ _ _) rfl (it_le hp 4)) ⟨fun h => ?_, fun h => ?_⟩
      · have h' : ¬ tK c t (itA c t p 4) = 3 := by
          have := (bi_e0 _).mp h
          simpa using this
        refine J99 1 _ _ _ (tS c t (itA c t p 4)) ?_ rfl
        rw [e1]
        exact if_neg h'
      · have h' : tK c t (itA c t p 4) = 3 := by
          rw [bi_e0, Bool.not_eq_false] at h
          simpa using h
        refine ⟨rfl, PS f _ _ _ (tE c t (itA c t p 4)) ?_ rfl hf⟩
        rw [e1]
        exact if_pos h'
    have J78 : ¬ (vlA c t p 0 = vlA c t p 2 ∧ vlA c t p 1 = vlA c t p 3) → AW g mX2_readPlayers Post 0 0 78 [some (.ref 53), some (.ref 6), some (.int (nI 4))] [] (lay (S, rO O (s_pl' Dc f) k a (nI (itA c t p 4)) 1 lt)) := fun hne => lpw gdX2_readPlayers 60 (J83 hne)
    have v0 := hv 0 (by decide)
    have v1 := hv 1 (by decide)
    have v2 := hv 2 (by decide)
    have v3 := hv 3 (by decide)
    refine lpw gdX2_readPlayers 60 ⟨fun _ => ?_, fun h => absurd (by decide) h⟩
    refine ⟨_, _, rfl, vlit (j := 0) (by decide) (by decide), ?_⟩
    refine ⟨_, _, rfl, vlit (j := 2) (by decide) (by decide), ?_⟩
    refine ⟨fun h => ?_, fun h => ?_⟩
    · have h' : ¬ f 0 = f 2 := h
      rw [hf 0 (by decide), hf 2 (by decide)] at h'
      exact J78 (fun z => h' (by rw [z.1]))
    · have h' : f 0 = f 2 := h
      rw [hf 0 (by decide), hf 2 (by decide), neqI (by omega) (by omega)] at h'
      refine ⟨_, _, rfl, vlit (j := 1) (by decide) (by decide), ?_⟩
      refine ⟨_, _, rfl, vlit (j := 3) (by decide) (by decide), ?_⟩
      refine ⟨fun h2 => ?_, fun h2 => ?_⟩
      · have h2' : f 1 = f 3 := h2
        rw [hf 1 (by decide), hf 3 (by decide), neqI (by omega) (by omega)] at h2'
        refine lpw gdX2_readPlayers 60 ⟨fun _ => ?_, fun h => absurd rfl h⟩
        refine J99 0 _ _ _ (tS c t (itA c t p 3)) ?_ ha
        unfold plA
        rw [hff]
        exact if_pos ⟨h', h2'⟩
      · have h2' : ¬ f 1 = f 3 := h2
        rw [hf 1 (by decide), hf 3 (by decide)] at h2'
        exact J78 (fun z => h2' (by rw [z.2]))
  · intro f k a hf hok ha
    have hit := it_le (c := c) hp i
    have hS := tS_le (c := c) hit
    refine lpw gdX2_readPlayers 60 ⟨fun h => absurd h (nge (n := 4) (by omega) (by omega)), fun _ => ?_⟩
    refine ac_to (ac_stepToFigure (g := g) (S := S) (O := rO O (s_pl' Dc f) k a (nI (itA c t p i)) 1 lt) (p := itA c t p i) (lo := 0) (hi := 9) (TX' _ _ _ _ _ _) rfl hit (by decide) (by decide)) ⟨fun h => ?_, fun h => ?_⟩
    · have h' : fgA c t 0 9 (itA c t p i) = true := by rw [bi_e0, Bool.not_eq_false] at h; exact h
      have hv := fg_v h'
      have hlt : tS c t (itA c t p i) < t := by
        refine tS_lt (fun z => ?_)
        unfold fgA at h'
        rw [z] at h'
        simp at h'
      obtain ⟨hc1, hc2⟩ := hT.2.2 _ hlt
      refine ⟨_, _, rfl, vlit (by omega) (by decide), ?_⟩
      refine ⟨_, _, rfl, vlit (by omega) (by decide), ?_⟩
      rw [vcl (x := nI (tS c t (itA c t p i))) rfl (by omega), vcl (x := nI i) rfl (by omega), show r_t (o_R (S, rO O (s_pl' Dc f) (nI (tK c t (itA c t p i))) (nI (tS c t (itA c t p i))) (nI (tE c t (itA c t p i))) 1 lt).snd) (tS c t (itA c t p i)) = _ from hc1]
      refine aw_hp Ldpl ?_
      rw [show nI (c (tS c t (itA c t p i))) - 48 = nI (vlA c t p i) from sub48 hv.2.2]
      refine awl (by rw [← nI_1]; rfl) (ih (upd f i (nI (vlA c t p i))) (nI (tK c t (itA c t p i))) (nI (tS c t (itA c t p i))) (fun j hj => ?_) (fun j hj => ?_) (fun h4 => ?_))
      · by_cases hji : j = i
        · subst hji; rw [pk_us]
        · rw [pk_un hji]; exact hf j (by omega)
      · by_cases hji : j = i
        · subst hji; exact h'
        · exact hok j (by omega)
      · rw [show i = 3 by omega]
    · have h' : fgA c t 0 9 (itA c t p i) = false := (bi_e0 _).mp h
      refine ⟨rfl, PF f _ _ _ (tS c t (itA c t p i)) ?_ rfl⟩
      unfold plA
      rw [ff_at (ok := fun k => fgA c t 0 9 (itA c t p k)) hok h' 4 hi]
theorem ac_readLines {Dc : Scn} {k a pt lt : Int32} {p : Nat} (hT : TX (o_R O) c t) (hp : p ≤ t) : AC g mX2_readLines [.ref 53, .ref 6] (lay (S, rO O Dc k a (nI p) pt lt)) (fun r h' => ∃ f x k' a' b', h' = lay (S, rO O (s_nl' (s_sp' Dc f) x) k' a' b' pt 1) ∧ (match liA c t p with
    | .inl q => r = some (.int 0) ∧ a' = nI q
    | .inr q => r = some (.int 1) ∧ b' = nI q ∧ x = nI (tE c t p - tS c t p) ∧ ∀ l, l < tE c t p - tS c t p → f l = nI (c (tS c t p + l) - 48))) := by
  have TX' : ∀ Dc k a b pt lt, TX (o_R (rO O Dc k a b pt lt)) c t := fun _ _ _ _ _ _ => hT
  have h160 := hT.2.1
  have hS := tS_le (c := c) hp
  have hE := tE_le (c := c) hp
  generalize hPo : (fun (r : Option Value) (h' : AH) => ∃ f x k' a' b', h' = lay (S, rO O (s_nl' (s_sp' Dc f) x) k' a' b' pt 1) ∧ (match liA c t p with
    | .inl q => r = some (.int 0) ∧ a' = nI q
    | .inr q => r = some (.int 1) ∧ b' = nI q ∧ x = nI (tE c t p - tS c t p) ∧ ∀ l, l < tE c t p - tS c t p → f l = nI (c (tS c t p + l) - 48))) = Post
  have PF : ∀ (f : Fn) (x k a b : Int32) (q : Nat), liA c t p = .inl q → a = nI q → Post (some (.int 0)) (lay (S, rO O (s_nl' (s_sp' Dc f) x) k a b pt 1)) := fun f x k a b q h1 h2 => by
    rw [← hPo]
    refine ⟨f, x, k, a, b, rfl, ?_⟩
    rw [h1]
    exact ⟨rfl, h2⟩
  refine acw gdX2_readLines 60 rfl ⟨Or.inr rfl, ac_hp Lrd ?_⟩
  refine ac_to (ac_step (g := g) (S := S) (O := rO O Dc k a (nI p) pt 1) (p := p) (TX' _ _ _ _ _ _) rfl hp) ?_
  have k4 : tK c t p ≤ 4 := kd_4 (c := c) (t := t) _
  refine ⟨fun h => ?_, fun h => ?_⟩
  · have h' : ¬ tK c t p = 2 := fun z => h (by show nI (tK c t p) = 2; rw [z]; rfl)
    refine ⟨rfl, PF (s_sp Dc) (s_nl Dc) _ _ _ (tS c t p) ?_ rfl⟩
    unfold liA
    rw [if_neg (fun z => h' z.1)]
  have h2 : tK c t p = 2 := (neqI (b := 2) (by omega) (by omega)).mp h
  have hgt := tE_gt (c := c) (t := t) (p := p) (by omega)
  have es : nI (tE c t p) - nI (tS c t p) = nI (tE c t p - tS c t p) := pk_sub (by omega)
  refine ⟨fun h8 => ?_, fun h8 => ?_⟩
  · have h8 : nI (tE c t p) - nI (tS c t p) ≤ 8 := h8
    rw [es] at h8
    have h8 := (nleI (b := 8) (by omega) (by omega)).mp h8
    have key := dn (n := tE c t p - tS c t p) (P := fun i => ∀ (f : Fn), (∀ j, j < i → f j = nI (c (tS c t p + j) - 48)) → (∀ j, j < i → decide (c (tS c t p + j) ≤ 49) = true) → AW g mX2_readLines Post 0 0 37 [some (.ref 53), some (.ref 6), some (.int (nI (tE c t p - tS c t p))), some (.int (nI i))] [] (lay (S, rO O (s_sp' Dc f) (nI (tK c t p)) (nI (tS c t p)) (nI (tE c t p)) pt 1))) ?_ (fun i hi ih => ?_) 0 (Nat.zero_le _)
    · refine awl ?_ (key (s_sp Dc) (fun j hj => absurd hj (by omega)) (fun j hj => absurd hj (by omega)))
      rw [← es]
      rfl
    · intro f hf hok
      refine lpw gdX2_readLines 60 ⟨fun _ => ac_hp Ld6 ?_, fun h => absurd (nle (Nat.le_refl _) (by omega)) h⟩
      have e1 : liA c t p = stA c t (tE c t p) := by
        unfold liA
        rw [if_pos ⟨h2, h8, ff_al _ hok⟩]
      refine ac_to (ac_stepToStop (g := g) (S := S) (O := rO O (s_nl' (s_sp' Dc f) (nI (tE c t p - tS c t p))) (nI (tK c t p)) (nI (tS c t p)) (nI (tE c t p)) pt 1) (p := tE c t p) (TX' _ _ _ _ _ _) rfl hE) ⟨bi_n _, ?_⟩
      rw [← hPo]
      refine ⟨f, nI (tE c t p - tS c t p), _, _, _, rfl, ?_⟩
      rw [e1]
      unfold stA
      by_cases h3 : tK c t (tE c t p) = 3
      · rw [if_pos h3]
        exact ⟨congrArg (fun z => some (Value.int z)) (bi_t (by simp [h3])), rfl, rfl, hf⟩
      · rw [if_neg h3]
        exact ⟨congrArg (fun z => some (Value.int z)) (bi_f (by simp [h3])), rfl⟩
    · intro f hf hok
      have hin := kd_2.mp ((tE_in (Or.inr h2) (i := tS c t p + i) (by omega) (by omega)).trans h2)
      obtain ⟨hc1, hc2⟩ := hT.2.2 _ hin.1
      have ei : nI (tS c t p) + nI i = nI (tS c t p + i) := nI_add _ _
      have ev := sub48 hin.2.1
      refine lpw gdX2_readLines 60 ⟨fun h => absurd h (nge (by omega) (by omega)), fun _ => ?_⟩
      refine ⟨_, _, rfl, vin ei (by omega) (by decide), ?_⟩
      refine ⟨_, _, rfl, vlit (by omega) (by decide), ?_⟩
      refine ⟨_, _, rfl, vlit (by omega) (by decide), ?_⟩
      rw [vcl ei (by omega), vcl (x := nI i) rfl (by omega), pk_us, show r_t (o_R (S, rO O (s_sp' Dc f) (nI (tK c t p)) (nI (tS c t p)) (nI (tE c t p)) pt 1).snd) (tS c t p + i) = _ from hc1]
      refine ⟨fun h9 => ?_, fun h9 => ?_⟩
      · have h9 : nI (c (tS c t p + i)) - 48 ≤ 1 := h9
        rw [ev] at h9
        have h9 := (nleI (b := 1) (by omega) (by omega)).mp h9
        refine aw_hp Ldsp ?_
        rw [ev]
        refine awl (by rw [← nI_1]; rfl) (ih (upd f i (nI (c (tS c t p + i) - 48))) (fun j hj => ?_) (fun j hj => ?_))
        · by_cases hji : j = i
          · subst hji; rw [pk_us]
          · rw [pk_un hji]; exact hf j (by omega)
        · by_cases hji : j = i
          · subst hji; simp; omega
          · exact hok j (by omega)
      · have h9 : ¬ nI (c (tS c t p + i)) - 48 ≤ 1 := h9
        rw [ev] at h9
        have h9 : ¬ c (tS c t p + i) - 48 ≤ 1 := fun z => h9 ((nleI (b := 1) (by omega) (by omega)).mpr z)
        refine ⟨rfl, po_hp Ldsp (PF _ (s_nl Dc) _ _ _ (tS c t p) ?_ rfl)⟩
        unfold liA
        rw [if_neg]
        rintro ⟨-, -, z⟩
        have := ff_no _ z i hi
        simp at this
        omega
  · have h8 : ¬ nI (tE c t p) - nI (tS c t p) ≤ 8 := h8
    rw [es] at h8
    have h8 : ¬ tE c t p - tS c t p ≤ 8 := fun z => h8 ((nleI (b := 8) (by omega) (by omega)).mpr z)
    refine ⟨rfl, PF (s_sp Dc) (s_nl Dc) _ _ _ (tS c t p) ?_ rfl⟩
    unfold liA
    rw [if_neg (fun z => h8 z.2.1)]
end CR
