section MS
variable {g : Glob} {S : Scn} {O : Oth} {c : Nat → Nat} {t : Nat}
theorem am_readShot6 {rd : Fn} {a k s p l i : Int32} (h : rd 13 = nI 6) : ACe g mX6_readShot [.ref 94] (lay (S, o_M' O (mR (o_M O) rd a k s p l i))) (some (.int 0)) (lay (S, o_M' O (mR (o_M O) rd a k s p l i))) := by
  refine acw gdX6_readShot 60 rfl ⟨_, _, rfl, vlit (j := 13) (by decide) (by decide), ?_⟩
  exact ⟨fun z => absurd h z, fun _ => ⟨rfl, rfl, rfl⟩⟩
theorem am_readShot {rd : Fn} {k s pt lt i : Int32} {p n : Nat} (hT : TXM (o_M O) c t) (hp : p ≤ t) (hn : rd 13 = nI n) (h6 : n < 6) : AC g mX6_readShot [.ref 94] (lay (S, o_M' O (mR (o_M O) rd (nI p) k s pt lt i))) (fun r h' => ∃ rd' a' k' s', h' = lay (S, o_M' O (mR (o_M O) rd' a' k' s' pt lt i)) ∧ (match shA c t p with
    | .inl q => r = some (.int 0) ∧ s' = nI q
    | .inr q => r = some (.int 1) ∧ a' = nI q ∧ rd' 13 = nI (n + 1) ∧ (∀ j, j < 7 → rd' (14 + 7 * n + j) = nI (vlA c t p j)) ∧ ∀ j, j ≠ 13 → (j < 14 + 7 * n ∨ 14 + 7 * n + 7 ≤ j) → rd' j = rd j)) := by
  have TX' : ∀ rd a k s p l i, TXM (o_M (o_M' O (mR (o_M O) rd a k s p l i))) c t := fun _ _ _ _ _ _ _ => hT
  have h160 := hT.2.1
  generalize hPo : (fun (r : Option Value) (h' : AH) => ∃ rd' a' k' s', h' = lay (S, o_M' O (mR (o_M O) rd' a' k' s' pt lt i)) ∧ (match shA c t p with
    | .inl q => r = some (.int 0) ∧ s' = nI q
    | .inr q => r = some (.int 1) ∧ a' = nI q ∧ rd' 13 = nI (n + 1) ∧ (∀ j, j < 7 → rd' (14 + 7 * n + j) = nI (vlA c t p j)) ∧ ∀ j, j ≠ 13 → (j < 14 + 7 * n ∨ 14 + 7 * n + 7 ≤ j) → rd' j = rd j)) = Post
  have PF : ∀ (rd' : Fn) (a k s : Int32) (q : Nat), shA c t p = .inl q → s = nI q → Post (some (.int 0)) (lay (S, o_M' O (mR (o_M O) rd' a k s pt lt i))) := fun rd' a k s q h1 h2 => by
    rw [← hPo]
    refine ⟨rd', a, k, s, rfl, ?_⟩
    rw [h1]
    exact ⟨rfl, h2⟩
  have eb : 14 + 7 * rd 13 = nI (14 + 7 * n) := by rw [hn]; simp only [nlit, pk_mul, nI_add]
  have key := dn (n := 7) (P := fun x => ∀ (f : Fn) (k s : Int32), (∀ j, (j < 14 + 7 * n ∨ 14 + 7 * n + 7 ≤ j) → f j = rd j) → (∀ j, j < x → f (14 + 7 * n + j) = nI (vlA c t p j)) → (∀ j, j < x → fgA c t (loA c t p j) (hiA j) (itA c t p j) = true) → AW g mX6_readShot Post 0 0 30 [some (.ref 94), some (.int (nI (14 + 7 * n))), some (.int (nI x)), none, none, none] [] (lay (S, o_M' O (mR (o_M O) f (nI (itA c t p x)) k s pt lt i)))) ?_ (fun x hx ih => ?_) 0 (Nat.zero_le _)
  · refine acw gdX6_readShot 60 rfl ⟨_, _, rfl, vlit (j := 13) (by decide) (by decide), ?_⟩
    refine ⟨fun _ => ?_, fun h => ?_⟩
    · refine ⟨_, _, rfl, vlit (j := 13) (by decide) (by decide), ?_⟩
      refine awl ?_ (key rd k s (fun j hj => rfl) (fun j hj => absurd hj (by omega)) (fun j hj => absurd hj (by omega)))
      rw [← eb]
      rfl
    · have h : rd 13 = 6 := h
      rw [hn] at h
      exact absurd ((neqI (b := 6) (by omega) (by omega)).mp h) (by omega)
  · intro f k s hf0 hf hok
    refine lpw gdX6_readShot 60 ⟨fun _ => ?_, fun h => absurd (by decide) h⟩
    refine ⟨_, _, rfl, vlit (j := 13) (by decide) (by decide), ?_⟩
    refine ⟨_, _, rfl, vlit (j := 13) (by decide) (by decide), ?_⟩
    rw [vcl (x := 13) (j := 13) rfl (by decide)]
    have e13 : f 13 = nI n := (hf0 13 (by omega)).trans hn
    have e1 : shA c t p = stA c t (itA c t p 7) := by
      unfold shA
      rw [ff_al 7 hok]
    refine ac_hp L96 ?_
    rw [show z_rd (o_M (S, o_M' O (mR (o_M O) f (nI (itA c t p 7)) k s pt lt i)).snd) 13 + 1 = nI (n + 1) by rw [show z_rd (o_M (S, o_M' O (mR (o_M O) f (nI (itA c t p 7)) k s pt lt i)).snd) 13 = nI n from e13, nI_1]]
    refine ac_to (am_isEnded (g := g) (S := S) (O := o_M' O (mR (o_M O) (upd f 13 (nI (n + 1))) (nI (itA c t p 7)) k s pt lt i)) (p := itA c t p 7) (TX' _ _ _ _ _ _ _) rfl (it_le hp 7)) ⟨bi_n _, ?_⟩
    rw [← hPo]
    refine ⟨upd f 13 (nI (n + 1)), _, _, _, rfl, ?_⟩
    rw [e1]
    unfold stA
    by_cases h3 : tK c t (itA c t p 7) = 3
    · rw [if_pos h3]
      refine ⟨congrArg (fun z => some (Value.int z)) (bi_t (by simp [h3])), rfl, pk_us, fun j hj => ?_, fun j hj hj2 => ?_⟩
      · rw [pk_un (by omega)]; exact hf j hj
      · rw [pk_un hj]; exact hf0 j hj2
    · rw [if_neg h3]
      exact ⟨congrArg (fun z => some (Value.int z)) (bi_f (by simp [h3])), rfl⟩
  · intro f k s hf0 hf hok
    have hit := it_le (c := c) hp x
    have hS := tS_le (c := c) hit
    have ei : nI (14 + 7 * n) + nI x = nI (14 + 7 * n + x) := nI_add _ _
    have hlo : loA c t p x ≤ 9 := by
      unfold loA
      split
      · rename_i h5
        have h1 := (fg_v (hok 4 (by omega))).2.1
        exact Nat.le_trans h1 (hi_9 4)
      · split <;> omega
    have J104 : ∀ w : Nat, w = hiA x → AW g mX6_readShot Post 0 0 104 [some (.ref 94), some (.int (nI (14 + 7 * n))), some (.int (nI x)), some (.int (nI (loA c t p x))), none, none] [.int (nI w)] (lay (S, o_M' O (mR (o_M O) f (nI (itA c t p x)) k s pt lt i))) := by
      intro w hw
      subst hw
      refine lpw gdX6_readShot 60 (ac_to (am_figure (g := g) (S := S) (O := o_M' O (mR (o_M O) f (nI (itA c t p x)) k s pt lt i)) (p := itA c t p x) (lo := loA c t p x) (hi := hiA x) (TX' _ _ _ _ _ _ _) rfl hit hlo (hi_9 x)) ?_)
      cases hfg : fgA c t (loA c t p x) (hiA x) (itA c t p x) with
      | false =>
        refine ⟨fun h => absurd rfl h, fun _ => ⟨rfl, PF f _ _ _ (tS c t (itA c t p x)) ?_ rfl⟩⟩
        unfold shA
        rw [ff_at (ok := fun k => fgA c t (loA c t p k) (hiA k) (itA c t p k)) hok hfg 7 hx]
      | true =>
        have hv := fg_v hfg
        have hv9 : vlA c t p x ≤ 9 := Nat.le_trans hv.2.1 (hi_9 x)
        rw [if_pos rfl, show c (tS c t (itA c t p x)) - 48 = vlA c t p x from rfl]
        refine ⟨fun _ => ?_, fun h => absurd h (nI_ne9 (by omega))⟩
        refine ⟨_, _, rfl, vin ei (by omega) (by decide), ?_⟩
        rw [vcl ei (by omega)]
        refine aw_hp L96 (awf ?_ (ih (upd f (14 + 7 * n + x) (nI (vlA c t p x))) (nI (tW c t (itA c t p x))) (nI (tS c t (itA c t p x))) (fun j hj => ?_) (fun j hj => ?_) (fun j hj => ?_)))
        · rw [← nI_1]
          exact ⟨rfl, rfl, rfl, trivial⟩
        · rw [pk_un (by omega)]; exact hf0 j hj
        · by_cases hji : j = x
          · subst hji; rw [pk_us]
          · rw [pk_un (by omega)]; exact hf j (by omega)
        · by_cases hji : j = x
          · subst hji; exact hfg
          · exact hok j (by omega)
    have J68 : ∀ v : Int32, v = nI (loA c t p x) → AW g mX6_readShot Post 0 0 68 [some (.ref 94), some (.int (nI (14 + 7 * n))), some (.int (nI x)), none, none, none] [.int v] (lay (S, o_M' O (mR (o_M O) f (nI (itA c t p x)) k s pt lt i))) := by
      intro v hv
      subst hv
      refine lpw gdX6_readShot 60 ⟨fun h2 => ⟨fun h3 => ⟨fun h4 => ?_, fun h4 => ⟨fun h5 => ?_, fun h5 => ?_⟩⟩, fun h3 => ?_⟩, fun h2 => ?_⟩
      · have h4 : x = 4 := (neqI (b := 4) (by omega) (by omega)).mp h4
        exact J104 7 (by subst h4; rfl)
      · have h2 : x ≠ 2 := fun z => h2 (by rw [z]; rfl)
        have h3 : x ≠ 3 := fun z => h3 (by rw [z]; rfl)
        have h4 : x ≠ 4 := fun z => h4 (by rw [z]; rfl)
        have h5 : x ≠ 5 := fun z => h5 (by rw [z]; rfl)
        exact J104 9 (by unfold hiA; rw [if_neg h2, if_neg h3, if_neg (by omega)])
      · have h5 : x = 5 := (neqI (b := 5) (by omega) (by omega)).mp h5
        exact J104 7 (by subst h5; rfl)
      · have h3 : x = 3 := (neqI (b := 3) (by omega) (by omega)).mp h3
        exact J104 5 (by subst h3; rfl)
      · have h2 : x = 2 := (neqI (b := 2) (by omega) (by omega)).mp h2
        exact J104 2 (by subst h2; rfl)
    refine lpw gdX6_readShot 60 ⟨fun h => absurd h (nge (n := 7) (by omega) (by omega)), fun _ => ⟨fun h3 => ?_, fun h3 => ⟨fun h6 => ⟨fun h5 => ?_, fun h5 => ?_⟩, fun h6 => ?_⟩⟩⟩
    · have h3 : x = 3 := (neqI (b := 3) (by omega) (by omega)).mp h3
      exact J68 1 (by subst h3; rfl)
    · have h3 : x ≠ 3 := fun z => h3 (by rw [z]; rfl)
      have h6 : x ≠ 6 := fun z => h6 (by rw [z]; rfl)
      have h5 : x ≠ 5 := fun z => h5 (by rw [z]; rfl)
      exact J68 0 (by unfold loA; rw [if_neg h5, if_neg (by omega)]; rfl)
    · have h5 : x = 5 := (neqI (b := 5) (by omega) (by omega)).mp h5
      have e4 : nI (14 + 7 * n) + 4 = nI (14 + 7 * n + 4) := nI_add _ _
      refine ⟨_, _, rfl, vin e4 (by omega) (by decide), ?_⟩
      rw [vcl e4 (by omega)]
      refine J68 _ ?_
      unfold loA
      rw [if_pos h5]
      exact hf 4 (by omega)
    · have h6 : x = 6 := (neqI (b := 6) (by omega) (by omega)).mp h6
      exact J68 1 (by subst h6; rfl)
def rd0 (f : Fn) : Fn := upd (upd (upd (upd (va_cpy (fun k => if k < 56 then 0 else -9) f 0 0 64) 0 3) 1 5) 2 6) 3 5
theorem rd0_D (f : Fn) : DM (rd0 f) D0 := by
  have h : ∀ j, 4 ≤ j → j < 64 → rd0 f j = if j < 56 then 0 else -9 := fun j h1 h2 => by
    unfold rd0
    rw [pk_un (by omega), pk_un (by omega), pk_un (by omega), pk_un (by omega), pk_cpy_in (by omega) (by omega), show 0 + (j - 0) = j by omega]
  refine ⟨by rw [h 4 (by omega) (by omega)]; rfl, by rw [h 13 (by omega) (by omega)]; rfl, fun i hi => ?_, fun l hl => absurd hl (Nat.not_lt_zero _), fun i hi => absurd hi (Nat.not_lt_zero _), fun l hl => ?_⟩
  · rcases (show i = 0 ∨ i = 1 ∨ i = 2 ∨ i = 3 by omega) with rfl | rfl | rfl | rfl <;> rfl
  · rw [h (56 + l) (by omega) (by omega), if_neg (by omega)]
theorem am_beginRead : ACe g mX6_beginRead [.ref 94] (lay (S, O)) none (lay (S, o_M' O (z_rd' (o_M O) (rd0 (z_rd (o_M O)))))) := by
  have key := dn (n := 64) (P := fun x => AW g mX6_beginRead (fun r h' => r = none ∧ h' = lay (S, o_M' O (z_rd' (o_M O) (rd0 (z_rd (o_M O)))))) 0 0 2 [some (.ref 94), some (.int (nI x))] [] (lay (S, o_M' O (z_rd' (o_M O) (va_cpy (fun k => if k < 56 then 0 else -9) (z_rd (o_M O)) 0 0 x))))) ?_ (fun x hx ih => ?_) 0 (Nat.zero_le _)
  · rw [cpy_0] at key
    exact acw gdX6_beginRead 60 rfl key
  · refine lpw gdX6_beginRead 60 ⟨fun _ => ?_, fun h => absurd (by decide) h⟩
    refine ⟨_, _, rfl, vlit (j := 0) (by decide) (by decide), ?_⟩
    refine ⟨_, _, rfl, vlit (j := 1) (by decide) (by decide), ?_⟩
    refine ⟨_, _, rfl, vlit (j := 2) (by decide) (by decide), ?_⟩
    refine ⟨_, _, rfl, vlit (j := 3) (by decide) (by decide), ?_⟩
    refine ⟨rfl, ?_⟩
    unfold rd0
    generalize va_cpy (fun k => if k < 56 then 0 else -9) (z_rd (o_M O)) 0 0 64 = F
    show List.set (List.set (List.set (List.set (lay (S, o_M' O (z_rd' (o_M O) F))) 96 _) 96 _) 96 _) 96 (ia 64 (upd (upd (upd (upd F 0 3) 1 5) 2 6) 3 5)) = _
    rw [List.set_set, List.set_set, List.set_set]
    exact L96
  · have e1 := cpy_step (f := fun k => if k < 56 then (0 : Int32) else -9) (t := z_rd (o_M O)) (i := 0) (j := 0) (k := x)
    rw [Nat.zero_add] at e1
    rw [← e1] at ih
    refine lpw gdX6_beginRead 60 ⟨fun h => absurd h (nge (n := 64) (by omega) (by omega)), fun _ => ⟨fun h => ?_, fun h => ?_⟩⟩
    · have h := (nleI (a := 56) (by omega) (by omega)).mp h
      rw [if_neg (by omega)] at ih
      refine ⟨_, _, rfl, vlit (by omega) (by decide), ?_⟩
      rw [vcl (x := nI x) rfl (by omega)]
      exact aw_hp L96 (awl (by rw [← nI_1]; rfl) ih)
    · have h : ¬ 56 ≤ x := fun z => h ((nleI (a := 56) (by omega) (by omega)).mpr z)
      rw [if_pos (by omega)] at ih
      refine ⟨_, _, rfl, vlit (by omega) (by decide), ?_⟩
      rw [vcl (x := nI x) rfl (by omega)]
      exact aw_hp L96 (awl (by rw [← nI_1]; rfl) ih)
/-- what readText leaves -/
def RMP (S : Scn) (O : Oth) (R : Nat ⊕ (Nat × Dr)) (r : Option Value) (h' : AH) : Prop := ∃ rd a k s p l i, h' = lay (S, o_M' O (mR (o_M O) rd a k s p l i)) ∧ (match R with
    | .inl f => r = some (.int (nI f))
    | .inr (j, D2) => r = some (.int (-9)) ∧ i = nI j ∧ DM rd D2)
theorem am_readText (hT : TXM (o_M O) c t) : AC g mX6_readText [.ref 94] (lay (S, O)) (RMP S O (psA c t 9 0 false false D0 0)) := by
  have TX' : ∀ rd a k s p l i, TXM (o_M (o_M' O (mR (o_M O) rd a k s p l i))) c t := fun _ _ _ _ _ _ _ => hT
  generalize hR : psA c t 9 0 false false D0 0 = R
  have key : ∀ (k i : Nat) (pt lt : Bool) (D : Dr) (p : Nat) (rd : Fn), i + k = 9 → p ≤ t → DM rd D → DOk D → b2n pt + b2n lt + D.2.2.2.2 = i → psA c t k i pt lt D p = R → AW g mX6_readText (RMP S O R) 0 0 28 [some (.ref 94), none] [] (lay (S, o_M' O (mR (o_M O) rd (nI (tE c t p)) (nI (tW c t p)) (nI (tS c t p)) (bi pt) (bi lt) (nI i)))) := by
    intro k
    induction k with
    | zero =>
      intro i pt lt D p rd h1 hp hD hOk hc
      have := b2n_1 pt
      have := b2n_1 lt
      have := hOk.2.1
      omega
    | succ k ih =>
      intro i pt lt D p rd h1 hp hD hOk hc hps
      have hW := tW_le (c := c) (t := t) (p := p)
      have hE := tE_le (c := c) hp
      unfold psA at hps
      -- an item is read
      have JF : ∀ (rd' : Fn) (a' k' s' pt' lt' : Int32) (f : Nat), itm c t pt lt D p = .inl f → ¬ tK c t p = 0 → s' = nI f → AW g mX6_readText (RMP S O R) 0 0 94 [some (.ref 94), none] [.int 0] (lay (S, o_M' O (mR (o_M O) rd' a' k' s' pt' lt' (nI i)))) := by
        intro rd' a' k' s' pt' lt' f hi h0 hs
        rw [if_neg h0, hi] at hps
        subst hs
        refine lpw gdX6_readText 60 ⟨fun h => absurd rfl h, fun _ => ?_⟩
        refine ⟨rd', _, _, _, _, _, _, rfl, ?_⟩
        rw [← show Sum.inl f = R from hps]
      have JS : ∀ (rd' : Fn) (k' s' : Int32) (pt2 lt2 : Bool) (D2 : Dr) (q : Nat), itm c t pt lt D p = .inr (pt2, lt2, D2, q) → ¬ tK c t p = 0 → DM rd' D2 → AW g mX6_readText (RMP S O R) 0 0 94 [some (.ref 94), none] [.int 1] (lay (S, o_M' O (mR (o_M O) rd' (nI q) k' s' (bi pt2) (bi lt2) (nI i)))) := by
        intro rd' k' s' pt2 lt2 D2 q hi h0 hD2
        rw [if_neg h0, hi] at hps
        have hk := itm_ok hp hOk hi
        refine lpw gdX6_readText 60 ⟨fun _ => ac_hp Lm94 ?_, fun h => absurd h n01⟩
        refine ac_to (am_next (g := g) (S := S) (O := o_M' O (mR (o_M O) rd' (nI q) k' s' (bi pt2) (bi lt2) (nI i + 1))) (p := q) (TX' _ _ _ _ _ _ _) rfl hk.1) ?_
        have := ih (i + 1) pt2 lt2 D2 q rd' (by omega) hk.1 hD2 hk.2.1 (by omega) hps
        rw [← nI_1] at this
        refine awf ?_ this
        exact ⟨rfl, trivial⟩
      refine lpw gdX6_readText 60 ⟨fun h => ?_, fun h => ?_⟩
      · have h0 : tK c t p = 0 := tW_0.mp ((neqI (b := 1000) (by omega) (by omega)).mp h)
        rw [if_pos h0] at hps
        refine ⟨rd, _, _, _, _, _, _, rfl, ?_⟩
        rw [← show Sum.inr (i, D) = R from hps]
        exact ⟨rfl, rfl, hD⟩
      have h0 : ¬ tK c t p = 0 := fun z => h (by show nI (tW c t p) = 1000; rw [tW_0.mpr z]; rfl)
      refine ⟨fun h => ⟨fun h' => ⟨fun h'' => ?_, fun h'' => ?_⟩, fun h' => ?_⟩, fun h => ?_⟩
      · -- no word
        have w1 : ¬ tW c t p = 1003 := fun z => h (by show nI (tW c t p) = 1003; rw [z]; rfl)
        have w2 : ¬ tW c t p = 1004 := fun z => h' (by show nI (tW c t p) = 1004; rw [z]; rfl)
        have w3 : ¬ tW c t p = 1005 := fun z => h'' (by show nI (tW c t p) = 1005; rw [z]; rfl)
        refine JF rd _ _ _ _ _ (tS c t p) ?_ h0 rfl
        unfold itm
        rw [if_neg w1, if_neg w2, if_neg (fun z => w3 z.1)]
      · -- a shot
        have w1 : ¬ tW c t p = 1003 := fun z => h (by show nI (tW c t p) = 1003; rw [z]; rfl)
        have w2 : ¬ tW c t p = 1004 := fun z => h' (by show nI (tW c t p) = 1004; rw [z]; rfl)
        have w3 : tW c t p = 1005 := (neqI (b := 1005) (by omega) (by omega)).mp h''
        have h13 : rd 13 = nI D.2.2.2.2 := hD.2.1
        have h6 := hOk.2.1
        by_cases h66 : D.2.2.2.2 = 6
        · refine ac_to (am_readShot6 (g := g) (S := S) (O := O) (h13.trans (by rw [h66]))) ⟨fun _ => ?_, fun z => absurd rfl z⟩
          refine JF rd _ _ _ _ _ (tS c t p) ?_ h0 rfl
          unfold itm
          rw [if_neg w1, if_neg w2, if_neg (fun z => by omega)]
        · have ei : itm c t pt lt D p = (match shA c t (tE c t p) with
            | .inl f => .inl f
            | .inr q => .inr (pt, lt, (D.1, D.2.1, fun i => if i < 7 * D.2.2.2.2 then D.2.2.1 i else vlA c t (tE c t p) (i - 7 * D.2.2.2.2), D.2.2.2.1, D.2.2.2.2 + 1), q)) := by
            unfold itm
            rw [if_neg w1, if_neg w2, if_pos ⟨w3, by omega⟩]
            cases shA c t (tE c t p) <;> rfl
          refine ac_mono (am_readShot (g := g) (S := S) (O := O) hT hE h13 (by omega)) ?_
          rintro r hh ⟨rd', a', k', s', rfl, hm⟩
          cases hs : shA c t (tE c t p) with
          | inl q =>
            rw [hs] at hm ei
            obtain ⟨rfl, rfl⟩ := hm
            exact ⟨fun _ => JF rd' _ _ _ _ _ q ei h0 rfl, fun z => absurd rfl z⟩
          | inr q =>
            rw [hs] at hm ei
            obtain ⟨rfl, rfl, m13, mv, ms⟩ := hm
            refine ⟨fun z => absurd z n01, fun _ => JS rd' _ _ _ _ _ q ei h0 ?_⟩
            refine ⟨(ms 4 (by omega) (by omega)).trans hD.1, m13, fun j hj => (ms j (by omega) (by omega)).trans (hD.2.2.1 j hj), fun l hl => ?_, fun j hj => ?_, fun l hl => (ms (56 + l) (by omega) (by omega)).trans (hD.2.2.2.2.2 l hl)⟩
            · have hl : l < D.2.2.2.1 := hl
              have := hOk.1
              exact (ms (5 + l) (by omega) (by omega)).trans (hD.2.2.2.1 l hl)
            · show rd' (14 + j) = nI (if j < 7 * D.2.2.2.2 then D.2.2.1 j else vlA c t (tE c t p) (j - 7 * D.2.2.2.2))
              have hj : j < 7 * (D.2.2.2.2 + 1) := hj
              by_cases hj' : j < 7 * D.2.2.2.2
              · rw [if_pos hj', ms (14 + j) (by omega) (by omega)]; exact hD.2.2.2.2.1 j hj'
              · rw [if_neg hj']
                have := mv (j - 7 * D.2.2.2.2) (by omega)
                rw [show 14 + 7 * D.2.2.2.2 + (j - 7 * D.2.2.2.2) = 14 + j by omega] at this
                exact this
      · -- lines
        have w1 : ¬ tW c t p = 1003 := fun z => h (by show nI (tW c t p) = 1003; rw [z]; rfl)
        have w2 : tW c t p = 1004 := (neqI (b := 1004) (by omega) (by omega)).mp h'
        cases lt with
        | true =>
          refine ac_to (am_readLines1 (g := g) (S := S) (O := O)) ?_
          refine JF rd _ _ _ _ _ (tS c t p) ?_ h0 rfl
          unfold itm
          rw [if_neg w1, if_pos w2, if_pos rfl]
        | false =>
          have ei : itm c t pt false D p = (match liA c t (tE c t p) with
            | .inl f => .inl f
            | .inr q => .inr (pt, true, (D.1, fun l => c (tS c t (tE c t p) + l) - 48, D.2.2.1, tE c t (tE c t p) - tS c t (tE c t p), D.2.2.2.2), q)) := by
            unfold itm
            rw [if_neg w1, if_pos w2, if_neg (by decide)]
            cases liA c t (tE c t p) <;> rfl
          refine ac_mono (am_readLines (g := g) (S := S) (O := O) hT hE) ?_
          rintro r hh ⟨rd', a', k', s', rfl, hm⟩
          cases hs : liA c t (tE c t p) with
          | inl q =>
            rw [hs] at hm ei
            obtain ⟨rfl, rfl⟩ := hm
            exact JF rd' _ _ _ _ _ q ei h0 rfl
          | inr q =>
            have hl8 := (li_ok hE hs).2
            have h6 := hOk.2.1
            rw [hs] at hm ei
            obtain ⟨rfl, rfl, m4, mv, ms⟩ := hm
            refine JS rd' _ _ pt true _ q ei h0 ?_
            exact ⟨m4, (ms 13 (by omega)).trans hD.2.1, fun j hj => (ms j (by omega)).trans (hD.2.2.1 j hj), mv, fun j hj => (ms (14 + j) (by omega)).trans (hD.2.2.2.2.1 j hj), fun l hl => (ms (56 + l) (by omega)).trans (hD.2.2.2.2.2 l hl)⟩
      · -- players
        have w1 : tW c t p = 1003 := (neqI (b := 1003) (by omega) (by omega)).mp h
        cases pt with
        | true =>
          refine ac_to (am_readPlayers1 (g := g) (S := S) (O := O)) ?_
          refine JF rd _ _ _ _ _ (tS c t p) ?_ h0 rfl
          unfold itm
          rw [if_pos w1, if_pos rfl]
        | false =>
          have ei : itm c t false lt D p = (match plA c t (tE c t p) with
            | .inl f => .inl f
            | .inr q => .inr (true, lt, (fun i => vlA c t (tE c t p) i, D.2.1, D.2.2.1, D.2.2.2.1, D.2.2.2.2), q)) := by
            unfold itm
            rw [if_pos w1, if_neg (by decide)]
            cases plA c t (tE c t p) <;> rfl
          refine ac_mono (am_readPlayers (g := g) (S := S) (O := O) hT hE) ?_
          rintro r hh ⟨rd', a', k', s', rfl, hm⟩
          cases hs : plA c t (tE c t p) with
          | inl q =>
            rw [hs] at hm ei
            obtain ⟨rfl, rfl⟩ := hm
            exact JF rd' _ _ _ _ _ q ei h0 rfl
          | inr q =>
            have h6 := hOk.2.1
            have h8 := hOk.1
            rw [hs] at hm ei
            obtain ⟨rfl, rfl, mv, ms⟩ := hm
            refine JS rd' _ _ true lt _ q ei h0 ?_
            exact ⟨(ms 4 (by omega)).trans hD.1, (ms 13 (by omega)).trans hD.2.1, mv, fun l hl => (ms (5 + l) (by omega)).trans (hD.2.2.2.1 l hl), fun j hj => (ms (14 + j) (by omega)).trans (hD.2.2.2.2.1 j hj), fun l hl => (ms (56 + l) (by omega)).trans (hD.2.2.2.2.2 l hl)⟩
  refine acw gdX6_readText 60 rfl (ac_to am_beginRead ?_)
  have hD := rd0_D (z_rd (o_M O))
  generalize rd0 (z_rd (o_M O)) = F at hD ⊢
  refine ⟨Or.inl rfl, Or.inl rfl, ?_⟩
  refine ac_hp (show List.set (List.set (List.set (List.set (lay (S, o_M' O (z_rd' (o_M O) F))) 94 _) 94 _) 94 _) 94 (.inr (6, [.ref 95, .ref 96, .ref 97, .int (z_deeds (o_M O)), .ref 98, .ref 99, .ref 100, .int (z_let (o_M O)), .int 0, .int (z_tok (o_M O)), .int (z_tat (o_M O)), .ref 101, .ref 102, .int (z_seen (o_M O)), .int 0, .int 0, .int 0, .ref 103, .ref 104, .int (z_wc (o_M O)), .ref 105, .int (z_bc (o_M O)), .int (z_bs (o_M O))])) = lay (S, o_M' O (mR (o_M O) F 0 (z_tok (o_M O)) (z_tat (o_M O)) 0 0 0)) by rw [List.set_set, List.set_set, List.set_set]; exact Lm94) ?_
  refine ac_to (am_next (g := g) (S := S) (O := o_M' O (mR (o_M O) F 0 (z_tok (o_M O)) (z_tat (o_M O)) 0 0 0)) (p := 0) (TX' _ _ _ _ _ _ _) rfl (Nat.zero_le _)) ?_
  exact key 9 0 false false D0 0 F rfl (Nat.zero_le _) hD ⟨by decide, by decide, by decide, fun i hi => absurd hi (Nat.not_lt_zero _)⟩ rfl hR
theorem ac_dropText : ACe g mX2_dropText [.ref 53] (lay (S, O)) (some (.int (r_len (o_R O)))) (lay (S, o_R' O (r_len' (o_R O) 0))) := acw gdX2_dropText 20 rfl ⟨rfl, rfl⟩
theorem Rw.dr {Dc : Scn} {rd : Fn} {D : Dr} (hC : DC Dc D) (hM : DM rd D) (hO : DOk D) : Rw Dc rd := by
  obtain ⟨c1, c2, c3, c4, c5, c6⟩ := hC
  obtain ⟨m1, m2, m3, m4, m5, m6⟩ := hM
  obtain ⟨o1, o2, o3, o4⟩ := hO
  refine ⟨fun _ => none, D.2.2.2.1, D.2.2.2.2, ⟨c1, c2, fun i hi => (c3 i hi).trans (m3 i hi).symm, fun l hl => (c4 l hl).trans (m4 l hl).symm, fun i hi => (c5 i hi).trans (m5 i hi).symm, fun l hl => (c6 l hl).trans (m6 l hl).symm⟩, ⟨m1, o1, m2, o2, fun i hi => ⟨D.1 i, o3 i hi, m3 i hi⟩, fun s hs k hk => ⟨D.2.2.1 (7 * s + k), o4 _ (by omega), m5 _ (by omega)⟩, fun l hl => ⟨m6 l hl, fun _ z => by cases z⟩, fun _ _ => rfl⟩⟩
theorem neg_f {f : Nat} (hf : f ≤ 2000) : (-10 - nI f : Int32) < 0 := by
  have e : (-10 - nI f : Int32) = Int32.ofInt (-10 - (f : Int)) := by
    rw [oI_nat, Int32.ofInt_sub]
    rfl
  rw [e, Int32.lt_iff_toInt_lt, Int32.toInt_ofInt_of_le (by omega) (by omega)]
  have : (0 : Int32).toInt = 0 := by decide
  omega
theorem pa_tells : PrA g mX5_tells mX6_tells [] := by
  rintro ⟨S, O⟩ hI
  obtain ⟨hR, hP, i3, i4, i5⟩ := hI
  have i40 := i4
  obtain ⟨t, ht, hl, hl2, htx⟩ := i4
  have hc : ∀ i, i < t → r_t (o_R O) i = nI ((r_t (o_R O) i).toNatClampNeg) ∧ z_text (o_M O) i = nI ((r_t (o_R O) i).toNatClampNeg) ∧ (r_t (o_R O) i).toNatClampNeg ≤ 255 := fun i hi => by
    obtain ⟨x, hx, e1, e2⟩ := htx i hi
    have e3 : (r_t (o_R O) i).toNatClampNeg = x := vcl e1 (by omega)
    rw [e3]
    exact ⟨e1, e2, hx⟩
  have hT : TX (o_R O) (fun i => (r_t (o_R O) i).toNatClampNeg) t := ⟨hl, ht, fun i hi => ⟨(hc i hi).1, (hc i hi).2.2⟩⟩
  have hM : TXM (o_M O) (fun i => (r_t (o_R O) i).toNatClampNeg) t := ⟨hl2, ht, fun i hi => ⟨(hc i hi).2.1, (hc i hi).2.2⟩⟩
  generalize (fun i => (r_t (o_R O) i).toNatClampNeg) = c at hT hM
  have hbd := ps_bd (c := c) (t := t) 9 0 false false D0 0 (Nat.zero_le _) ⟨by decide, by decide, by decide, fun i hi => absurd hi (Nat.not_lt_zero _)⟩
  refine acw gdX5_tells 60 rfl (ac_mono (ac_readInto (g := g) (S := S) (O := O) hT) ?_)
  rintro r h' ⟨Dc, k, a, b, pt, lt, rfl, hm⟩
  have TXM' : ∀ O', o_M O' = o_M O → TXM (o_M O') c t := fun O' e => by rw [e]; exact hM
  cases hps : psA c t 9 0 false false D0 0 with
  | inl f =>
    rw [hps] at hm
    obtain rfl := hm
    have hf := hbd.1 f hps
    refine ⟨fun h => absurd h (Int32.not_le.mpr (neg_f (by omega))), fun _ => ⟨_, (S, rO O Dc k a b pt lt), rfl, rfl, ?_⟩⟩
    refine acw gdX6_tells 60 rfl (ac_mono (am_readText (g := g) (S := S) (O := rO O Dc k a b pt lt) (TXM' _ rfl)) ?_)
    rintro r h' ⟨rd, a1, k1, s1, p1, l1, j1, rfl, hm⟩
    rw [hps] at hm
    obtain rfl := hm
    refine ⟨fun h => absurd h (nI_ne9 (by omega)), fun _ => ⟨rfl, (S, o_M' (rO O Dc k a b pt lt) (mR (o_M O) rd a1 k1 s1 p1 l1 j1)), rfl, ⟨hR, hP, i3, i40, i5⟩⟩⟩
  | inr z =>
    obtain ⟨j, D2⟩ := z
    rw [hps] at hm
    obtain ⟨rfl, hDC⟩ := hm
    obtain ⟨hOk, hj⟩ := hbd.2 j D2 hps
    obtain ⟨PP, kn, nx, G, dC, dM, dI⟩ := deed (g := g) (S := S) (O := rO O Dc k a b pt lt) hR hP
    refine ⟨fun _ => ?_, fun h => absurd (show (0 : Int32) ≤ nI j from (nleI (a := 0) (by omega) (by omega)).mpr (Nat.zero_le _)) h⟩
    refine ac_to dC (ac_to (ac_becD (g := g) (S := S) (O := o_nx' (o_kn' (o_P' (rO O Dc k a b pt lt) PP) kn) nx)) ?_)
    refine ac_to (ac_dropText (g := g) (S := bec Dc S) (O := o_nx' (o_kn' (o_P' (rO O Dc k a b pt lt) PP) kn) nx)) ?_
    refine ⟨nI j, (bec Dc S, o_R' (o_nx' (o_kn' (o_P' (rO O Dc k a b pt lt) PP) kn) nx) (r_len' (o_R (rO O Dc k a b pt lt)) 0)), rfl, rfl, ?_⟩
    generalize hO2 : o_R' (o_nx' (o_kn' (o_P' (rO O Dc k a b pt lt) PP) kn) nx) (r_len' (o_R (rO O Dc k a b pt lt)) 0) = O2
    have eM : o_M O2 = o_M O := by rw [← hO2]
    refine acw gdX6_tells 60 rfl (ac_mono (am_readText (g := g) (S := bec Dc S) (O := O2) (TXM' _ eM)) ?_)
    rintro r h' ⟨rd, a1, k1, s1, p1, l1, j1, rfl, hm⟩
    rw [hps] at hm
    obtain ⟨rfl, rfl, hDM⟩ := hm
    refine ⟨fun _ => ?_, fun h => absurd rfl h⟩
    refine ac_to (dM (bec Dc S) (o_M' O2 (mR (o_M O2) rd a1 k1 s1 p1 l1 (nI j))) (by rw [← hO2]) (by rw [← hO2]) (by rw [← hO2])) ?_
    refine ac_to (am_bringRN (g := g) (S := bec Dc S) (O := o_M' O2 (z_deeds' (z_past' (mR (o_M O2) rd a1 k1 s1 p1 l1 (nI j)) G) kn))) ?_
    generalize hF : va_cpy rd (z_now (o_M O2)) 0 0 64 = F
    have hRw : Rw (bec Dc S) F := by
      refine ((Rw.dr hDC hDM hOk).bec).cg (fun i hi => ?_)
      rw [← hF, pk_cpy_in (by omega) (by omega), show 0 + (i - 0) = i by omega]
    refine ⟨rfl, (bec Dc S, o_M' O2 (z_let' (z_now' (z_deeds' (z_past' (mR (o_M O2) rd a1 k1 s1 p1 l1 (nI j)) G) kn) F) 0)), ?_, ⟨hRw, dI _ (by rw [← hO2]) (by rw [← hO2]) (by rw [← hO2]) rfl rfl, ?_, ?_, ?_⟩⟩
    · exact Lm94
    · rw [← hO2]; exact i3
    · rw [← hO2]; exact ⟨0, by decide, rfl, rfl, fun i hi => absurd hi (Nat.not_lt_zero _)⟩
    · rw [← hO2]; exact i5
end MS
