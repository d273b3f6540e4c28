/-! ===== the model reads a text into its row ===== -/
/-- the model's row beside the numbers -/
def DM (rd : Fn) (D : Dr) : Prop := rd 4 = nI D.2.2.2.1 ∧ rd 13 = nI D.2.2.2.2 ∧ (∀ i, i < 4 → rd i = nI (D.1 i)) ∧ (∀ l, l < D.2.2.2.1 → rd (5 + l) = nI (D.2.1 l)) ∧ (∀ i, i < 7 * D.2.2.2.2 → rd (14 + i) = nI (D.2.2.1 i)) ∧ (∀ l, l < 8 → rd (56 + l) = -9)
section MQ
variable {g : Glob} {S : Scn} {O : Oth} {c : Nat → Nat} {t : Nat}
set_option maxRecDepth 10000 in
theorem L96 {f : Fn} : (lay (S, O)).set 96 (ia 64 f) = lay (S, o_M' O (z_rd' (o_M O) f)) := by rfl
theorem am_figure {p lo hi : Nat} (hT : TXM (o_M O) c t) (he : z_at (o_M O) = nI p) (hp : p ≤ t) (hlo : lo ≤ 9) (hhi : hi ≤ 9) : ACe g mX6_figure [.ref 94, .int (nI lo), .int (nI hi)] (lay (S, O)) (some (.int (if fgA c t lo hi p then nI (c (tS c t p) - 48) else -9))) (lay (S, o_M' O (mT (o_M O) c t p))) := by
  have h160 := hT.2.1
  have hS := tS_le (c := c) hp
  have hE := tE_le (c := c) hp
  have hW := tW_le (c := c) (t := t) (p := p)
  generalize hR : (if fgA c t lo hi p then nI (c (tS c t p) - 48) else -9) = R
  have J44 : ∀ v : Int32, (bi (!decide (v < nI lo) && !decide (nI hi < v)) = 0 → R = -9) → (¬ bi (!decide (v < nI lo) && !decide (nI hi < v)) = 0 → R = v) → AW g mX6_figure (fun r h' => r = some (.int R) ∧ h' = lay (S, o_M' O (mT (o_M O) c t p))) 0 0 44 [some (.ref 94), some (.int (nI lo)), some (.int (nI hi)), none] [.int v] (lay (S, o_M' O (mT (o_M O) c t p))) := by
    intro v h1 h2
    refine lpw gdX6_figure 60 (ac_to (am_in _ _ _ _) ⟨fun h => ⟨?_, rfl⟩, fun h => ⟨?_, rfl⟩⟩)
    · exact congrArg (fun z => some (Value.int z)) (h1 h).symm
    · exact congrArg (fun z => some (Value.int z)) (h2 h).symm
  have hno : (!decide ((-9 : Int32) < nI lo) && !decide (nI hi < (-9 : Int32))) = false := by
    rw [show decide ((-9 : Int32) < nI lo) = true by
      rw [decide_eq_true_eq, Int32.lt_iff_toInt_lt, toI_lit (by omega)]
      have : (-9 : Int32).toInt = -9 := by decide
      omega]
    rfl
  have JN : fgA c t lo hi p = false → AW g mX6_figure (fun r h' => r = some (.int R) ∧ h' = lay (S, o_M' O (mT (o_M O) c t p))) 0 0 44 [some (.ref 94), some (.int (nI lo)), some (.int (nI hi)), none] [.int (-9)] (lay (S, o_M' O (mT (o_M O) c t p))) := fun hf => by
    refine J44 (-9) (fun _ => ?_) (fun h => ?_)
    · rw [← hR, hf]; rfl
    · rw [hno] at h; exact absurd rfl h
  refine acw gdX6_figure 60 rfl (ac_to (am_next (g := g) (S := S) (O := O) hT he hp) ⟨fun h => ?_, fun h => ?_⟩)
  · have h' : ¬ tK c t p = 2 := fun z => h (by show nI (tW c t p) = 1002; rw [tW_4.mpr z]; rfl)
    exact JN (by simp [fgA, h'])
  have h2 : tK c t p = 2 := tW_4.mp ((neqI (b := 1002) (by omega) (by omega)).mp h)
  have hgt := tE_gt (c := c) (t := t) (p := p) (by omega)
  have hd := kd_2.mp h2
  obtain ⟨hc1, hc2⟩ := hT.2.2 (tS c t p) (by omega)
  refine ⟨fun h => ?_, fun h => ?_⟩
  · have h : ¬ nI (tE c t p) = nI (tS c t p) + 1 := h
    have h3 : ¬ tE c t p = tS c t p + 1 := fun z => h (by rw [z, nI_1])
    exact JN (by unfold fgA; simp [h3])
  · have h : nI (tE c t p) = nI (tS c t p) + 1 := h
    rw [nI_1] at h
    have h3 : tE c t p = tS c t p + 1 := (neqI (by omega) (by omega)).mp h
    have e2 : fgA c t lo hi p = (decide (lo + 48 ≤ c (tS c t p)) && decide (c (tS c t p) ≤ hi + 48)) := by
      unfold fgA
      rw [show decide (tK c t p = 2) = true by simp [h2], show decide (tE c t p = tS c t p + 1) = true by simp [h3]]
      rfl
    refine ⟨_, _, rfl, vlit (by omega) (by decide), ?_⟩
    rw [vcl (x := nI (tS c t p)) rfl (by omega), show z_text (o_M (S, o_M' O (mT (o_M O) c t p)).snd) (tS c t p) = _ from hc1]
    refine J44 _ (fun hh => ?_) (fun hh => ?_)
    · rw [sub48 hd.2.1] at hh
      rw [← hR, e2]
      have hh := (bi_e0 _).mp hh
      rw [if_neg]
      intro z
      simp only [Bool.and_eq_true, decide_eq_true_eq] at z
      rw [show decide (nI (c (tS c t p) - 48) < nI lo) = false by rw [decide_eq_false_iff_not, nltI (by omega) (by omega)]; omega, show decide (nI hi < nI (c (tS c t p) - 48)) = false by rw [decide_eq_false_iff_not, nltI (by omega) (by omega)]; omega] at hh
      cases hh
    · rw [sub48 hd.2.1] at hh ⊢
      rw [← hR, e2]
      rw [bi_e0, Bool.not_eq_false] at hh
      simp only [Bool.and_eq_true, Bool.not_eq_true', decide_eq_false_iff_not] at hh
      rw [nltI (by omega) (by omega), nltI (by omega) (by omega)] at hh
      rw [if_pos]
      simp only [Bool.and_eq_true, decide_eq_true_eq]
      omega
theorem am_isEnded {p : Nat} (hT : TXM (o_M O) c t) (he : z_at (o_M O) = nI p) (hp : p ≤ t) : ACe g mX6_isEnded [.ref 94] (lay (S, O)) (some (.int (bi (decide (tK c t p = 3))))) (lay (S, o_M' O (mT (o_M O) c t p))) := by
  have hW := tW_le (c := c) (t := t) (p := p)
  refine acw gdX6_isEnded 40 rfl (ac_to (am_next hT he hp) ⟨fun h => ?_, fun h => ?_⟩)
  · have h' : ¬ tK c t p = 3 := fun z => h (by show nI (tW c t p) = 59; rw [tW_5.mpr z]; rfl)
    exact ⟨rfl, congrArg (fun z => some (Value.int z)) (bi_f (by simp [h'])).symm, rfl⟩
  · have h' : tK c t p = 3 := tW_5.mp ((neqI (b := 59) (by omega) (by omega)).mp h)
    exact ⟨rfl, congrArg (fun z => some (Value.int z)) (bi_t (by simp [h'])).symm, rfl⟩
theorem am_readPlayers1 {rd : Fn} {a k s l i : Int32} : ACe g mX6_readPlayers [.ref 94] (lay (S, o_M' O (mR (o_M O) rd a k s 1 l i))) (some (.int 0)) (lay (S, o_M' O (mR (o_M O) rd a k s 1 l i))) :=
  acw gdX6_readPlayers 60 rfl ⟨fun h => absurd h n01, fun _ => ⟨rfl, rfl, rfl⟩⟩
theorem am_readLines1 {rd : Fn} {a k s p i : Int32} : ACe g mX6_readLines [.ref 94] (lay (S, o_M' O (mR (o_M O) rd a k s p 1 i))) (some (.int 0)) (lay (S, o_M' O (mR (o_M O) rd a k s p 1 i))) :=
  acw gdX6_readLines 60 rfl ⟨fun h => absurd h n01, fun _ => ⟨rfl, rfl, rfl⟩⟩
theorem am_readPlayers {rd : Fn} {k s l i : Int32} {p : Nat} (hT : TXM (o_M O) c t) (hp : p ≤ t) : AC g mX6_readPlayers [.ref 94] (lay (S, o_M' O (mR (o_M O) rd (nI p) k s 0 l i))) (fun r h' => ∃ rd' a' k' s', h' = lay (S, o_M' O (mR (o_M O) rd' a' k' s' 1 l i)) ∧ (match plA c t p with
    | .inl q => r = some (.int 0) ∧ s' = nI q
    | .inr q => r = some (.int 1) ∧ a' = nI q ∧ (∀ j, j < 4 → rd' j = nI (vlA c t p j)) ∧ ∀ j, 4 ≤ j → rd' j = rd j)) := by
  have TX' : ∀ rd a k s p l i, TXM (o_M (o_M' O (mR (o_M O) rd a k s p l i))) c t := fun _ _ _ _ _ _ _ => hT
  have h160 := hT.2.1
  generalize hPo : (fun (r : Option Value) (h' : AH) => ∃ rd' a' k' s', h' = lay (S, o_M' O (mR (o_M O) rd' a' k' s' 1 l i)) ∧ (match plA c t p with
    | .inl q => r = some (.int 0) ∧ s' = nI q
    | .inr q => r = some (.int 1) ∧ a' = nI q ∧ (∀ j, j < 4 → rd' j = nI (vlA c t p j)) ∧ ∀ j, 4 ≤ j → rd' j = rd j)) = Post
  have PF : ∀ (rd' : Fn) (a k s : Int32) (q : Nat), plA c t p = .inl q → s = nI q → Post (some (.int 0)) (lay (S, o_M' O (mR (o_M O) rd' a k s 1 l i))) := fun rd' a k s q h1 h2 => by
    rw [← hPo]
    refine ⟨rd', a, k, s, rfl, ?_⟩
    rw [h1]
    exact ⟨rfl, h2⟩
  have key := dn (n := 4) (P := fun x => ∀ (f : Fn) (k s : Int32), (∀ j, j < x → f j = nI (vlA c t p j)) → (∀ j, 4 ≤ j → f j = rd j) → (∀ j, j < x → fgA c t 0 9 (itA c t p j) = true) → (x = 4 → ¬ (vlA c t p 0 = vlA c t p 2 ∧ vlA c t p 1 = vlA c t p 3)) → AW g mX6_readPlayers Post 0 0 16 [some (.ref 94), some (.int (nI x)), none] [] (lay (S, o_M' O (mR (o_M O) f (nI (itA c t p x)) k s 1 l i)))) ?_ (fun x hx ih => ?_) 0 (Nat.zero_le _)
  · refine acw gdX6_readPlayers 60 rfl ⟨fun _ => ⟨Or.inr rfl, aw_hp Lm94 ?_⟩, fun h => absurd rfl h⟩
    exact key rd k s (fun j hj => absurd hj (by omega)) (fun j hj => rfl) (fun j hj => absurd hj (by omega)) (fun h => absurd h (by decide))
  · intro f k s hf hf2 hok hne
    have hff : ffA (fun k => fgA c t 0 9 (itA c t p k)) 4 = none := ff_al 4 hok
    have e1 : plA c t p = stA c t (itA c t p 4) := by
      unfold plA
      rw [hff]
      exact if_neg (hne rfl)
    refine lpw gdX6_readPlayers 60 ⟨fun _ => ?_, fun h => absurd (by decide) h⟩
    refine ac_to (am_isEnded (g := g) (S := S) (O := o_M' O (mR (o_M O) f (nI (itA c t p 4)) k s 1 l i)) (p := itA c t p 4) (TX' _ _ _ _ _ _ _) rfl (it_le hp 4)) ⟨bi_n _, ?_⟩
    rw [← hPo]
    refine ⟨f, _, _, _, rfl, ?_⟩
    rw [e1]
    unfold stA
    by_cases h3 : tK c t (itA c t p 4) = 3
    · rw [if_pos h3]
      exact ⟨congrArg (fun z => some (Value.int z)) (bi_t (by simp [h3])), rfl, hf, hf2⟩
    · rw [if_neg h3]
      exact ⟨congrArg (fun z => some (Value.int z)) (bi_f (by simp [h3])), rfl⟩
  · intro f k s hf hf2 hok _
    have hit := it_le (c := c) hp x
    have hS := tS_le (c := c) hit
    refine lpw gdX6_readPlayers 60 ⟨fun h => absurd h (nge (n := 4) (by omega) (by omega)), fun _ => ?_⟩
    refine ac_to (am_figure (g := g) (S := S) (O := o_M' O (mR (o_M O) f (nI (itA c t p x)) k s 1 l i)) (p := itA c t p x) (lo := 0) (hi := 9) (TX' _ _ _ _ _ _ _) rfl hit (by decide) (by decide)) ?_
    cases hfg : fgA c t 0 9 (itA c t p x) with
    | false =>
      refine ⟨_, _, rfl, vlit (by omega) (by decide), ?_⟩
      rw [vcl (x := nI x) rfl (by omega)]
      refine ⟨fun _ => ⟨rfl, po_hp L96 (PF _ _ _ _ (tS c t (itA c t p x)) ?_ rfl)⟩, fun h => absurd rfl h⟩
      unfold plA
      rw [ff_at (ok := fun k => fgA c t 0 9 (itA c t p k)) hok hfg 4 hx]
    | true =>
      have hv := fg_v hfg
      have hv9 : vlA c t p x ≤ 9 := hv.2.1
      rw [if_pos rfl, show c (tS c t (itA c t p x)) - 48 = vlA c t p x from rfl]
      refine ⟨_, _, rfl, vlit (by omega) (by decide), ?_⟩
      rw [vcl (x := nI x) rfl (by omega)]
      have hf' : ∀ j, j < x + 1 → upd f x (nI (vlA c t p x)) j = nI (vlA c t p j) := fun j hj => by
        by_cases hjx : j = x
        · subst hjx; rw [pk_us]
        · rw [pk_un hjx]; exact hf j (by omega)
      have hf2' : ∀ j, 4 ≤ j → upd f x (nI (vlA c t p x)) j = rd j := fun j hj => by rw [pk_un (by omega)]; exact hf2 j hj
      have hok' : ∀ j, j < x + 1 → fgA c t 0 9 (itA c t p j) = true := fun j hj => by
        by_cases hjx : j = x
        · subst hjx; exact hfg
        · exact hok j (by omega)
      have GO : (x + 1 = 4 → ¬ (vlA c t p 0 = vlA c t p 2 ∧ vlA c t p 1 = vlA c t p 3)) → AW g mX6_readPlayers Post 0 0 16 [some (.ref 94), some (.int (nI x + 1)), some (.int (nI (vlA c t p x)))] [] ((lay (S, o_M' O (mR (o_M O) f (nI (tE c t (itA c t p x))) (nI (tW c t (itA c t p x))) (nI (tS c t (itA c t p x))) 1 l i))).set 96 (ia 64 (upd f x (nI (vlA c t p x))))) := fun h4 => by
        refine aw_hp L96 (awf ?_ (ih (upd f x (nI (vlA c t p x))) (nI (tW c t (itA c t p x))) (nI (tS c t (itA c t p x))) hf' hf2' hok' h4))
        rw [← nI_1]
        exact ⟨rfl, rfl, trivial⟩
      refine ⟨fun h => absurd h (nI_ne9 (by omega)), fun _ => ⟨fun h3 => ?_, fun h3 => ?_⟩⟩
      · have h3 : ¬ x = 3 := fun z => h3 (by rw [z]; rfl)
        exact GO (fun z => absurd z (by omega))
      · have h3 : x = 3 := (neqI (b := 3) (by omega) (by omega)).mp h3
        have v0 := (fg_v (hok 0 (by omega))).2.1
        have v1 := (fg_v (hok 1 (by omega))).2.1
        have v2 := (fg_v (hok 2 (by omega))).2.1
        have v0 : vlA c t p 0 ≤ 9 := v0
        have v1 : vlA c t p 1 ≤ 9 := v1
        have v2 : vlA c t p 2 ≤ 9 := v2
        have hx3 : vlA c t p x = vlA c t p 3 := by rw [h3]
        refine ⟨_, _, rfl, vlit (j := 0) (by decide) (by decide), ?_⟩
        refine ⟨_, _, rfl, vlit (j := 2) (by decide) (by decide), ?_⟩
        refine ⟨fun h => ?_, fun h => ?_⟩
        · have h : ¬ upd f x (nI (vlA c t p x)) 0 = upd f x (nI (vlA c t p x)) 2 := h
          rw [hf' 0 (by omega), hf' 2 (by omega)] at h
          exact GO (fun _ z => h (by rw [z.1]))
        · have h : upd f x (nI (vlA c t p x)) 0 = upd f x (nI (vlA c t p x)) 2 := h
          rw [hf' 0 (by omega), hf' 2 (by omega), neqI (by omega) (by omega)] at h
          refine ⟨_, _, rfl, vlit (j := 1) (by decide) (by decide), ?_⟩
          refine ⟨fun h5 => ?_, fun h5 => ?_⟩
          · have h5 : ¬ upd f x (nI (vlA c t p x)) 1 = nI (vlA c t p x) := h5
            rw [hf' 1 (by omega), hx3] at h5
            exact GO (fun _ z => h5 (by rw [z.2]))
          · have h5 : upd f x (nI (vlA c t p x)) 1 = nI (vlA c t p x) := h5
            rw [hf' 1 (by omega), neqI (by omega) (by omega), hx3] at h5
            refine ⟨rfl, po_hp L96 (PF _ _ _ _ (tS c t (itA c t p 3)) ?_ (by rw [h3]))⟩
            unfold plA
            rw [ff_al (ok := fun k => fgA c t 0 9 (itA c t p k)) 4 (fun j hj => hok' j (by omega))]
            exact if_pos ⟨h, h5⟩
theorem am_readLines {rd : Fn} {k s pt i : Int32} {p : Nat} (hT : TXM (o_M O) c t) (hp : p ≤ t) : AC g mX6_readLines [.ref 94] (lay (S, o_M' O (mR (o_M O) rd (nI p) k s pt 0 i))) (fun r h' => ∃ rd' a' k' s', h' = lay (S, o_M' O (mR (o_M O) rd' a' k' s' pt 1 i)) ∧ (match liA c t p with
    | .inl q => r = some (.int 0) ∧ s' = nI q
    | .inr q => r = some (.int 1) ∧ a' = nI q ∧ rd' 4 = nI (tE c t p - tS c t p) ∧ (∀ l, l < tE c t p - tS c t p → rd' (5 + l) = nI (c (tS c t p + l) - 48)) ∧ ∀ j, j < 4 ∨ 13 ≤ j → rd' j = rd j)) := by
  have TX' : ∀ rd a k s p l i, TXM (o_M (o_M' O (mR (o_M O) rd a k s p l i))) c t := fun _ _ _ _ _ _ _ => hT
  have h160 := hT.2.1
  have hS := tS_le (c := c) hp
  have hE := tE_le (c := c) hp
  have hW := tW_le (c := c) (t := t) (p := p)
  generalize hPo : (fun (r : Option Value) (h' : AH) => ∃ rd' a' k' s', h' = lay (S, o_M' O (mR (o_M O) rd' a' k' s' pt 1 i)) ∧ (match liA c t p with
    | .inl q => r = some (.int 0) ∧ s' = nI q
    | .inr q => r = some (.int 1) ∧ a' = nI q ∧ rd' 4 = nI (tE c t p - tS c t p) ∧ (∀ l, l < tE c t p - tS c t p → rd' (5 + l) = nI (c (tS c t p + l) - 48)) ∧ ∀ j, j < 4 ∨ 13 ≤ j → rd' j = rd j)) = Post
  have PF : ∀ (rd' : Fn) (a k s : Int32) (q : Nat), liA c t p = .inl q → s = nI q → Post (some (.int 0)) (lay (S, o_M' O (mR (o_M O) rd' a k s pt 1 i))) := fun rd' a k s q h1 h2 => by
    rw [← hPo]
    refine ⟨rd', a, k, s, rfl, ?_⟩
    rw [h1]
    exact ⟨rfl, h2⟩
  refine acw gdX6_readLines 60 rfl ⟨fun _ => ⟨Or.inr rfl, ac_hp Lm94 ?_⟩, fun h => absurd rfl h⟩
  refine ac_to (am_next (g := g) (S := S) (O := o_M' O (mR (o_M O) rd (nI p) k s pt 1 i)) (p := p) (TX' _ _ _ _ _ _ _) rfl hp) ?_
  refine ⟨fun h => ?_, fun h => ?_⟩
  · have h' : ¬ tK c t p = 2 := fun z => h (by show nI (tW c t p) = 1002; rw [tW_4.mpr z]; rfl)
    refine ⟨rfl, PF rd _ _ _ (tS c t p) ?_ rfl⟩
    unfold liA
    rw [if_neg (fun z => h' z.1)]
  have h2 : tK c t p = 2 := tW_4.mp ((neqI (b := 1002) (by omega) (by omega)).mp h)
  have hgt := tE_gt (c := c) (t := t) (p := p) (by omega)
  have es : nI (tE c t p) - nI (tS c t p) = nI (tE c t p - tS c t p) := pk_sub (by omega)
  refine ⟨fun h8 => ?_, fun h8 => ?_⟩
  · have h8 : nI (tE c t p) - nI (tS c t p) ≤ 8 := h8
    rw [es] at h8
    have h8 := (nleI (b := 8) (by omega) (by omega)).mp h8
    have key := dn (n := tE c t p - tS c t p) (P := fun x => ∀ (f : Fn), (∀ j, j < x → f (5 + j) = nI (c (tS c t p + j) - 48)) → (∀ j, j < 4 ∨ 13 ≤ j → f j = rd j) → (∀ j, j < x → decide (c (tS c t p + j) ≤ 49) = true) → AW g mX6_readLines Post 0 0 48 [some (.ref 94), some (.int (nI (tE c t p - tS c t p))), some (.int (nI x)), none] [] (lay (S, o_M' O (mR (o_M O) f (nI (tE c t p)) (nI (tW c t p)) (nI (tS c t p)) pt 1 i)))) ?_ (fun x hx ih => ?_) 0 (Nat.zero_le _)
    · refine awl ?_ (key rd (fun j hj => absurd hj (by omega)) (fun j hj => rfl) (fun j hj => absurd hj (by omega)))
      rw [← es]
      rfl
    · intro f hf hf2 hok
      refine lpw gdX6_readLines 60 ⟨fun _ => ?_, fun h => absurd (nle (Nat.le_refl _) (by omega)) h⟩
      refine ⟨_, _, rfl, vlit (j := 4) (by decide) (by decide), ?_⟩
      have e1 : liA c t p = stA c t (tE c t p) := by
        unfold liA
        rw [if_pos ⟨h2, h8, ff_al _ hok⟩]
      rw [vcl (x := 4) (j := 4) rfl (by decide)]
      refine ac_hp L96 (ac_to (am_isEnded (g := g) (S := S) (O := o_M' O (mR (o_M O) (upd f 4 (nI (tE c t p - tS c t p))) (nI (tE c t p)) (nI (tW c t p)) (nI (tS c t p)) pt 1 i)) (p := tE c t p) (TX' _ _ _ _ _ _ _) rfl hE) ⟨bi_n _, ?_⟩)
      rw [← hPo]
      refine ⟨upd f 4 (nI (tE c t p - tS c t p)), _, _, _, rfl, ?_⟩
      rw [e1]
      unfold stA
      by_cases h3 : tK c t (tE c t p) = 3
      · rw [if_pos h3]
        refine ⟨congrArg (fun z => some (Value.int z)) (bi_t (by simp [h3])), rfl, pk_us, fun j hj => ?_, fun j hj => ?_⟩
        · rw [pk_un (by omega)]; exact hf j hj
        · rw [pk_un (by omega)]; exact hf2 j hj
      · rw [if_neg h3]
        exact ⟨congrArg (fun z => some (Value.int z)) (bi_f (by simp [h3])), rfl⟩
    · intro f hf hf2 hok
      have hin := kd_2.mp ((tE_in (Or.inr h2) (i := tS c t p + x) (by omega) (by omega)).trans h2)
      obtain ⟨hc1, hc2⟩ := hT.2.2 _ hin.1
      have ei : nI (tS c t p) + nI x = nI (tS c t p + x) := nI_add _ _
      have e5 : 5 + nI x = nI (5 + x) := by simp only [nlit, nI_add]
      have ev := sub48 hin.2.1
      refine lpw gdX6_readLines 60 ⟨fun h => absurd h (nge (by omega) (by omega)), fun _ => ?_⟩
      refine ⟨_, _, rfl, vin ei (by omega) (by decide), ?_⟩
      rw [vcl ei (by omega), show z_text (o_M (S, o_M' O (mR (o_M O) f (nI (tE c t p)) (nI (tW c t p)) (nI (tS c t p)) pt 1 i)).snd) (tS c t p + x) = _ from hc1]
      refine ⟨fun h9 => ?_, fun h9 => ?_⟩
      · have h9 : nI (c (tS c t p + x)) - 48 ≤ 1 := h9
        rw [ev] at h9
        have h9 := (nleI (b := 1) (by omega) (by omega)).mp h9
        refine ⟨_, _, rfl, vin e5 (by omega) (by decide), ?_⟩
        rw [vcl e5 (by omega)]
        refine aw_hp L96 ?_
        rw [ev]
        refine awf ?_ (ih (upd f (5 + x) (nI (c (tS c t p + x) - 48))) (fun j hj => ?_) (fun j hj => ?_) (fun j hj => ?_))
        · rw [← nI_1]
          exact ⟨rfl, rfl, rfl, trivial⟩
        · by_cases hji : j = x
          · subst hji; rw [pk_us]
          · rw [pk_un (by omega)]; exact hf j (by omega)
        · rw [pk_un (by omega)]; exact hf2 j hj
        · by_cases hji : j = x
          · subst hji; simp; omega
          · exact hok j (by omega)
      · have h9 : ¬ nI (c (tS c t p + x)) - 48 ≤ 1 := h9
        rw [ev] at h9
        have h9 : ¬ c (tS c t p + x) - 48 ≤ 1 := fun z => h9 ((nleI (b := 1) (by omega) (by omega)).mpr z)
        refine ⟨rfl, PF _ _ _ _ (tS c t p) ?_ rfl⟩
        unfold liA
        rw [if_neg]
        rintro ⟨-, -, z⟩
        have := ff_no _ z x hx
        simp at this
        omega
  · have h8 : ¬ nI (tE c t p) - nI (tS c t p) ≤ 8 := h8
    rw [es] at h8
    have h8 : ¬ tE c t p - tS c t p ≤ 8 := fun z => h8 ((nleI (b := 8) (by omega) (by omega)).mpr z)
    refine ⟨rfl, PF rd _ _ _ (tS c t p) ?_ rfl⟩
    unfold liA
    rw [if_neg (fun z => h8 z.2.1)]
end MQ
