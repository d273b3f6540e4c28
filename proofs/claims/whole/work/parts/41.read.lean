/-! ===== the class's reader ===== -/
abbrev rdS (R : Rd) (k a b : Int32) : Rd := (r_t R, r_len R, k, a, b, r_pt R, r_lt R)
def TX (R : Rd) (c : Nat → Nat) (t : Nat) : Prop := r_len R = nI t ∧ t ≤ 160 ∧ ∀ i, i < t → r_t R i = nI (c i) ∧ c i ≤ 255
/-- the reader has gone on by a token -/
abbrev rdT (R : Rd) (c : Nat → Nat) (t p : Nat) : Rd := rdS R (nI (tK c t p)) (nI (tS c t p)) (nI (tE c t p))
/-- the next token is one figure from lo to hi -/
def fgA (c : Nat → Nat) (t lo hi p : Nat) : Bool := decide (tK c t p = 2) && decide (tE c t p = tS c t p + 1) && (decide (lo + 48 ≤ c (tS c t p)) && decide (c (tS c t p) ≤ hi + 48))
theorem po_hp {Post : Option Value → AH → Prop} {r : Option Value} {h h' : AH} (e : h = h') (k : Post r h') : Post r h := e ▸ k
section RD
variable {g : Glob} {S : Scn} {O : Oth} {c : Nat → Nat} {t : Nat}
set_option maxRecDepth 10000 in
theorem Lrd {l k a b p q : Int32} : (lay (S, O)).set 53 (.inr (2, [.ref 54, .int l, .int k, .int a, .int b, .int p, .int q])) = lay (S, o_R' O (r_t (o_R O), l, k, a, b, p, q)) := by rfl
theorem Lrd2 {x : va_E} {l k a b p q : Int32} : ((lay (S, O)).set 53 x).set 53 (.inr (2, [.ref 54, .int l, .int k, .int a, .int b, .int p, .int q])) = lay (S, o_R' O (r_t (o_R O), l, k, a, b, p, q)) := by rw [List.set_set]; exact Lrd
theorem ac_kindAt {p : Nat} (hT : TX (o_R O) c t) (hp : p ≤ 1000) : ACe g mX2_kindAt [.ref 53, .int (nI p)] (lay (S, O)) (some (.int (nI (kdA c t p)))) (lay (S, O)) := by
  obtain ⟨hl, h160, hc⟩ := hT
  have hl' : r_len (o_R (S, O).snd) = nI t := hl
  refine acw gdX2_kindAt 40 rfl ⟨fun h => ?_, fun h => ?_⟩
  · rw [hl', nltI (by omega) (by omega)] at h
    obtain ⟨hc1, hc2⟩ := hc p h
    refine ⟨_, _, rfl, vlit (by omega) (by decide), ?_⟩
    rw [vcl (x := nI p) rfl (by omega), show r_t (o_R (S, O).snd) p = _ from hc1]
    have e0 : ¬ t ≤ p := by omega
    refine ⟨fun h1 => ?_, fun h1 => ⟨fun h2 => ?_, fun h2 => ?_⟩⟩
    · have h1 := (nltI (b := 97) (by omega) (by omega)).mp h1
      refine ⟨fun h3 => ?_, fun h3 => ⟨fun h4 => ?_, fun h4 => ?_⟩⟩
      · have h3 := (nltI (b := 48) (by omega) (by omega)).mp h3
        refine ⟨fun h5 => ⟨?_, rfl⟩, fun h5 => ?_⟩
        · have h5 : ¬ c p = 59 := fun z => h5 (by rw [z]; rfl)
          unfold kdA; rw [if_neg e0, if_neg (by omega), if_neg (by omega), if_neg h5]; rfl
        · have h5 := (neqI (b := 59) (by omega) (by omega)).mp h5
          omega
      · have h3 : ¬ c p < 48 := fun z => h3 ((nltI (b := 48) (by omega) (by omega)).mpr z)
        have h4 := (nltI (a := 57) (by omega) (by omega)).mp h4
        refine ⟨fun h5 => ⟨?_, rfl⟩, fun h5 => ⟨?_, rfl⟩⟩
        · have h5 : ¬ c p = 59 := fun z => h5 (by rw [z]; rfl)
          unfold kdA; rw [if_neg e0, if_neg (by omega), if_neg (by omega), if_neg h5]; rfl
        · have h5 := (neqI (b := 59) (by omega) (by omega)).mp h5
          unfold kdA; rw [if_neg e0, if_neg (by omega), if_neg (by omega), if_pos h5]; rfl
      · have h3 : ¬ c p < 48 := fun z => h3 ((nltI (b := 48) (by omega) (by omega)).mpr z)
        have h4 : ¬ 57 < c p := fun z => h4 ((nltI (a := 57) (by omega) (by omega)).mpr z)
        refine ⟨?_, rfl⟩
        unfold kdA; rw [if_neg e0, if_neg (by omega), if_pos (by omega)]; rfl
    · have h1 : ¬ c p < 97 := fun z => h1 ((nltI (b := 97) (by omega) (by omega)).mpr z)
      have h2 := (nltI (a := 122) (by omega) (by omega)).mp h2
      refine ⟨fun h3 => ?_, fun h3 => ⟨fun h4 => ?_, fun h4 => ?_⟩⟩
      · have h3 := (nltI (b := 48) (by omega) (by omega)).mp h3
        omega
      · refine ⟨fun h5 => ⟨?_, rfl⟩, fun h5 => ?_⟩
        · unfold kdA; rw [if_neg e0, if_neg (by omega), if_neg (by omega), if_neg (by omega)]; rfl
        · have h5 := (neqI (b := 59) (by omega) (by omega)).mp h5
          omega
      · have h4 : ¬ 57 < c p := fun z => h4 ((nltI (a := 57) (by omega) (by omega)).mpr z)
        omega
    · have h1 : ¬ c p < 97 := fun z => h1 ((nltI (b := 97) (by omega) (by omega)).mpr z)
      have h2 : ¬ 122 < c p := fun z => h2 ((nltI (a := 122) (by omega) (by omega)).mpr z)
      refine ⟨?_, rfl⟩
      unfold kdA; rw [if_neg e0, if_pos (by omega)]; rfl
  · rw [hl', nltI (by omega) (by omega)] at h
    refine ⟨?_, rfl⟩
    rw [kd_0.mpr (by omega)]
    rfl
theorem ac_step {p : Nat} (hT : TX (o_R O) c t) (he : r_en (o_R O) = nI p) (hp : p ≤ t) : ACe g mX2_step [.ref 53] (lay (S, O)) none (lay (S, o_R' O (rdT (o_R O) c t p))) := by
  have hT0 := hT
  obtain ⟨hl, h160, hc⟩ := hT
  have hS := tS_le (c := c) hp
  have TX' : ∀ k a b : Int32, TX (o_R (o_R' O (rdS (o_R O) k a b))) c t := fun _ _ _ => hT0
  generalize hPo : (fun (r : Option Value) (h' : AH) => r = none ∧ h' = lay (S, o_R' O (rdT (o_R O) c t p))) = Post
  have hfin : ∀ (e : Nat), e = tE c t p → Post none (lay (S, o_R' O (rdS (o_R O) (nI (tK c t p)) (nI (tS c t p)) (nI e)))) := fun e h => by rw [h, ← hPo]; exact ⟨rfl, rfl⟩
  -- the token's end
  have L100 : tK c t p = 1 ∨ tK c t p = 2 → ∀ k e, t - e = k → e ≤ t → ruA c t (tK c t p) k e = tE c t p → AW g mX2_step Post 0 0 100 [some (.ref 53)] [] (lay (S, o_R' O (rdS (o_R O) (nI (tK c t p)) (nI (tS c t p)) (nI e)))) := by
    intro hq k
    induction k with
    | zero =>
      intro e h1 h2 h3
      have het : e = t := by omega
      refine lpw gdX2_step 60 ⟨fun _ => hfin e h3, fun h => absurd (show r_len (o_R O) ≤ nI e by rw [hl]; exact nle (by omega) (by omega)) h⟩
    | succ k ih =>
      intro e h1 h2 h3
      refine lpw gdX2_step 60 ⟨fun h => absurd (show r_len (o_R O) ≤ nI e from h) (by rw [hl]; exact nge (by omega) (by omega)), fun _ => ?_⟩
      refine ac_to (ac_kindAt (g := g) (S := S) (O := o_R' O (rdS (o_R O) (nI (tK c t p)) (nI (tS c t p)) (nI e))) (p := e) (TX' _ _ _) (by omega)) ?_
      have k4 := kd_4 (c := c) (t := t) e
      refine ⟨fun h => ?_, fun h => ?_⟩
      · have h' : kdA c t e ≠ tK c t p := fun z => h (by show nI (kdA c t e) = nI (tK c t p); rw [z])
        rw [ruA_n h'] at h3
        exact hfin e h3
      · have h' : kdA c t e = tK c t p := (neqI (by omega) (by omega)).mp (show nI (kdA c t e) = nI (tK c t p) from h)
        rw [ruA_s h'] at h3
        refine aw_hp Lrd ?_
        rw [show nI e + 1 = nI (e + 1) from nI_1 e]
        exact ih (e + 1) (by omega) (by omega) h3
  -- its start
  have L46 : ∀ (k0 b0 : Int32), AW g mX2_step Post 0 0 46 [some (.ref 53)] [] (lay (S, o_R' O (rdS (o_R O) k0 (nI (tS c t p)) b0))) := by
    intro k0 b0
    refine lpw gdX2_step 60 (ac_hp Lrd (ac_to (ac_kindAt (g := g) (S := S) (O := o_R' O (rdS (o_R O) k0 (nI (tS c t p)) (nI (tS c t p)))) (p := tS c t p) (TX' _ _ _) (by omega)) ?_))
    have k4 : tK c t p ≤ 4 := kd_4 (c := c) (t := t) _
    have ek : kdA c t (tS c t p) = tK c t p := rfl
    rw [ek]
    refine ⟨fun h => ?_, fun h => ?_⟩
    · have h0 : tK c t p ≠ 0 := fun z => h (by show nI (tK c t p) = 0; rw [z]; rfl)
      have hlt := tS_lt h0
      have hGo : tK c t p = 1 ∨ tK c t p = 2 → AW g mX2_step Post 0 0 100 [some (.ref 53)] [] (lay (S, o_R' O (rdS (o_R O) (nI (tK c t p)) (nI (tS c t p)) (nI (tS c t p + 1))))) := fun hq => by
        refine L100 hq _ (tS c t p + 1) rfl (by omega) ?_
        unfold tE
        rw [if_neg h0, if_pos hq]
      refine ⟨fun h1 => ?_, fun h1 => ⟨fun h2 => ?_, fun h2 => ?_⟩⟩
      · have h1 := (neqI (b := 1) (by omega) (by omega)).mp h1
        refine aw_hp Lrd2 ?_
        rw [show nI (tS c t p) + 1 = nI (tS c t p + 1) from nI_1 _]
        exact hGo (Or.inl h1)
      · have h1 : ¬ tK c t p = 1 := fun z => h1 (by show nI (tK c t p) = 1; rw [z]; rfl)
        have h2 : ¬ tK c t p = 2 := fun z => h2 (by show nI (tK c t p) = 2; rw [z]; rfl)
        show Post none _
        have := hfin (tS c t p + 1) (by unfold tE; rw [if_neg h0, if_neg (by omega)])
        rw [← nI_1] at this
        exact po_hp Lrd2 this
      · have h2 := (neqI (b := 2) (by omega) (by omega)).mp h2
        refine aw_hp Lrd2 ?_
        rw [show nI (tS c t p) + 1 = nI (tS c t p + 1) from nI_1 _]
        exact hGo (Or.inr h2)
    · have h0 : tK c t p = 0 := (neqI (b := 0) (by omega) (by omega)).mp h
      show Post none _
      have := hfin (tS c t p) (by unfold tE; rw [if_pos h0])
      exact po_hp Lrd this
  have L8 : ∀ (k0 b0 : Int32) k s, t - s = k → s ≤ t → skA c t k s = tS c t p → AW g mX2_step Post 0 0 8 [some (.ref 53)] [] (lay (S, o_R' O (rdS (o_R O) k0 (nI s) b0))) := by
    intro k0 b0 k
    induction k with
    | zero =>
      intro s h1 h2 h3
      have h3 : s = tS c t p := h3
      refine lpw gdX2_step 60 ⟨fun _ => ?_, fun h => absurd (show r_len (o_R O) ≤ nI s by rw [hl]; exact nle (by omega) (by omega)) h⟩
      rw [h3]
      exact L46 k0 b0
    | succ k ih =>
      intro s h1 h2 h3
      obtain ⟨hc1, hc2⟩ := hc s (by omega)
      refine lpw gdX2_step 60 ⟨fun h => absurd (show r_len (o_R O) ≤ nI s from h) (by rw [hl]; exact nge (by omega) (by omega)), fun _ => ?_⟩
      refine ⟨_, _, rfl, vlit (by omega) (by decide), ?_⟩
      rw [vcl (x := nI s) rfl (by omega), show r_t (o_R (S, o_R' O (rdS (o_R O) k0 (nI s) b0)).snd) s = _ from hc1]
      refine ⟨fun h => ?_, fun h => ?_⟩
      · have h' : c s ≠ 32 := fun z => h (by rw [z]; rfl)
        rw [skA_n h'] at h3
        rw [h3]
        exact L46 k0 b0
      · have h' : c s = 32 := (neqI (b := 32) (by omega) (by omega)).mp h
        rw [skA_s (by omega) h'] at h3
        refine aw_hp Lrd ?_
        rw [show nI s + 1 = nI (s + 1) from nI_1 s]
        exact ih (s + 1) (by omega) (by omega) h3
  rw [show ACe g mX2_step [.ref 53] (lay (S, O)) none (lay (S, o_R' O (rdT (o_R O) c t p))) = AC g mX2_step [.ref 53] (lay (S, O)) Post by rw [← hPo]; rfl]
  refine acw gdX2_step 60 rfl (aw_hp Lrd ?_)
  have := L8 (r_kd (o_R O)) (r_en (o_R O)) (t - p) p rfl hp rfl
  rw [← he] at this
  exact this
theorem ac_stepToStop {p : Nat} (hT : TX (o_R O) c t) (he : r_en (o_R O) = nI p) (hp : p ≤ t) : ACe g mX2_stepToStop [.ref 53] (lay (S, O)) (some (.int (bi (decide (tK c t p = 3))))) (lay (S, o_R' O (rdT (o_R O) c t p))) := by
  have k4 : tK c t p ≤ 4 := kd_4 (c := c) (t := t) _
  refine acw gdX2_stepToStop 40 rfl (ac_to (ac_step hT he hp) ⟨fun h => ?_, fun h => ?_⟩)
  · have h' : ¬ tK c t p = 3 := fun z => h (by show nI (tK c t p) = 3; rw [z]; rfl)
    exact ⟨rfl, congrArg (fun z => some (Value.int z)) (bi_f (by simp [h'])).symm, rfl⟩
  · have h' : tK c t p = 3 := (neqI (b := 3) (by omega) (by omega)).mp h
    exact ⟨rfl, congrArg (fun z => some (Value.int z)) (bi_t (by simp [h'])).symm, rfl⟩
theorem sub48 {x : Nat} (h : 48 ≤ x) : nI x - 48 = nI (x - 48) := pk_sub (a := x) (b := 48) h
theorem ac_stepToFigure {p lo hi : Nat} (hT : TX (o_R O) c t) (he : r_en (o_R O) = nI p) (hp : p ≤ t) (hlo : lo ≤ 9) (hhi : hi ≤ 9) : ACe g mX2_stepToFigure [.ref 53, .int (nI lo), .int (nI hi)] (lay (S, O)) (some (.int (bi (fgA c t lo hi p)))) (lay (S, o_R' O (rdT (o_R O) c t p))) := by
  have k4 : tK c t p ≤ 4 := kd_4 (c := c) (t := t) _
  have hS := tS_le (c := c) hp
  have hE := tE_le (c := c) hp
  have h160 := hT.2.1
  refine acw gdX2_stepToFigure 60 rfl (ac_to (ac_step hT he hp) ⟨fun h => ?_, fun h => ?_⟩)
  · have h' : ¬ tK c t p = 2 := fun z => h (by show nI (tK c t p) = 2; rw [z]; rfl)
    exact ⟨rfl, congrArg (fun z => some (Value.int z)) (bi_f (by simp [fgA, h'])).symm, rfl⟩
  have h2 : tK c t p = 2 := (neqI (b := 2) (by omega) (by omega)).mp h
  have hgt := tE_gt (c := c) (t := t) (p := p) (by omega)
  have hd := kd_2.mp h2
  obtain ⟨hc1, hc2⟩ := hT.2.2 (tS c t p) (by omega)
  have es : nI (tE c t p) - nI (tS c t p) = nI (tE c t p - tS c t p) := pk_sub (by omega)
  refine ⟨fun h => ?_, fun h => ?_⟩
  · have h3 : tE c t p - tS c t p = 1 := (neqI (b := 1) (by omega) (by omega)).mp (es.symm.trans h)
    refine ⟨_, _, rfl, vlit (by omega) (by decide), ?_⟩
    rw [vcl (x := nI (tS c t p)) rfl (by omega), show r_t (o_R (S, o_R' O (rdT (o_R O) c t p)).snd) (tS c t p) = _ from hc1]
    have e2 : fgA c t lo hi p = (decide (lo + 48 ≤ c (tS c t p)) && decide (c (tS c t p) ≤ hi + 48)) := by
      unfold fgA
      rw [show decide (tK c t p = 2) = true by simp [h2], show decide (tE c t p = tS c t p + 1) = true by simp; omega]
      rfl
    rw [e2]
    refine ⟨fun h => ?_, fun h => ⟨fun h4 => ?_, fun h4 => ?_⟩⟩
    all_goals rw [sub48 hd.2.1] at h
    all_goals try rw [sub48 hd.2.1] at h4
    · have h := (nltI (by omega) (by omega)).mp h
      exact ⟨rfl, congrArg (fun z => some (Value.int z)) (bi_f (by simp; omega)).symm, rfl⟩
    · have h4 := (nltI (by omega) (by omega)).mp h4
      exact ⟨rfl, congrArg (fun z => some (Value.int z)) (bi_f (by simp; omega)).symm, rfl⟩
    · have h : ¬ c (tS c t p) - 48 < lo := fun z => h ((nltI (by omega) (by omega)).mpr z)
      have h4 : ¬ hi < c (tS c t p) - 48 := fun z => h4 ((nltI (by omega) (by omega)).mpr z)
      exact ⟨rfl, congrArg (fun z => some (Value.int z)) (bi_t (by simp; omega)).symm, rfl⟩
  · have h3 : ¬ tE c t p - tS c t p = 1 := fun z => h (show nI (tE c t p) - nI (tS c t p) = 1 by rw [es, z]; rfl)
    exact ⟨rfl, congrArg (fun z => some (Value.int z)) (bi_f (by
      unfold fgA
      rw [show decide (tE c t p = tS c t p + 1) = false by simp; omega]
      simp)).symm, rfl⟩
/-- the three words -/
theorem ac_isWord {w : List Nat} {k s e q : Nat} (hk : k = 1000 ∨ k = 1001 ∨ k = 1002) (HL : ∀ h, ACe g mJ0_length_8abf5 [.ref k] h (some (.int (nI w.length))) h) (HC : ∀ i h, i < w.length → ACe g mJ0_charAt_5068e [.ref k, .int (nI i)] h (some (.int (nI (w.getD i 0)))) h) (hw : w.length ≤ 7) (hw2 : ∀ i, w.getD i 0 < 256) (hT : TX (o_R O) c t) (hs : r_st (o_R O) = nI s) (hen : r_en (o_R O) = nI e) (hkd : r_kd (o_R O) = nI q) (hq : q ≤ 4) (hse : s ≤ e) (het : e ≤ t) : ACe g mX2_isWord [.ref 53, .ref k] (lay (S, O)) (some (.int (bi (decide (q = 1) && isW c w s (e - s))))) (lay (S, O)) := by
  have h160 := hT.2.1
  have es : nI e - nI s = nI (e - s) := pk_sub (by omega)
  have hs' : r_st (o_R (S, O).snd) = nI s := hs
  have hen' : r_en (o_R (S, O).snd) = nI e := hen
  have hkd' : r_kd (o_R (S, O).snd) = nI q := hkd
  generalize hB : (decide (q = 1) && isW c w s (e - s)) = B
  rcases hk with rfl | rfl | rfl
  all_goals
    refine acw gdX2_isWord 60 rfl ⟨fun h => ?_, fun h => ?_⟩
    · have h' : ¬ q = 1 := fun z => h (by show r_kd (o_R O) = 1; rw [hkd, z]; rfl)
      exact ⟨rfl, congrArg (fun z => some (Value.int z)) (bi_f (by rw [← hB]; simp [h'])).symm, rfl⟩
    have h1 : q = 1 := (neqI (b := 1) (by omega) (by omega)).mp (hkd.symm.trans h)
    have hB' : isW c w s (e - s) = B := by rw [← hB, h1]; rfl
    refine ac_to (HL _) ⟨fun h => ?_, fun h => ?_⟩
    · rw [hen', hs', es, neqI (by omega) (by omega)] at h
      refine dn (n := w.length) (P := fun i => (∀ j, j < i → c (s + j) = w.getD j 0) → AW g mX2_isWord _ 0 0 28 [some (.ref 53), some (.ref _), some (.int (nI i))] [] (lay (S, O))) (fun hj => ?_) (fun i hi ih hj => ?_) 0 (Nat.zero_le _) (fun j hj => absurd hj (by omega))
      · refine lpw gdX2_isWord 60 (ac_to (HL _) ⟨fun _ => ?_, fun h => absurd (nle (by omega) (by omega)) h⟩)
        exact ⟨rfl, congrArg (fun z => some (Value.int z)) (bi_t (by rw [← hB']; exact (isW_iff w s (e - s)).mpr ⟨h, hj⟩)).symm, rfl⟩
      · obtain ⟨hc1, hc2⟩ := hT.2.2 (s + i) (by omega)
        have ei : r_st (o_R (S, O).snd) + nI i = nI (s + i) := by rw [hs', nI_add]
        have hw2' := hw2 i
        refine lpw gdX2_isWord 60 (ac_to (HL _) ⟨fun h => absurd h (nge (by omega) (by omega)), fun _ => ?_⟩)
        refine ⟨_, _, rfl, vin ei (by omega) (by decide), ?_⟩
        rw [vcl ei (by omega), show r_t (o_R (S, O).snd) (s + i) = _ from hc1]
        refine ac_to (HC i _ hi) ⟨fun h2 => ?_, fun h2 => ?_⟩
        · have h2 := (neqI (by omega) (by omega)).mp h2
          refine awl (by rw [← nI_1]; rfl) (ih (fun j hj' => ?_))
          by_cases hji : j = i
          · subst hji; exact h2
          · exact hj j (by omega)
        · have h2 : ¬ c (s + i) = w.getD i 0 := fun z => h2 (by rw [z])
          refine ⟨rfl, congrArg (fun z => some (Value.int z)) (bi_f ?_).symm, rfl⟩
          rw [← hB']
          cases hW : isW c w s (e - s) with
          | false => rfl
          | true => exact absurd (((isW_iff w s (e - s)).mp hW).2 i hi) h2
    · rw [hen', hs', es] at h
      have h' : ¬ e - s = w.length := fun z => h (by rw [z])
      refine ⟨rfl, congrArg (fun z => some (Value.int z)) (bi_f ?_).symm, rfl⟩
      rw [← hB']
      cases hW : isW c w s (e - s) with
      | false => rfl
      | true => exact absurd ((isW_iff w s (e - s)).mp hW).1 h'
end RD
