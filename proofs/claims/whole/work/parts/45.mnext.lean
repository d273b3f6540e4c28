/-! ===== the model's tokens ===== -/
abbrev mR (M : Mdl) (rd : Fn) (a k s p l i : Int32) : Mdl := (z_now M, rd, z_past M, z_deeds M, z_img M, z_kept M, z_text M, z_let M, a, k, s, z_sw M, z_si M, z_seen M, p, l, i, z_cuts M, z_way M, z_wc M, z_best M, z_bc M, z_bs M)
abbrev mN (M : Mdl) (a k s : Int32) : Mdl := mR M (z_rd M) a k s (z_aP M) (z_aL M) (z_items M)
/-- the model has gone on by a token -/
abbrev mT (M : Mdl) (c : Nat → Nat) (t p : Nat) : Mdl := mN M (nI (tE c t p)) (nI (tW c t p)) (nI (tS c t p))
def TXM (M : Mdl) (c : Nat → Nat) (t : Nat) : Prop := z_let M = nI t ∧ t ≤ 160 ∧ ∀ i, i < t → z_text M i = nI (c i) ∧ c i ≤ 255
theorem o64 {A B : Nat} (hA : A < 2 ^ 63) (hB : B < 2 ^ 63) : Int64.ofNat A = Int64.ofNat B ↔ A = B := by
  constructor
  · intro h
    have h1 := Int64.toInt_ofNat_of_lt hA
    have h2 := Int64.toInt_ofNat_of_lt hB
    rw [h] at h1
    omega
  · intro h; rw [h]
theorem l64 {W x : Nat} (hx : 97 ≤ x) (hx2 : x ≤ 122) : Int64.ofNat 32 * Int64.ofNat W + (nI x).toInt64 - Int64.ofNat 97 + Int64.ofNat 1 = Int64.ofNat ((x - 96) + 32 * W) := by
  have e : (nI x).toInt64 = Int64.ofNat x := Int32.toInt64_ofNat' (by rw [show Int32.maxValue.toInt = 2147483647 by decide]; omega)
  obtain ⟨y, rfl⟩ : ∃ y, x = y + 97 := ⟨x - 97, by omega⟩
  rw [e, ← Int64.ofNat_mul, ← Int64.ofNat_add, show 32 * W + (y + 97) = (32 * W + y) + 97 by omega, Int64.ofNat_add (32 * W + y) 97, Int64.add_sub_cancel, ← Int64.ofNat_add]
  congr 1
  omega
theorem wN {c : Nat → Nat} {w : List Nat} {s k : Nat} (hw : ∀ x ∈ w, 97 ≤ x ∧ x ≤ 122) (hl : w.length < 9) (h0 : pkW w ≠ 0) (hk : ∀ i, i < k → 97 ≤ c (s + i) ∧ c (s + i) ≤ 122) : (if k < 9 then wdA c s k else 0) = pkW w ↔ isW c w s k = true := by
  by_cases h : k < 9
  · rw [if_pos h]; exact wd_is w hw s k hk
  · rw [if_neg h]
    exact ⟨fun z => absurd z.symm h0, fun z => absurd ((isW_iff w s k).mp z).1 (by omega)⟩
theorem wN_lt {c : Nat → Nat} {s k : Nat} (hk : ∀ i, i < k → 97 ≤ c (s + i) ∧ c (s + i) ≤ 122) : (if k < 9 then wdA c s k else 0) < 2 ^ 63 := by
  by_cases h : k < 9
  · rw [if_pos h]
    have h1 := wd_lt s k hk
    have h2 : 32 ^ k ≤ 32 ^ 8 := Nat.pow_le_pow_right (by decide) (by omega)
    have h3 : (32 : Nat) ^ 8 < 2 ^ 63 := by decide
    omega
  · rw [if_neg h]; decide
theorem tW_0 {c : Nat → Nat} {t p : Nat} : tW c t p = 1000 ↔ tK c t p = 0 := by
  unfold tW
  constructor
  · intro h
    split at h
    · rename_i h1; exact h1
    · split at h
      · split at h
        · omega
        · split at h
          · omega
          · split at h <;> omega
      · split at h
        · omega
        · split at h <;> omega
  · intro h; rw [if_pos h]
theorem tW_4 {c : Nat → Nat} {t p : Nat} : tW c t p = 1002 ↔ tK c t p = 2 := by
  unfold tW
  constructor
  · intro h
    split at h
    · omega
    · split at h
      · split at h
        · omega
        · split at h
          · omega
          · split at h <;> omega
      · split at h
        · rename_i h1; exact h1
        · split at h <;> omega
  · intro h; rw [if_neg (by omega), if_neg (by omega), if_pos h]
theorem tW_5 {c : Nat → Nat} {t p : Nat} : tW c t p = 59 ↔ tK c t p = 3 := by
  unfold tW
  constructor
  · intro h
    split at h
    · omega
    · split at h
      · split at h
        · omega
        · split at h
          · omega
          · split at h <;> omega
      · split at h
        · omega
        · split at h
          · rename_i h1; exact h1
          · omega
  · intro h; rw [if_neg (by omega), if_neg (by omega), if_neg (by omega), if_pos h]
theorem tW_le {c : Nat → Nat} {t p : Nat} : tW c t p ≤ 1005 := by
  unfold tW
  split
  · omega
  · split
    · split
      · omega
      · split
        · omega
        · split <;> omega
    · split
      · omega
      · split <;> omega
section MN
variable {g : Glob} {S : Scn} {O : Oth} {c : Nat → Nat} {t : Nat}
set_option maxRecDepth 10000 in
theorem Lm94 {x0 x1 x2 x3 x4 x5 x6 x7 x8 x9 x10 x11 : Int32} : (lay (S, O)).set 94 (.inr (6, [.ref 95, .ref 96, .ref 97, .int x0, .ref 98, .ref 99, .ref 100, .int x1, .int x2, .int x3, .int x4, .ref 101, .ref 102, .int x5, .int x6, .int x7, .int x8, .ref 103, .ref 104, .int x9, .ref 105, .int x10, .int x11])) = lay (S, o_M' O (z_now (o_M O), z_rd (o_M O), z_past (o_M O), x0, z_img (o_M O), z_kept (o_M O), z_text (o_M O), x1, x2, x3, x4, z_sw (o_M O), z_si (o_M O), x5, x6, x7, x8, z_cuts (o_M O), z_way (o_M O), x9, z_best (o_M O), x10, x11)) := by rfl
theorem Lm942 {e : va_E} {x0 x1 x2 x3 x4 x5 x6 x7 x8 x9 x10 x11 : Int32} : ((lay (S, O)).set 94 e).set 94 (.inr (6, [.ref 95, .ref 96, .ref 97, .int x0, .ref 98, .ref 99, .ref 100, .int x1, .int x2, .int x3, .int x4, .ref 101, .ref 102, .int x5, .int x6, .int x7, .int x8, .ref 103, .ref 104, .int x9, .ref 105, .int x10, .int x11])) = lay (S, o_M' O (z_now (o_M O), z_rd (o_M O), z_past (o_M O), x0, z_img (o_M O), z_kept (o_M O), z_text (o_M O), x1, x2, x3, x4, z_sw (o_M O), z_si (o_M O), x5, x6, x7, x8, z_cuts (o_M O), z_way (o_M O), x9, z_best (o_M O), x10, x11)) := by rw [List.set_set]; exact Lm94
theorem am_isLetter {p : Nat} (hT : TXM (o_M O) c t) (hp : p ≤ 1000) : ACe g mX6_isLetter [.ref 94, .int (nI p)] (lay (S, O)) (some (.int (bi (decide (kdA c t p = 1))))) (lay (S, O)) := by
  obtain ⟨hl, h160, hc⟩ := hT
  refine acw gdX6_isLetter 40 rfl ⟨fun h => ?_, fun h => ?_⟩
  · have h : z_let (o_M O) ≤ nI p := h
    rw [hl, nleI (by omega) (by omega)] at h
    refine ⟨rfl, congrArg (fun z => some (Value.int z)) (bi_f ?_).symm, rfl⟩
    rw [decide_eq_false_iff_not, kd_1]
    omega
  · have h : ¬ z_let (o_M O) ≤ nI p := h
    rw [hl, nleI (by omega) (by omega)] at h
    obtain ⟨hc1, hc2⟩ := hc p (by omega)
    refine ⟨_, _, rfl, vlit (by omega) (by decide), ?_⟩
    rw [vcl (x := nI p) rfl (by omega), show z_text (o_M (S, O).snd) p = _ from hc1]
    refine ac_to (am_in _ _ _ _) ⟨fun h2 => ?_, fun h2 => ?_⟩
    · have h2 := (bi_e0 _).mp h2
      refine ⟨rfl, congrArg (fun z => some (Value.int z)) (bi_f ?_).symm, rfl⟩
      rw [decide_eq_false_iff_not, kd_1]
      rintro ⟨z1, z2, z3⟩
      rw [show decide (nI (c p) < 97) = false by rw [decide_eq_false_iff_not]; exact fun z => absurd ((nltI (b := 97) (by omega) (by omega)).mp z) (by omega), show decide ((122 : Int32) < nI (c p)) = false by rw [decide_eq_false_iff_not]; exact fun z => absurd ((nltI (a := 122) (by omega) (by omega)).mp z) (by omega)] at h2
      cases h2
    · rw [bi_e0, Bool.not_eq_false] at h2
      simp only [Bool.and_eq_true, Bool.not_eq_true', decide_eq_false_iff_not] at h2
      refine ⟨rfl, congrArg (fun z => some (Value.int z)) (bi_t ?_).symm, rfl⟩
      rw [decide_eq_true_eq, kd_1]
      refine ⟨by omega, ?_, ?_⟩
      · apply Nat.le_of_not_lt; intro z; exact h2.1 ((nltI (b := 97) (by omega) (by omega)).mpr z)
      · apply Nat.le_of_not_lt; intro z; exact h2.2 ((nltI (a := 122) (by omega) (by omega)).mpr z)
theorem am_isFigure {p : Nat} (hT : TXM (o_M O) c t) (hp : p ≤ 1000) : ACe g mX6_isFigure [.ref 94, .int (nI p)] (lay (S, O)) (some (.int (bi (decide (kdA c t p = 2))))) (lay (S, O)) := by
  obtain ⟨hl, h160, hc⟩ := hT
  refine acw gdX6_isFigure 40 rfl ⟨fun h => ?_, fun h => ?_⟩
  · have h : z_let (o_M O) ≤ nI p := h
    rw [hl, nleI (by omega) (by omega)] at h
    refine ⟨rfl, congrArg (fun z => some (Value.int z)) (bi_f ?_).symm, rfl⟩
    rw [decide_eq_false_iff_not, kd_2]
    omega
  · have h : ¬ z_let (o_M O) ≤ nI p := h
    rw [hl, nleI (by omega) (by omega)] at h
    obtain ⟨hc1, hc2⟩ := hc p (by omega)
    refine ⟨_, _, rfl, vlit (by omega) (by decide), ?_⟩
    rw [vcl (x := nI p) rfl (by omega), show z_text (o_M (S, O).snd) p = _ from hc1]
    refine ac_to (am_in _ _ _ _) ⟨fun h2 => ?_, fun h2 => ?_⟩
    · have h2 := (bi_e0 _).mp h2
      refine ⟨rfl, congrArg (fun z => some (Value.int z)) (bi_f ?_).symm, rfl⟩
      rw [decide_eq_false_iff_not, kd_2]
      rintro ⟨z1, z2, z3⟩
      rw [show decide (nI (c p) < 48) = false by rw [decide_eq_false_iff_not]; exact fun z => absurd ((nltI (b := 48) (by omega) (by omega)).mp z) (by omega), show decide ((57 : Int32) < nI (c p)) = false by rw [decide_eq_false_iff_not]; exact fun z => absurd ((nltI (a := 57) (by omega) (by omega)).mp z) (by omega)] at h2
      cases h2
    · rw [bi_e0, Bool.not_eq_false] at h2
      simp only [Bool.and_eq_true, Bool.not_eq_true', decide_eq_false_iff_not] at h2
      refine ⟨rfl, congrArg (fun z => some (Value.int z)) (bi_t ?_).symm, rfl⟩
      rw [decide_eq_true_eq, kd_2]
      refine ⟨by omega, ?_, ?_⟩
      · apply Nat.le_of_not_lt; intro z; exact h2.1 ((nltI (b := 48) (by omega) (by omega)).mpr z)
      · apply Nat.le_of_not_lt; intro z; exact h2.2 ((nltI (a := 57) (by omega) (by omega)).mpr z)
theorem am_wordFrom {s e : Nat} (hT : TXM (o_M O) c t) (hse : s ≤ e) (het : e ≤ t) (hk : ∀ i, s ≤ i → i < e → kdA c t i = 1) : ACe g mX6_wordFrom [.ref 94, .int (nI s), .int (nI e)] (lay (S, O)) (some (.long (Int64.ofNat (if e - s < 9 then wdA c s (e - s) else 0)))) (lay (S, O)) := by
  obtain ⟨hl, h160, hc⟩ := hT
  have es : nI e - nI s = nI (e - s) := pk_sub hse
  by_cases h9 : e - s < 9
  · rw [if_pos h9]
    have key := dn (n := e - s) (P := fun d => AW g mX6_wordFrom (fun r h' => r = some (.long (Int64.ofNat (wdA c s (e - s)))) ∧ h' = lay (S, O)) 0 0 7 [some (.ref 94), some (.int (nI s)), some (.int (nI e)), some (.long (Int64.ofNat (wdA c (e - d) d))), none, some (.int (nI (e - d) - 1))] [] (lay (S, O))) ?_ (fun d hd ih => ?_) 0 (Nat.zero_le _)
    · exact acw gdX6_wordFrom 60 rfl key
    · rw [show e - (e - s) = s by omega]
      exact lpw gdX6_wordFrom 60 ⟨fun _ => ⟨rfl, rfl⟩, fun h => absurd ((le_pred (by omega)).mpr ((nleI (by omega) (by omega)).mpr (Nat.le_refl s))) h⟩
    · obtain ⟨j, hj⟩ : ∃ j, e - d = j + 1 := ⟨e - d - 1, by omega⟩
      have hkj := kd_1.mp (hk j (by omega) (by omega))
      obtain ⟨hc1, hc2⟩ := hc j (by omega)
      have ej : nI (e - d) - 1 = nI j := by rw [hj]; exact nI_pred j
      refine lpw gdX6_wordFrom 60 ⟨fun h => ?_, fun _ => ⟨fun h => ?_, fun _ => ?_⟩⟩
      · rw [le_pred (by omega), nleI (by omega) (by omega)] at h
        omega
      · rw [es] at h
        exact absurd ((nleI (a := 9) (by omega) (by omega)).mp h) (by omega)
      · refine ⟨_, _, rfl, vin ej (by omega) (by decide), ?_⟩
        rw [vcl ej (by omega), show z_text (o_M (S, O).snd) j = _ from hc1]
        refine awl ?_ ih
        rw [show e - (d + 1) = j by omega, show wdA c j (d + 1) = (c j - 96) + 32 * wdA c (j + 1) d from rfl, ← l64 hkj.2.1 hkj.2.2, ← hj, ← ej, Int32.sub_eq_add_neg (nI (e - d) - 1) 1]
        rfl
  · rw [if_neg h9]
    refine acw gdX6_wordFrom 60 rfl ?_
    refine lpw gdX6_wordFrom 60 ⟨fun _ => ⟨rfl, rfl⟩, fun _ => ⟨fun _ => ⟨rfl, rfl⟩, fun h => ?_⟩⟩
    rw [es] at h
    exact absurd ((nleI (a := 9) (by omega) (by omega)).mpr (by omega)) h
theorem am_next {p : Nat} (hT : TXM (o_M O) c t) (he : z_at (o_M O) = nI p) (hp : p ≤ t) : ACe g mX6_next [.ref 94] (lay (S, O)) none (lay (S, o_M' O (mT (o_M O) c t p))) := by
  have hT0 := hT
  obtain ⟨hl, h160, hc⟩ := hT
  have hS := tS_le (c := c) hp
  have hE := tE_le (c := c) hp
  have TX' : ∀ a k s : Int32, TXM (o_M (o_M' O (mN (o_M O) a k s))) c t := fun _ _ _ => hT0
  generalize hPo : (fun (r : Option Value) (h' : AH) => r = none ∧ h' = lay (S, o_M' O (mT (o_M O) c t p))) = Post
  have J248 : ∀ (k : Nat) (x y : Option Value), k = tW c t p → AW g mX6_next Post 0 0 248 [some (.ref 94), none, none] [] (lay (S, o_M' O (mN (o_M O) (nI (tE c t p)) (nI k) (nI (tS c t p))))) := fun k x y hk => by
    subst hk
    refine lpw gdX6_next 60 ?_
    show Post none _
    rw [← hPo]
    exact ⟨rfl, rfl⟩
  -- the token's end
  have L78 : tK c t p = 1 → ∀ k e, t - e = k → e ≤ t → ruA c t 1 k e = tE c t p → ∀ k0 : Int32, AW g mX6_next Post 0 0 78 [some (.ref 94), none, none] [] (lay (S, o_M' O (mN (o_M O) (nI e) k0 (nI (tS c t p))))) := by
    intro hq
    have hSE := tE_gt (c := c) (t := t) (p := p) (by omega)
    have hkk : ∀ i, tS c t p ≤ i → i < tE c t p → kdA c t i = 1 := fun i h1 h2 => (tE_in (Or.inl hq) h1 h2).trans hq
    have hlet : ∀ i, i < tE c t p - tS c t p → 97 ≤ c (tS c t p + i) ∧ c (tS c t p + i) ≤ 122 := fun i hi => (kd_1.mp (hkk (tS c t p + i) (by omega) (by omega))).2
    have DONE : ∀ k0 : Int32, AC g mX6_wordFrom [.ref 94, .int (nI (tS c t p)), .int (nI (tE c t p))] (lay (S, o_M' O (mN (o_M O) (nI (tE c t p)) k0 (nI (tS c t p))))) (fun rv h' => nx g mX6_next Post (wp g MT mX6_next Post 49) (dropTo 114 (m_code mX6_next)) [some (.ref 94), none, none] (rv.toList ++ []) h' 0 0) := by
      intro k0
      have J161 : ∀ (k : Nat) (v : Option Value), k = tW c t p → AW g mX6_next Post 0 0 161 [some (.ref 94), none, none] [.int (nI k), .ref 94] (lay (S, o_M' O (mN (o_M O) (nI (tE c t p)) k0 (nI (tS c t p))))) := fun k v hk => lpw gdX6_next 60 (aw_hp Lm94 (J248 k none none hk))
      refine ac_to (am_wordFrom (g := g) (S := S) (O := o_M' O (mN (o_M O) (nI (tE c t p)) k0 (nI (tS c t p)))) (TX' _ _ _) (by omega) hE hkk) ?_
      have hlt := wN_lt hlet
      have w1 := wN (w := wPl) (by decide) (by decide) (by decide) hlet
      have w2 := wN (w := wLi) (by decide) (by decide) (by decide) hlet
      have w3 := wN (w := wSh) (by decide) (by decide) (by decide) hlet
      generalize (if tE c t p - tS c t p < 9 then wdA c (tS c t p) (tE c t p - tS c t p) else 0) = N at hlt w1 w2 w3
      have f1 : lg_cmp (Int64.ofNat N) (Int64.ofNat 21011137936) = 0 ↔ isW c wPl (tS c t p) (tE c t p - tS c t p) = true := by
        rw [lg_cmp_eq, o64 hlt (by decide), ← w1]; exact Iff.rfl
      have f2 : lg_cmp (Int64.ofNat N) (Int64.ofNat 20101420) = 0 ↔ isW c wLi (tS c t p) (tE c t p - tS c t p) = true := by
        rw [lg_cmp_eq, o64 hlt (by decide), ← w2]; exact Iff.rfl
      have f3 : lg_cmp (Int64.ofNat N) (Int64.ofNat 670995) = 0 ↔ isW c wSh (tS c t p) (tE c t p - tS c t p) = true := by
        rw [lg_cmp_eq, o64 hlt (by decide), ← w3]; exact Iff.rfl
      refine ⟨fun g1 => ⟨fun g2 => ⟨fun g3 => ?_, fun g3 => ?_⟩, fun g2 => ?_⟩, fun g1 => ?_⟩
      · refine awf ?_ (J161 1001 none ?_)
        · exact ⟨rfl, trivial⟩
        · unfold tW
          rw [if_neg (by omega), if_pos hq, if_neg (fun z => g1 (f1.mpr z)), if_neg (fun z => g2 (f2.mpr z)), if_neg (fun z => g3 (f3.mpr z))]
      · refine awf ?_ (J161 1005 none (tW_3.mpr ⟨hq, fun z => g1 (f1.mpr z), fun z => g2 (f2.mpr z), f3.mp g3⟩).symm)
        exact ⟨rfl, trivial⟩
      · refine awf ?_ (J161 1004 none (tW_2.mpr ⟨hq, fun z => g1 (f1.mpr z), f2.mp g2⟩).symm)
        exact ⟨rfl, trivial⟩
      · refine awf ?_ (J161 1003 none (tW_1.mpr ⟨hq, f1.mp g1⟩).symm)
        exact ⟨rfl, trivial⟩
    intro k
    induction k with
    | zero =>
      intro e h1 h2 h3 k0
      have h3 : e = tE c t p := h3
      refine lpw gdX6_next 60 (ac_to (am_isLetter (g := g) (S := S) (O := o_M' O (mN (o_M O) (nI e) k0 (nI (tS c t p)))) (p := e) (TX' _ _ _) (by omega)) ⟨fun _ => ?_, fun h => ?_⟩)
      · rw [h3]
        exact DONE k0
      · rw [bi_e0, Bool.not_eq_false, decide_eq_true_eq, kd_1] at h
        omega
    | succ k ih =>
      intro e h1 h2 h3 k0
      refine lpw gdX6_next 60 (ac_to (am_isLetter (g := g) (S := S) (O := o_M' O (mN (o_M O) (nI e) k0 (nI (tS c t p)))) (p := e) (TX' _ _ _) (by omega)) ⟨fun h => ?_, fun h => ?_⟩)
      · have h := (bi_e0 _).mp h
        rw [decide_eq_false_iff_not] at h
        rw [ruA_n h] at h3
        rw [h3]
        exact DONE k0
      · rw [bi_e0, Bool.not_eq_false, decide_eq_true_eq] at h
        rw [ruA_s h] at h3
        refine aw_hp Lm94 ?_
        rw [show nI e + 1 = nI (e + 1) from nI_1 e]
        exact ih (e + 1) (by omega) (by omega) h3 k0
  have L178 : tK c t p = 2 → ∀ k e, t - e = k → e ≤ t → ruA c t 2 k e = tE c t p → ∀ k0 : Int32, AW g mX6_next Post 0 0 178 [some (.ref 94), none, none] [] (lay (S, o_M' O (mN (o_M O) (nI e) k0 (nI (tS c t p))))) := by
    intro hq k
    induction k with
    | zero =>
      intro e h1 h2 h3 k0
      have h3 : e = tE c t p := h3
      refine lpw gdX6_next 60 (ac_to (am_isFigure (g := g) (S := S) (O := o_M' O (mN (o_M O) (nI e) k0 (nI (tS c t p)))) (p := e) (TX' _ _ _) (by omega)) ⟨fun _ => ?_, fun h => ?_⟩)
      · rw [h3]
        exact aw_hp Lm94 (J248 1002 none none (tW_4.mpr hq).symm)
      · rw [bi_e0, Bool.not_eq_false, decide_eq_true_eq, kd_2] at h
        omega
    | succ k ih =>
      intro e h1 h2 h3 k0
      refine lpw gdX6_next 60 (ac_to (am_isFigure (g := g) (S := S) (O := o_M' O (mN (o_M O) (nI e) k0 (nI (tS c t p)))) (p := e) (TX' _ _ _) (by omega)) ⟨fun h => ?_, fun h => ?_⟩)
      · have h := (bi_e0 _).mp h
        rw [decide_eq_false_iff_not] at h
        rw [ruA_n h] at h3
        rw [h3]
        exact aw_hp Lm94 (J248 1002 none none (tW_4.mpr hq).symm)
      · rw [bi_e0, Bool.not_eq_false, decide_eq_true_eq] at h
        rw [ruA_s h] at h3
        refine aw_hp Lm94 ?_
        rw [show nI e + 1 = nI (e + 1) from nI_1 e]
        exact ih (e + 1) (by omega) (by omega) h3 k0
  have hru : ∀ q, tK c t p = q → q = 1 ∨ q = 2 → ruA c t q (t - tS c t p) (tS c t p) = tE c t p := fun q h1 h2 => by
    have hlt := tS_lt (c := c) (t := t) (p := p) (by omega)
    rw [show t - tS c t p = (t - (tS c t p + 1)) + 1 by omega, ruA_s h1]
    unfold tE
    rw [if_neg (by omega), if_pos (by omega), h1]
  have L38 : ∀ (k0 b0 : Int32), AW g mX6_next Post 0 0 38 [some (.ref 94), none, none] [] (lay (S, o_M' O (mN (o_M O) (nI (tS c t p)) k0 b0))) := by
    intro k0 b0
    refine lpw gdX6_next 60 ⟨fun h => ?_, fun h => ?_⟩
    · have h : ¬ nI (tS c t p) = z_let (o_M O) := h
      rw [hl, neqI (by omega) (by omega)] at h
      have hlt : tS c t p < t := by omega
      have hne : tK c t p ≠ 0 := fun z => by have := kd_0.mp z; omega
      refine ac_hp Lm94 (ac_to (am_isLetter (g := g) (S := S) (O := o_M' O (mN (o_M O) (nI (tS c t p)) k0 (nI (tS c t p)))) (p := tS c t p) (TX' _ _ _) (by omega)) ⟨fun h1 => ?_, fun h1 => ?_⟩)
      · have h1 := (bi_e0 _).mp h1
        rw [decide_eq_false_iff_not] at h1
        have h1 : ¬ tK c t p = 1 := h1
        refine ac_to (am_isFigure (g := g) (S := S) (O := o_M' O (mN (o_M O) (nI (tS c t p)) k0 (nI (tS c t p)))) (p := tS c t p) (TX' _ _ _) (by omega)) ⟨fun h2 => ?_, fun h2 => ?_⟩
        · have h2 := (bi_e0 _).mp h2
          rw [decide_eq_false_iff_not] at h2
          have h2 : ¬ tK c t p = 2 := h2
          have eE : tE c t p = tS c t p + 1 := by unfold tE; rw [if_neg hne, if_neg (by omega)]
          obtain ⟨hc1, hc2⟩ := hc _ hlt
          refine ⟨_, _, rfl, vlit (by omega) (by decide), ?_⟩
          rw [vcl (x := nI (tS c t p)) rfl (by omega), show z_text (o_M (S, o_M' O (mN (o_M O) (nI (tS c t p)) k0 (nI (tS c t p)))).snd) (tS c t p) = _ from hc1]
          refine ⟨fun h3 => ?_, fun h3 => ?_⟩
          · have h3 : ¬ c (tS c t p) = 59 := fun z => h3 (by rw [z]; rfl)
            refine aw_hp Lm942 ?_
            rw [show nI (tS c t p) + 1 = nI (tE c t p) by rw [eE, nI_1]]
            refine J248 1001 none none ?_
            unfold tW
            rw [if_neg hne, if_neg h1, if_neg h2, if_neg (show ¬ tK c t p = 3 from fun z => h3 (kd_3.mp z).2)]
          · have h3 : c (tS c t p) = 59 := (neqI (b := 59) (by omega) (by omega)).mp h3
            refine aw_hp Lm942 ?_
            rw [show nI (tS c t p) + 1 = nI (tE c t p) by rw [eE, nI_1]]
            exact J248 59 none none (tW_5.mpr (kd_3.mpr ⟨hlt, h3⟩)).symm
        · rw [bi_e0, Bool.not_eq_false, decide_eq_true_eq] at h2
          exact L178 h2 _ _ rfl hS (hru 2 h2 (Or.inr rfl)) k0
      · rw [bi_e0, Bool.not_eq_false, decide_eq_true_eq] at h1
        exact L78 h1 _ _ rfl hS (hru 1 h1 (Or.inl rfl)) k0
    · have h : nI (tS c t p) = z_let (o_M O) := h
      rw [hl, neqI (by omega) (by omega)] at h
      have h0 : tK c t p = 0 := kd_0.mpr (by omega)
      have eE : tE c t p = tS c t p := by unfold tE; rw [if_pos h0]
      have := J248 1000 none none (tW_0.mpr h0).symm
      rw [eE] at this
      exact aw_hp Lm942 this
  have L0 : ∀ (k0 b0 : Int32) k s, t - s = k → s ≤ t → skA c t k s = tS c t p → AW g mX6_next Post 0 0 0 [some (.ref 94), none, none] [] (lay (S, o_M' O (mN (o_M O) (nI s) k0 b0))) := by
    intro k0 b0 k
    induction k with
    | zero =>
      intro s h1 h2 h3
      have h3 : s = tS c t p := h3
      refine lpw gdX6_next 60 ⟨fun _ => ?_, fun h => absurd (show z_let (o_M O) ≤ nI s by rw [hl]; exact nle (by omega) (by omega)) h⟩
      rw [h3]
      exact L38 k0 b0
    | succ k ih =>
      intro s h1 h2 h3
      obtain ⟨hc1, hc2⟩ := hc s (by omega)
      refine lpw gdX6_next 60 ⟨fun h => absurd (show z_let (o_M O) ≤ nI s from h) (by rw [hl]; exact nge (by omega) (by omega)), fun _ => ?_⟩
      refine ⟨_, _, rfl, vlit (by omega) (by decide), ?_⟩
      rw [vcl (x := nI s) rfl (by omega), show z_text (o_M (S, o_M' O (mN (o_M O) (nI s) k0 b0)).snd) s = _ from hc1]
      refine ⟨fun h => ?_, fun h => ?_⟩
      · have h' : c s ≠ 32 := fun z => h (by rw [z]; rfl)
        rw [skA_n h'] at h3
        rw [h3]
        exact L38 k0 b0
      · have h' : c s = 32 := (neqI (b := 32) (by omega) (by omega)).mp h
        rw [skA_s (by omega) h'] at h3
        refine aw_hp Lm94 ?_
        rw [show nI s + 1 = nI (s + 1) from nI_1 s]
        exact ih (s + 1) (by omega) (by omega) h3
  rw [show ACe g mX6_next [.ref 94] (lay (S, O)) none (lay (S, o_M' O (mT (o_M O) c t p))) = AC g mX6_next [.ref 94] (lay (S, O)) Post by rw [← hPo]; rfl]
  have := L0 (z_tok (o_M O)) (z_tat (o_M O)) (t - p) p rfl hp rfl
  rw [← he] at this
  exact ac_in gdX6_next.2.1 gdX6_next.2.2 rfl (by decide) this
end MN
