theorem tbI : ∀ u : Nat, u < 64 → ∀ i : Nat, i < 6 → ((nI u >>> (nI i &&& 31)) &&& 1 = 1 ↔ u.testBit i = true) := by decide +kernel
theorem andI : ∀ u : Nat, u < 64 → ∀ v : Nat, v < 64 → nI u &&& nI v = nI (u &&& v) := by decide +kernel
theorem orI : ∀ u : Nat, u < 64 → ∀ v : Nat, v < 64 → nI u ||| nI v = nI (u ||| v) := by decide +kernel
theorem shlI : ∀ n : Nat, n < 7 → (1 : Int32) <<< (nI n &&& 31) = nI (2 ^ n) := by decide +kernel
theorem notI : ∀ u : Nat, u < 64 → ∀ i : Nat, i < 6 → nI u &&& (((1 : Int32) <<< (nI i &&& 31)) ^^^ (-1)) = nI (u &&& (63 ^^^ 2 ^ i)) := by decide +kernel
theorem and_lt64 {u v : Nat} (h : v < 64) : u &&& v < 64 := Nat.lt_of_le_of_lt Nat.and_le_right h
theorem and_lt64' {u v : Nat} (h : u < 64) : u &&& v < 64 := Nat.lt_of_le_of_lt Nat.and_le_left h
theorem or_lt64 {u v : Nat} (h1 : u < 64) (h2 : v < 64) : u ||| v < 64 := Nat.or_lt_two_pow (n := 6) h1 h2
theorem msk64 {p : Nat → Bool} {n : Nat} (h : n ≤ 6) : msk p n < 64 := Nat.lt_of_lt_of_le (msk_lt p n) (Nat.pow_le_pow_right (by decide) h : 2 ^ n ≤ 2 ^ 6)
theorem pow64 {n : Nat} (h : n < 6) : 2 ^ n < 64 := (Nat.pow_lt_pow_right (by decide) h : 2 ^ n < 2 ^ 6)
theorem msk_or1 {p : Nat → Bool} {n s : Nat} (h : s < n) : msk p n ||| 2 ^ s = msk (fun t => decide (s = t) || p t) n := by
  apply Nat.eq_of_testBit_eq
  intro t
  rw [Nat.testBit_or, tb_msk, tb_msk, Nat.testBit_two_pow]
  by_cases h1 : s = t
  · subst h1; simp [h]
  · simp [h1]
theorem msk_and {p q : Nat → Bool} {n : Nat} : msk p n &&& msk q n = msk (fun t => p t && q t) n := by
  apply Nat.eq_of_testBit_eq
  intro t
  rw [Nat.testBit_and, tb_msk, tb_msk, tb_msk]
  cases decide (t < n) <;> cases p t <;> cases q t <;> rfl
theorem tb_63 {i t : Nat} : (63 ^^^ 2 ^ i).testBit t = (decide (t < 6) ^^ decide (i = t)) := by
  rw [Nat.testBit_xor, Nat.testBit_two_pow, show 63 = 2 ^ 6 - 1 by decide, Nat.testBit_two_pow_sub_one]
theorem msk_clr {p : Nat → Bool} {n i : Nat} (h6 : n ≤ 6) : msk p n &&& (63 ^^^ 2 ^ i) = msk (fun t => p t && !decide (t = i)) n := by
  apply Nat.eq_of_testBit_eq
  intro t
  rw [Nat.testBit_and, tb_msk, tb_msk, tb_63]
  by_cases h1 : t < n
  · have h2 : t < 6 := by omega
    by_cases h3 : i = t
    · subst h3; simp [h2]
    · have : ¬ t = i := fun z => h3 z.symm
      simp [h1, h2, h3, this]
  · simp [h1]
theorem mnF_cg {p q : Nat → Bool} {c d : Nat → Nat} {X : Nat} : ∀ n, (∀ t, t < n → p t = q t ∧ c t = d t) → mnF p c X n = mnF q d X n ∧ amF p c X n = amF q d X n := by
  intro n
  induction n with
  | zero => intro _; exact ⟨rfl, rfl⟩
  | succ n ih =>
    intro h
    obtain ⟨e1, e2⟩ := ih (fun t ht => h t (by omega))
    obtain ⟨e3, e4⟩ := h n (by omega)
    unfold mnF amF
    rw [e1, e2, e3, e4]
    exact ⟨rfl, rfl⟩
theorem mnF_le {p : Nat → Bool} {c : Nat → Nat} {X : Nat} (n : Nat) : mnF p c X n ≤ X := by
  rcases mn_spec p c X n with ⟨z, -⟩ | ⟨t, -, -, z3, z4, -⟩ <;> omega
theorem amF_ok {p : Nat → Bool} {c : Nat → Nat} {X : Nat} (n : Nat) : okO n (amF p c X n) := by
  intro s hs
  rcases mn_spec p c X n with ⟨-, z, -⟩ | ⟨t, z1, -, -, -, z5, -⟩
  · rw [z] at hs; cases hs
  · rw [z5] at hs; cases hs; exact z1
theorem cF_le {b : Option Nat} {t c : Nat} : cF b t c ≤ 100 := by unfold cF; omega
theorem min100 {x c : Nat} (h : x + c ≤ 1000) : (if (100 : Int32) < nI x + nI c then (100 : Int32) else nI x + nI c) = nI (min (x + c) 100) := by
  have e : (100 : Int32) = nI 100 := rfl
  rw [nI_add, e]
  by_cases h1 : 100 < x + c
  · rw [if_pos ((nltI (a := 100) (by omega) (by omega)).mpr h1), Nat.min_eq_right (by omega)]
  · rw [if_neg (fun z => h1 ((nltI (a := 100) (by omega) (by omega)).mp z)), Nat.min_eq_left (by omega)]
/-- what study knows -/
def PS (Q : Pln) (m n : Nat) (cv : Nat → Nat → Bool) (mf : Nat → Nat → Nat → Bool) : Prop := p_nl Q = nI m ∧ p_ns Q = nI n ∧ (∀ l, l < m → p_cov Q l = nI (msk (cv l) n)) ∧ (∀ l s, l + 1 < m → s < n → p_fol Q l s = nI (msk (fun t => mf l s t && cv (l + 1) t) n))
theorem PS.cg {Q Q' : Pln} {m n : Nat} {cv : Nat → Nat → Bool} {mf : Nat → Nat → Nat → Bool} (h : PS Q m n cv mf) (e1 : p_nl Q' = p_nl Q) (e2 : p_ns Q' = p_ns Q) (e3 : p_cov Q' = p_cov Q) (e4 : p_fol Q' = p_fol Q) : PS Q' m n cv mf := by
  unfold PS
  rw [e1, e2, e3, e4]
  exact h
/-- a row before another -/
def lowI (a b : Nat → Nat) : Nat → Nat → Bool
  | 0, _ => false
  | k + 1, l => if a l = b l then lowI a b k (l + 1) else decide (a l < b l)
def lowF (a b : Nat → Nat) (m : Nat) : Bool := lowI a b m 0
theorem lowI_sk {a b : Nat → Nat} : ∀ k j l, (∀ i, l ≤ i → i < l + k → a i = b i) → lowI a b (k + j) l = lowI a b j (l + k) := by
  intro k
  induction k with
  | zero => intro j l _; rw [Nat.zero_add, Nat.add_zero]
  | succ k ih =>
    intro j l h
    rw [show k + 1 + j = (k + j) + 1 by omega]
    unfold lowI
    rw [if_pos (h l (by omega) (by omega)), ih j (l + 1) (fun i h1 h2 => h i (by omega) (by omega)), show l + 1 + k = l + (k + 1) by omega]
    cases j <;> rfl
theorem low_eq {a b : Nat → Nat} {m : Nat} (h : ∀ k, k < m → a k = b k) : lowF a b m = false := by
  have := lowI_sk (a := a) (b := b) m 0 0 (fun i _ h2 => h i (by omega))
  rw [Nat.add_zero] at this
  exact this
theorem low_ne {a b : Nat → Nat} {m l : Nat} (hl : l < m) (h : ∀ k, k < l → a k = b k) (hn : a l ≠ b l) : lowF a b m = decide (a l < b l) := by
  have := lowI_sk (a := a) (b := b) l (m - l) 0 (fun i _ h2 => h i (by omega))
  rw [show l + (m - l) = m by omega, Nat.zero_add] at this
  unfold lowF
  rw [this]
  obtain ⟨k, hk⟩ : ∃ k, m - l = k + 1 := ⟨m - l - 1, by omega⟩
  rw [hk]
  unfold lowI
  rw [if_neg hn]
section PN
variable {g : Glob} {S : Scn} {O : Oth}
theorem Hfol {l : Nat} (hl : l < 8) : hat (lay (S, O)) (57 + 1 + l) = some (ia 6 (p_fol (o_Q O) l)) := by
  rcases (show l = 0 ∨ l = 1 ∨ l = 2 ∨ l = 3 ∨ l = 4 ∨ l = 5 ∨ l = 6 ∨ l = 7 by omega) with rfl | rfl | rfl | rfl | rfl | rfl | rfl | rfl <;> rfl
theorem Hcut {l : Nat} (hl : l < 8) : hat (lay (S, O)) (66 + 1 + l) = some (ia 6 (p_cut (o_Q O) l)) := by
  rcases (show l = 0 ∨ l = 1 ∨ l = 2 ∨ l = 3 ∨ l = 4 ∨ l = 5 ∨ l = 6 ∨ l = 7 by omega) with rfl | rfl | rfl | rfl | rfl | rfl | rfl | rfl <;> rfl
set_option maxRecDepth 10000 in
theorem Lfol {l : Nat} {f : Fn} (hl : l < 8) : (lay (S, O)).set (57 + 1 + l) (ia 6 f) = lay (S, o_Q' O (p_fol' (o_Q O) (putP (p_fol (o_Q O)) l f))) := by
  rcases (show l = 0 ∨ l = 1 ∨ l = 2 ∨ l = 3 ∨ l = 4 ∨ l = 5 ∨ l = 6 ∨ l = 7 by omega) with rfl | rfl | rfl | rfl | rfl | rfl | rfl | rfl <;> rfl
set_option maxRecDepth 10000 in
theorem Lcut {l : Nat} {f : Fn} (hl : l < 8) : (lay (S, O)).set (66 + 1 + l) (ia 6 f) = lay (S, o_Q' O (p_cut' (o_Q O) (putP (p_cut (o_Q O)) l f))) := by
  rcases (show l = 0 ∨ l = 1 ∨ l = 2 ∨ l = 3 ∨ l = 4 ∨ l = 5 ∨ l = 6 ∨ l = 7 by omega) with rfl | rfl | rfl | rfl | rfl | rfl | rfl | rfl <;> rfl
theorem rowF {x : Int32} {l : Nat} (e : x = nI l) (hl : l < 8) : (fun i => if i < 8 then some (57 + 1 + i) else none) x.toNatClampNeg = some (57 + 1 + l) := by
  rw [vcl e (by omega)]; exact if_pos hl
theorem rowC {x : Int32} {l : Nat} (e : x = nI l) (hl : l < 8) : (fun i => if i < 8 then some (66 + 1 + i) else none) x.toNatClampNeg = some (66 + 1 + l) := by
  rw [vcl e (by omega)]; exact if_pos hl
theorem ac_cutsFrom {l t c : Nat} {b : Option Nat} (hl : l < 8) (ht : t < 6) (hb : okO 6 b) (hc : p_cut (o_Q O) l t = nI c) (h100 : c ≤ 100) : ACe g mX1_cutsFrom [.ref 55, .int (nI l), .int (nI t), .int (sh b)] (lay (S, O)) (some (.int (nI (cF b t c)))) (lay (S, O)) := by
  have J : ∀ x : Nat, x = (if b = none ∨ b = some t then 0 else 1) → AW g mX1_cutsFrom (fun r h' => r = some (.int (nI (cF b t c))) ∧ h' = lay (S, O)) 0 0 25 [some (.ref 55), some (.int (nI l)), some (.int (nI t)), some (.int (sh b)), none] [.int (nI x)] (lay (S, O)) := by
    intro x hx
    have hx1 : x ≤ 1 := by rw [hx]; split <;> omega
    refine lpw gdX1_cutsFrom 40 ?_
    refine ⟨3, 8, _, 66 + 1 + l, Or.inr rfl, rfl, vlit hl (by decide), rowC rfl hl, ?_⟩
    refine bEl_t (hat_lt (Hcut (S := S) (O := O) hl)) ⟨6, _, Hcut hl, vlit ht (by decide), ?_⟩
    rw [vcl (x := nI t) rfl (by omega)]
    refine ⟨congrArg (fun z => some (Value.int z)) ?_, rfl⟩
    show (if (100 : Int32) < nI x + p_cut (o_Q O) l t then (100 : Int32) else nI x + p_cut (o_Q O) l t) = _
    rw [hc, min100 (by omega), hx]
    rfl
  have J20 : (b = none ∨ b = some t) → AW g mX1_cutsFrom (fun r h' => r = some (.int (nI (cF b t c))) ∧ h' = lay (S, O)) 0 0 20 [some (.ref 55), some (.int (nI l)), some (.int (nI t)), some (.int (sh b)), none] [] (lay (S, O)) := by
    intro h
    exact lpw gdX1_cutsFrom 40 (J 0 (by rw [if_pos h]))
  refine acw gdX1_cutsFrom 40 rfl ⟨fun _ => ?_, fun h => absurd h (nI_ne9 (by omega))⟩
  refine ⟨fun h => J20 (Or.inl ((sh_none hb (by decide)).mp h)), fun h => ⟨fun h1 => ?_, fun h1 => ?_⟩⟩
  · refine J 1 ?_
    rw [if_neg]
    rintro (z | z)
    · exact h (by rw [z]; rfl)
    · exact h1 (by rw [z]; rfl)
  · refine J20 (Or.inr ?_)
    cases b with
    | none => exact absurd rfl h
    | some v => exact congrArg some ((neqI (by have := hb v rfl; omega) (by omega)).mp h1)
theorem ac_cutsFrom0 {l : Nat} {b : Int32} : ACe g mX1_cutsFrom [.ref 55, .int (nI l), .int (-9), .int b] (lay (S, O)) (some (.int (nI 100))) (lay (S, O)) :=
  acw gdX1_cutsFrom 40 rfl ⟨fun h => absurd rfl h, fun _ => ⟨rfl, rfl⟩⟩
theorem ac_cheapestOf {l n a : Nat} {b : Option Nat} {k : Nat → Nat} (hl : l < 8) (h6 : n ≤ 6) (hn : p_ns (o_Q O) = nI n) (ha : a < 64) (hb : okO 6 b) (hk : ∀ t, t < n → p_cut (o_Q O) l t = nI (k t) ∧ k t ≤ 100) : ACe g mX1_cheapestOf [.ref 55, .int (nI l), .int (nI a), .int (sh b)] (lay (S, O)) (some (.int (sh (amF (fun t => a.testBit t) (fun t => cF b t (k t)) 100 n)))) (lay (S, O)) := by
  refine acw gdX1_cheapestOf 40 rfl ?_
  refine dn (n := n) (P := fun i => AW g mX1_cheapestOf _ 0 0 11 [some (.ref 55), some (.int (nI l)), some (.int (nI a)), some (.int (sh b)), some (.int (sh (amF (fun t => a.testBit t) (fun t => cF b t (k t)) 100 i))), some (.int (nI (mnF (fun t => a.testBit t) (fun t => cF b t (k t)) 100 i))), some (.int (nI i))] [] (lay (S, O))) ?_ (fun i hi ih => ?_) 0 (Nat.zero_le _)
  · exact lpw gdX1_cheapestOf 40 ⟨fun _ => ⟨rfl, rfl⟩, fun h => absurd (show p_ns (o_Q O) ≤ _ by rw [hn]; exact nle (by omega) (by omega)) h⟩
  · have hle := mnF_le (p := fun t => a.testBit t) (c := fun t => cF b t (k t)) (X := 100) i
    have hcl := cF_le (b := b) (t := i) (c := k i)
    have hcf := ac_cutsFrom (g := g) (S := S) (O := O) (l := l) (t := i) (c := k i) (b := b) hl (by omega) hb (hk i hi).1 (hk i hi).2
    refine lpw gdX1_cheapestOf 40 ⟨fun h => absurd (show p_ns (o_Q O) ≤ _ from h) (by rw [hn]; exact nge (by omega) (by omega)), fun _ => ⟨fun h1 => ?_, fun h1 => ac_to hcf ⟨fun h2 => ?_, fun h2 => ac_to hcf ?_⟩⟩⟩
    · have e : a.testBit i = false := by
        rw [tbI a ha i (by omega)] at h1
        simpa using h1
      have em : mnF (fun t => a.testBit t) (fun t => cF b t (k t)) 100 (i + 1) = mnF (fun t => a.testBit t) (fun t => cF b t (k t)) 100 i := if_neg (by simp [e])
      have ea : amF (fun t => a.testBit t) (fun t => cF b t (k t)) 100 (i + 1) = amF (fun t => a.testBit t) (fun t => cF b t (k t)) 100 i := if_neg (by simp [e])
      rw [em, ea] at ih
      exact awl (by rw [← nI_1]; rfl) ih
    · have e : ¬ cF b i (k i) < mnF (fun t => a.testBit t) (fun t => cF b t (k t)) 100 i := fun z => by
        have := (nleI (by omega) (by omega)).mp h2
        omega
      have em : mnF (fun t => a.testBit t) (fun t => cF b t (k t)) 100 (i + 1) = mnF (fun t => a.testBit t) (fun t => cF b t (k t)) 100 i := if_neg (by simp [e])
      have ea : amF (fun t => a.testBit t) (fun t => cF b t (k t)) 100 (i + 1) = amF (fun t => a.testBit t) (fun t => cF b t (k t)) 100 i := if_neg (by simp [e])
      rw [em, ea] at ih
      exact awl (by rw [← nI_1]; rfl) ih
    · have e1 : a.testBit i = true := (tbI a ha i (by omega)).mp h1
      have e : cF b i (k i) < mnF (fun t => a.testBit t) (fun t => cF b t (k t)) 100 i := by
        apply Nat.lt_of_not_le
        intro z
        exact h2 ((nleI (by omega) (by omega)).mpr z)
      have em : mnF (fun t => a.testBit t) (fun t => cF b t (k t)) 100 (i + 1) = cF b i (k i) := if_pos (by simp [e, e1])
      have ea : amF (fun t => a.testBit t) (fun t => cF b t (k t)) 100 (i + 1) = some i := if_pos (by simp [e, e1])
      rw [em, ea] at ih
      exact awl (by rw [← nI_1]; rfl) ih
theorem ac_fewest0 {m s : Nat} {u : Int32} (hm : p_nl (o_Q O) = nI (m + 1)) : ACe g mX1_fewestBehind [.ref 55, .int (nI m), .int (nI s), .int u] (lay (S, O)) (some (.int (nI 0))) (lay (S, O)) := by
  refine acw gdX1_fewestBehind 40 rfl ⟨fun h => absurd (show nI m = p_nl (o_Q O) - 1 by rw [hm]; exact (nI_pred m).symm) h, fun _ => ⟨rfl, rfl⟩⟩
theorem ac_fewest {m n l s u : Nat} {cv : Nat → Nat → Bool} {mf : Nat → Nat → Nat → Bool} {k : Nat → Nat} (hP : PS (o_Q O) m n cv mf) (h8 : m ≤ 8) (h6 : n ≤ 6) (hl : l + 1 < m) (hs : s < n) (hu : u < 64) (hk : ∀ t, t < n → p_cut (o_Q O) (l + 1) t = nI (k t) ∧ k t ≤ 100) : ACe g mX1_fewestBehind [.ref 55, .int (nI l), .int (nI s), .int (nI u)] (lay (S, O)) (some (.int (nI (mnF (fun t => (mf l s t && cv (l + 1) t) && u.testBit t) (fun t => cF (some s) t (k t)) 100 n)))) (lay (S, O)) := by
  have hb : okO 6 (some s) := fun v hv => by cases hv; omega
  have hm64 := msk64 (p := fun t => mf l s t && cv (l + 1) t) h6
  have C1 := ac_cheapestOf (g := g) (S := S) (O := O) (l := l + 1) (a := msk (fun t => mf l s t && cv (l + 1) t) n &&& u) (b := some s) (k := k) (by omega) h6 hP.2.1 (and_lt64 hu) hb hk
  obtain ⟨e1, e2⟩ := mnF_cg (X := 100) (p := fun t => (msk (fun t => mf l s t && cv (l + 1) t) n &&& u).testBit t) (q := fun t => (mf l s t && cv (l + 1) t) && u.testBit t) (c := fun t => cF (some s) t (k t)) (d := fun t => cF (some s) t (k t)) n (fun t ht => ⟨by rw [Nat.testBit_and, tb_msk]; simp [ht], rfl⟩)
  rw [e2] at C1
  refine acw gdX1_fewestBehind 40 rfl ⟨fun _ => ?_, fun h => ?_⟩
  · refine ⟨3, 8, _, 57 + 1 + l, Or.inr rfl, rfl, vlit (by omega) (by decide), rowF rfl (by omega), ?_⟩
    refine bEl_t (hat_lt (Hfol (S := S) (O := O) (l := l) (by omega))) ⟨6, _, Hfol (by omega), vlit (by omega) (by decide), ?_⟩
    rw [vcl (x := nI s) rfl (by omega), show p_fol (o_Q (S, O).snd) l s = _ from hP.2.2.2 l s hl hs]
    refine ac_ar (by rw [nI_1, andI _ hm64 _ hu]; rfl) (ac_to C1 ?_)
    rcases mn_spec (fun t => (mf l s t && cv (l + 1) t) && u.testBit t) (fun t => cF (some s) t (k t)) 100 n with ⟨z1, z2, -⟩ | ⟨t, z1, z2, z3, z4, z5, -, -⟩
    · rw [z1, z2]
      exact ac_ar (by rw [nI_1]; rfl) (ac_to (ac_cutsFrom0 (l := l + 1) (b := nI s)) ⟨rfl, rfl⟩)
    · rw [z4, z5]
      exact ac_ar (by rw [nI_1]; rfl) (ac_to (ac_cutsFrom (b := some s) (l := l + 1) (t := t) (by omega) (by omega) hb (hk t z1).1 (hk t z1).2) ⟨rfl, rfl⟩)
  · have h' : nI l = p_nl (o_Q O) - 1 := h
    obtain ⟨j, rfl⟩ : ∃ j, m = j + 1 := ⟨m - 1, by omega⟩
    rw [hP.1, nI_pred, neqI (by omega) (by omega)] at h'
    omega
theorem orU_lt {n R l : Nat} {cv : Nat → Nat → Bool} {mf : Nat → Nat → Nat → Bool} (h6 : n ≤ 6) : ∀ s, orU n cv mf R l s < 64 := by
  intro s
  induction s with
  | zero => unfold orU; decide
  | succ s ih =>
    unfold orU
    split
    · exact or_lt64 ih (msk64 h6)
    · exact ih
theorem rch_lt {n u l : Nat} {cv : Nat → Nat → Bool} {mf : Nat → Nat → Nat → Bool} (hu : u < 64) : rch n u cv mf l < 64 := by
  cases l with
  | zero => exact and_lt64 hu
  | succ l => exact and_lt64 hu
theorem ac_hasWholeEdit {m n u : Nat} {cv : Nat → Nat → Bool} {mf : Nat → Nat → Nat → Bool} (hP : PS (o_Q O) m n cv mf) (h8 : m ≤ 8) (h6 : n ≤ 6) (hu : u < 64) : ACe g mX1_hasWholeEdit [.ref 55, .int (nI u)] (lay (S, O)) (some (.int (bi (hasU n m u cv mf)))) (lay (S, O)) := by
  obtain ⟨hm, hn, hcv, hfo⟩ := hP
  by_cases h0 : m = 0
  · subst h0
    exact acw gdX1_hasWholeEdit 40 rfl ⟨fun h => absurd hm h, fun _ => ⟨rfl, congrArg (fun z => some (Value.int z)) (bi_t (by simp [hasU])).symm, rfl⟩⟩
  refine acw gdX1_hasWholeEdit 60 rfl ⟨fun _ => ?_, fun h => ?_⟩
  rotate_left
  · exact absurd ((neqI (a := m) (b := 0) (by omega) (by omega)).mp (hm.symm.trans h)) h0
  refine ⟨_, _, rfl, vlit (j := 0) (by decide) (by decide), ?_⟩
  have hro : ∀ l, rch n u cv mf l < 64 := fun l => rch_lt hu
  have key := dn (n := m - 1) (P := fun l => AW g mX1_hasWholeEdit (fun r h' => r = some (.int (bi (hasU n m u cv mf))) ∧ h' = lay (S, O)) 0 0 20 [some (.ref 55), some (.int (nI u)), some (.int (nI (rch n u cv mf l))), some (.int (nI l)), none, none] [] (lay (S, O))) ?_ (fun l hl ih => ?_) 0 (Nat.zero_le _)
  · refine awl ?_ key
    have e0 : p_cov (o_Q O) 0 &&& nI u = nI (rch n u cv mf 0) := by
      rw [hcv 0 (by omega), andI _ (msk64 h6) _ hu]; rfl
    rw [← e0]
    rfl
  · refine lpw gdX1_hasWholeEdit 60 ⟨fun _ => ?_, fun h => ?_⟩
    · refine ⟨fun h => ?_, fun h => ?_⟩
      · have h' := (neqI (a := rch n u cv mf (m - 1)) (b := 0) (by have := hro (m - 1); omega) (by omega)).mp h
        exact ⟨rfl, congrArg (fun z => some (Value.int z)) (bi_f (by simp [hasU, h0, h'])).symm, rfl⟩
      · have h' : ¬ rch n u cv mf (m - 1) = 0 := fun z => h (by rw [z]; rfl)
        exact ⟨rfl, congrArg (fun z => some (Value.int z)) (bi_t (by simp [hasU, h'])).symm, rfl⟩
    · refine absurd (show p_nl (o_Q O) ≤ nI (m - 1) + 1 from ?_) h
      rw [hm, nI_1]
      exact nle (by omega) (by omega)
  · have hR := hro l
    refine lpw gdX1_hasWholeEdit 60 ⟨fun h => ?_, fun _ => ?_⟩
    · have h' : p_nl (o_Q O) ≤ nI l + 1 := h
      rw [hm, nI_1] at h'
      exact absurd h' (nge (by omega) (by omega))
    refine dn (n := n) (P := fun s => AW g mX1_hasWholeEdit (fun r h' => r = some (.int (bi (hasU n m u cv mf))) ∧ h' = lay (S, O)) 0 0 36 [some (.ref 55), some (.int (nI u)), some (.int (nI (rch n u cv mf l))), some (.int (nI l)), some (.int (nI (orU n cv mf (rch n u cv mf l) l s))), some (.int (nI s))] [] (lay (S, O))) ?_ (fun s hs ihs => ?_) 0 (Nat.zero_le _)
    · refine lpw gdX1_hasWholeEdit 60 ⟨fun _ => ?_, fun h => absurd (show p_ns (o_Q O) ≤ _ by rw [hn]; exact nle (by omega) (by omega)) h⟩
      refine awf ?_ ih
      have e0 : nI (orU n cv mf (rch n u cv mf l) l n) &&& nI u = nI (rch n u cv mf (l + 1)) := by
        rw [andI _ (orU_lt h6 n) _ hu]; rfl
      rw [← e0, ← nI_1]
      exact ⟨rfl, rfl, rfl, rfl, trivial⟩
    · refine lpw gdX1_hasWholeEdit 60 ⟨fun h => absurd (show p_ns (o_Q O) ≤ _ from h) (by rw [hn]; exact nge (by omega) (by omega)), fun _ => ⟨fun h1 => ?_, fun h1 => ?_⟩⟩
      · have e : ¬ (rch n u cv mf l).testBit s = true := fun z => h1 ((tbI _ hR s (by omega)).mpr z)
        have eo : orU n cv mf (rch n u cv mf l) l (s + 1) = orU n cv mf (rch n u cv mf l) l s := if_neg e
        rw [eo] at ihs
        exact awl (by rw [← nI_1]; rfl) ihs
      · have e := (tbI _ hR s (by omega)).mp h1
        have eo : orU n cv mf (rch n u cv mf l) l (s + 1) = orU n cv mf (rch n u cv mf l) l s ||| msk (fun t => mf l s t && cv (l + 1) t) n := if_pos e
        rw [eo, ← orI _ (orU_lt h6 s) _ (msk64 h6)] at ihs
        refine ⟨3, 8, _, 57 + 1 + l, Or.inr rfl, rfl, vlit (by omega) (by decide), rowF rfl (by omega), ?_⟩
        refine bEl_t (hat_lt (Hfol (S := S) (O := O) (l := l) (by omega))) ⟨6, _, Hfol (by omega), vlit (by omega) (by decide), ?_⟩
        rw [vcl (x := nI s) rfl (by omega), show p_fol (o_Q (S, O).snd) l s = _ from hfo l s (by omega) hs]
        exact awl (by rw [← nI_1]; rfl) ihs
/-- who may follow -/
abbrev mfA (pl fc sp : Fn) (l s t : Nat) : Bool := (decide (s = t) || cnA pl fc s t) && !(reA fc sp l s && reA fc sp (l + 1) t)
theorem ac_followersOf {n l s : Nat} (hl : l + 1 < 8) (h6 : n ≤ 6) (hs : s < n) (hn : p_ns (o_Q O) = nI n) (hp : p_par (o_Q O) s = nI (msk (fun t => cnA (s_pl S) (s_fc S) s t) n)) (hc : p_cov (o_Q O) (l + 1) = nI (msk (fun t => cvA (s_fc S) t (l + 1)) n)) : ACe g mX1_followersOf [.ref 55, .ref 1, .int (nI l), .int (nI s)] (lay (S, O)) (some (.int (nI (msk (fun t => mfA (s_pl S) (s_fc S) (s_sp S) l s t && cvA (s_fc S) t (l + 1)) n)))) (lay (S, O)) := by
  have e1 : nI l + 1 = nI (l + 1) := nI_1 l
  have eb : (p_par (o_Q O) s ||| (1 <<< (nI s &&& 31))) &&& p_cov (o_Q O) (l + 1) = nI (msk (fun t => (decide (s = t) || cnA (s_pl S) (s_fc S) s t) && cvA (s_fc S) t (l + 1)) n) := by
    rw [hp, hc, shlI s (by omega), orI _ (msk64 h6) _ (pow64 (by omega)), andI _ (or_lt64 (msk64 h6) (pow64 (by omega))) _ (msk64 h6), msk_or1 hs, msk_and]
  refine acw gdX1_followersOf 60 rfl ?_
  refine ⟨_, _, rfl, vlit (by omega) (by decide), ?_⟩
  refine ⟨_, _, rfl, vin e1 (by omega) (by decide), ?_⟩
  rw [vcl (x := nI s) rfl (by omega), vcl e1 (by omega)]
  refine ac_to (ac_isReaction (l := l) (o := some s) (by omega) (fun v hv => by cases hv; omega)) ⟨fun h => ?_, fun h => ?_⟩
  · have hr : reA (s_fc S) (s_sp S) l s = true := by rw [bi_e0, Bool.not_eq_false] at h; exact h
    have key := dn (n := n) (P := fun i => AW g mX1_followersOf (fun r h' => r = some (.int (nI (msk (fun t => mfA (s_pl S) (s_fc S) (s_sp S) l s t && cvA (s_fc S) t (l + 1)) n))) ∧ h' = lay (S, O)) 0 0 36 [some (.ref 55), some (.ref 1), some (.int (nI l)), some (.int (nI s)), some (.int (nI (msk (fun t => ((decide (s = t) || cnA (s_pl S) (s_fc S) s t) && cvA (s_fc S) t (l + 1)) && !(decide (t < i) && reA (s_fc S) (s_sp S) (l + 1) t)) n))), some (.int (nI i))] [] (lay (S, O))) ?_ (fun i hi ih => ?_) 0 (Nat.zero_le _)
    · refine awl ?_ key
      rw [msk_cg (q := fun t => (decide (s = t) || cnA (s_pl S) (s_fc S) s t) && cvA (s_fc S) t (l + 1)) n (fun t ht => by simp), ← eb]
      rfl
    · refine lpw gdX1_followersOf 60 ⟨fun _ => ⟨?_, rfl⟩, fun h => absurd (show p_ns (o_Q O) ≤ _ by rw [hn]; exact nle (by omega) (by omega)) h⟩
      refine congrArg (fun z => some (Value.int (nI z))) (msk_cg n (fun t ht => ?_))
      simp only [mfA, hr, ht, decide_true, Bool.true_and]
      cases (decide (s = t) || cnA (s_pl S) (s_fc S) s t) <;> cases cvA (s_fc S) t (l + 1) <;> cases reA (s_fc S) (s_sp S) (l + 1) t <;> rfl
    · refine lpw gdX1_followersOf 60 ⟨fun h => absurd (show p_ns (o_Q O) ≤ _ from h) (by rw [hn]; exact nge (by omega) (by omega)), fun _ => ?_⟩
      refine ac_ar (by rw [e1]; rfl) (ac_to (ac_isReaction (l := l + 1) (o := some i) (by omega) (fun v hv => by cases hv; omega)) ⟨fun h => awl ?_ ih, fun h => awl ?_ ih⟩)
      · have hri : reA (s_fc S) (s_sp S) (l + 1) i = false := (bi_e0 _).mp h
        rw [msk_cg (p := fun t => ((decide (s = t) || cnA (s_pl S) (s_fc S) s t) && cvA (s_fc S) t (l + 1)) && !(decide (t < i + 1) && reA (s_fc S) (s_sp S) (l + 1) t)) (q := fun t => ((decide (s = t) || cnA (s_pl S) (s_fc S) s t) && cvA (s_fc S) t (l + 1)) && !(decide (t < i) && reA (s_fc S) (s_sp S) (l + 1) t)) n (fun t ht => ?_), ← nI_1]
        · rfl
        · by_cases hti : t = i
          · subst hti; simp [hri]
          · have : decide (t < i + 1) = decide (t < i) := by rw [decide_eq_decide]; omega
            rw [this]
      · have hri : reA (s_fc S) (s_sp S) (l + 1) i = true := by rw [bi_e0, Bool.not_eq_false] at h; exact h
        rw [msk_cg (p := fun t => ((decide (s = t) || cnA (s_pl S) (s_fc S) s t) && cvA (s_fc S) t (l + 1)) && !(decide (t < i + 1) && reA (s_fc S) (s_sp S) (l + 1) t)) (q := fun t => (((decide (s = t) || cnA (s_pl S) (s_fc S) s t) && cvA (s_fc S) t (l + 1)) && !(decide (t < i) && reA (s_fc S) (s_sp S) (l + 1) t)) && !decide (t = i)) n (fun t ht => ?_), ← msk_clr h6, ← notI _ (msk64 h6) i (by omega), ← nI_1]
        · rfl
        · by_cases hti : t = i
          · subst hti; simp [hri]
          · have : decide (t < i + 1) = decide (t < i) := by rw [decide_eq_decide]; omega
            rw [this]
            simp [hti]
  · have hr : reA (s_fc S) (s_sp S) l s = false := (bi_e0 _).mp h
    refine ⟨congrArg (fun z => some (Value.int z)) (eb.trans ?_), rfl⟩
    refine congrArg nI (msk_cg n (fun t ht => ?_))
    simp [mfA, hr]
theorem ac_trialIsLower {m : Nat} {a b : Nat → Nat} (hm : p_nl (o_Q O) = nI m) (h8 : m ≤ 8) (ha : ∀ l, l < m → p_tri (o_Q O) l = nI (a l) ∧ a l ≤ 6) (hb : ∀ l, l < m → p_bes (o_Q O) l = nI (b l) ∧ b l ≤ 6) : ACe g mX1_trialIsLower [.ref 55] (lay (S, O)) (some (.int (bi (lowF a b m)))) (lay (S, O)) := by
  refine acw gdX1_trialIsLower 40 rfl ?_
  refine dn (n := m) (P := fun l => (∀ k, k < l → a k = b k) → AW g mX1_trialIsLower _ 0 0 2 [some (.ref 55), some (.int (nI l))] [] (lay (S, O))) (fun hk => ?_) (fun l hl ih hk => ?_) 0 (Nat.zero_le _) (fun k hk => absurd hk (by omega))
  · exact lpw gdX1_trialIsLower 40 ⟨fun _ => ⟨rfl, congrArg (fun z => some (Value.int z)) (bi_f (low_eq hk)).symm, rfl⟩, fun h => absurd (show p_nl (o_Q O) ≤ _ by rw [hm]; exact nle (by omega) (by omega)) h⟩
  · have ea := ha l hl
    have eb := hb l hl
    refine lpw gdX1_trialIsLower 40 ⟨fun h => absurd (show p_nl (o_Q O) ≤ _ from h) (by rw [hm]; exact nge (by omega) (by omega)), fun _ => ?_⟩
    refine ⟨_, _, rfl, vlit (by omega) (by decide), ?_⟩
    refine ⟨_, _, rfl, vlit (by omega) (by decide), ?_⟩
    rw [vcl (x := nI l) rfl (by omega), show p_tri (o_Q (S, O).snd) l = _ from ea.1, show p_bes (o_Q (S, O).snd) l = _ from eb.1]
    refine ⟨fun h => ?_, fun h => ?_⟩
    · have h' := (neqI (by omega) (by omega)).mp h
      refine awl (by rw [← nI_1]; rfl) (ih (fun k hk' => ?_))
      by_cases hkl : k = l
      · subst hkl; exact h'
      · exact hk k (by omega)
    · have h' : a l ≠ b l := fun z => h (by rw [z])
      refine ⟨_, _, rfl, vlit (by omega) (by decide), ?_⟩
      refine ⟨_, _, rfl, vlit (by omega) (by decide), ?_⟩
      rw [vcl (x := nI l) rfl (by omega), show p_tri (o_Q (S, O).snd) l = _ from ea.1, show p_bes (o_Q (S, O).snd) l = _ from eb.1]
      refine ⟨fun h2 => ?_, fun h2 => ?_⟩
      · have h2 := (nleI (by omega) (by omega)).mp h2
        exact ⟨rfl, congrArg (fun z => some (Value.int z)) (bi_f (by rw [low_ne hl hk h']; simp; omega)).symm, rfl⟩
      · have h2 : ¬ b l ≤ a l := fun z => h2 ((nleI (by omega) (by omega)).mpr z)
        exact ⟨rfl, congrArg (fun z => some (Value.int z)) (bi_t (by rw [low_ne hl hk h']; simp; omega)).symm, rfl⟩
end PN
