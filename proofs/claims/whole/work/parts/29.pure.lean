/-! ===== the fewest cuts, in numbers ===== -/
def mnF (p : Nat → Bool) (c : Nat → Nat) (X : Nat) : Nat → Nat
  | 0 => X
  | t + 1 => if p t && decide (c t < mnF p c X t) then c t else mnF p c X t
def amF (p : Nat → Bool) (c : Nat → Nat) (X : Nat) : Nat → Option Nat
  | 0 => none
  | t + 1 => if p t && decide (c t < mnF p c X t) then some t else amF p c X t
theorem mn_spec (p : Nat → Bool) (c : Nat → Nat) (X : Nat) : ∀ n, (mnF p c X n = X ∧ amF p c X n = none ∧ ∀ t, t < n → p t = true → X ≤ c t) ∨ (∃ t, t < n ∧ p t = true ∧ c t < X ∧ mnF p c X n = c t ∧ amF p c X n = some t ∧ (∀ v, v < t → p v = true → c t < c v) ∧ ∀ v, v < n → p v = true → c t ≤ c v) := by
  intro n
  induction n with
  | zero => exact Or.inl ⟨rfl, rfl, fun t h => absurd h (by omega)⟩
  | succ n ih =>
    by_cases h : (p n && decide (c n < mnF p c X n)) = true
    · have e1 : mnF p c X (n + 1) = c n := if_pos h
      have e2 : amF p c X (n + 1) = some n := if_pos h
      rw [Bool.and_eq_true, decide_eq_true_eq] at h
      right
      rcases ih with ⟨z1, z2, z3⟩ | ⟨t, z1, z2, z3, z4, z5, z6, z7⟩
      · refine ⟨n, by omega, h.1, by omega, e1, e2, fun v hv hp => ?_, fun v hv hp => ?_⟩
        · have := z3 v hv hp; omega
        · by_cases hvn : v = n
          · subst hvn; exact Nat.le_refl _
          · have := z3 v (by omega) hp; omega
      · refine ⟨n, by omega, h.1, by omega, e1, e2, fun v hv hp => ?_, fun v hv hp => ?_⟩
        · have := z7 v hv hp; omega
        · by_cases hvn : v = n
          · subst hvn; exact Nat.le_refl _
          · have := z7 v (by omega) hp; omega
    · have e1 : mnF p c X (n + 1) = mnF p c X n := if_neg h
      have e2 : amF p c X (n + 1) = amF p c X n := if_neg h
      rw [Bool.and_eq_true, decide_eq_true_eq] at h
      rcases ih with ⟨z1, z2, z3⟩ | ⟨t, z1, z2, z3, z4, z5, z6, z7⟩
      · refine Or.inl ⟨e1.trans z1, e2.trans z2, fun v hv hp => ?_⟩
        by_cases hvn : v = n
        · subst hvn
          by_cases h2 : c v < X
          · exact absurd ⟨hp, by omega⟩ h
          · omega
        · exact z3 v (by omega) hp
      · refine Or.inr ⟨t, by omega, z2, z3, e1.trans z4, e2.trans z5, z6, fun v hv hp => ?_⟩
        by_cases hvn : v = n
        · subst hvn
          by_cases h2 : c v < c t
          · exact absurd ⟨hp, by omega⟩ h
          · omega
        · exact z7 v (by omega) hp
/-- cuts from a line on, by the shot before -/
def cF (b : Option Nat) (t c : Nat) : Nat := min ((if b = none ∨ b = some t then 0 else 1) + c) 100
section PL
variable (n m u : Nat) (cv : Nat → Nat → Bool) (mf : Nat → Nat → Nat → Bool)
def dC : Nat → Nat → Nat → Nat
  | 0, _, _ => 0
  | k + 1, l, s => mnF (fun t => (mf l s t && cv (l + 1) t) && u.testBit t) (fun t => cF (some s) t (dC k (l + 1) t)) 100 n
def mC : Nat → Nat → Nat → Nat
  | 0, l, s => if u.testBit s && cv l s then 0 else 1000
  | k + 1, l, s => if u.testBit s && cv l s then mnF (fun t => mf l s t) (fun t => mC k (l + 1) t + (if s = t then 0 else 1)) 1000 6 else 1000
def tr : Nat → Option Nat
  | 0 => amF (fun t => cv 0 t && u.testBit t) (fun t => cF none t (dC n u cv mf (m - 1) 0 t)) 100 n
  | l + 1 => match tr l with
    | none => none
    | some s => amF (fun t => (mf l s t && cv (l + 1) t) && u.testBit t) (fun t => cF (some s) t (dC n u cv mf (m - 1 - (l + 1)) (l + 1) t)) 100 n
def trK : Nat := match tr n m u cv mf 0 with
  | none => 100
  | some s => cF none s (dC n u cv mf (m - 1) 0 s)
/-- the shots behind those of R -/
def orU (R l : Nat) : Nat → Nat
  | 0 => 0
  | s + 1 => if R.testBit s then orU R l s ||| msk (fun t => mf l s t && cv (l + 1) t) n else orU R l s
def rch : Nat → Nat
  | 0 => msk (cv 0) n &&& u
  | l + 1 => orU n cv mf (rch l) l n &&& u
def hasU : Bool := decide (m = 0) || !decide (rch n u cv mf (m - 1) = 0)
def wC : Nat := if m = 0 then 0 else mnF (fun _ => true) (fun s => mC u cv mf (m - 1) 0 s) 1000 6
end PL
theorem tb_msk (p : Nat → Bool) (s : Nat) : ∀ n, (msk p n).testBit s = (decide (s < n) && p s) := by
  intro n
  induction n with
  | zero => simp [msk]
  | succ n ih =>
    have hl := msk_lt p n
    unfold msk
    by_cases hs : s = n
    · subst hs
      have h0 : (msk p s).testBit s = false := Nat.testBit_lt_two_pow hl
      split
      · rename_i hp
        rw [Nat.add_comm, Nat.testBit_two_pow_add_eq, h0, hp]
        simp
      · rename_i hp
        rw [h0]
        simp at hp
        simp [hp]
    · split
      · rename_i hp
        have e : msk p n + 2 ^ n = 2 ^ n * 1 ||| msk p n := by
          rw [← Nat.two_pow_add_eq_or_of_lt hl]; omega
        rw [e, Nat.testBit_or, ih, Nat.mul_one, Nat.testBit_two_pow]
        have : decide (n = s) = false := by simp; omega
        rw [this, Bool.false_or]
        congr 1
        simp; omega
      · rw [ih]
        congr 1
        simp; omega
theorem cF_some {s t c : Nat} : cF (some s) t c = min ((if s = t then 0 else 1) + c) 100 := by
  unfold cF
  by_cases h : s = t <;> simp [h]
theorem cF_none {t c : Nat} : cF none t c = min c 100 := by
  unfold cF
  simp
section PM
variable {n m u : Nat} {cv : Nat → Nat → Bool} {mf : Nat → Nat → Nat → Bool}
theorem dC_b : ∀ k l s, k < 90 → dC n u cv mf k l s ≤ k ∨ dC n u cv mf k l s = 100 := by
  intro k
  induction k with
  | zero => intro l s _; exact Or.inl (Nat.le_refl 0)
  | succ k ih =>
    intro l s hk
    unfold dC
    rcases mn_spec (fun t => (mf l s t && cv (l + 1) t) && u.testBit t) (fun t => cF (some s) t (dC n u cv mf k (l + 1) t)) 100 n with ⟨z1, -, -⟩ | ⟨t, -, -, z3, z4, -, -, -⟩
    · exact Or.inr z1
    · rw [z4]
      try dsimp only at z3 ⊢
      rw [cF_some] at z3 ⊢
      have hx : (if s = t then 0 else 1 : Nat) ≤ 1 := by split <;> omega
      rcases ih (l + 1) t (by omega) with h | h <;> omega
theorem dC_lt (k l s : Nat) (hk : k < 90) : dC n u cv mf (k + 1) l s < 100 ↔ ∃ t, t < n ∧ (mf l s t && cv (l + 1) t && u.testBit t) = true ∧ dC n u cv mf k (l + 1) t < 100 := by
  have hd : ∀ t, dC n u cv mf k (l + 1) t ≤ k ∨ dC n u cv mf k (l + 1) t = 100 := fun t => dC_b k (l + 1) t (by omega)
  show mnF _ _ _ _ < 100 ↔ _
  constructor
  · intro h
    rcases mn_spec (fun t => (mf l s t && cv (l + 1) t) && u.testBit t) (fun t => cF (some s) t (dC n u cv mf k (l + 1) t)) 100 n with ⟨z1, -, -⟩ | ⟨t, z1, z2, z3, -, -, -, -⟩
    · omega
    · refine ⟨t, z1, z2, ?_⟩
      try dsimp only at z3
      rw [cF_some] at z3
      omega
  · rintro ⟨t, h1, h2, h3⟩
    have hc : cF (some s) t (dC n u cv mf k (l + 1) t) < 100 := by
      rw [cF_some]
      rcases hd t with h | h
      · split <;> omega
      · omega
    rcases mn_spec (fun t => (mf l s t && cv (l + 1) t) && u.testBit t) (fun t => cF (some s) t (dC n u cv mf k (l + 1) t)) 100 n with ⟨-, -, z3⟩ | ⟨v, -, -, z3, z4, -, -, -⟩
    · have := z3 t h1 h2
      try dsimp only at this
      omega
    · rw [z4]; exact z3
/-- the model's numbers are the class's -/
theorem mC_dC (hu : ∀ t, u.testBit t = true → t < n) (h6 : n ≤ 6) : ∀ k l s, k < 90 → ((u.testBit s && cv l s) = true → (dC n u cv mf k l s ≤ k ∧ mC u cv mf k l s = dC n u cv mf k l s) ∨ (dC n u cv mf k l s = 100 ∧ mC u cv mf k l s = 1000)) ∧ ((u.testBit s && cv l s) = false → mC u cv mf k l s = 1000) := by
  intro k
  induction k with
  | zero =>
    intro l s _
    refine ⟨fun h => Or.inl ⟨Nat.le_refl 0, ?_⟩, fun h => ?_⟩
    · unfold mC dC; rw [if_pos h]
    · unfold mC; rw [if_neg (by rw [h]; decide)]
  | succ k ih =>
    intro l s hk
    refine ⟨fun h => ?_, fun h => by unfold mC; rw [if_neg (by rw [h]; decide)]⟩
    have e1 : mC u cv mf (k + 1) l s = mnF (fun t => mf l s t) (fun t => mC u cv mf k (l + 1) t + (if s = t then 0 else 1)) 1000 6 := by
      show (if _ then _ else _) = _
      rw [if_pos h]
    have hd := dC_b (n := n) (u := u) (cv := cv) (mf := mf) (k + 1) l s hk
    have key : ∀ t, mf l s t = true → mC u cv mf k (l + 1) t < 1000 → t < n ∧ (mf l s t && cv (l + 1) t && u.testBit t) = true ∧ cF (some s) t (dC n u cv mf k (l + 1) t) = mC u cv mf k (l + 1) t + (if s = t then 0 else 1) ∧ dC n u cv mf k (l + 1) t ≤ k := by
      intro t ht hm
      cases hV : (u.testBit t && cv (l + 1) t) with
      | false => have := (ih (l + 1) t (by omega)).2 hV; omega
      | true =>
        rcases (ih (l + 1) t (by omega)).1 hV with ⟨a1, a2⟩ | ⟨a1, a2⟩
        · rw [Bool.and_eq_true] at hV
          refine ⟨hu t hV.1, by rw [ht, hV.1, hV.2]; rfl, ?_, a1⟩
          rw [cF_some, a2]
          split <;> omega
        · omega
    have key2 : ∀ t, (mf l s t && cv (l + 1) t && u.testBit t) = true → dC n u cv mf k (l + 1) t < 100 → mC u cv mf k (l + 1) t = dC n u cv mf k (l + 1) t ∧ dC n u cv mf k (l + 1) t ≤ k := by
      intro t ht hm
      simp only [Bool.and_eq_true] at ht
      rcases (ih (l + 1) t (by omega)).1 (by simp [ht.1.2, ht.2]) with ⟨a1, a2⟩ | ⟨a1, a2⟩
      · exact ⟨a2, a1⟩
      · omega
    have e2 : dC n u cv mf (k + 1) l s = mnF (fun t => (mf l s t && cv (l + 1) t) && u.testBit t) (fun t => cF (some s) t (dC n u cv mf k (l + 1) t)) 100 n := rfl
    rcases mn_spec (fun t => (mf l s t && cv (l + 1) t) && u.testBit t) (fun t => cF (some s) t (dC n u cv mf k (l + 1) t)) 100 n with ⟨z1, -, z3⟩ | ⟨t, z1, z2, z3, z4, -, -, z7⟩
    · right
      refine ⟨e2.trans z1, ?_⟩
      rw [e1]
      rcases mn_spec (fun t => mf l s t) (fun t => mC u cv mf k (l + 1) t + (if s = t then 0 else 1)) 1000 6 with ⟨y1, -, -⟩ | ⟨t, y1, y2, y3, y4, -, -, -⟩
      · exact y1
      · exfalso
        try dsimp only at y2 y3
        obtain ⟨b1, b2, b3, b4⟩ := key t y2 (by omega)
        have := z3 t b1 b2
        try dsimp only at this
        rw [b3] at this
        have := (key2 t b2 (by omega)).1
        have hx : (if s = t then 0 else 1 : Nat) ≤ 1 := by split <;> omega
        omega
    · left
      try dsimp only at z2 z3 z4 z7
      have hlt : dC n u cv mf k (l + 1) t < 100 := by rw [cF_some] at z3; omega
      obtain ⟨b1, b2⟩ := key2 t z2 hlt
      have z2' := z2
      simp only [Bool.and_eq_true] at z2'
      obtain ⟨c1, c2, c3, c4⟩ := key t z2'.1.1 (by omega)
      refine ⟨by rcases hd with hd | hd <;> omega, ?_⟩
      rw [e1, e2, z4]
      rcases mn_spec (fun t => mf l s t) (fun t => mC u cv mf k (l + 1) t + (if s = t then 0 else 1)) 1000 6 with ⟨y1, -, y3⟩ | ⟨v, y1, y2, y3, y4, -, -, y7⟩
      · have := y3 t (by omega) z2'.1.1
        try dsimp only at this
        omega
      · try dsimp only at y2 y3 y4 y7
        rw [y4]
        have := y7 t (by omega) z2'.1.1
        obtain ⟨d1, d2, d3, d4⟩ := key v y2 (by omega)
        have := z7 v d1 d2
        omega
theorem tb_orU (R l : Nat) (t : Nat) : ∀ s, (orU n cv mf R l s).testBit t = true ↔ ∃ v, v < s ∧ R.testBit v = true ∧ t < n ∧ (mf l v t && cv (l + 1) t) = true := by
  intro s
  induction s with
  | zero => simp [orU]
  | succ s ih =>
    unfold orU
    by_cases h : R.testBit s = true
    · rw [if_pos h, Nat.testBit_or, Bool.or_eq_true, ih, tb_msk, Bool.and_eq_true, decide_eq_true_eq]
      constructor
      · rintro (⟨v, h1, h2⟩ | h1)
        · exact ⟨v, by omega, h2⟩
        · exact ⟨s, by omega, h, h1⟩
      · rintro ⟨v, h1, h2⟩
        by_cases hv : v = s
        · subst hv; exact Or.inr h2.2
        · exact Or.inl ⟨v, by omega, h2⟩
    · rw [if_neg h, ih]
      constructor
      · rintro ⟨v, h1, h2⟩
        exact ⟨v, by omega, h2⟩
      · rintro ⟨v, h1, h2⟩
        by_cases hv : v = s
        · subst hv; exact absurd h2.1 h
        · exact ⟨v, by omega, h2⟩
theorem ne0_tb {x : Nat} : x ≠ 0 ↔ ∃ t, x.testBit t = true := by
  constructor
  · intro h
    exact Nat.exists_testBit_of_ne_zero h
  · rintro ⟨t, ht⟩ h
    rw [h] at ht
    simp at ht
theorem rch_n (hu : ∀ t, u.testBit t = true → t < n) (l : Nat) {t : Nat} (h : (rch n u cv mf l).testBit t = true) : t < n ∧ u.testBit t = true := by
  cases l with
  | zero =>
    unfold rch at h
    rw [Nat.testBit_and, Bool.and_eq_true] at h
    exact ⟨hu t h.2, h.2⟩
  | succ l =>
    unfold rch at h
    rw [Nat.testBit_and, Bool.and_eq_true] at h
    exact ⟨hu t h.2, h.2⟩
theorem rch_d (hu : ∀ t, u.testBit t = true → t < n) : ∀ k l, k < 90 → (rch n u cv mf (l + k) ≠ 0 ↔ ∃ t, (rch n u cv mf l).testBit t = true ∧ dC n u cv mf k l t < 100) := by
  intro k
  induction k with
  | zero =>
    intro l _
    rw [Nat.add_zero, ne0_tb]
    constructor
    · rintro ⟨t, h⟩; exact ⟨t, h, by unfold dC; decide⟩
    · rintro ⟨t, h, -⟩; exact ⟨t, h⟩
  | succ k ih =>
    intro l hk
    rw [show l + (k + 1) = (l + 1) + k by omega, ih (l + 1) (by omega)]
    have e : rch n u cv mf (l + 1) = orU n cv mf (rch n u cv mf l) l n &&& u := rfl
    constructor
    · rintro ⟨t, h1, h2⟩
      rw [e, Nat.testBit_and, Bool.and_eq_true, tb_orU] at h1
      obtain ⟨⟨v, a1, a2, a3, a4⟩, a5⟩ := h1
      exact ⟨v, a2, (dC_lt k l v (by omega)).mpr ⟨t, a3, by rw [a4, a5]; rfl, h2⟩⟩
    · rintro ⟨v, h1, h2⟩
      obtain ⟨t, a1, a2, a3⟩ := (dC_lt k l v (by omega)).mp h2
      rw [Bool.and_eq_true] at a2
      refine ⟨t, ?_, a3⟩
      rw [e, Nat.testBit_and, Bool.and_eq_true, tb_orU]
      exact ⟨⟨v, (rch_n hu l h1).1, h1, a1, a2.1⟩, a2.2⟩
/-- a whole edit there is just where the model finds fewest cuts -/
theorem has_w (hu : ∀ t, u.testBit t = true → t < n) (h6 : n ≤ 6) (hm : m < 90) : hasU n m u cv mf = decide (wC m u cv mf < 1000) := by
  unfold hasU wC
  by_cases h0 : m = 0
  · simp [h0]
  rw [if_neg h0]
  have e1 : decide (m = 0) = false := by simp [h0]
  rw [e1, Bool.false_or]
  have hr := rch_d (n := n) (u := u) (cv := cv) (mf := mf) hu (m - 1) 0 (by omega)
  rw [Nat.zero_add] at hr
  have key : rch n u cv mf (m - 1) ≠ 0 ↔ mnF (fun _ => true) (fun s => mC u cv mf (m - 1) 0 s) 1000 6 < 1000 := by
    rw [hr]
    have e2 : ∀ t, (rch n u cv mf 0).testBit t = (decide (t < n) && cv 0 t && u.testBit t) := fun t => by
      show (msk (cv 0) n &&& u).testBit t = _
      rw [Nat.testBit_and, tb_msk]
    constructor
    · rintro ⟨t, h1, h2⟩
      rw [e2] at h1
      simp only [Bool.and_eq_true, decide_eq_true_eq] at h1
      rcases (mC_dC (n := n) (u := u) (cv := cv) (mf := mf) hu h6 (m - 1) 0 t (by omega)).1 (by simp [h1.1.2, h1.2]) with ⟨a1, a2⟩ | ⟨a1, a2⟩
      · rcases mn_spec (fun _ => true) (fun s => mC u cv mf (m - 1) 0 s) 1000 6 with ⟨y1, -, y3⟩ | ⟨v, y1, y2, y3, y4, -, -, y7⟩
        · have := y3 t (by omega) rfl
          try dsimp only at this
          omega
        · rw [y4]; exact y3
      · omega
    · intro h
      rcases mn_spec (fun _ => true) (fun s => mC u cv mf (m - 1) 0 s) 1000 6 with ⟨y1, -, y3⟩ | ⟨v, y1, y2, y3, y4, -, -, y7⟩
      · omega
      · try dsimp only at y3
        cases hV : (u.testBit v && cv 0 v) with
        | false => have := (mC_dC (n := n) (u := u) (cv := cv) (mf := mf) hu h6 (m - 1) 0 v (by omega)).2 hV; omega
        | true =>
          rcases (mC_dC (n := n) (u := u) (cv := cv) (mf := mf) hu h6 (m - 1) 0 v (by omega)).1 hV with ⟨a1, a2⟩ | ⟨a1, a2⟩
          · rw [Bool.and_eq_true] at hV
            refine ⟨v, ?_, by omega⟩
            rw [e2]
            simp [hu v hV.1, hV.1, hV.2]
          · omega
  by_cases hh : mnF (fun _ => true) (fun s => mC u cv mf (m - 1) 0 s) 1000 6 < 1000
  · rw [decide_eq_true hh]
    have := key.mpr hh
    simp [this]
  · rw [decide_eq_false hh]
    have : ¬ rch n u cv mf (m - 1) ≠ 0 := fun z => hh (key.mp z)
    simp only [Decidable.not_not] at this
    simp [this]
/-- the model's way, held against the class's -/
def wayOk (w : Nat → Nat) : Prop := (0 < m → mC u cv mf (m - 1) 0 (w 0) = wC m u cv mf ∧ w 0 < n ∧ ∀ t, t < w 0 → mC u cv mf (m - 1) 0 t ≠ wC m u cv mf) ∧ ∀ l, l + 1 < m → w (l + 1) < n ∧ mf l (w l) (w (l + 1)) = true ∧ mC u cv mf (m - 1 - (l + 1)) (l + 1) (w (l + 1)) + (if w l = w (l + 1) then 0 else 1) = mC u cv mf (m - 1 - l) l (w l) ∧ ∀ t, t < w (l + 1) → ¬ (mf l (w l) t = true ∧ mC u cv mf (m - 1 - (l + 1)) (l + 1) t + (if w l = t then 0 else 1) = mC u cv mf (m - 1 - l) l (w l))
theorem tr_step (hu : ∀ t, u.testBit t = true → t < n) (h6 : n ≤ 6) (hm : m < 90) {l s : Nat} (hl : l + 1 < m) (hs : tr n m u cv mf l = some s) (hV : (u.testBit s && cv l s) = true) (hd : dC n u cv mf (m - 1 - l) l s < 100) : ∃ t, tr n m u cv mf (l + 1) = some t ∧ t < n ∧ mf l s t = true ∧ (u.testBit t && cv (l + 1) t) = true ∧ dC n u cv mf (m - 1 - (l + 1)) (l + 1) t < 100 ∧ mC u cv mf (m - 1 - (l + 1)) (l + 1) t + (if s = t then 0 else 1) = mC u cv mf (m - 1 - l) l s ∧ ∀ v, v < t → ¬ (mf l s v = true ∧ mC u cv mf (m - 1 - (l + 1)) (l + 1) v + (if s = v then 0 else 1) = mC u cv mf (m - 1 - l) l s) := by
  obtain ⟨k, hk⟩ : ∃ k, m - 1 - l = k + 1 := ⟨m - 1 - l - 1, by omega⟩
  have hk2 : m - 1 - (l + 1) = k := by omega
  rw [hk2]
  rw [hk] at hd ⊢
  have e1 : tr n m u cv mf (l + 1) = amF (fun t => (mf l s t && cv (l + 1) t) && u.testBit t) (fun t => cF (some s) t (dC n u cv mf k (l + 1) t)) 100 n := by
    show (match tr n m u cv mf l with | none => none | some s => amF (fun t => (mf l s t && cv (l + 1) t) && u.testBit t) (fun t => cF (some s) t (dC n u cv mf (m - 1 - (l + 1)) (l + 1) t)) 100 n) = _
    rw [hs, hk2]
  have hM : mC u cv mf (k + 1) l s = dC n u cv mf (k + 1) l s := by
    rcases (mC_dC (n := n) (u := u) (cv := cv) (mf := mf) hu h6 (k + 1) l s (by omega)).1 hV with h | h
    · exact h.2
    · omega
  have e2 : dC n u cv mf (k + 1) l s = mnF (fun t => (mf l s t && cv (l + 1) t) && u.testBit t) (fun t => cF (some s) t (dC n u cv mf k (l + 1) t)) 100 n := rfl
  rcases mn_spec (fun t => (mf l s t && cv (l + 1) t) && u.testBit t) (fun t => cF (some s) t (dC n u cv mf k (l + 1) t)) 100 n with ⟨z1, -, -⟩ | ⟨t, z1, z2, z3, z4, z5, z6, -⟩
  · rw [e2, z1] at hd; omega
  · try dsimp only at z2 z3 z4 z6
    have z2' := z2
    simp only [Bool.and_eq_true] at z2'
    have hVt : (u.testBit t && cv (l + 1) t) = true := by simp [z2'.1.2, z2'.2]
    have hlt : dC n u cv mf k (l + 1) t < 100 := by rw [cF_some] at z3; omega
    have hkb := dC_b (n := n) (u := u) (cv := cv) (mf := mf) k (l + 1) t (by omega)
    have hMt : mC u cv mf k (l + 1) t = dC n u cv mf k (l + 1) t := by
      rcases (mC_dC (n := n) (u := u) (cv := cv) (mf := mf) hu h6 k (l + 1) t (by omega)).1 hVt with h | h
      · exact h.2
      · omega
    refine ⟨t, e1.trans z5, z1, z2'.1.1, hVt, hlt, ?_, ?_⟩
    · rw [hM, e2, z4, hMt, cF_some]
      split <;> omega
    · rintro v hv ⟨h1, h2⟩
      rw [hM] at h2
      have hlt2 : mC u cv mf k (l + 1) v < 1000 := by omega
      cases hVv : (u.testBit v && cv (l + 1) v) with
      | false => have := (mC_dC (n := n) (u := u) (cv := cv) (mf := mf) hu h6 k (l + 1) v (by omega)).2 hVv; omega
      | true =>
        rcases (mC_dC (n := n) (u := u) (cv := cv) (mf := mf) hu h6 k (l + 1) v (by omega)).1 hVv with ⟨a1, a2⟩ | ⟨a1, a2⟩
        · rw [Bool.and_eq_true] at hVv
          have := z6 v hv (by rw [h1, hVv.1, hVv.2]; rfl)
          rw [← z4, ← e2, cF_some] at this
          rw [a2] at h2
          split at h2 <;> split at this <;> omega
        · omega
theorem tr_way (hu : ∀ t, u.testBit t = true → t < n) (h6 : n ≤ 6) (hm : m < 90) (hh : hasU n m u cv mf = true) : ∃ w : Nat → Nat, (∀ l, l < m → tr n m u cv mf l = some (w l) ∧ w l < n ∧ (u.testBit (w l) && cv l (w l)) = true) ∧ wayOk (n := n) (m := m) (u := u) (cv := cv) (mf := mf) w ∧ (0 < m → trK n m u cv mf = wC m u cv mf) := by
  by_cases h0 : m = 0
  · subst h0
    exact ⟨fun _ => 0, fun l hl => absurd hl (by omega), ⟨fun h => absurd h (by omega), fun l h => absurd h (by omega)⟩, fun h => absurd h (by omega)⟩
  have hw : wC m u cv mf < 1000 := by
    rw [has_w hu h6 hm] at hh
    exact of_decide_eq_true hh
  have ew : wC m u cv mf = mnF (fun _ => true) (fun s => mC u cv mf (m - 1) 0 s) 1000 6 := if_neg h0
  have start : ∃ s, tr n m u cv mf 0 = some s ∧ s < n ∧ (u.testBit s && cv 0 s) = true ∧ dC n u cv mf (m - 1 - 0) 0 s < 100 ∧ mC u cv mf (m - 1) 0 s = wC m u cv mf ∧ (∀ t, t < s → mC u cv mf (m - 1) 0 t ≠ wC m u cv mf) ∧ cF none s (dC n u cv mf (m - 1) 0 s) = wC m u cv mf := by
    have keyM : ∀ v, mC u cv mf (m - 1) 0 v < 1000 → v < n ∧ (cv 0 v && u.testBit v) = true ∧ mC u cv mf (m - 1) 0 v = dC n u cv mf (m - 1) 0 v ∧ dC n u cv mf (m - 1) 0 v ≤ m - 1 := by
      intro v hv
      cases hVv : (u.testBit v && cv 0 v) with
      | false => have := (mC_dC (n := n) (u := u) (cv := cv) (mf := mf) hu h6 (m - 1) 0 v (by omega)).2 hVv; omega
      | true =>
        rcases (mC_dC (n := n) (u := u) (cv := cv) (mf := mf) hu h6 (m - 1) 0 v (by omega)).1 hVv with ⟨a1, a2⟩ | ⟨a1, a2⟩
        · rw [Bool.and_eq_true] at hVv
          exact ⟨hu v hVv.1, by rw [hVv.1, hVv.2]; rfl, a2, a1⟩
        · omega
    rcases mn_spec (fun _ => true) (fun s => mC u cv mf (m - 1) 0 s) 1000 6 with ⟨y1, -, y3⟩ | ⟨v, y1, -, y3, y4, -, y6, y7⟩
    · rw [ew, y1] at hw; omega
    · try dsimp only at y3 y4 y6 y7
      obtain ⟨b1, b2, b3, b4⟩ := keyM v y3
      rcases mn_spec (fun t => cv 0 t && u.testBit t) (fun t => cF none t (dC n u cv mf (m - 1) 0 t)) 100 n with ⟨z1, -, z3⟩ | ⟨s, z1, z2, z3, z4, z5, z6, z7⟩
      · have := z3 v b1 b2
        try dsimp only at this
        rw [cF_none] at this
        omega
      · try dsimp only at z2 z3 z4 z6 z7
        have hVs : (u.testBit s && cv 0 s) = true := by rw [Bool.and_comm]; exact z2
        have hds : dC n u cv mf (m - 1) 0 s < 100 := by rw [cF_none] at z3; omega
        have hMs : mC u cv mf (m - 1) 0 s = dC n u cv mf (m - 1) 0 s := by
          rcases (mC_dC (n := n) (u := u) (cv := cv) (mf := mf) hu h6 (m - 1) 0 s (by omega)).1 hVs with h | h
          · exact h.2
          · omega
        have g1 := z7 v b1 b2
        have g2 := y7 s (by omega) rfl
        rw [cF_none, cF_none] at g1
        have hE : mC u cv mf (m - 1) 0 s = wC m u cv mf := by rw [ew, y4]; omega
        refine ⟨s, z5, z1, hVs, hds, hE, fun t ht hc => ?_, ?_⟩
        · rw [← hE] at hc
          obtain ⟨d1, d2, d3, d4⟩ := keyM t (by omega)
          have := z6 t ht d2
          rw [cF_none, cF_none] at this
          omega
        · rw [cF_none]; omega
  obtain ⟨s0, a1, a2, a3, a4, a5, a6, a7⟩ := start
  have all : ∀ l, l < m → ∃ s, tr n m u cv mf l = some s ∧ s < n ∧ (u.testBit s && cv l s) = true ∧ dC n u cv mf (m - 1 - l) l s < 100 := by
    intro l
    induction l with
    | zero => intro _; exact ⟨s0, a1, a2, a3, a4⟩
    | succ l ih =>
      intro hl
      obtain ⟨s, b1, b2, b3, b4⟩ := ih (by omega)
      obtain ⟨t, c1, c2, c3, c4, c5, -, -⟩ := tr_step hu h6 hm hl b1 b3 b4
      exact ⟨t, c1, c2, c4, c5⟩
  have hw0 : ∀ l, l < m → tr n m u cv mf l = some ((tr n m u cv mf l).getD 0) := fun l hl => by
    obtain ⟨s, b1, -⟩ := all l hl
    rw [b1]; rfl
  refine ⟨fun l => (tr n m u cv mf l).getD 0, fun l hl => ?_, ⟨fun _ => ?_, fun l hl => ?_⟩, fun _ => ?_⟩
  · obtain ⟨s, b1, b2, b3, -⟩ := all l hl
    show tr n m u cv mf l = some ((tr n m u cv mf l).getD 0) ∧ (tr n m u cv mf l).getD 0 < n ∧ (u.testBit ((tr n m u cv mf l).getD 0) && cv l ((tr n m u cv mf l).getD 0)) = true
    rw [b1]
    exact ⟨rfl, b2, b3⟩
  · try dsimp only
    rw [a1]
    exact ⟨a5, a2, a6⟩
  · obtain ⟨s, b1, b2, b3, b4⟩ := all l (by omega)
    obtain ⟨t, c1, c2, c3, c4, c5, c6, c7⟩ := tr_step hu h6 hm hl b1 b3 b4
    have g1 : s = (tr n m u cv mf l).getD 0 := by rw [b1]; rfl
    have g2 : t = (tr n m u cv mf (l + 1)).getD 0 := by rw [c1]; rfl
    subst g1 g2
    exact ⟨c2, c3, c6, c7⟩
  · unfold trK
    rw [a1]
    exact a7
end PM
