/-! ===== the text's tokens ===== -/
section TKN
variable (c : Nat → Nat) (t : Nat)
def kdA (p : Nat) : Nat := if t ≤ p then 0 else if 97 ≤ c p ∧ c p ≤ 122 then 1 else if 48 ≤ c p ∧ c p ≤ 57 then 2 else if c p = 59 then 3 else 4
def skA : Nat → Nat → Nat
  | 0, p => p
  | k + 1, p => if p < t ∧ c p = 32 then skA k (p + 1) else p
def ruA (q : Nat) : Nat → Nat → Nat
  | 0, p => p
  | k + 1, p => if kdA c t p = q then ruA q k (p + 1) else p
def tS (p : Nat) : Nat := skA c t (t - p) p
def tK (p : Nat) : Nat := kdA c t (tS c t p)
def tE (p : Nat) : Nat := if tK c t p = 0 then tS c t p else if tK c t p = 1 ∨ tK c t p = 2 then ruA c t (tK c t p) (t - (tS c t p + 1)) (tS c t p + 1) else tS c t p + 1
/-- a word's letters, as a number -/
def wdA : Nat → Nat → Nat
  | _, 0 => 0
  | s, k + 1 => (c s - 96) + 32 * wdA (s + 1) k
def isW : List Nat → Nat → Nat → Bool
  | [], _, 0 => true
  | x :: w, s, k + 1 => decide (c s = x) && isW w (s + 1) k
  | _, _, _ => false
end TKN
def pkW : List Nat → Nat
  | [] => 0
  | x :: w => (x - 96) + 32 * pkW w
abbrev wPl : List Nat := [112, 108, 97, 121, 101, 114, 115]
abbrev wLi : List Nat := [108, 105, 110, 101, 115]
abbrev wSh : List Nat := [115, 104, 111, 116]
/-- the model's token -/
def tW (c : Nat → Nat) (t p : Nat) : Nat := if tK c t p = 0 then 1000 else if tK c t p = 1 then (if isW c wPl (tS c t p) (tE c t p - tS c t p) then 1003 else if isW c wLi (tS c t p) (tE c t p - tS c t p) then 1004 else if isW c wSh (tS c t p) (tE c t p - tS c t p) then 1005 else 1001) else if tK c t p = 2 then 1002 else if tK c t p = 3 then 59 else 1001
section TKM
variable {c : Nat → Nat} {t : Nat}
theorem kd_4 (p : Nat) : kdA c t p ≤ 4 := by
  unfold kdA
  split
  · omega
  · split
    · omega
    · split
      · omega
      · split <;> omega
theorem kd_0 {p : Nat} : kdA c t p = 0 ↔ t ≤ p := by
  unfold kdA
  constructor
  · intro h
    by_cases h0 : t ≤ p
    · exact h0
    · rw [if_neg h0] at h
      split at h
      · omega
      · split at h
        · omega
        · split at h <;> omega
  · intro h
    rw [if_pos h]
theorem kd_1 {p : Nat} : kdA c t p = 1 ↔ p < t ∧ 97 ≤ c p ∧ c p ≤ 122 := by
  unfold kdA
  constructor
  · intro h
    by_cases h0 : t ≤ p
    · rw [if_pos h0] at h; omega
    · rw [if_neg h0] at h
      split at h
      · omega
      · split at h
        · omega
        · split at h <;> omega
  · rintro ⟨h1, h2⟩
    rw [if_neg (by omega), if_pos h2]
theorem kd_2 {p : Nat} : kdA c t p = 2 ↔ p < t ∧ 48 ≤ c p ∧ c p ≤ 57 := by
  unfold kdA
  constructor
  · intro h
    by_cases h0 : t ≤ p
    · rw [if_pos h0] at h; omega
    · rw [if_neg h0] at h
      split at h
      · omega
      · split at h
        · omega
        · split at h <;> omega
  · rintro ⟨h1, h2⟩
    rw [if_neg (by omega), if_neg (by omega), if_pos h2]
theorem kd_3 {p : Nat} : kdA c t p = 3 ↔ p < t ∧ c p = 59 := by
  unfold kdA
  constructor
  · intro h
    by_cases h0 : t ≤ p
    · rw [if_pos h0] at h; omega
    · rw [if_neg h0] at h
      split at h
      · omega
      · split at h
        · omega
        · split at h <;> omega
  · rintro ⟨h1, h2⟩
    rw [if_neg (by omega), if_neg (by omega), if_neg (by omega), if_pos h2]
theorem sk_le : ∀ k p, p ≤ skA c t k p ∧ (p ≤ t → skA c t k p ≤ t) := by
  intro k
  induction k with
  | zero => intro p; exact ⟨Nat.le_refl p, fun h => h⟩
  | succ k ih =>
    intro p
    unfold skA
    split
    · rename_i h
      have := ih (p + 1)
      exact ⟨by omega, fun _ => this.2 (by omega)⟩
    · exact ⟨Nat.le_refl p, fun h => h⟩
theorem ru_le {q : Nat} (hq : q ≠ 0) : ∀ k p, p ≤ ruA c t q k p ∧ (p ≤ t → ruA c t q k p ≤ t) ∧ (∀ i, p ≤ i → i < ruA c t q k p → kdA c t i = q) := by
  intro k
  induction k with
  | zero => intro p; exact ⟨Nat.le_refl p, fun h => h, fun i h1 h2 => absurd h2 (by unfold ruA; omega)⟩
  | succ k ih =>
    intro p
    unfold ruA
    split
    · rename_i h
      have := ih (p + 1)
      have hpt : p < t := by
        apply Nat.lt_of_not_le
        intro z
        exact hq (h.symm.trans (kd_0.mpr z))
      refine ⟨by omega, fun _ => this.2.1 (by omega), fun i h1 h2 => ?_⟩
      by_cases hi : i = p
      · subst hi; exact h
      · exact this.2.2 i (by omega) h2
    · exact ⟨Nat.le_refl p, fun h => h, fun i h1 h2 => absurd h2 (by omega)⟩
theorem tS_le {p : Nat} (hp : p ≤ t) : tS c t p ≤ t := (sk_le _ _).2 hp
theorem tS_lt {p : Nat} (h : tK c t p ≠ 0) : tS c t p < t := by
  apply Nat.lt_of_not_le
  intro z
  exact h (kd_0.mpr z)
theorem tE_le {p : Nat} (hp : p ≤ t) : tE c t p ≤ t := by
  unfold tE
  split
  · exact tS_le hp
  · rename_i h
    have := tS_lt h
    split
    · exact (ru_le h _ _).2.1 (by omega)
    · omega
theorem tE_gt {p : Nat} (h : tK c t p ≠ 0) : tS c t p < tE c t p := by
  unfold tE
  rw [if_neg h]
  split
  · have := (ru_le (c := c) (t := t) h (t - (tS c t p + 1)) (tS c t p + 1)).1
    omega
  · omega
theorem tE_in {p i : Nat} (h : tK c t p = 1 ∨ tK c t p = 2) (h1 : tS c t p ≤ i) (h2 : i < tE c t p) : kdA c t i = tK c t p := by
  have h0 : tK c t p ≠ 0 := by omega
  unfold tE at h2
  rw [if_neg h0, if_pos h] at h2
  by_cases hi : i = tS c t p
  · subst hi; rfl
  · exact (ru_le h0 _ _).2.2 i (by omega) h2
theorem isW_iff : ∀ (w : List Nat) (s k : Nat), isW c w s k = true ↔ (k = w.length ∧ ∀ i, i < w.length → c (s + i) = w.getD i 0) := by
  intro w
  induction w with
  | nil =>
    intro s k
    cases k with
    | zero => exact ⟨fun _ => ⟨rfl, fun i hi => absurd hi (by simp)⟩, fun _ => rfl⟩
    | succ k => exact ⟨fun h => (by cases h), fun h => (by have := h.1; simp at this)⟩
  | cons x w ih =>
    intro s k
    cases k with
    | zero => exact ⟨fun h => (by cases h), fun h => (by have := h.1; simp at this)⟩
    | succ k =>
      unfold isW
      rw [Bool.and_eq_true, decide_eq_true_eq, ih]
      constructor
      · rintro ⟨h1, h2, h3⟩
        refine ⟨by rw [List.length_cons, h2], fun i hi => ?_⟩
        cases i with
        | zero => exact h1
        | succ i =>
          have := h3 i (by rw [List.length_cons] at hi; omega)
          rw [show s + (i + 1) = s + 1 + i by omega, this]
          rfl
      · rintro ⟨h1, h2⟩
        rw [List.length_cons] at h1
        refine ⟨h2 0 (by rw [List.length_cons]; omega), by omega, fun i hi => ?_⟩
        have := h2 (i + 1) (by rw [List.length_cons]; omega)
        rw [show s + (i + 1) = s + 1 + i by omega] at this
        rw [this]
        rfl
theorem wd_is : ∀ (w : List Nat), (∀ x ∈ w, 97 ≤ x ∧ x ≤ 122) → ∀ s k, (∀ i, i < k → 97 ≤ c (s + i) ∧ c (s + i) ≤ 122) → (wdA c s k = pkW w ↔ isW c w s k = true) := by
  intro w
  induction w with
  | nil =>
    intro _ s k hk
    cases k with
    | zero => exact ⟨fun _ => rfl, fun _ => rfl⟩
    | succ k =>
      have := hk 0 (by omega)
      rw [Nat.add_zero] at this
      refine ⟨fun h => ?_, fun h => by cases h⟩
      have h' : (c s - 96) + 32 * wdA c (s + 1) k = 0 := h
      omega
  | cons x w ih =>
    intro hw s k hk
    have hx := hw x (List.mem_cons_self ..)
    cases k with
    | zero =>
      refine ⟨fun h => ?_, fun h => by cases h⟩
      have h' : 0 = (x - 96) + 32 * pkW w := h
      omega
    | succ k =>
      have h0 := hk 0 (by omega)
      rw [Nat.add_zero] at h0
      have ih := ih (fun y hy => hw y (List.mem_cons_of_mem _ hy)) (s + 1) k (fun i hi => by
        have := hk (i + 1) (by omega)
        rw [show s + (i + 1) = s + 1 + i by omega] at this
        exact this)
      unfold isW
      rw [Bool.and_eq_true, decide_eq_true_eq, ← ih]
      show (c s - 96) + 32 * wdA c (s + 1) k = (x - 96) + 32 * pkW w ↔ _
      constructor
      · intro h; omega
      · rintro ⟨h1, h2⟩; rw [h1, h2]
theorem wd_lt : ∀ s k, (∀ i, i < k → 97 ≤ c (s + i) ∧ c (s + i) ≤ 122) → wdA c s k < 32 ^ k := by
  intro s k
  induction k generalizing s with
  | zero => intro _; exact Nat.one_pos
  | succ k ih =>
    intro hk
    have h0 := hk 0 (by omega)
    rw [Nat.add_zero] at h0
    have := ih (s + 1) (fun i hi => by
      have := hk (i + 1) (by omega)
      rw [show s + (i + 1) = s + 1 + i by omega] at this
      exact this)
    unfold wdA
    rw [Nat.pow_succ]
    omega
theorem skA_s {k p : Nat} (h1 : p < t) (h2 : c p = 32) : skA c t (k + 1) p = skA c t k (p + 1) := if_pos ⟨h1, h2⟩
theorem skA_n {k p : Nat} (h2 : c p ≠ 32) : skA c t (k + 1) p = p := if_neg (fun h => h2 h.2)
theorem ruA_s {k p q : Nat} (h : kdA c t p = q) : ruA c t q (k + 1) p = ruA c t q k (p + 1) := if_pos h
theorem ruA_n {k p q : Nat} (h : kdA c t p ≠ q) : ruA c t q (k + 1) p = p := if_neg h
end TKM
/-! texts that are written out -/
section STR
variable {g : Glob}
theorem aj_coder {k : Nat} (hk : k = 1000 ∨ k = 1001 ∨ k = 1002) (h : AH) : ACe g mJ0_coder_7d493 [.ref k] h (some (.int 0)) h := by
  refine acw gdJ0_coder_7d493 30 rfl ⟨fun h => absurd h (by decide), fun _ => ?_⟩
  rcases hk with rfl | rfl | rfl <;> exact ⟨rfl, rfl, rfl⟩
theorem aj_isLatin1 {k : Nat} (hk : k = 1000 ∨ k = 1001 ∨ k = 1002) (h : AH) : ACe g mJ0_isLatin1_aae02 [.ref k] h (some (.int 1)) h := by
  refine acw gdJ0_isLatin1_aae02 30 rfl ⟨fun h => absurd h (by decide), fun _ => ?_⟩
  rcases hk with rfl | rfl | rfl <;> exact ⟨fun h => absurd rfl h, fun _ => ⟨rfl, rfl, rfl⟩⟩
theorem aj_length0 (h : AH) : ACe g mJ0_length_8abf5 [.ref 1000] h (some (.int (nI 7))) h := by
  refine acw gdJ0_length_8abf5 30 rfl ?_
  exact ac_to (aj_coder (Or.inl rfl) h) ⟨rfl, rfl⟩
theorem aj_length1 (h : AH) : ACe g mJ0_length_8abf5 [.ref 1001] h (some (.int (nI 5))) h := by
  refine acw gdJ0_length_8abf5 30 rfl ?_
  exact ac_to (aj_coder (Or.inr (Or.inl rfl)) h) ⟨rfl, rfl⟩
theorem aj_length2 (h : AH) : ACe g mJ0_length_8abf5 [.ref 1002] h (some (.int (nI 4))) h := by
  refine acw gdJ0_length_8abf5 30 rfl ?_
  exact ac_to (aj_coder (Or.inr (Or.inr rfl)) h) ⟨rfl, rfl⟩
theorem aj_ckP {i n : Nat} {v : Value} (hv : v = .null ∨ v = .ref 1020) (hi : i < n) (hn : n ≤ 2000) (h : AH) : ACe g mJ3_checkIndex_8e157 [.int (nI i), .int (nI n), v] h (some (.int (nI i))) h := by
  rcases hv with rfl | rfl
  · refine acw gdJ3_checkIndex_8e157 30 rfl ⟨fun h => absurd h (nlt0 i (by omega)), fun _ => ⟨fun _ => ⟨rfl, rfl⟩, fun h => absurd ((nltI (by omega) (by omega)).mpr hi) h⟩⟩
  · refine acw gdJ3_checkIndex_8e157 30 rfl ⟨fun h => absurd h (nlt0 i (by omega)), fun _ => ⟨fun _ => ⟨rfl, rfl⟩, fun h => absurd ((nltI (by omega) (by omega)).mpr hi) h⟩⟩
theorem aj_ckS {i n : Nat} (hi : i < n) (hn : n ≤ 2000) (h : AH) : ACe g mJ0_checkIndex_df160 [.int (nI i), .int (nI n)] h none h := by
  refine acw gdJ0_checkIndex_df160 30 rfl ⟨?_, ?_⟩
  · exact ac_to (aj_ckP (Or.inl rfl) hi hn h) ⟨rfl, rfl⟩
  · exact ac_to (aj_ckP (Or.inr rfl) hi hn h) ⟨rfl, rfl⟩
theorem aj_lat0 {i : Nat} (hi : i < 7) (h : AH) : ACe g mJ1_charAt_3b067 [.ref 1010, .int (nI i)] h (some (.int (nI (wPl.getD i 0)))) h := by
  refine acw gdJ1_charAt_3b067 40 rfl (ac_to (aj_ckS (n := 7) hi (by decide) h) ?_)
  refine ⟨_, _, rfl, vlit hi (by decide), ?_⟩
  rw [vcl (x := nI i) rfl (by omega)]
  rcases (show i = 0 ∨ i = 1 ∨ i = 2 ∨ i = 3 ∨ i = 4 ∨ i = 5 ∨ i = 6 by omega) with rfl | rfl | rfl | rfl | rfl | rfl | rfl <;> exact ⟨rfl, rfl, rfl⟩
theorem aj_lat1 {i : Nat} (hi : i < 5) (h : AH) : ACe g mJ1_charAt_3b067 [.ref 1011, .int (nI i)] h (some (.int (nI (wLi.getD i 0)))) h := by
  refine acw gdJ1_charAt_3b067 40 rfl (ac_to (aj_ckS (n := 5) hi (by decide) h) ?_)
  refine ⟨_, _, rfl, vlit hi (by decide), ?_⟩
  rw [vcl (x := nI i) rfl (by omega)]
  rcases (show i = 0 ∨ i = 1 ∨ i = 2 ∨ i = 3 ∨ i = 4 by omega) with rfl | rfl | rfl | rfl | rfl <;> exact ⟨rfl, rfl, rfl⟩
theorem aj_lat2 {i : Nat} (hi : i < 4) (h : AH) : ACe g mJ1_charAt_3b067 [.ref 1012, .int (nI i)] h (some (.int (nI (wSh.getD i 0)))) h := by
  refine acw gdJ1_charAt_3b067 40 rfl (ac_to (aj_ckS (n := 4) hi (by decide) h) ?_)
  refine ⟨_, _, rfl, vlit hi (by decide), ?_⟩
  rw [vcl (x := nI i) rfl (by omega)]
  rcases (show i = 0 ∨ i = 1 ∨ i = 2 ∨ i = 3 by omega) with rfl | rfl | rfl | rfl <;> exact ⟨rfl, rfl, rfl⟩
theorem nr_ch : ∀ x : Nat, x < 256 → narrow .char (.int (nI x)) = .int (nI x) := by decide +kernel
theorem wPl_l {i : Nat} : wPl.getD i 0 < 256 := by
  rcases (show i = 0 ∨ i = 1 ∨ i = 2 ∨ i = 3 ∨ i = 4 ∨ i = 5 ∨ i = 6 ∨ 7 ≤ i by omega) with rfl | rfl | rfl | rfl | rfl | rfl | rfl | h <;> first | decide | (rw [List.getD_eq_getElem?_getD, List.getElem?_eq_none (by simpa using h)]; decide)
theorem wLi_l {i : Nat} : wLi.getD i 0 < 256 := by
  rcases (show i = 0 ∨ i = 1 ∨ i = 2 ∨ i = 3 ∨ i = 4 ∨ 5 ≤ i by omega) with rfl | rfl | rfl | rfl | rfl | h <;> first | decide | (rw [List.getD_eq_getElem?_getD, List.getElem?_eq_none (by simpa using h)]; decide)
theorem wSh_l {i : Nat} : wSh.getD i 0 < 256 := by
  rcases (show i = 0 ∨ i = 1 ∨ i = 2 ∨ i = 3 ∨ 4 ≤ i by omega) with rfl | rfl | rfl | rfl | h <;> first | decide | (rw [List.getD_eq_getElem?_getD, List.getElem?_eq_none (by simpa using h)]; decide)
theorem aj_at0 (i : Nat) (h : AH) (hi : i < 7) : ACe g mJ0_charAt_5068e [.ref 1000, .int (nI i)] h (some (.int (nI (wPl.getD i 0)))) h := by
  refine acw gdJ0_charAt_5068e 40 rfl (ac_to (aj_isLatin1 (Or.inl rfl) h) ⟨fun h => absurd h n01, fun _ => ?_⟩)
  exact ac_to (aj_lat0 hi h) ⟨nr_ch _ wPl_l, rfl, rfl⟩
theorem aj_at1 (i : Nat) (h : AH) (hi : i < 5) : ACe g mJ0_charAt_5068e [.ref 1001, .int (nI i)] h (some (.int (nI (wLi.getD i 0)))) h := by
  refine acw gdJ0_charAt_5068e 40 rfl (ac_to (aj_isLatin1 (Or.inr (Or.inl rfl)) h) ⟨fun h => absurd h n01, fun _ => ?_⟩)
  exact ac_to (aj_lat1 hi h) ⟨nr_ch _ wLi_l, rfl, rfl⟩
theorem aj_at2 (i : Nat) (h : AH) (hi : i < 4) : ACe g mJ0_charAt_5068e [.ref 1002, .int (nI i)] h (some (.int (nI (wSh.getD i 0)))) h := by
  refine acw gdJ0_charAt_5068e 40 rfl (ac_to (aj_isLatin1 (Or.inr (Or.inr rfl)) h) ⟨fun h => absurd h n01, fun _ => ?_⟩)
  exact ac_to (aj_lat2 hi h) ⟨nr_ch _ wSh_l, rfl, rfl⟩
end STR
