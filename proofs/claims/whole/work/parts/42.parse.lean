/-! ===== what a text tells, in numbers ===== -/
/-- places, who says a line, what is told of the shots, lines, shots -/
abbrev Dr : Type := (Nat → Nat) × (Nat → Nat) × (Nat → Nat) × Nat × Nat
def ffA (ok : Nat → Bool) : Nat → Option Nat
  | 0 => none
  | n + 1 => match ffA ok n with
    | some k => some k
    | none => if ok n then none else some n
section PRS
variable (c : Nat → Nat) (t : Nat)
def itA (p : Nat) : Nat → Nat
  | 0 => p
  | k + 1 => tE c t (itA p k)
def vlA (p k : Nat) : Nat := c (tS c t (itA c t p k)) - 48
def stA (p : Nat) : Nat ⊕ Nat := if tK c t p = 3 then .inr (tE c t p) else .inl (tS c t p)
def plA (p : Nat) : Nat ⊕ Nat := match ffA (fun k => fgA c t 0 9 (itA c t p k)) 4 with
  | some k => .inl (tS c t (itA c t p k))
  | none => if vlA c t p 0 = vlA c t p 2 ∧ vlA c t p 1 = vlA c t p 3 then .inl (tS c t (itA c t p 3)) else stA c t (itA c t p 4)
def liA (p : Nat) : Nat ⊕ Nat := if tK c t p = 2 ∧ tE c t p - tS c t p ≤ 8 ∧ ffA (fun l => decide (c (tS c t p + l) ≤ 49)) (tE c t p - tS c t p) = none then stA c t (tE c t p) else .inl (tS c t p)
def loA (p k : Nat) : Nat := if k = 5 then vlA c t p 4 else if k = 3 ∨ k = 6 then 1 else 0
def hiA (k : Nat) : Nat := if k = 2 then 2 else if k = 3 then 5 else if k = 4 ∨ k = 5 then 7 else 9
def shA (p : Nat) : Nat ⊕ Nat := match ffA (fun k => fgA c t (loA c t p k) (hiA k) (itA c t p k)) 7 with
  | some k => .inl (tS c t (itA c t p k))
  | none => stA c t (itA c t p 7)
def itm (pt lt : Bool) (D : Dr) (p : Nat) : Nat ⊕ (Bool × Bool × Dr × Nat) :=
  if tW c t p = 1003 then (if pt then .inl (tS c t p) else match plA c t (tE c t p) with
    | .inl f => .inl f
    | .inr q => .inr (true, lt, (fun i => vlA c t (tE c t p) i, D.2.1, D.2.2.1, D.2.2.2.1, D.2.2.2.2), q))
  else if tW c t p = 1004 then (if lt then .inl (tS c t p) else match liA c t (tE c t p) with
    | .inl f => .inl f
    | .inr q => .inr (pt, true, (D.1, fun l => c (tS c t (tE c t p) + l) - 48, D.2.2.1, tE c t (tE c t p) - tS c t (tE c t p), D.2.2.2.2), q))
  else if tW c t p = 1005 ∧ D.2.2.2.2 < 6 then (match shA c t (tE c t p) with
    | .inl f => .inl f
    | .inr q => .inr (pt, lt, (D.1, D.2.1, fun i => if i < 7 * D.2.2.2.2 then D.2.2.1 i else vlA c t (tE c t p) (i - 7 * D.2.2.2.2), D.2.2.2.1, D.2.2.2.2 + 1), q))
  else .inl (tS c t p)
def psA : Nat → Nat → Bool → Bool → Dr → Nat → Nat ⊕ (Nat × Dr)
  | 0, _, _, _, _, _ => .inl 0
  | k + 1, i, pt, lt, D, p => if tK c t p = 0 then .inr (i, D) else match itm c t pt lt D p with
    | .inl f => .inl f
    | .inr (pt', lt', D', q) => psA k (i + 1) pt' lt' D' q
end PRS
def D0 : Dr := (fun i => if i = 0 then 3 else if i = 2 then 6 else 5, fun _ => 0, fun _ => 0, 0, 0)
def DOk (D : Dr) : Prop := D.2.2.2.1 ≤ 8 ∧ D.2.2.2.2 ≤ 6 ∧ (∀ i, i < 4 → D.1 i ≤ 9) ∧ (∀ i, i < 7 * D.2.2.2.2 → D.2.2.1 i ≤ 9)
def b2n (b : Bool) : Nat := if b then 1 else 0
theorem ff_no {ok : Nat → Bool} : ∀ n, ffA ok n = none → ∀ k, k < n → ok k = true := by
  intro n
  induction n with
  | zero => intro _ k hk; omega
  | succ n ih =>
    intro h k hk
    unfold ffA at h
    cases hf : ffA ok n with
    | some j => rw [hf] at h; cases h
    | none =>
      rw [hf] at h
      dsimp only at h
      by_cases hk' : k = n
      · subst hk'
        cases ho : ok k with
        | true => rfl
        | false => rw [ho] at h; cases h
      · exact ih hf k (by omega)
theorem ff_al {ok : Nat → Bool} : ∀ n, (∀ k, k < n → ok k = true) → ffA ok n = none := by
  intro n
  induction n with
  | zero => intro _; rfl
  | succ n ih =>
    intro h
    unfold ffA
    rw [ih (fun k hk => h k (by omega))]
    dsimp only
    rw [h n (by omega)]
    rfl
theorem ff_at {ok : Nat → Bool} {k : Nat} (h1 : ∀ j, j < k → ok j = true) (h2 : ok k = false) : ∀ n, k < n → ffA ok n = some k := by
  intro n
  induction n with
  | zero => intro h; omega
  | succ n ih =>
    intro h
    unfold ffA
    by_cases hk : k = n
    · subst hk
      rw [ff_al k h1]
      dsimp only
      rw [h2]
      rfl
    · rw [ih (by omega)]
theorem ff_lt {ok : Nat → Bool} : ∀ n k, ffA ok n = some k → k < n := by
  intro n
  induction n with
  | zero => intro k h; cases h
  | succ n ih =>
    intro k h
    unfold ffA at h
    cases hf : ffA ok n with
    | some j =>
      rw [hf] at h
      cases h
      have := ih _ hf
      omega
    | none =>
      rw [hf] at h
      dsimp only at h
      split at h
      · cases h
      · cases h; omega
section PRT
variable {c : Nat → Nat} {t : Nat}
theorem it_le {p : Nat} (hp : p ≤ t) : ∀ k, itA c t p k ≤ t := by
  intro k
  induction k with
  | zero => exact hp
  | succ k ih => exact tE_le ih
theorem fg_v {lo hi p : Nat} (h : fgA c t lo hi p = true) : lo ≤ c (tS c t p) - 48 ∧ c (tS c t p) - 48 ≤ hi ∧ 48 ≤ c (tS c t p) := by
  unfold fgA at h
  simp only [Bool.and_eq_true, decide_eq_true_eq] at h
  omega
theorem hi_9 (k : Nat) : hiA k ≤ 9 := by
  unfold hiA
  split
  · omega
  · split
    · omega
    · split <;> omega
theorem st_ok {p q : Nat} (hp : p ≤ t) (h : stA c t p = .inr q) : q ≤ t := by
  unfold stA at h
  split at h
  · cases h; exact tE_le hp
  · cases h
theorem st_bd {p : Nat} (hp : p ≤ t) : ∀ f, stA c t p = .inl f → f ≤ t := by
  intro f h
  unfold stA at h
  split at h
  · cases h
  · cases h; exact tS_le hp
theorem pl_ok {p q : Nat} (hp : p ≤ t) (h : plA c t p = .inr q) : q ≤ t ∧ ∀ i, i < 4 → vlA c t p i ≤ 9 := by
  unfold plA at h
  split at h
  · cases h
  · rename_i hf
    split at h
    · cases h
    · exact ⟨st_ok (it_le hp 4) h, fun i hi => (fg_v (ff_no 4 hf i hi)).2.1⟩
theorem pl_bd {p : Nat} (hp : p ≤ t) : ∀ f, plA c t p = .inl f → f ≤ t := by
  intro f h
  unfold plA at h
  split at h
  · cases h; exact tS_le (it_le hp _)
  · split at h
    · cases h; exact tS_le (it_le hp _)
    · exact st_bd (it_le hp 4) f h
theorem li_ok {p q : Nat} (hp : p ≤ t) (h : liA c t p = .inr q) : q ≤ t ∧ tE c t p - tS c t p ≤ 8 := by
  unfold liA at h
  split at h
  · rename_i hc
    exact ⟨st_ok (tE_le hp) h, hc.2.1⟩
  · cases h
theorem li_bd {p : Nat} (hp : p ≤ t) : ∀ f, liA c t p = .inl f → f ≤ t := by
  intro f h
  unfold liA at h
  split at h
  · exact st_bd (tE_le hp) f h
  · cases h; exact tS_le hp
theorem sh_ok {p q : Nat} (hp : p ≤ t) (h : shA c t p = .inr q) : q ≤ t ∧ ∀ i, i < 7 → vlA c t p i ≤ 9 := by
  unfold shA at h
  split at h
  · cases h
  · rename_i hf
    refine ⟨st_ok (it_le hp 7) h, fun i hi => ?_⟩
    have h1 := (fg_v (ff_no 7 hf i hi)).2.1
    have h2 := hi_9 i
    exact Nat.le_trans h1 h2
theorem sh_bd {p : Nat} (hp : p ≤ t) : ∀ f, shA c t p = .inl f → f ≤ t := by
  intro f h
  unfold shA at h
  split at h
  · cases h; exact tS_le (it_le hp _)
  · exact st_bd (it_le hp 7) f h
theorem itm_bd {pt lt : Bool} {D : Dr} {p : Nat} (hp : p ≤ t) : ∀ f, itm c t pt lt D p = .inl f → f ≤ t := by
  intro f h
  have hE := tE_le (c := c) hp
  unfold itm at h
  split at h
  · split at h
    · cases h; exact tS_le hp
    · split at h
      · rename_i f' hf
        cases h
        exact pl_bd hE _ hf
      · cases h
  · split at h
    · split at h
      · cases h; exact tS_le hp
      · split at h
        · rename_i f' hf
          cases h
          exact li_bd hE _ hf
        · cases h
    · split at h
      · split at h
        · rename_i f' hf
          cases h
          exact sh_bd hE _ hf
        · cases h
      · cases h; exact tS_le hp
theorem itm_ok {pt lt pt' lt' : Bool} {D D' : Dr} {p q : Nat} (hp : p ≤ t) (hD : DOk D) (h : itm c t pt lt D p = .inr (pt', lt', D', q)) : q ≤ t ∧ DOk D' ∧ b2n pt' + b2n lt' + D'.2.2.2.2 = b2n pt + b2n lt + D.2.2.2.2 + 1 := by
  have hE := tE_le (c := c) hp
  obtain ⟨d1, d2, d3, d4⟩ := hD
  unfold itm at h
  split at h
  · split at h
    · cases h
    · rename_i hpt
      split at h
      · cases h
      · rename_i q' hf
        cases h
        have := pl_ok hE hf
        have e : pt = false := by simpa using hpt
        subst e
        refine ⟨this.1, ⟨d1, d2, this.2, d4⟩, ?_⟩
        simp [b2n]
        omega
  · split at h
    · split at h
      · cases h
      · rename_i hlt
        split at h
        · cases h
        · rename_i q' hf
          cases h
          have := li_ok hE hf
          have e : lt = false := by simpa using hlt
          subst e
          refine ⟨this.1, ⟨this.2, d2, d3, d4⟩, ?_⟩
          simp [b2n]
          omega
    · split at h
      · rename_i h6
        split at h
        · cases h
        · rename_i q' hf
          cases h
          have := sh_ok hE hf
          refine ⟨this.1, ⟨d1, by show D.2.2.2.2 + 1 ≤ 6; omega, d3, fun i hi => ?_⟩, ?_⟩
          · show (if i < 7 * D.2.2.2.2 then D.2.2.1 i else vlA c t (tE c t p) (i - 7 * D.2.2.2.2)) ≤ 9
            have hi : i < 7 * (D.2.2.2.2 + 1) := hi
            split
            · rename_i hi'
              exact d4 i hi'
            · exact this.2 _ (by omega)
          · show b2n pt + b2n lt + (D.2.2.2.2 + 1) = _
            omega
      · cases h
theorem b2n_1 (b : Bool) : b2n b ≤ 1 := by cases b <;> decide
theorem ps_bd : ∀ k i pt lt D p, p ≤ t → DOk D → (∀ f, psA c t k i pt lt D p = .inl f → f ≤ t) ∧ (∀ j D', psA c t k i pt lt D p = .inr (j, D') → DOk D' ∧ j ≤ i + k) := by
  intro k
  induction k with
  | zero => intro i pt lt D p hp hD; exact ⟨fun f h => by cases h; omega, fun j D' h => by cases h⟩
  | succ k ih =>
    intro i pt lt D p hp hD
    unfold psA
    split
    · exact ⟨fun f h => (by cases h), fun j D' h => (by cases h; exact ⟨hD, by omega⟩)⟩
    · split
      · rename_i f' hf
        exact ⟨fun f h => by cases h; exact itm_bd hp _ hf, fun j D' h => by cases h⟩
      · rename_i pt' lt' D' q hf
        have h1 := itm_ok hp hD hf
        have h2 := ih (i + 1) pt' lt' D' q h1.1 h1.2.1
        exact ⟨h2.1, fun j D'' h => ⟨(h2.2 j D'' h).1, by have := (h2.2 j D'' h).2; omega⟩⟩
end PRT
