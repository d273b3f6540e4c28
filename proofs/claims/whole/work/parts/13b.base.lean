theorem vlit {j n : Nat} (hj : j < n) (hn : n ≤ 2000) : vp_in (nI j) n := vp_in_nI hj (by omega)
theorem awl {g : Glob} {M : Mth} {Post : Option Value → AH → Prop} {cl sl pc : Nat} {ls ls' : List (Option Value)} {st : List Value} {h : AH} (e : ls = ls') (k : AW g M Post cl sl pc ls' st h) : AW g M Post cl sl pc ls st h := e ▸ k
theorem nge {n i : Nat} (h : i < n) (hn : n ≤ 2000) : ¬ nI n ≤ nI i := nI_ge h (by omega)
theorem nle {n i : Nat} (h : n ≤ i) (hn : i ≤ 2000) : nI n ≤ nI i := nI_le h (by omega)
theorem neqI {a b : Nat} (ha : a ≤ 2000) (hb : b ≤ 2000) : nI a = nI b ↔ a = b := nI_eq (by omega) (by omega)
theorem nltI {a b : Nat} (ha : a ≤ 2000) (hb : b ≤ 2000) : nI a < nI b ↔ a < b := nI_ltI (by omega) (by omega)
theorem nleI {a b : Nat} (ha : a ≤ 2000) (hb : b ≤ 2000) : nI a ≤ nI b ↔ a ≤ b := nI_leI (by omega) (by omega)
/-- shots as bits -/
def msk (p : Nat → Bool) : Nat → Nat
  | 0 => 0
  | n + 1 => if p n then msk p n + 2 ^ n else msk p n
theorem msk_lt (p : Nat → Bool) : ∀ n, msk p n < 2 ^ n
  | 0 => by simp [msk]
  | n + 1 => by
    have := msk_lt p n
    unfold msk
    split <;> rw [Nat.pow_succ] <;> omega
theorem bit_or : ∀ i : Nat, i < 6 → ∀ b : Nat, b < 64 → b < 2 ^ i → nI b ||| (1 <<< (nI i &&& 31)) = nI (b + 2 ^ i) := by decide +kernel
theorem msk_or {p : Nat → Bool} {i : Nat} (hi : i < 6) (hp : p i = true) : nI (msk p i) ||| (1 <<< (nI i &&& 31)) = nI (msk p (i + 1)) := by
  have h1 := msk_lt p i
  have h2 : 2 ^ i ≤ 2 ^ 5 := Nat.pow_le_pow_right (by decide) (by omega)
  rw [bit_or i hi _ (by omega) h1]
  simp [msk, hp]
theorem msk_no {p : Nat → Bool} {i : Nat} (hp : p i = false) : msk p (i + 1) = msk p i := by simp [msk, hp]
theorem dn {P : Nat → Prop} {n : Nat} (he : P n) (hs : ∀ i, i < n → P (i + 1) → P i) : ∀ i, i ≤ n → P i := by
  intro i hi
  obtain ⟨k, rfl⟩ : ∃ k, n = i + k := ⟨n - i, by omega⟩
  clear hi
  induction k generalizing i with
  | zero => exact he
  | succ k ih => exact hs i (by omega) (ih (i + 1) (by rw [show i + 1 + k = i + (k + 1) by omega]; exact he) (fun j hj => hs j (by omega)))
/-- a line's shot, or none -/
def sh (o : Option Nat) : Int32 := match o with
  | none => -9
  | some s => nI s
def okO (n : Nat) (o : Option Nat) : Prop := ∀ s, o = some s → s < n
theorem nI_ne9 {s : Nat} (h : s ≤ 2000) : ¬ nI s = -9 := by
  intro z
  have h1 : (nI s).toInt = (s : Int) := nI_toInt (by omega)
  rw [z] at h1
  have h2 : (-9 : Int32).toInt = -9 := by decide
  omega
def reO (fc sp : Fn) (l : Nat) (o : Option Nat) : Bool := match o with
  | none => false
  | some s => reA fc sp l s
def ctO (a b : Option Nat) : Bool := match a, b with
  | some s, some t => !decide (s = t)
  | _, _ => false
def cnO (pl fc : Fn) (a b : Option Nat) : Bool := match a, b with
  | some s, some t => cnA pl fc s t
  | _, _ => false
def cnt (p : Nat → Bool) : Nat → Nat
  | 0 => 0
  | n + 1 => if p n then cnt p n + 1 else cnt p n
theorem cnt_le (p : Nat → Bool) : ∀ n, cnt p n ≤ n
  | 0 => Nat.le_refl 0
  | n + 1 => by
    have := cnt_le p n
    unfold cnt
    split <;> omega
theorem cnt_t {p : Nat → Bool} {n : Nat} (h : p n = true) : cnt p (n + 1) = cnt p n + 1 := by simp [cnt, h]
theorem cnt_f {p : Nat → Bool} {n : Nat} (h : p n = false) : cnt p (n + 1) = cnt p n := by simp [cnt, h]
def usd (eo : Nat → Option Nat) : Nat → Nat
  | 0 => 0
  | n + 1 => match eo n with
    | none => usd eo n
    | some s => usd eo n ||| 2 ^ s
theorem or_lt : ∀ u : Nat, u < 64 → ∀ s : Nat, s < 6 → (u ||| 2 ^ s) < 64 ∧ nI u ||| (1 <<< (nI s &&& 31)) = nI (u ||| 2 ^ s) := by decide +kernel
theorem usd_lt {eo : Nat → Option Nat} {m : Nat} (h : ∀ l, l < m → okO 6 (eo l)) : ∀ n, n ≤ m → usd eo n < 64 := by
  intro n
  induction n with
  | zero => intro _; simp [usd]
  | succ n ih =>
    intro hn
    unfold usd
    have h1 := ih (by omega)
    split
    · exact h1
    · rename_i s he
      exact (or_lt _ h1 s (h n (by omega) s he)).1
/-- how many bits of the lowest six -/
def pop6 (u : Nat) : Nat := u % 2 + u / 2 % 2 + u / 4 % 2 + u / 8 % 2 + u / 16 % 2 + u / 32 % 2
