/-! ===== what the two read off a scene ===== -/
def sdA (pl fc : Fn) (s : Nat) : Int32 :=
  if (pl 3 - pl 1) * (fc (7 * s) - pl 0) < (pl 2 - pl 0) * (fc (7 * s + 1) - pl 1) then 1 else if (pl 2 - pl 0) * (fc (7 * s + 1) - pl 1) < (pl 3 - pl 1) * (fc (7 * s) - pl 0) then -1 else 0
def wyA (pl fc : Fn) (s k : Nat) : Int32 := 2 * fc (7 * s + k) - pl k - pl (2 + k)
def nrA (pl fc : Fn) (s t : Nat) : Bool :=
  decide (wyA pl fc s 0 * wyA pl fc s 0 + wyA pl fc s 1 * wyA pl fc s 1 = 0) || decide (wyA pl fc t 0 * wyA pl fc t 0 + wyA pl fc t 1 * wyA pl fc t 1 = 0) ||
  (decide (0 < wyA pl fc s 0 * wyA pl fc t 0 + wyA pl fc s 1 * wyA pl fc t 1) &&
   decide (3 * (wyA pl fc s 0 * wyA pl fc s 0 + wyA pl fc s 1 * wyA pl fc s 1) * (wyA pl fc t 0 * wyA pl fc t 0 + wyA pl fc t 1 * wyA pl fc t 1) < 4 * (wyA pl fc s 0 * wyA pl fc t 0 + wyA pl fc s 1 * wyA pl fc t 1) * (wyA pl fc s 0 * wyA pl fc t 0 + wyA pl fc s 1 * wyA pl fc t 1)))
def lkA (pl fc : Fn) (s t : Nat) : Bool := decide (fc (7 * s + 2) = fc (7 * t + 2)) && (!decide (fc (7 * s + 3) - fc (7 * t + 3) < -1) && !decide (1 < fc (7 * s + 3) - fc (7 * t + 3))) && nrA pl fc s t
def cnA (pl fc : Fn) (s t : Nat) : Bool := !decide (s = t) && !decide (sdA pl fc s * sdA pl fc t = -1) && !lkA pl fc s t
def cvA (fc : Fn) (s l : Nat) : Bool := !decide (nI l < fc (7 * s + 4)) && !decide (fc (7 * s + 5) < nI l)
def reA (fc sp : Fn) (l s : Nat) : Bool := decide (fc (7 * s + 2) = 1 - sp l)
/-- the numbers of a scene are as told -/
def Okp (pl : Fn) : Prop := ∀ i, i < 4 → ∃ n : Nat, n ≤ 9 ∧ pl i = nI n
def Okf (fc : Fn) (n : Nat) : Prop := ∀ s, s < n → (∀ w, w < 7 → ∃ q : Nat, q ≤ 9 ∧ fc (7 * s + w) = nI q)
/-! small numbers -/
theorem oI_nat (n : Nat) : nI n = Int32.ofInt n := by first | rfl | exact (Int32.ofInt_eq_ofNat).symm | simp [nI, Int32.ofInt_eq_ofNat] | (apply Int32.toBitVec_inj.mp; simp [nI])
theorem sm_mul : ∀ i : Nat, i < 19 → ∀ j : Nat, j < 19 → ((i : Int) - 9) * ((j : Int) - 9) ≤ 81 ∧ -81 ≤ ((i : Int) - 9) * ((j : Int) - 9) := by decide +kernel
theorem sm_mul2 {p q : Int} (h1 : -9 ≤ p) (h2 : p ≤ 9) (h3 : -9 ≤ q) (h4 : q ≤ 9) : p * q ≤ 81 ∧ -81 ≤ p * q := by
  have := sm_mul (p + 9).toNat (by omega) (q + 9).toNat (by omega)
  rw [show (((p + 9).toNat : Nat) : Int) - 9 = p by omega, show (((q + 9).toNat : Nat) : Int) - 9 = q by omega] at this
  exact this
theorem sub_oI (a b : Nat) : nI a - nI b = Int32.ofInt ((a : Int) - b) := by rw [oI_nat, oI_nat, Int32.ofInt_sub]
def sgnF (x : Int32) : Int32 := (x >>> (31 &&& 31)) ||| ((-x).toUInt32 >>> (Int32.toUInt32 31 &&& Int32.toUInt32 31)).toInt32
theorem sgn_fin : ∀ i : Nat, i < 163 → ∀ j : Nat, j < 163 → sgnF (Int32.ofInt ((i : Int) - 81) - Int32.ofInt ((j : Int) - 81)) = (if Int32.ofInt ((j : Int) - 81) < Int32.ofInt ((i : Int) - 81) then 1 else if Int32.ofInt ((i : Int) - 81) < Int32.ofInt ((j : Int) - 81) then -1 else 0) := by decide +kernel
theorem sgn_eq {u v : Int} (h1 : -81 ≤ u) (h2 : u ≤ 81) (h3 : -81 ≤ v) (h4 : v ≤ 81) : sgnF (Int32.ofInt u - Int32.ofInt v) = (if Int32.ofInt v < Int32.ofInt u then 1 else if Int32.ofInt u < Int32.ofInt v then -1 else 0) := by
  have := sgn_fin (u + 81).toNat (by omega) (v + 81).toNat (by omega)
  rw [show (((u + 81).toNat : Nat) : Int) - 81 = u by omega, show (((v + 81).toNat : Nat) : Int) - 81 = v by omega] at this
  exact this
theorem sd_sgn {pl fc : Fn} {s n : Nat} (hp : Okp pl) (hf : Okf fc n) (hs : s < n) : sgnF ((pl 2 - pl 0) * (fc (7 * s + 1) - pl 1) - (pl 3 - pl 1) * (fc (7 * s) - pl 0)) = sdA pl fc s := by
  unfold sdA
  obtain ⟨p0, b0, e0⟩ := hp 0 (by decide)
  obtain ⟨p1, b1, e1⟩ := hp 1 (by decide)
  obtain ⟨p2, b2, e2⟩ := hp 2 (by decide)
  obtain ⟨p3, b3, e3⟩ := hp 3 (by decide)
  obtain ⟨x, bx, ex⟩ := hf s hs 0 (by decide)
  obtain ⟨y, bY, ey⟩ := hf s hs 1 (by decide)
  rw [show fc (7 * s) = nI x from ex, ey, e0, e1, e2, e3]
  simp only [sub_oI, ← Int32.ofInt_mul]
  have m1 := sm_mul2 (p := (p2 : Int) - p0) (q := (y : Int) - p1) (by omega) (by omega) (by omega) (by omega)
  have m2 := sm_mul2 (p := (p3 : Int) - p1) (q := (x : Int) - p0) (by omega) (by omega) (by omega) (by omega)
  exact sgn_eq m1.2 m1.1 m2.2 m2.1
theorem wy_oI {pl fc : Fn} {s n k : Nat} (hp : Okp pl) (hf : Okf fc n) (hs : s < n) (hk : k < 2) : ∃ z : Int, -18 ≤ z ∧ z ≤ 18 ∧ wyA pl fc s k = Int32.ofInt z := by
  obtain ⟨p0, b0, e0⟩ := hp k (by omega)
  obtain ⟨p1, b1, e1⟩ := hp (2 + k) (by omega)
  obtain ⟨x, bx, ex⟩ := hf s hs k (by omega)
  refine ⟨2 * (x : Int) - p0 - p1, by omega, by omega, ?_⟩
  unfold wyA
  rw [e0, e1, ex, show (2 : Int32) = nI 2 from rfl, oI_nat 2, oI_nat x, oI_nat p0, oI_nat p1, ← Int32.ofInt_mul, ← Int32.ofInt_sub, ← Int32.ofInt_sub]
  rfl
theorem sq_fin : ∀ i : Nat, i < 37 → ∃ q : Nat, q ≤ 324 ∧ Int32.ofInt ((i : Int) - 18) * Int32.ofInt ((i : Int) - 18) = nI q := by
  intro i hi
  refine ⟨((((i : Int) - 18) * ((i : Int) - 18))).toNat, ?_⟩
  revert i
  decide +kernel
theorem sq_oI {z : Int} (h1 : -18 ≤ z) (h2 : z ≤ 18) : ∃ q : Nat, q ≤ 324 ∧ Int32.ofInt z * Int32.ofInt z = nI q := by
  have := sq_fin (z + 18).toNat (by omega)
  rw [show (((z + 18).toNat : Nat) : Int) - 18 = z by omega] at this
  exact this
/-- the product of both lengths is 0 just if one is -/
theorem len0 {pl fc : Fn} {s t n : Nat} (hp : Okp pl) (hf : Okf fc n) (hs : s < n) (ht : t < n) : ((wyA pl fc s 0 * wyA pl fc s 0 + wyA pl fc s 1 * wyA pl fc s 1) * (wyA pl fc t 0 * wyA pl fc t 0 + wyA pl fc t 1 * wyA pl fc t 1) = 0) ↔ (wyA pl fc s 0 * wyA pl fc s 0 + wyA pl fc s 1 * wyA pl fc s 1 = 0 ∨ wyA pl fc t 0 * wyA pl fc t 0 + wyA pl fc t 1 * wyA pl fc t 1 = 0) := by
  obtain ⟨z1, a1, c1, e1⟩ := wy_oI (k := 0) hp hf hs (by decide)
  obtain ⟨z2, a2, c2, e2⟩ := wy_oI (k := 1) hp hf hs (by decide)
  obtain ⟨z3, a3, c3, e3⟩ := wy_oI (k := 0) hp hf ht (by decide)
  obtain ⟨z4, a4, c4, e4⟩ := wy_oI (k := 1) hp hf ht (by decide)
  obtain ⟨q1, d1, g1⟩ := sq_oI a1 c1
  obtain ⟨q2, d2, g2⟩ := sq_oI a2 c2
  obtain ⟨q3, d3, g3⟩ := sq_oI a3 c3
  obtain ⟨q4, d4, g4⟩ := sq_oI a4 c4
  rw [e1, e2, e3, e4, g1, g2, g3, g4, nI_add, nI_add, pk_mul, nzero]
  have hm : (q1 + q2) * (q3 + q4) ≤ 648 * 648 := Nat.mul_le_mul (by omega) (by omega)
  rw [nI_eq (by omega) (by decide), nI_eq (by omega) (by decide), nI_eq (by omega) (by decide), Nat.mul_eq_zero]
theorem abs_fin : ∀ i : Nat, i < 19 → (((if 0 ≤ Int32.ofInt ((i : Int) - 9) then Int32.ofInt ((i : Int) - 9) else 0 - Int32.ofInt ((i : Int) - 9)) < 2) ↔ (¬ Int32.ofInt ((i : Int) - 9) < -1 ∧ ¬ 1 < Int32.ofInt ((i : Int) - 9))) := by decide +kernel
theorem abs_lt2 {a b : Nat} (ha : a ≤ 9) (hb : b ≤ 9) : ((if 0 ≤ nI a - nI b then nI a - nI b else 0 - (nI a - nI b)) < 2) ↔ (¬ nI a - nI b < -1 ∧ ¬ 1 < nI a - nI b) := by
  rw [sub_oI]
  have := abs_fin ((a : Int) - b + 9).toNat (by omega)
  rw [show ((((a : Int) - b + 9).toNat : Nat) : Int) - 9 = (a : Int) - b by omega] at this
  exact this
