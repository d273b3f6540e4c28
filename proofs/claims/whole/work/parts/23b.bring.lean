theorem bEl_t {b : Bool} {P Q : Prop} (h : b = true) (p : P) : bEl b P Q := by rw [h]; exact p
theorem hat_lt {h : AH} {k : Nat} {e : va_E} (hk : hat h k = some e) : Nat.blt k 1000 = true := by
  cases hb : Nat.blt k 1000 with
  | true => rfl
  | false => unfold hat at hk; rw [hb] at hk; cases hk
theorem hat_ne {h : AH} {k j : Nat} {c : va_E} (hkj : j ≠ k) : hat (h.set k c) j = hat h j := by
  unfold hat
  rw [List.getElem?_set_ne (Ne.symm hkj)]
theorem hat_eq {h : AH} {k : Nat} {c e : va_E} (hk : hat h k = some e) : hat (h.set k c) k = some c := by
  have h1 := hat_lt hk
  obtain ⟨-, h2⟩ := hat_some hk
  unfold hat
  rw [h1]
  exact List.getElem?_set_self (List.getElem?_eq_some_iff.mp h2).1
theorem hat_same {h : AH} {k : Nat} {e : va_E} (hk : hat h k = some e) : h.set k e = h := by
  obtain ⟨-, h2⟩ := hat_some hk
  apply List.ext_getElem?
  intro j
  by_cases hj : k = j
  · subst hj
    rw [List.getElem?_set_self (List.getElem?_eq_some_iff.mp h2).1, h2]
  · rw [List.getElem?_set_ne hj]
theorem am_bring {g : Glob} {h : AH} {k0 k1 n0 n1 i j : Nat} {f t : Fn} (h0 : hat h k0 = some (ia n0 f)) (h1 : hat h k1 = some (ia n1 t)) (hne : k0 ≠ k1) (hi : i + 64 ≤ n0) (hj : j + 64 ≤ n1) (b0 : n0 ≤ 1000) (b1 : n1 ≤ 1000) : ACe g mX6_bring [.ref k0, .int (nI i), .ref k1, .int (nI j)] h none (h.set k1 (ia n1 (va_cpy f t i j 64))) := by
  refine acw gdX6_bring 40 rfl ?_
  have e0 : h = h.set k1 (ia n1 (va_cpy f t i j 0)) := by rw [cpy_0]; exact (hat_same h1).symm
  have key := dn (n := 64) (P := fun k => AW g mX6_bring (fun r h' => r = none ∧ h' = h.set k1 (ia n1 (va_cpy f t i j 64))) 0 0 3 [some (.ref k0), some (.int (nI i)), some (.ref k1), some (.int (nI j)), some (.int (nI k))] [] (h.set k1 (ia n1 (va_cpy f t i j k)))) ?_ (fun k hk ih => ?_) 0 (Nat.zero_le _)
  · rw [← e0] at key
    exact key
  · exact lpw gdX6_bring 40 ⟨fun _ => ⟨rfl, rfl⟩, fun h => absurd (nle (n := 64) (by omega) (by omega)) h⟩
  · have e1 : nI j + nI k = nI (j + k) := nI_add j k
    have e2 : nI i + nI k = nI (i + k) := nI_add i k
    refine lpw gdX6_bring 40 ⟨fun h => absurd h (nge (n := 64) hk (by omega)), fun _ => ?_⟩
    refine bEl_t (hat_lt h0) ⟨n0, f, (hat_ne hne).trans h0, vin e2 (by omega) (by omega), ?_⟩
    refine ⟨n1, _, hat_eq h1, vin e1 (by omega) (by omega), ?_⟩
    rw [vcl e1 (by omega), vcl e2 (by omega), cpy_step, List.set_set]
    exact awl (by rw [← nI_1]; rfl) ih
section CQ
variable {g : Glob} {S : Scn} {O : Oth}
set_option maxRecDepth 10000 in
theorem L95 {f : Fn} : (lay (S, O)).set 95 (ia 64 f) = lay (S, o_M' O (z_now' (o_M O) f)) := by rfl
set_option maxRecDepth 10000 in
theorem L97 {f : Fn} : (lay (S, O)).set 97 (ia 512 f) = lay (S, o_M' O (z_past' (o_M O) f)) := by rfl
set_option maxRecDepth 10000 in
theorem L98 {f : Fn} : (lay (S, O)).set 98 (ia 128 f) = lay (S, o_M' O (z_img' (o_M O) f)) := by rfl
theorem H95 : hat (lay (S, O)) 95 = some (ia 64 (z_now (o_M O))) := rfl
theorem H96 : hat (lay (S, O)) 96 = some (ia 64 (z_rd (o_M O))) := rfl
theorem H97 : hat (lay (S, O)) 97 = some (ia 512 (z_past (o_M O))) := rfl
theorem H98 : hat (lay (S, O)) 98 = some (ia 128 (z_img (o_M O))) := rfl
theorem am_bringRN : ACe g mX6_bring [.ref 96, .int 0, .ref 95, .int 0] (lay (S, O)) none (lay (S, o_M' O (z_now' (o_M O) (va_cpy (z_rd (o_M O)) (z_now (o_M O)) 0 0 64)))) := by
  rw [← L95]
  exact am_bring H96 H95 (by decide) (i := 0) (j := 0) (by decide) (by decide) (by decide) (by decide)
theorem am_bringNP {j : Nat} (hj : j + 64 ≤ 512) : ACe g mX6_bring [.ref 95, .int 0, .ref 97, .int (nI j)] (lay (S, O)) none (lay (S, o_M' O (z_past' (o_M O) (va_cpy (z_now (o_M O)) (z_past (o_M O)) 0 j 64)))) := by
  rw [← L97]
  exact am_bring H95 H97 (by decide) (i := 0) (by decide) hj (by decide) (by decide)
theorem am_bringPN {i : Nat} (hi : i + 64 ≤ 512) : ACe g mX6_bring [.ref 97, .int (nI i), .ref 95, .int 0] (lay (S, O)) none (lay (S, o_M' O (z_now' (o_M O) (va_cpy (z_past (o_M O)) (z_now (o_M O)) i 0 64)))) := by
  rw [← L95]
  exact am_bring H97 H95 (by decide) (j := 0) hi (by decide) (by decide) (by decide)
theorem am_bringNI {j : Nat} (hj : j + 64 ≤ 128) : ACe g mX6_bring [.ref 95, .int 0, .ref 98, .int (nI j)] (lay (S, O)) none (lay (S, o_M' O (z_img' (o_M O) (va_cpy (z_now (o_M O)) (z_img (o_M O)) 0 j 64)))) := by
  rw [← L98]
  exact am_bring H95 H98 (by decide) (i := 0) (by decide) hj (by decide) (by decide)
theorem am_bringIN {i : Nat} (hi : i + 64 ≤ 128) : ACe g mX6_bring [.ref 98, .int (nI i), .ref 95, .int 0] (lay (S, O)) none (lay (S, o_M' O (z_now' (o_M O) (va_cpy (z_img (o_M O)) (z_now (o_M O)) i 0 64)))) := by
  rw [← L95]
  exact am_bring H98 H95 (by decide) (j := 0) hi (by decide) (by decide) (by decide)
end CQ
