/-! ===== the makings ===== -/
def Sc0 : Scn := (upd (upd (upd (upd (fun _ => 0) 0 3) 1 5) 2 6) 3 5, fun _ => 0, va_cpy (fun _ => -9) (fun _ => 0) 0 0 8, fun _ => 0, 0, 0)
def Sz : Scn := (fun _ => 0, fun _ => 0, fun _ => 0, fun _ => 0, 0, 0)
def R00 : Rd := (fun _ => 0, 0, 0, 0, 0, 0, 0)
def Q00 : Pln := (fun _ => 0, fun _ _ => 0, fun _ _ => 0, fun _ => 0, fun _ => 0, fun _ => 0, fun _ => 0, 0, 0, 0, 0)
def G00 : Sgt := (fun _ => 0, fun _ => 0, 0)
def upA (b : Nat) : Nat → Nat → Option Nat
  | 0 => fun _ => none
  | i + 1 => va_up (upA b i) i (some (b + 5 * i))
theorem upA_8 : upA 13 8 = fun i => if i < 8 then some (13 + 5 * i) else none := by
  funext i
  rcases (show i = 0 ∨ i = 1 ∨ i = 2 ∨ i = 3 ∨ i = 4 ∨ i = 5 ∨ i = 6 ∨ i = 7 ∨ 8 ≤ i by omega) with rfl | rfl | rfl | rfl | rfl | rfl | rfl | rfl | h
  all_goals first | rfl | skip
  rw [if_neg (by omega)]
  simp only [upA, va_up]
  rw [if_neg (by omega), if_neg (by omega), if_neg (by omega), if_neg (by omega), if_neg (by omega), if_neg (by omega), if_neg (by omega), if_neg (by omega)]
theorem upA_2 : upA 83 2 = fun i => if i < 2 then some (83 + 5 * i) else none := by
  funext i
  rcases (show i = 0 ∨ i = 1 ∨ 2 ≤ i by omega) with rfl | rfl | h
  all_goals first | rfl | skip
  rw [if_neg (by omega)]
  simp only [upA, va_up]
  rw [if_neg (by omega), if_neg (by omega)]
section MK
variable {g : Glob}
theorem ac_startAnewG {h : AH} {k a b c d : Nat} {x y : Int32} {pl ed : Fn} (hk : hat h k = some (.inr (3, [.ref a, .ref b, .ref c, .ref d, .int x, .int y]))) (ha : hat h a = some (ia 4 pl)) (hc : hat h c = some (ia 8 ed)) (hka : k ≠ a) (hkc : k ≠ c) (hac : a ≠ c) : ACe g mX3_startAnew [.ref k] h none (((h.set a (ia 4 (upd (upd (upd (upd pl 0 3) 1 5) 2 6) 3 5))).set c (ia 8 (va_cpy (fun _ => -9) ed 0 0 8))).set k (.inr (3, [.ref a, .ref b, .ref c, .ref d, .int 0, .int 0]))) := by
  have hA : ∀ (e : va_E), hat (h.set a e) k = some (.inr (3, [.ref a, .ref b, .ref c, .ref d, .int x, .int y])) := fun e => (hat_ne hka).trans hk
  have key := dn (n := 8) (P := fun i => ∀ A : Fn, AW g mX3_startAnew (fun r h' => r = none ∧ h' = ((h.set a (ia 4 A)).set c (ia 8 (va_cpy (fun _ => -9) ed 0 0 8))).set k (.inr (3, [.ref a, .ref b, .ref c, .ref d, .int 0, .int 0]))) 0 0 31 [some (.ref k), some (.int (nI i))] [] ((h.set a (ia 4 A)).set c (ia 8 (va_cpy (fun _ => -9) ed 0 0 i)))) ?_ (fun i hi ih => ?_) 0 (Nat.zero_le _)
  · have key := key (upd (upd (upd (upd pl 0 3) 1 5) 2 6) 3 5)
    rw [cpy_0, hat_same (h := h.set a (ia 4 (upd (upd (upd (upd pl 0 3) 1 5) 2 6) 3 5))) ((hat_ne (Ne.symm hac)).trans hc)] at key
    refine acw gdX3_startAnew 60 rfl ?_
    refine oO_t hk (oV_t rfl ?_)
    refine ⟨4, _, ha, vlit (j := 0) (by decide) (by decide), ?_⟩
    refine oO_t (hA _) (oV_t rfl ?_)
    refine ⟨4, _, hat_eq ha, vlit (j := 1) (by decide) (by decide), ?_⟩
    rw [List.set_set]
    refine oO_t (hA _) (oV_t rfl ?_)
    refine ⟨4, _, hat_eq ha, vlit (j := 2) (by decide) (by decide), ?_⟩
    rw [List.set_set]
    refine oO_t (hA _) (oV_t rfl ?_)
    refine ⟨4, _, hat_eq ha, vlit (j := 3) (by decide) (by decide), ?_⟩
    rw [List.set_set]
    exact key
  · intro A
    have hK : hat ((h.set a (ia 4 A)).set c (ia 8 (va_cpy (fun _ => -9) ed 0 0 8))) k = some (.inr (3, [.ref a, .ref b, .ref c, .ref d, .int x, .int y])) := (hat_ne hkc).trans (hA _)
    refine lpw gdX3_startAnew 60 ⟨fun _ => ?_, fun h => absurd (by decide) h⟩
    refine oO_t hK ?_
    refine oO_t (hat_eq hK) ?_
    refine ⟨rfl, ?_⟩
    rw [List.set_set]
    rfl
  · intro A
    have hK : hat ((h.set a (ia 4 A)).set c (ia 8 (va_cpy (fun _ => -9) ed 0 0 i))) k = some (.inr (3, [.ref a, .ref b, .ref c, .ref d, .int x, .int y])) := (hat_ne hkc).trans (hA _)
    have hC : hat ((h.set a (ia 4 A)).set c (ia 8 (va_cpy (fun _ => -9) ed 0 0 i))) c = some (ia 8 (va_cpy (fun _ => -9) ed 0 0 i)) := hat_eq ((hat_ne (Ne.symm hac)).trans hc)
    have e1 := cpy_step (f := fun _ => -9) (t := ed) (i := 0) (j := 0) (k := i)
    rw [Nat.zero_add] at e1
    have ih := ih A
    rw [← e1] at ih
    refine lpw gdX3_startAnew 60 ⟨fun h => absurd h (nge (n := 8) (by omega) (by omega)), fun _ => ?_⟩
    refine oO_t hK (oV_t rfl ?_)
    refine ⟨8, _, hC, vlit (by omega) (by decide), ?_⟩
    rw [vcl (x := nI i) rfl (by omega), List.set_set]
    exact awl (by rw [← nI_1]; rfl) ih
def hPa0 : AH := [.inr (5, [.ref 1, .ref 6, .null, .null, .null, .null, .null, .null])] ++ (scn 1 Sc0 ++ (scn 6 Sc0 ++ ([.inr (0, [.ref 12, .int 0, .int 0]), ra 2 8 (upA 13 0)])))
def hPa1 : AH := [.inr (5, [.ref 1, .ref 6, .null, .null, .null, .null, .null, .null])] ++ (scn 1 Sc0 ++ (scn 6 Sc0 ++ ([.inr (0, [.ref 12, .int 0, .int 0]), ra 2 8 (upA 13 1)] ++ (scn 13 Sc0))))
def hPa2 : AH := [.inr (5, [.ref 1, .ref 6, .null, .null, .null, .null, .null, .null])] ++ (scn 1 Sc0 ++ (scn 6 Sc0 ++ ([.inr (0, [.ref 12, .int 0, .int 0]), ra 2 8 (upA 13 2)] ++ (scn 13 Sc0 ++ (scn 18 Sc0)))))
def hPa3 : AH := [.inr (5, [.ref 1, .ref 6, .null, .null, .null, .null, .null, .null])] ++ (scn 1 Sc0 ++ (scn 6 Sc0 ++ ([.inr (0, [.ref 12, .int 0, .int 0]), ra 2 8 (upA 13 3)] ++ (scn 13 Sc0 ++ (scn 18 Sc0 ++ (scn 23 Sc0))))))
def hPa4 : AH := [.inr (5, [.ref 1, .ref 6, .null, .null, .null, .null, .null, .null])] ++ (scn 1 Sc0 ++ (scn 6 Sc0 ++ ([.inr (0, [.ref 12, .int 0, .int 0]), ra 2 8 (upA 13 4)] ++ (scn 13 Sc0 ++ (scn 18 Sc0 ++ (scn 23 Sc0 ++ (scn 28 Sc0)))))))
def hPa5 : AH := [.inr (5, [.ref 1, .ref 6, .null, .null, .null, .null, .null, .null])] ++ (scn 1 Sc0 ++ (scn 6 Sc0 ++ ([.inr (0, [.ref 12, .int 0, .int 0]), ra 2 8 (upA 13 5)] ++ (scn 13 Sc0 ++ (scn 18 Sc0 ++ (scn 23 Sc0 ++ (scn 28 Sc0 ++ (scn 33 Sc0))))))))
def hPa6 : AH := [.inr (5, [.ref 1, .ref 6, .null, .null, .null, .null, .null, .null])] ++ (scn 1 Sc0 ++ (scn 6 Sc0 ++ ([.inr (0, [.ref 12, .int 0, .int 0]), ra 2 8 (upA 13 6)] ++ (scn 13 Sc0 ++ (scn 18 Sc0 ++ (scn 23 Sc0 ++ (scn 28 Sc0 ++ (scn 33 Sc0 ++ (scn 38 Sc0)))))))))
def hPa7 : AH := [.inr (5, [.ref 1, .ref 6, .null, .null, .null, .null, .null, .null])] ++ (scn 1 Sc0 ++ (scn 6 Sc0 ++ ([.inr (0, [.ref 12, .int 0, .int 0]), ra 2 8 (upA 13 7)] ++ (scn 13 Sc0 ++ (scn 18 Sc0 ++ (scn 23 Sc0 ++ (scn 28 Sc0 ++ (scn 33 Sc0 ++ (scn 38 Sc0 ++ (scn 43 Sc0))))))))))
def hPa8 : AH := [.inr (5, [.ref 1, .ref 6, .null, .null, .null, .null, .null, .null])] ++ (scn 1 Sc0 ++ (scn 6 Sc0 ++ ([.inr (0, [.ref 12, .int 0, .int 0]), ra 2 8 (upA 13 8)] ++ (scn 13 Sc0 ++ (scn 18 Sc0 ++ (scn 23 Sc0 ++ (scn 28 Sc0 ++ (scn 33 Sc0 ++ (scn 38 Sc0 ++ (scn 43 Sc0 ++ (scn 48 Sc0)))))))))))
def hIm0 : AH := [.inr (5, [.ref 1, .ref 6, .ref 11, .ref 53, .ref 55, .ref 79, .ref 82, .null])] ++ (scn 1 Sc0 ++ (scn 6 Sc0 ++ (pst 0 0 (fun _ => Sc0) ++ (rdr R00 ++ (pln Q00 ++ (sgt G00 ++ ([ra 2 2 (upA 83 0)])))))))
def hIm1 : AH := [.inr (5, [.ref 1, .ref 6, .ref 11, .ref 53, .ref 55, .ref 79, .ref 82, .null])] ++ (scn 1 Sc0 ++ (scn 6 Sc0 ++ (pst 0 0 (fun _ => Sc0) ++ (rdr R00 ++ (pln Q00 ++ (sgt G00 ++ ([ra 2 2 (upA 83 1)] ++ (scn 83 Sc0))))))))
def hIm2 : AH := [.inr (5, [.ref 1, .ref 6, .ref 11, .ref 53, .ref 55, .ref 79, .ref 82, .null])] ++ (scn 1 Sc0 ++ (scn 6 Sc0 ++ (pst 0 0 (fun _ => Sc0) ++ (rdr R00 ++ (pln Q00 ++ (sgt G00 ++ ([ra 2 2 (upA 83 2)] ++ (scn 83 Sc0 ++ (scn 88 Sc0)))))))))
def hX1 : AH := [.inr (5, [.null, .null, .null, .null, .null, .null, .null, .null])]
def hX6 : AH := [.inr (5, [.ref 1, .null, .null, .null, .null, .null, .null, .null])] ++ (scn 1 Sc0)
theorem ac_si1 : ACe g mX3_init [.ref 1] (hX1 ++ [.inr (3, dfl 3)]) none (hX1 ++ scn 1 Sc0) := by
  refine acw gdX3_init 60 rfl ?_
  refine ⟨⟨by decide +kernel, by decide +kernel, by decide +kernel⟩, ⟨by decide, by decide⟩, ?_⟩
  refine ⟨⟨by decide +kernel, by decide +kernel, by decide +kernel⟩, ⟨by decide, by decide⟩, ?_⟩
  refine ⟨⟨by decide +kernel, by decide +kernel, by decide +kernel⟩, ⟨by decide, by decide⟩, ?_⟩
  refine ⟨⟨by decide +kernel, by decide +kernel, by decide +kernel⟩, ⟨by decide, by decide⟩, ?_⟩
  exact ac_to (ac_startAnewG (g := g) (h := hX1 ++ scn 1 Sz) (k := 1) (a := 2) (b := 3) (c := 4) (d := 5) (x := 0) (y := 0) (pl := fun _ => 0) (ed := fun _ => 0) rfl rfl rfl (by decide) (by decide) (by decide)) ⟨rfl, rfl⟩
theorem ac_si6 : ACe g mX3_init [.ref 6] (hX6 ++ [.inr (3, dfl 3)]) none (hX6 ++ scn 6 Sc0) := by
  refine acw gdX3_init 60 rfl ?_
  refine ⟨⟨by decide +kernel, by decide +kernel, by decide +kernel⟩, ⟨by decide, by decide⟩, ?_⟩
  refine ⟨⟨by decide +kernel, by decide +kernel, by decide +kernel⟩, ⟨by decide, by decide⟩, ?_⟩
  refine ⟨⟨by decide +kernel, by decide +kernel, by decide +kernel⟩, ⟨by decide, by decide⟩, ?_⟩
  refine ⟨⟨by decide +kernel, by decide +kernel, by decide +kernel⟩, ⟨by decide, by decide⟩, ?_⟩
  exact ac_to (ac_startAnewG (g := g) (h := hX6 ++ scn 6 Sz) (k := 6) (a := 7) (b := 8) (c := 9) (d := 10) (x := 0) (y := 0) (pl := fun _ => 0) (ed := fun _ => 0) rfl rfl rfl (by decide) (by decide) (by decide)) ⟨rfl, rfl⟩
theorem ac_si13 : ACe g mX3_init [.ref 13] (hPa0 ++ [.inr (3, dfl 3)]) none (hPa0 ++ scn 13 Sc0) := by
  refine acw gdX3_init 60 rfl ?_
  refine ⟨⟨by decide +kernel, by decide +kernel, by decide +kernel⟩, ⟨by decide, by decide⟩, ?_⟩
  refine ⟨⟨by decide +kernel, by decide +kernel, by decide +kernel⟩, ⟨by decide, by decide⟩, ?_⟩
  refine ⟨⟨by decide +kernel, by decide +kernel, by decide +kernel⟩, ⟨by decide, by decide⟩, ?_⟩
  refine ⟨⟨by decide +kernel, by decide +kernel, by decide +kernel⟩, ⟨by decide, by decide⟩, ?_⟩
  exact ac_to (ac_startAnewG (g := g) (h := hPa0 ++ scn 13 Sz) (k := 13) (a := 14) (b := 15) (c := 16) (d := 17) (x := 0) (y := 0) (pl := fun _ => 0) (ed := fun _ => 0) rfl rfl rfl (by decide) (by decide) (by decide)) ⟨rfl, rfl⟩
theorem ac_si18 : ACe g mX3_init [.ref 18] (hPa1 ++ [.inr (3, dfl 3)]) none (hPa1 ++ scn 18 Sc0) := by
  refine acw gdX3_init 60 rfl ?_
  refine ⟨⟨by decide +kernel, by decide +kernel, by decide +kernel⟩, ⟨by decide, by decide⟩, ?_⟩
  refine ⟨⟨by decide +kernel, by decide +kernel, by decide +kernel⟩, ⟨by decide, by decide⟩, ?_⟩
  refine ⟨⟨by decide +kernel, by decide +kernel, by decide +kernel⟩, ⟨by decide, by decide⟩, ?_⟩
  refine ⟨⟨by decide +kernel, by decide +kernel, by decide +kernel⟩, ⟨by decide, by decide⟩, ?_⟩
  exact ac_to (ac_startAnewG (g := g) (h := hPa1 ++ scn 18 Sz) (k := 18) (a := 19) (b := 20) (c := 21) (d := 22) (x := 0) (y := 0) (pl := fun _ => 0) (ed := fun _ => 0) rfl rfl rfl (by decide) (by decide) (by decide)) ⟨rfl, rfl⟩
theorem ac_si23 : ACe g mX3_init [.ref 23] (hPa2 ++ [.inr (3, dfl 3)]) none (hPa2 ++ scn 23 Sc0) := by
  refine acw gdX3_init 60 rfl ?_
  refine ⟨⟨by decide +kernel, by decide +kernel, by decide +kernel⟩, ⟨by decide, by decide⟩, ?_⟩
  refine ⟨⟨by decide +kernel, by decide +kernel, by decide +kernel⟩, ⟨by decide, by decide⟩, ?_⟩
  refine ⟨⟨by decide +kernel, by decide +kernel, by decide +kernel⟩, ⟨by decide, by decide⟩, ?_⟩
  refine ⟨⟨by decide +kernel, by decide +kernel, by decide +kernel⟩, ⟨by decide, by decide⟩, ?_⟩
  exact ac_to (ac_startAnewG (g := g) (h := hPa2 ++ scn 23 Sz) (k := 23) (a := 24) (b := 25) (c := 26) (d := 27) (x := 0) (y := 0) (pl := fun _ => 0) (ed := fun _ => 0) rfl rfl rfl (by decide) (by decide) (by decide)) ⟨rfl, rfl⟩
theorem ac_si28 : ACe g mX3_init [.ref 28] (hPa3 ++ [.inr (3, dfl 3)]) none (hPa3 ++ scn 28 Sc0) := by
  refine acw gdX3_init 60 rfl ?_
  refine ⟨⟨by decide +kernel, by decide +kernel, by decide +kernel⟩, ⟨by decide, by decide⟩, ?_⟩
  refine ⟨⟨by decide +kernel, by decide +kernel, by decide +kernel⟩, ⟨by decide, by decide⟩, ?_⟩
  refine ⟨⟨by decide +kernel, by decide +kernel, by decide +kernel⟩, ⟨by decide, by decide⟩, ?_⟩
  refine ⟨⟨by decide +kernel, by decide +kernel, by decide +kernel⟩, ⟨by decide, by decide⟩, ?_⟩
  exact ac_to (ac_startAnewG (g := g) (h := hPa3 ++ scn 28 Sz) (k := 28) (a := 29) (b := 30) (c := 31) (d := 32) (x := 0) (y := 0) (pl := fun _ => 0) (ed := fun _ => 0) rfl rfl rfl (by decide) (by decide) (by decide)) ⟨rfl, rfl⟩
theorem ac_si33 : ACe g mX3_init [.ref 33] (hPa4 ++ [.inr (3, dfl 3)]) none (hPa4 ++ scn 33 Sc0) := by
  refine acw gdX3_init 60 rfl ?_
  refine ⟨⟨by decide +kernel, by decide +kernel, by decide +kernel⟩, ⟨by decide, by decide⟩, ?_⟩
  refine ⟨⟨by decide +kernel, by decide +kernel, by decide +kernel⟩, ⟨by decide, by decide⟩, ?_⟩
  refine ⟨⟨by decide +kernel, by decide +kernel, by decide +kernel⟩, ⟨by decide, by decide⟩, ?_⟩
  refine ⟨⟨by decide +kernel, by decide +kernel, by decide +kernel⟩, ⟨by decide, by decide⟩, ?_⟩
  exact ac_to (ac_startAnewG (g := g) (h := hPa4 ++ scn 33 Sz) (k := 33) (a := 34) (b := 35) (c := 36) (d := 37) (x := 0) (y := 0) (pl := fun _ => 0) (ed := fun _ => 0) rfl rfl rfl (by decide) (by decide) (by decide)) ⟨rfl, rfl⟩
theorem ac_si38 : ACe g mX3_init [.ref 38] (hPa5 ++ [.inr (3, dfl 3)]) none (hPa5 ++ scn 38 Sc0) := by
  refine acw gdX3_init 60 rfl ?_
  refine ⟨⟨by decide +kernel, by decide +kernel, by decide +kernel⟩, ⟨by decide, by decide⟩, ?_⟩
  refine ⟨⟨by decide +kernel, by decide +kernel, by decide +kernel⟩, ⟨by decide, by decide⟩, ?_⟩
  refine ⟨⟨by decide +kernel, by decide +kernel, by decide +kernel⟩, ⟨by decide, by decide⟩, ?_⟩
  refine ⟨⟨by decide +kernel, by decide +kernel, by decide +kernel⟩, ⟨by decide, by decide⟩, ?_⟩
  exact ac_to (ac_startAnewG (g := g) (h := hPa5 ++ scn 38 Sz) (k := 38) (a := 39) (b := 40) (c := 41) (d := 42) (x := 0) (y := 0) (pl := fun _ => 0) (ed := fun _ => 0) rfl rfl rfl (by decide) (by decide) (by decide)) ⟨rfl, rfl⟩
theorem ac_si43 : ACe g mX3_init [.ref 43] (hPa6 ++ [.inr (3, dfl 3)]) none (hPa6 ++ scn 43 Sc0) := by
  refine acw gdX3_init 60 rfl ?_
  refine ⟨⟨by decide +kernel, by decide +kernel, by decide +kernel⟩, ⟨by decide, by decide⟩, ?_⟩
  refine ⟨⟨by decide +kernel, by decide +kernel, by decide +kernel⟩, ⟨by decide, by decide⟩, ?_⟩
  refine ⟨⟨by decide +kernel, by decide +kernel, by decide +kernel⟩, ⟨by decide, by decide⟩, ?_⟩
  refine ⟨⟨by decide +kernel, by decide +kernel, by decide +kernel⟩, ⟨by decide, by decide⟩, ?_⟩
  exact ac_to (ac_startAnewG (g := g) (h := hPa6 ++ scn 43 Sz) (k := 43) (a := 44) (b := 45) (c := 46) (d := 47) (x := 0) (y := 0) (pl := fun _ => 0) (ed := fun _ => 0) rfl rfl rfl (by decide) (by decide) (by decide)) ⟨rfl, rfl⟩
theorem ac_si48 : ACe g mX3_init [.ref 48] (hPa7 ++ [.inr (3, dfl 3)]) none (hPa7 ++ scn 48 Sc0) := by
  refine acw gdX3_init 60 rfl ?_
  refine ⟨⟨by decide +kernel, by decide +kernel, by decide +kernel⟩, ⟨by decide, by decide⟩, ?_⟩
  refine ⟨⟨by decide +kernel, by decide +kernel, by decide +kernel⟩, ⟨by decide, by decide⟩, ?_⟩
  refine ⟨⟨by decide +kernel, by decide +kernel, by decide +kernel⟩, ⟨by decide, by decide⟩, ?_⟩
  refine ⟨⟨by decide +kernel, by decide +kernel, by decide +kernel⟩, ⟨by decide, by decide⟩, ?_⟩
  exact ac_to (ac_startAnewG (g := g) (h := hPa7 ++ scn 48 Sz) (k := 48) (a := 49) (b := 50) (c := 51) (d := 52) (x := 0) (y := 0) (pl := fun _ => 0) (ed := fun _ => 0) rfl rfl rfl (by decide) (by decide) (by decide)) ⟨rfl, rfl⟩
theorem ac_si83 : ACe g mX3_init [.ref 83] (hIm0 ++ [.inr (3, dfl 3)]) none (hIm0 ++ scn 83 Sc0) := by
  refine acw gdX3_init 60 rfl ?_
  refine ⟨⟨by decide +kernel, by decide +kernel, by decide +kernel⟩, ⟨by decide, by decide⟩, ?_⟩
  refine ⟨⟨by decide +kernel, by decide +kernel, by decide +kernel⟩, ⟨by decide, by decide⟩, ?_⟩
  refine ⟨⟨by decide +kernel, by decide +kernel, by decide +kernel⟩, ⟨by decide, by decide⟩, ?_⟩
  refine ⟨⟨by decide +kernel, by decide +kernel, by decide +kernel⟩, ⟨by decide, by decide⟩, ?_⟩
  exact ac_to (ac_startAnewG (g := g) (h := hIm0 ++ scn 83 Sz) (k := 83) (a := 84) (b := 85) (c := 86) (d := 87) (x := 0) (y := 0) (pl := fun _ => 0) (ed := fun _ => 0) rfl rfl rfl (by decide) (by decide) (by decide)) ⟨rfl, rfl⟩
theorem ac_si88 : ACe g mX3_init [.ref 88] (hIm1 ++ [.inr (3, dfl 3)]) none (hIm1 ++ scn 88 Sc0) := by
  refine acw gdX3_init 60 rfl ?_
  refine ⟨⟨by decide +kernel, by decide +kernel, by decide +kernel⟩, ⟨by decide, by decide⟩, ?_⟩
  refine ⟨⟨by decide +kernel, by decide +kernel, by decide +kernel⟩, ⟨by decide, by decide⟩, ?_⟩
  refine ⟨⟨by decide +kernel, by decide +kernel, by decide +kernel⟩, ⟨by decide, by decide⟩, ?_⟩
  refine ⟨⟨by decide +kernel, by decide +kernel, by decide +kernel⟩, ⟨by decide, by decide⟩, ?_⟩
  exact ac_to (ac_startAnewG (g := g) (h := hIm1 ++ scn 88 Sz) (k := 88) (a := 89) (b := 90) (c := 91) (d := 92) (x := 0) (y := 0) (pl := fun _ => 0) (ed := fun _ => 0) rfl rfl rfl (by decide) (by decide) (by decide)) ⟨rfl, rfl⟩
def hE11 : AH := [.inr (5, [.ref 1, .ref 6, .null, .null, .null, .null, .null, .null])] ++ (scn 1 Sc0 ++ (scn 6 Sc0))
def hF11 : AH := hE11 ++ pst 0 0 (fun _ => Sc0)
theorem hPa8_eq : hPa8 = hF11 := by
  have h := upA_8
  unfold hPa8
  rw [h]
  rfl
theorem aw_pa8 : AW g mX0_init (fun r h' => r = none ∧ h' = hF11) 89 856 15 [some (.ref 11), some (.int (nI 8))] [] hPa8 := by
  refine lpw gdX0_init 60 ⟨fun _ => ⟨rfl, hPa8_eq⟩, fun h => absurd (by decide) h⟩
theorem aw_pa7 : AW g mX0_init (fun r h' => r = none ∧ h' = hF11) 78 750 15 [some (.ref 11), some (.int (nI 7))] [] hPa7 := by
  refine lpw gdX0_init 60 ⟨fun h => absurd h (by decide), fun _ => ?_⟩
  refine ⟨⟨by decide +kernel, by decide +kernel, by decide +kernel⟩, ?_⟩
  refine ⟨⟨by decide +kernel, by decide +kernel, by decide +kernel⟩, ?_⟩
  refine ac_to ac_si48 ?_
  refine ⟨8, _, _, rfl, rfl, vlit (j := 7) (by decide) (by decide), ?_⟩
  exact aw_pa8
theorem aw_pa6 : AW g mX0_init (fun r h' => r = none ∧ h' = hF11) 67 644 15 [some (.ref 11), some (.int (nI 6))] [] hPa6 := by
  refine lpw gdX0_init 60 ⟨fun h => absurd h (by decide), fun _ => ?_⟩
  refine ⟨⟨by decide +kernel, by decide +kernel, by decide +kernel⟩, ?_⟩
  refine ⟨⟨by decide +kernel, by decide +kernel, by decide +kernel⟩, ?_⟩
  refine ac_to ac_si43 ?_
  refine ⟨8, _, _, rfl, rfl, vlit (j := 6) (by decide) (by decide), ?_⟩
  exact aw_pa7
theorem aw_pa5 : AW g mX0_init (fun r h' => r = none ∧ h' = hF11) 56 538 15 [some (.ref 11), some (.int (nI 5))] [] hPa5 := by
  refine lpw gdX0_init 60 ⟨fun h => absurd h (by decide), fun _ => ?_⟩
  refine ⟨⟨by decide +kernel, by decide +kernel, by decide +kernel⟩, ?_⟩
  refine ⟨⟨by decide +kernel, by decide +kernel, by decide +kernel⟩, ?_⟩
  refine ac_to ac_si38 ?_
  refine ⟨8, _, _, rfl, rfl, vlit (j := 5) (by decide) (by decide), ?_⟩
  exact aw_pa6
theorem aw_pa4 : AW g mX0_init (fun r h' => r = none ∧ h' = hF11) 45 432 15 [some (.ref 11), some (.int (nI 4))] [] hPa4 := by
  refine lpw gdX0_init 60 ⟨fun h => absurd h (by decide), fun _ => ?_⟩
  refine ⟨⟨by decide +kernel, by decide +kernel, by decide +kernel⟩, ?_⟩
  refine ⟨⟨by decide +kernel, by decide +kernel, by decide +kernel⟩, ?_⟩
  refine ac_to ac_si33 ?_
  refine ⟨8, _, _, rfl, rfl, vlit (j := 4) (by decide) (by decide), ?_⟩
  exact aw_pa5
theorem aw_pa3 : AW g mX0_init (fun r h' => r = none ∧ h' = hF11) 34 326 15 [some (.ref 11), some (.int (nI 3))] [] hPa3 := by
  refine lpw gdX0_init 60 ⟨fun h => absurd h (by decide), fun _ => ?_⟩
  refine ⟨⟨by decide +kernel, by decide +kernel, by decide +kernel⟩, ?_⟩
  refine ⟨⟨by decide +kernel, by decide +kernel, by decide +kernel⟩, ?_⟩
  refine ac_to ac_si28 ?_
  refine ⟨8, _, _, rfl, rfl, vlit (j := 3) (by decide) (by decide), ?_⟩
  exact aw_pa4
theorem aw_pa2 : AW g mX0_init (fun r h' => r = none ∧ h' = hF11) 23 220 15 [some (.ref 11), some (.int (nI 2))] [] hPa2 := by
  refine lpw gdX0_init 60 ⟨fun h => absurd h (by decide), fun _ => ?_⟩
  refine ⟨⟨by decide +kernel, by decide +kernel, by decide +kernel⟩, ?_⟩
  refine ⟨⟨by decide +kernel, by decide +kernel, by decide +kernel⟩, ?_⟩
  refine ac_to ac_si23 ?_
  refine ⟨8, _, _, rfl, rfl, vlit (j := 2) (by decide) (by decide), ?_⟩
  exact aw_pa3
theorem aw_pa1 : AW g mX0_init (fun r h' => r = none ∧ h' = hF11) 12 114 15 [some (.ref 11), some (.int (nI 1))] [] hPa1 := by
  refine lpw gdX0_init 60 ⟨fun h => absurd h (by decide), fun _ => ?_⟩
  refine ⟨⟨by decide +kernel, by decide +kernel, by decide +kernel⟩, ?_⟩
  refine ⟨⟨by decide +kernel, by decide +kernel, by decide +kernel⟩, ?_⟩
  refine ac_to ac_si18 ?_
  refine ⟨8, _, _, rfl, rfl, vlit (j := 1) (by decide) (by decide), ?_⟩
  exact aw_pa2
theorem aw_pa0 : AW g mX0_init (fun r h' => r = none ∧ h' = hF11) 1 8 15 [some (.ref 11), some (.int (nI 0))] [] hPa0 := by
  refine lpw gdX0_init 60 ⟨fun h => absurd h (by decide), fun _ => ?_⟩
  refine ⟨⟨by decide +kernel, by decide +kernel, by decide +kernel⟩, ?_⟩
  refine ⟨⟨by decide +kernel, by decide +kernel, by decide +kernel⟩, ?_⟩
  refine ac_to ac_si13 ?_
  refine ⟨8, _, _, rfl, rfl, vlit (j := 0) (by decide) (by decide), ?_⟩
  exact aw_pa1
theorem ac_pi : ACe g mX0_init [.ref 11] (hE11 ++ [.inr (0, dfl 0)]) none hF11 := by
  refine acw gdX0_init 60 rfl ?_
  refine ⟨⟨by decide +kernel, by decide +kernel, by decide +kernel⟩, ⟨by decide, by decide⟩, ?_⟩
  exact aw_pa0
def hE53 : AH := [.inr (5, [.ref 1, .ref 6, .ref 11, .null, .null, .null, .null, .null])] ++ (scn 1 Sc0 ++ (scn 6 Sc0 ++ (pst 0 0 (fun _ => Sc0))))
theorem ac_ri : ACe g mX2_init [.ref 53] (hE53 ++ [.inr (2, dfl 2)]) none (hE53 ++ rdr R00) := by
  refine acw gdX2_init 60 rfl ?_
  refine ⟨⟨by decide +kernel, by decide +kernel, by decide +kernel⟩, ⟨by decide, by decide⟩, ?_⟩
  exact ⟨rfl, rfl⟩
def hE55 : AH := [.inr (5, [.ref 1, .ref 6, .ref 11, .ref 53, .null, .null, .null, .null])] ++ (scn 1 Sc0 ++ (scn 6 Sc0 ++ (pst 0 0 (fun _ => Sc0) ++ (rdr R00))))
theorem ac_li : ACe g mX1_init [.ref 55] (hE55 ++ [.inr (1, dfl 1)]) none (hE55 ++ pln Q00) := by
  refine acw gdX1_init 60 rfl ?_
  refine ⟨⟨by decide +kernel, by decide +kernel, by decide +kernel⟩, ⟨by decide, by decide⟩, ?_⟩
  refine ⟨⟨by decide +kernel, by decide +kernel, by decide +kernel⟩, ⟨by decide, by decide, by decide, by decide⟩, ?_⟩
  refine ⟨⟨by decide +kernel, by decide +kernel, by decide +kernel⟩, ⟨by decide, by decide, by decide, by decide⟩, ?_⟩
  refine ⟨⟨by decide +kernel, by decide +kernel, by decide +kernel⟩, ⟨by decide, by decide⟩, ?_⟩
  refine ⟨⟨by decide +kernel, by decide +kernel, by decide +kernel⟩, ⟨by decide, by decide⟩, ?_⟩
  refine ⟨⟨by decide +kernel, by decide +kernel, by decide +kernel⟩, ⟨by decide, by decide⟩, ?_⟩
  refine ⟨⟨by decide +kernel, by decide +kernel, by decide +kernel⟩, ⟨by decide, by decide⟩, ?_⟩
  exact ⟨rfl, rfl⟩
def hE79 : AH := [.inr (5, [.ref 1, .ref 6, .ref 11, .ref 53, .ref 55, .null, .null, .null])] ++ (scn 1 Sc0 ++ (scn 6 Sc0 ++ (pst 0 0 (fun _ => Sc0) ++ (rdr R00 ++ (pln Q00)))))
theorem ac_gi : ACe g mX4_init [.ref 79] (hE79 ++ [.inr (4, dfl 4)]) none (hE79 ++ sgt G00) := by
  refine acw gdX4_init 60 rfl ?_
  refine ⟨⟨by decide +kernel, by decide +kernel, by decide +kernel⟩, ⟨by decide, by decide⟩, ?_⟩
  refine ⟨⟨by decide +kernel, by decide +kernel, by decide +kernel⟩, ⟨by decide, by decide⟩, ?_⟩
  exact ⟨rfl, rfl⟩
def hX : AH := [.inr (5, [.ref 1, .ref 6, .ref 11, .ref 53, .ref 55, .ref 79, .ref 82, .ref 93])] ++ (scn 1 Sc0 ++ (scn 6 Sc0 ++ (pst 0 0 (fun _ => Sc0) ++ (rdr R00 ++ (pln Q00 ++ (sgt G00 ++ ([ra 2 2 (fun i => if i < 2 then some (83 + 5 * i) else none)] ++ (scn 83 Sc0 ++ (scn 88 Sc0 ++ ([.inl (1, 2, .inl (fun _ => 0))]))))))))))
end MK
