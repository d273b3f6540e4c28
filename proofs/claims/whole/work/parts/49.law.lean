section ML
variable {g : Glob}
theorem hIm2_eq : (hIm2 ++ ([.inl (1, 2, .inl (fun _ => 0))] : AH)).set 0 (.inr (5, [.ref 1, .ref 6, .ref 11, .ref 53, .ref 55, .ref 79, .ref 82, .ref 93])) = hX := by
  have h := upA_2
  unfold hIm2
  rw [h]
  rfl
theorem aw_im2 : AW g mX5_init (fun r h' => r = none ∧ h' = hX) 189 1870 80 [some (.ref 0), some (.int (nI 2))] [] hIm2 := by
  refine lpw gdX5_init 60 ⟨fun _ => ?_, fun h => absurd (by decide) h⟩
  refine ⟨⟨by decide +kernel, by decide +kernel, by decide +kernel⟩, ⟨by decide, by decide⟩, ?_⟩
  exact ⟨rfl, hIm2_eq⟩
theorem aw_im1 : AW g mX5_init (fun r h' => r = none ∧ h' = hX) 178 1764 80 [some (.ref 0), some (.int (nI 1))] [] hIm1 := by
  refine lpw gdX5_init 60 ⟨fun h => absurd h (by decide), fun _ => ?_⟩
  refine ⟨⟨by decide +kernel, by decide +kernel, by decide +kernel⟩, ?_⟩
  refine ⟨⟨by decide +kernel, by decide +kernel, by decide +kernel⟩, ?_⟩
  refine ac_to ac_si88 ?_
  refine ⟨2, _, _, rfl, rfl, vlit (j := 1) (by decide) (by decide), ?_⟩
  exact aw_im2
theorem aw_im0 : AW g mX5_init (fun r h' => r = none ∧ h' = hX) 167 1658 80 [some (.ref 0), some (.int (nI 0))] [] hIm0 := by
  refine lpw gdX5_init 60 ⟨fun h => absurd h (by decide), fun _ => ?_⟩
  refine ⟨⟨by decide +kernel, by decide +kernel, by decide +kernel⟩, ?_⟩
  refine ⟨⟨by decide +kernel, by decide +kernel, by decide +kernel⟩, ?_⟩
  refine ac_to ac_si83 ?_
  refine ⟨2, _, _, rfl, rfl, vlit (j := 0) (by decide) (by decide), ?_⟩
  exact aw_im1
theorem ac_xi : ACe g mX5_init [.ref 0] [.inr (5, dfl 5)] none hX := by
  refine acw gdX5_init 90 rfl ?_
  refine ⟨⟨by decide +kernel, by decide +kernel, by decide +kernel⟩, ?_⟩
  refine ⟨⟨by decide +kernel, by decide +kernel, by decide +kernel⟩, ?_⟩
  refine ac_to ac_si1 ?_
  refine ⟨⟨by decide +kernel, by decide +kernel, by decide +kernel⟩, ?_⟩
  refine ⟨⟨by decide +kernel, by decide +kernel, by decide +kernel⟩, ?_⟩
  refine ac_to ac_si6 ?_
  refine ⟨⟨by decide +kernel, by decide +kernel, by decide +kernel⟩, ?_⟩
  refine ⟨⟨by decide +kernel, by decide +kernel, by decide +kernel⟩, ?_⟩
  refine ac_to ac_pi ?_
  refine ⟨⟨by decide +kernel, by decide +kernel, by decide +kernel⟩, ?_⟩
  refine ⟨⟨by decide +kernel, by decide +kernel, by decide +kernel⟩, ?_⟩
  refine ac_to ac_ri ?_
  refine ⟨⟨by decide +kernel, by decide +kernel, by decide +kernel⟩, ?_⟩
  refine ⟨⟨by decide +kernel, by decide +kernel, by decide +kernel⟩, ?_⟩
  refine ac_to ac_li ?_
  refine ⟨⟨by decide +kernel, by decide +kernel, by decide +kernel⟩, ?_⟩
  refine ⟨⟨by decide +kernel, by decide +kernel, by decide +kernel⟩, ?_⟩
  refine ac_to ac_gi ?_
  refine ⟨⟨by decide +kernel, by decide +kernel, by decide +kernel⟩, ⟨by decide, by decide⟩, ?_⟩
  exact aw_im0
def M00 : Mdl := (fun _ => 0, fun _ => 0, fun _ => 0, 0, fun _ => 0, fun _ => 0, fun _ => 0, 0, 0, 0, 0, fun _ => 0, fun _ => 0, 0, 0, 0, 0, fun _ => 0, fun _ => 0, 0, fun _ => 0, 0, 0)
def O00 : Oth := (Sc0, fun _ => Sc0, fun _ => Sc0, 0, 0, R00, Q00, G00, fun _ => 0, M00)
def X00 : St := (Sc0, o_M' O00 (z_now' (z_rd' M00 (rd0 (fun _ => 0))) (va_cpy (rd0 (fun _ => 0)) (fun _ => 0) 0 0 64)))
set_option maxHeartbeats 10000000 in
set_option maxRecDepth 20000 in
theorem ac_mi : ACe g mX6_init [.ref 94] (hX ++ [.inr (6, dfl 6)]) none (lay X00) := by
  refine acw gdX6_init 90 rfl ?_
  refine ⟨⟨by decide +kernel, by decide +kernel, by decide +kernel⟩, ⟨by decide, by decide⟩, ?_⟩
  refine ⟨⟨by decide +kernel, by decide +kernel, by decide +kernel⟩, ⟨by decide, by decide⟩, ?_⟩
  refine ⟨⟨by decide +kernel, by decide +kernel, by decide +kernel⟩, ⟨by decide, by decide⟩, ?_⟩
  refine ⟨⟨by decide +kernel, by decide +kernel, by decide +kernel⟩, ⟨by decide, by decide⟩, ?_⟩
  refine ⟨⟨by decide +kernel, by decide +kernel, by decide +kernel⟩, ⟨by decide, by decide⟩, ?_⟩
  refine ⟨⟨by decide +kernel, by decide +kernel, by decide +kernel⟩, ⟨by decide, by decide⟩, ?_⟩
  refine ⟨⟨by decide +kernel, by decide +kernel, by decide +kernel⟩, ⟨by decide, by decide⟩, ?_⟩
  refine ⟨⟨by decide +kernel, by decide +kernel, by decide +kernel⟩, ⟨by decide, by decide⟩, ?_⟩
  refine ⟨⟨by decide +kernel, by decide +kernel, by decide +kernel⟩, ⟨by decide, by decide⟩, ?_⟩
  refine ⟨⟨by decide +kernel, by decide +kernel, by decide +kernel⟩, ⟨by decide, by decide⟩, ?_⟩
  refine ⟨⟨by decide +kernel, by decide +kernel, by decide +kernel⟩, ⟨by decide, by decide⟩, ?_⟩
  refine ac_to (am_beginRead (g := g) (S := Sc0) (O := O00)) ?_
  exact ac_to (am_bringRN (g := g) (S := Sc0) (O := o_M' O00 (z_rd' M00 (rd0 (fun _ => 0))))) ⟨rfl, rfl⟩
theorem inv00 : Inv X00 := by
  have h1 : DC Sc0 D0 := by
    refine ⟨rfl, rfl, fun i hi => ?_, fun l hl => absurd hl (Nat.not_lt_zero _), fun i hi => absurd hi (Nat.not_lt_zero _), fun l hl => ?_⟩
    · rcases (show i = 0 ∨ i = 1 ∨ i = 2 ∨ i = 3 by omega) with rfl | rfl | rfl | rfl <;> rfl
    · show va_cpy (fun _ => -9) (fun _ => 0) 0 0 8 l = -9
      rw [pk_cpy_in (by omega) (by omega)]
  have h2 : Rw Sc0 (rd0 (fun _ => 0)) := Rw.dr h1 (rd0_D _) ⟨by decide, by decide, by decide, fun i hi => absurd hi (Nat.not_lt_zero _)⟩
  refine ⟨h2.cg (fun i hi => ?_), ⟨0, 0, by decide, by decide, rfl, rfl, rfl, fun j hj => absurd hj (Nat.not_lt_zero _)⟩, fun k hk => ⟨rfl, Or.inl rfl⟩, ⟨0, by decide, rfl, rfl, fun i hi => absurd hi (Nat.not_lt_zero _)⟩, ⟨0, fun _ => 0, by decide, rfl, rfl, fun j hj => absurd hj (Nat.not_lt_zero _)⟩⟩
  show va_cpy (rd0 (fun _ => 0)) (fun _ => 0) 0 0 64 i = _
  rw [pk_cpy_in (by omega) (by omega), show 0 + (i - 0) = i by omega]
theorem aw_law (hL : g_L g ≤ 1536) : ∀ (k i : Nat) (X : St), g_L g ≤ i + k → i ≤ 1536 → Inv X → AW g mL_law (fun r _ => r = some (.int 1)) 222 4031 18 [some (.ref 1005), some (.ref 0), some (.ref 94), some (.int (nI i))] [] (lay X) := by
  have e3 : (Int32.ofNat (g_L g) - 3).toInt = (g_L g : Int) - 3 := pk_sub_toInt (a := g_L g) (b := 3) (by omega) (by omega)
  intro k
  induction k with
  | zero =>
    intro i X hk hi hI
    refine lpw gdL_law 60 ⟨fun _ => ⟨rfl, rfl⟩, fun h => absurd ?_ h⟩
    show Int32.ofNat (g_L g) - 3 < nI i
    rw [Int32.lt_iff_toInt_lt, e3, toI_lit (by omega)]
    omega
  | succ k ih =>
    intro i X hk hi hI
    refine lpw gdL_law 60 ⟨fun _ => ⟨rfl, rfl⟩, fun h => ?_⟩
    have h : ¬ Int32.ofNat (g_L g) - 3 < nI i := h
    rw [Int32.lt_iff_toInt_lt, e3, toI_lit (by omega)] at h
    have i1 : nI i + 1 = nI (i + 1) := nI_1 i
    have i2 : nI i + 2 = nI (i + 2) := nI_add i 2
    have v0 : vp_in (nI i) (g_L g) := vlit (by omega) (by omega)
    have v1 : vp_in (nI i + 1) (g_L g) := vin i1 (by omega) (by omega)
    have v2 : vp_in (nI i + 2) (g_L g) := vin i2 (by omega) (by omega)
    have NX : ∀ X2 : St, Inv X2 → AW g mL_law (fun r _ => r = some (.int 1)) 222 4031 18 [some (.ref 1005), some (.ref 0), some (.ref 94), some (.int (nI i + 3))] [] (lay X2) := fun X2 hI2 => by
      have := ih (i + 3) X2 (by omega) (by omega) hI2
      rw [← nI_add i 3] at this
      exact this
    refine ⟨_, _, rfl, v0, ?_⟩
    refine ⟨fun _ => NX X hI, fun _ => ?_, fun _ => ?_, fun _ => ?_, fun _ => ?_, fun _ => ?_, fun _ => ?_, fun _ => ?_, fun _ => ?_, fun _ => ?_, fun _ => ?_, fun _ => ?_, fun _ => ?_, fun _ => ?_, fun _ => ?_, fun _ => ?_, fun _ => ?_, fun _ => ?_, fun _ => ?_, fun _ => ?_, fun _ => ?_, fun _ => ?_, trivial⟩
    · refine ⟨_, _, rfl, v1, ?_⟩
      refine ac_mono ((pr_type _).a X hI) ?_
      rintro r h ⟨v, X1, rfl, rfl, hM⟩
      refine ⟨_, _, rfl, v1, ?_⟩
      refine ac_mono hM ?_
      rintro r h ⟨rfl, X2, rfl, hI2⟩
      exact ⟨fun _ => NX X2 hI2, fun h => absurd rfl h⟩
    · refine ac_mono ((pr_clear).a X hI) ?_
      rintro r h ⟨v, X1, rfl, rfl, hM⟩
      refine ac_mono hM ?_
      rintro r h ⟨rfl, X2, rfl, hI2⟩
      exact ⟨fun _ => NX X2 hI2, fun h => absurd rfl h⟩
    · refine ac_mono ((pa_tells) X hI) ?_
      rintro r h ⟨v, X1, rfl, rfl, hM⟩
      refine ac_mono hM ?_
      rintro r h ⟨rfl, X2, rfl, hI2⟩
      exact ⟨fun _ => NX X2 hI2, fun h => absurd rfl h⟩
    · refine ⟨_, _, rfl, v1, ?_⟩
      refine ⟨_, _, rfl, v2, ?_⟩
      refine ac_mono ((pr_puts _ _).a X hI) ?_
      rintro r h ⟨v, X1, rfl, rfl, hM⟩
      refine ⟨_, _, rfl, v1, ?_⟩
      refine ⟨_, _, rfl, v2, ?_⟩
      refine ac_mono hM ?_
      rintro r h ⟨rfl, X2, rfl, hI2⟩
      exact ⟨fun _ => NX X2 hI2, fun h => absurd rfl h⟩
    · refine ⟨_, _, rfl, v1, ?_⟩
      refine ac_mono ((pr_takes _).a X hI) ?_
      rintro r h ⟨v, X1, rfl, rfl, hM⟩
      refine ⟨_, _, rfl, v1, ?_⟩
      refine ac_mono hM ?_
      rintro r h ⟨rfl, X2, rfl, hI2⟩
      exact ⟨fun _ => NX X2 hI2, fun h => absurd rfl h⟩
    · refine ⟨_, _, rfl, v1, ?_⟩
      refine ac_mono ((pr_strikes _).a X hI) ?_
      rintro r h ⟨v, X1, rfl, rfl, hM⟩
      refine ⟨_, _, rfl, v1, ?_⟩
      refine ac_mono hM ?_
      rintro r h ⟨rfl, X2, rfl, hI2⟩
      exact ⟨fun _ => NX X2 hI2, fun h => absurd rfl h⟩
    · refine ac_mono ((pa_makes) X hI) ?_
      rintro r h ⟨v, X1, rfl, rfl, hM⟩
      refine ac_mono hM ?_
      rintro r h ⟨rfl, X2, rfl, hI2⟩
      exact ⟨fun _ => NX X2 hI2, fun h => absurd rfl h⟩
    · refine ac_mono ((pr_undo).a X hI) ?_
      rintro r h ⟨v, X1, rfl, rfl, hM⟩
      refine ac_mono hM ?_
      rintro r h ⟨rfl, X2, rfl, hI2⟩
      exact ⟨fun _ => NX X2 hI2, fun h => absurd rfl h⟩
    · refine ⟨_, _, rfl, v1, ?_⟩
      refine ⟨_, _, rfl, v2, ?_⟩
      refine ac_mono ((pr_line _ _).a X hI) ?_
      rintro r h ⟨v, X1, rfl, rfl, hM⟩
      refine ⟨_, _, rfl, v1, ?_⟩
      refine ⟨_, _, rfl, v2, ?_⟩
      refine ac_mono hM ?_
      rintro r h ⟨rfl, X2, rfl, hI2⟩
      exact ⟨fun _ => NX X2 hI2, fun h => absurd rfl h⟩
    · refine ⟨_, _, rfl, v1, ?_⟩
      refine ⟨_, _, rfl, v2, ?_⟩
      refine ac_mono ((pr_shot _ _).a X hI) ?_
      rintro r h ⟨v, X1, rfl, rfl, hM⟩
      refine ⟨_, _, rfl, v1, ?_⟩
      refine ⟨_, _, rfl, v2, ?_⟩
      refine ac_mono hM ?_
      rintro r h ⟨rfl, X2, rfl, hI2⟩
      exact ⟨fun _ => NX X2 hI2, fun h => absurd rfl h⟩
    · refine ⟨_, _, rfl, v1, ?_⟩
      refine ⟨_, _, rfl, v2, ?_⟩
      refine ac_mono ((pr_player _ _).a X hI) ?_
      rintro r h ⟨v, X1, rfl, rfl, hM⟩
      refine ⟨_, _, rfl, v1, ?_⟩
      refine ⟨_, _, rfl, v2, ?_⟩
      refine ac_mono hM ?_
      rintro r h ⟨rfl, X2, rfl, hI2⟩
      exact ⟨fun _ => NX X2 hI2, fun h => absurd rfl h⟩
    · refine ⟨_, _, rfl, v1, ?_⟩
      refine ac_mono ((pr_edit _).a X hI) ?_
      rintro r h ⟨v, X1, rfl, rfl, hM⟩
      refine ⟨_, _, rfl, v1, ?_⟩
      refine ac_mono hM ?_
      rintro r h ⟨rfl, X2, rfl, hI2⟩
      exact ⟨fun _ => NX X2 hI2, fun h => absurd rfl h⟩
    · refine ⟨_, _, rfl, v1, ?_⟩
      refine ac_mono ((pa_best _) X hI) ?_
      rintro r h ⟨v, X1, rfl, rfl, hM⟩
      refine ⟨_, _, rfl, v1, ?_⟩
      refine ac_mono hM ?_
      rintro r h ⟨rfl, X2, rfl, hI2⟩
      exact ⟨fun _ => NX X2 hI2, fun h => absurd rfl h⟩
    · refine ⟨_, _, rfl, v1, ?_⟩
      refine ac_mono ((pa_cheapest _) X hI) ?_
      rintro r h ⟨v, X1, rfl, rfl, hM⟩
      refine ⟨_, _, rfl, v1, ?_⟩
      refine ac_mono hM ?_
      rintro r h ⟨rfl, X2, rfl, hI2⟩
      exact ⟨fun _ => NX X2 hI2, fun h => absurd rfl h⟩
    · refine ac_mono ((pa_needed) X hI) ?_
      rintro r h ⟨v, X1, rfl, rfl, hM⟩
      refine ac_mono hM ?_
      rintro r h ⟨rfl, X2, rfl, hI2⟩
      exact ⟨fun _ => NX X2 hI2, fun h => absurd rfl h⟩
    · refine ⟨_, _, rfl, v1, ?_⟩
      refine ⟨_, _, rfl, v2, ?_⟩
      refine ac_mono ((pr_sees _ _).a X hI) ?_
      rintro r h ⟨v, X1, rfl, rfl, hM⟩
      refine ⟨_, _, rfl, v1, ?_⟩
      refine ⟨_, _, rfl, v2, ?_⟩
      refine ac_mono hM ?_
      rintro r h ⟨rfl, X2, rfl, hI2⟩
      exact ⟨fun _ => NX X2 hI2, fun h => absurd rfl h⟩
    · refine ac_mono ((pr_forget).a X hI) ?_
      rintro r h ⟨v, X1, rfl, rfl, hM⟩
      refine ac_mono hM ?_
      rintro r h ⟨rfl, X2, rfl, hI2⟩
      exact ⟨fun _ => NX X2 hI2, fun h => absurd rfl h⟩
    · refine ⟨_, _, rfl, v1, ?_⟩
      refine ac_mono ((pr_which _).a X hI) ?_
      rintro r h ⟨v, X1, rfl, rfl, hM⟩
      refine ⟨_, _, rfl, v1, ?_⟩
      refine ac_mono hM ?_
      rintro r h ⟨rfl, X2, rfl, hI2⟩
      exact ⟨fun _ => NX X2 hI2, fun h => absurd rfl h⟩
    · refine ⟨_, _, rfl, v1, ?_⟩
      refine ac_mono ((pr_keep _).a X hI) ?_
      rintro r h ⟨v, X1, rfl, rfl, hM⟩
      refine ⟨_, _, rfl, v1, ?_⟩
      refine ac_mono hM ?_
      rintro r h ⟨rfl, X2, rfl, hI2⟩
      exact ⟨fun _ => NX X2 hI2, fun h => absurd rfl h⟩
    · refine ⟨_, _, rfl, v1, ?_⟩
      refine ac_mono ((pr_back _).a X hI) ?_
      rintro r h ⟨v, X1, rfl, rfl, hM⟩
      refine ⟨_, _, rfl, v1, ?_⟩
      refine ac_mono hM ?_
      rintro r h ⟨rfl, X2, rfl, hI2⟩
      exact ⟨fun _ => NX X2 hI2, fun h => absurd rfl h⟩
    · refine ⟨_, _, rfl, v1, ?_⟩
      refine ac_mono ((pr_count _).a X hI) ?_
      rintro r h ⟨v, X1, rfl, rfl, hM⟩
      refine ⟨_, _, rfl, v1, ?_⟩
      refine ac_mono hM ?_
      rintro r h ⟨rfl, X2, rfl, hI2⟩
      exact ⟨fun _ => NX X2 hI2, fun h => absurd rfl h⟩
theorem aw_law0 (hL : g_L g ≤ 1536) : AW g mL_law (fun r _ => r = some (.int 1)) 0 0 0 [some (.ref 1005), none, none, none] [] [] := by
  refine lpw gdL_law 60 ?_
  refine ⟨⟨by decide +kernel, by decide +kernel, by decide +kernel⟩, ?_⟩
  refine ⟨⟨by decide +kernel, by decide +kernel, by decide +kernel⟩, ?_⟩
  refine ac_to ac_xi ?_
  refine ⟨⟨by decide +kernel, by decide +kernel, by decide +kernel⟩, ?_⟩
  refine ⟨⟨by decide +kernel, by decide +kernel, by decide +kernel⟩, ?_⟩
  refine ac_to ac_mi ?_
  exact aw_law hL (g_L g) 0 X00 (by omega) (by omega) inv00
end ML
