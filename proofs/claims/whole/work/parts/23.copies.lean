/-! ===== copies: scenes of the class, rows of the model ===== -/
/-- A, written over B -/
def bec (A B : Scn) : Scn := (va_cpy (s_pl A) (s_pl B) 0 0 4, va_cpy (s_sp A) (s_sp B) 0 0 8, va_cpy (s_ed A) (s_ed B) 0 0 8, va_cpy (s_fc A) (s_fc B) 0 0 42, s_nl A, s_ns A)
def putP {α : Type} (P : Nat → α) (i : Nat) (v : α) : Nat → α := fun j => if j = i then v else P j
theorem Rw.bec {A B : Scn} {r : Fn} (h : Rw A r) : Rw (bec A B) r := by
  obtain ⟨eo, m, n, hS, hw⟩ := h
  have h8 := hw.2.1
  have h6 := hw.2.2.2.1
  refine ⟨eo, m, n, ⟨hS.1, hS.2.1, fun i hi => ?_, fun l hl => ?_, fun i hi => ?_, fun l hl => ?_⟩, hw⟩
  · exact (sb_cpy0 hi).trans (hS.2.2.1 i hi)
  · exact (sb_cpy0 (by omega)).trans (hS.2.2.2.1 l hl)
  · exact (sb_cpy0 (by omega)).trans (hS.2.2.2.2.1 i hi)
  · exact (sb_cpy0 hl).trans (hS.2.2.2.2.2 l hl)
theorem Rw.cg {A : Scn} {r r' : Fn} (h : Rw A r) (e : ∀ i, i < 64 → r' i = r i) : Rw A r' := by
  obtain ⟨eo, m, n, hS, hw⟩ := h
  have h8 := hw.2.1
  have h6 := hw.2.2.2.1
  refine ⟨eo, m, n, ⟨hS.1, hS.2.1, fun i hi => ?_, fun l hl => ?_, fun i hi => ?_, fun l hl => ?_⟩, ⟨?_, h8, ?_, h6, fun i hi => ?_, fun s hs w hw2 => ?_, fun l hl => ?_, hw.2.2.2.2.2.2.2⟩⟩
  · rw [e i (by omega)]; exact hS.2.2.1 i hi
  · rw [e _ (by omega)]; exact hS.2.2.2.1 l hl
  · rw [e _ (by omega)]; exact hS.2.2.2.2.1 i hi
  · rw [e _ (by omega)]; exact hS.2.2.2.2.2 l hl
  · rw [e _ (by decide)]; exact hw.1
  · rw [e _ (by decide)]; exact hw.2.2.1
  · rw [e _ (by omega)]; exact hw.2.2.2.2.1 i hi
  · show ∃ q : Nat, q ≤ 9 ∧ r' (14 + (7 * s + w)) = nI q
    rw [e _ (by omega)]
    exact hw.2.2.2.2.2.1 s hs w hw2
  · rw [e _ (by omega)]; exact hw.2.2.2.2.2.2.1 l hl
section CP
variable {g : Glob} {S : Scn} {O : Oth}
theorem ac_becP0 : ACe g mX3_become [.ref 13, .ref 1] (lay (S, O)) none (lay (S, o_P' O (putP (o_P O) 0 (bec S (o_P O 0))))) := by
  refine acw gdX3_become 80 rfl ?_
  refine ⟨_, _, _, _, rfl, rfl, ⟨by decide, by decide, by decide, by decide, by decide⟩, ?_⟩
  refine ⟨_, _, _, _, rfl, rfl, ⟨by decide, by decide, by decide, by decide, by decide⟩, ?_⟩
  refine ⟨_, _, _, _, rfl, rfl, ⟨by decide, by decide, by decide, by decide, by decide⟩, ?_⟩
  refine ⟨_, _, _, _, rfl, rfl, ⟨by decide, by decide, by decide, by decide, by decide⟩, ?_⟩
  exact ⟨rfl, rfl⟩
theorem ac_becQ0 : ACe g mX3_become [.ref 1, .ref 13] (lay (S, O)) none (lay (bec (o_P O 0) S, O)) := by
  refine acw gdX3_become 80 rfl ?_
  refine ⟨_, _, _, _, rfl, rfl, ⟨by decide, by decide, by decide, by decide, by decide⟩, ?_⟩
  refine ⟨_, _, _, _, rfl, rfl, ⟨by decide, by decide, by decide, by decide, by decide⟩, ?_⟩
  refine ⟨_, _, _, _, rfl, rfl, ⟨by decide, by decide, by decide, by decide, by decide⟩, ?_⟩
  refine ⟨_, _, _, _, rfl, rfl, ⟨by decide, by decide, by decide, by decide, by decide⟩, ?_⟩
  exact ⟨rfl, rfl⟩
theorem ac_becP1 : ACe g mX3_become [.ref 18, .ref 1] (lay (S, O)) none (lay (S, o_P' O (putP (o_P O) 1 (bec S (o_P O 1))))) := by
  refine acw gdX3_become 80 rfl ?_
  refine ⟨_, _, _, _, rfl, rfl, ⟨by decide, by decide, by decide, by decide, by decide⟩, ?_⟩
  refine ⟨_, _, _, _, rfl, rfl, ⟨by decide, by decide, by decide, by decide, by decide⟩, ?_⟩
  refine ⟨_, _, _, _, rfl, rfl, ⟨by decide, by decide, by decide, by decide, by decide⟩, ?_⟩
  refine ⟨_, _, _, _, rfl, rfl, ⟨by decide, by decide, by decide, by decide, by decide⟩, ?_⟩
  exact ⟨rfl, rfl⟩
theorem ac_becQ1 : ACe g mX3_become [.ref 1, .ref 18] (lay (S, O)) none (lay (bec (o_P O 1) S, O)) := by
  refine acw gdX3_become 80 rfl ?_
  refine ⟨_, _, _, _, rfl, rfl, ⟨by decide, by decide, by decide, by decide, by decide⟩, ?_⟩
  refine ⟨_, _, _, _, rfl, rfl, ⟨by decide, by decide, by decide, by decide, by decide⟩, ?_⟩
  refine ⟨_, _, _, _, rfl, rfl, ⟨by decide, by decide, by decide, by decide, by decide⟩, ?_⟩
  refine ⟨_, _, _, _, rfl, rfl, ⟨by decide, by decide, by decide, by decide, by decide⟩, ?_⟩
  exact ⟨rfl, rfl⟩
theorem ac_becP2 : ACe g mX3_become [.ref 23, .ref 1] (lay (S, O)) none (lay (S, o_P' O (putP (o_P O) 2 (bec S (o_P O 2))))) := by
  refine acw gdX3_become 80 rfl ?_
  refine ⟨_, _, _, _, rfl, rfl, ⟨by decide, by decide, by decide, by decide, by decide⟩, ?_⟩
  refine ⟨_, _, _, _, rfl, rfl, ⟨by decide, by decide, by decide, by decide, by decide⟩, ?_⟩
  refine ⟨_, _, _, _, rfl, rfl, ⟨by decide, by decide, by decide, by decide, by decide⟩, ?_⟩
  refine ⟨_, _, _, _, rfl, rfl, ⟨by decide, by decide, by decide, by decide, by decide⟩, ?_⟩
  exact ⟨rfl, rfl⟩
theorem ac_becQ2 : ACe g mX3_become [.ref 1, .ref 23] (lay (S, O)) none (lay (bec (o_P O 2) S, O)) := by
  refine acw gdX3_become 80 rfl ?_
  refine ⟨_, _, _, _, rfl, rfl, ⟨by decide, by decide, by decide, by decide, by decide⟩, ?_⟩
  refine ⟨_, _, _, _, rfl, rfl, ⟨by decide, by decide, by decide, by decide, by decide⟩, ?_⟩
  refine ⟨_, _, _, _, rfl, rfl, ⟨by decide, by decide, by decide, by decide, by decide⟩, ?_⟩
  refine ⟨_, _, _, _, rfl, rfl, ⟨by decide, by decide, by decide, by decide, by decide⟩, ?_⟩
  exact ⟨rfl, rfl⟩
theorem ac_becP3 : ACe g mX3_become [.ref 28, .ref 1] (lay (S, O)) none (lay (S, o_P' O (putP (o_P O) 3 (bec S (o_P O 3))))) := by
  refine acw gdX3_become 80 rfl ?_
  refine ⟨_, _, _, _, rfl, rfl, ⟨by decide, by decide, by decide, by decide, by decide⟩, ?_⟩
  refine ⟨_, _, _, _, rfl, rfl, ⟨by decide, by decide, by decide, by decide, by decide⟩, ?_⟩
  refine ⟨_, _, _, _, rfl, rfl, ⟨by decide, by decide, by decide, by decide, by decide⟩, ?_⟩
  refine ⟨_, _, _, _, rfl, rfl, ⟨by decide, by decide, by decide, by decide, by decide⟩, ?_⟩
  exact ⟨rfl, rfl⟩
theorem ac_becQ3 : ACe g mX3_become [.ref 1, .ref 28] (lay (S, O)) none (lay (bec (o_P O 3) S, O)) := by
  refine acw gdX3_become 80 rfl ?_
  refine ⟨_, _, _, _, rfl, rfl, ⟨by decide, by decide, by decide, by decide, by decide⟩, ?_⟩
  refine ⟨_, _, _, _, rfl, rfl, ⟨by decide, by decide, by decide, by decide, by decide⟩, ?_⟩
  refine ⟨_, _, _, _, rfl, rfl, ⟨by decide, by decide, by decide, by decide, by decide⟩, ?_⟩
  refine ⟨_, _, _, _, rfl, rfl, ⟨by decide, by decide, by decide, by decide, by decide⟩, ?_⟩
  exact ⟨rfl, rfl⟩
theorem ac_becP4 : ACe g mX3_become [.ref 33, .ref 1] (lay (S, O)) none (lay (S, o_P' O (putP (o_P O) 4 (bec S (o_P O 4))))) := by
  refine acw gdX3_become 80 rfl ?_
  refine ⟨_, _, _, _, rfl, rfl, ⟨by decide, by decide, by decide, by decide, by decide⟩, ?_⟩
  refine ⟨_, _, _, _, rfl, rfl, ⟨by decide, by decide, by decide, by decide, by decide⟩, ?_⟩
  refine ⟨_, _, _, _, rfl, rfl, ⟨by decide, by decide, by decide, by decide, by decide⟩, ?_⟩
  refine ⟨_, _, _, _, rfl, rfl, ⟨by decide, by decide, by decide, by decide, by decide⟩, ?_⟩
  exact ⟨rfl, rfl⟩
theorem ac_becQ4 : ACe g mX3_become [.ref 1, .ref 33] (lay (S, O)) none (lay (bec (o_P O 4) S, O)) := by
  refine acw gdX3_become 80 rfl ?_
  refine ⟨_, _, _, _, rfl, rfl, ⟨by decide, by decide, by decide, by decide, by decide⟩, ?_⟩
  refine ⟨_, _, _, _, rfl, rfl, ⟨by decide, by decide, by decide, by decide, by decide⟩, ?_⟩
  refine ⟨_, _, _, _, rfl, rfl, ⟨by decide, by decide, by decide, by decide, by decide⟩, ?_⟩
  refine ⟨_, _, _, _, rfl, rfl, ⟨by decide, by decide, by decide, by decide, by decide⟩, ?_⟩
  exact ⟨rfl, rfl⟩
theorem ac_becP5 : ACe g mX3_become [.ref 38, .ref 1] (lay (S, O)) none (lay (S, o_P' O (putP (o_P O) 5 (bec S (o_P O 5))))) := by
  refine acw gdX3_become 80 rfl ?_
  refine ⟨_, _, _, _, rfl, rfl, ⟨by decide, by decide, by decide, by decide, by decide⟩, ?_⟩
  refine ⟨_, _, _, _, rfl, rfl, ⟨by decide, by decide, by decide, by decide, by decide⟩, ?_⟩
  refine ⟨_, _, _, _, rfl, rfl, ⟨by decide, by decide, by decide, by decide, by decide⟩, ?_⟩
  refine ⟨_, _, _, _, rfl, rfl, ⟨by decide, by decide, by decide, by decide, by decide⟩, ?_⟩
  exact ⟨rfl, rfl⟩
theorem ac_becQ5 : ACe g mX3_become [.ref 1, .ref 38] (lay (S, O)) none (lay (bec (o_P O 5) S, O)) := by
  refine acw gdX3_become 80 rfl ?_
  refine ⟨_, _, _, _, rfl, rfl, ⟨by decide, by decide, by decide, by decide, by decide⟩, ?_⟩
  refine ⟨_, _, _, _, rfl, rfl, ⟨by decide, by decide, by decide, by decide, by decide⟩, ?_⟩
  refine ⟨_, _, _, _, rfl, rfl, ⟨by decide, by decide, by decide, by decide, by decide⟩, ?_⟩
  refine ⟨_, _, _, _, rfl, rfl, ⟨by decide, by decide, by decide, by decide, by decide⟩, ?_⟩
  exact ⟨rfl, rfl⟩
theorem ac_becP6 : ACe g mX3_become [.ref 43, .ref 1] (lay (S, O)) none (lay (S, o_P' O (putP (o_P O) 6 (bec S (o_P O 6))))) := by
  refine acw gdX3_become 80 rfl ?_
  refine ⟨_, _, _, _, rfl, rfl, ⟨by decide, by decide, by decide, by decide, by decide⟩, ?_⟩
  refine ⟨_, _, _, _, rfl, rfl, ⟨by decide, by decide, by decide, by decide, by decide⟩, ?_⟩
  refine ⟨_, _, _, _, rfl, rfl, ⟨by decide, by decide, by decide, by decide, by decide⟩, ?_⟩
  refine ⟨_, _, _, _, rfl, rfl, ⟨by decide, by decide, by decide, by decide, by decide⟩, ?_⟩
  exact ⟨rfl, rfl⟩
theorem ac_becQ6 : ACe g mX3_become [.ref 1, .ref 43] (lay (S, O)) none (lay (bec (o_P O 6) S, O)) := by
  refine acw gdX3_become 80 rfl ?_
  refine ⟨_, _, _, _, rfl, rfl, ⟨by decide, by decide, by decide, by decide, by decide⟩, ?_⟩
  refine ⟨_, _, _, _, rfl, rfl, ⟨by decide, by decide, by decide, by decide, by decide⟩, ?_⟩
  refine ⟨_, _, _, _, rfl, rfl, ⟨by decide, by decide, by decide, by decide, by decide⟩, ?_⟩
  refine ⟨_, _, _, _, rfl, rfl, ⟨by decide, by decide, by decide, by decide, by decide⟩, ?_⟩
  exact ⟨rfl, rfl⟩
theorem ac_becP7 : ACe g mX3_become [.ref 48, .ref 1] (lay (S, O)) none (lay (S, o_P' O (putP (o_P O) 7 (bec S (o_P O 7))))) := by
  refine acw gdX3_become 80 rfl ?_
  refine ⟨_, _, _, _, rfl, rfl, ⟨by decide, by decide, by decide, by decide, by decide⟩, ?_⟩
  refine ⟨_, _, _, _, rfl, rfl, ⟨by decide, by decide, by decide, by decide, by decide⟩, ?_⟩
  refine ⟨_, _, _, _, rfl, rfl, ⟨by decide, by decide, by decide, by decide, by decide⟩, ?_⟩
  refine ⟨_, _, _, _, rfl, rfl, ⟨by decide, by decide, by decide, by decide, by decide⟩, ?_⟩
  exact ⟨rfl, rfl⟩
theorem ac_becQ7 : ACe g mX3_become [.ref 1, .ref 48] (lay (S, O)) none (lay (bec (o_P O 7) S, O)) := by
  refine acw gdX3_become 80 rfl ?_
  refine ⟨_, _, _, _, rfl, rfl, ⟨by decide, by decide, by decide, by decide, by decide⟩, ?_⟩
  refine ⟨_, _, _, _, rfl, rfl, ⟨by decide, by decide, by decide, by decide, by decide⟩, ?_⟩
  refine ⟨_, _, _, _, rfl, rfl, ⟨by decide, by decide, by decide, by decide, by decide⟩, ?_⟩
  refine ⟨_, _, _, _, rfl, rfl, ⟨by decide, by decide, by decide, by decide, by decide⟩, ?_⟩
  exact ⟨rfl, rfl⟩
theorem ac_becI0 : ACe g mX3_become [.ref 83, .ref 1] (lay (S, O)) none (lay (S, o_I' O (putP (o_I O) 0 (bec S (o_I O 0))))) := by
  refine acw gdX3_become 80 rfl ?_
  refine ⟨_, _, _, _, rfl, rfl, ⟨by decide, by decide, by decide, by decide, by decide⟩, ?_⟩
  refine ⟨_, _, _, _, rfl, rfl, ⟨by decide, by decide, by decide, by decide, by decide⟩, ?_⟩
  refine ⟨_, _, _, _, rfl, rfl, ⟨by decide, by decide, by decide, by decide, by decide⟩, ?_⟩
  refine ⟨_, _, _, _, rfl, rfl, ⟨by decide, by decide, by decide, by decide, by decide⟩, ?_⟩
  exact ⟨rfl, rfl⟩
theorem ac_becJ0 : ACe g mX3_become [.ref 1, .ref 83] (lay (S, O)) none (lay (bec (o_I O 0) S, O)) := by
  refine acw gdX3_become 80 rfl ?_
  refine ⟨_, _, _, _, rfl, rfl, ⟨by decide, by decide, by decide, by decide, by decide⟩, ?_⟩
  refine ⟨_, _, _, _, rfl, rfl, ⟨by decide, by decide, by decide, by decide, by decide⟩, ?_⟩
  refine ⟨_, _, _, _, rfl, rfl, ⟨by decide, by decide, by decide, by decide, by decide⟩, ?_⟩
  refine ⟨_, _, _, _, rfl, rfl, ⟨by decide, by decide, by decide, by decide, by decide⟩, ?_⟩
  exact ⟨rfl, rfl⟩
theorem ac_becI1 : ACe g mX3_become [.ref 88, .ref 1] (lay (S, O)) none (lay (S, o_I' O (putP (o_I O) 1 (bec S (o_I O 1))))) := by
  refine acw gdX3_become 80 rfl ?_
  refine ⟨_, _, _, _, rfl, rfl, ⟨by decide, by decide, by decide, by decide, by decide⟩, ?_⟩
  refine ⟨_, _, _, _, rfl, rfl, ⟨by decide, by decide, by decide, by decide, by decide⟩, ?_⟩
  refine ⟨_, _, _, _, rfl, rfl, ⟨by decide, by decide, by decide, by decide, by decide⟩, ?_⟩
  refine ⟨_, _, _, _, rfl, rfl, ⟨by decide, by decide, by decide, by decide, by decide⟩, ?_⟩
  exact ⟨rfl, rfl⟩
theorem ac_becJ1 : ACe g mX3_become [.ref 1, .ref 88] (lay (S, O)) none (lay (bec (o_I O 1) S, O)) := by
  refine acw gdX3_become 80 rfl ?_
  refine ⟨_, _, _, _, rfl, rfl, ⟨by decide, by decide, by decide, by decide, by decide⟩, ?_⟩
  refine ⟨_, _, _, _, rfl, rfl, ⟨by decide, by decide, by decide, by decide, by decide⟩, ?_⟩
  refine ⟨_, _, _, _, rfl, rfl, ⟨by decide, by decide, by decide, by decide, by decide⟩, ?_⟩
  refine ⟨_, _, _, _, rfl, rfl, ⟨by decide, by decide, by decide, by decide, by decide⟩, ?_⟩
  exact ⟨rfl, rfl⟩
theorem ac_becD : ACe g mX3_become [.ref 1, .ref 6] (lay (S, O)) none (lay (bec (o_D O) S, O)) := by
  refine acw gdX3_become 80 rfl ?_
  refine ⟨_, _, _, _, rfl, rfl, ⟨by decide, by decide, by decide, by decide, by decide⟩, ?_⟩
  refine ⟨_, _, _, _, rfl, rfl, ⟨by decide, by decide, by decide, by decide, by decide⟩, ?_⟩
  refine ⟨_, _, _, _, rfl, rfl, ⟨by decide, by decide, by decide, by decide, by decide⟩, ?_⟩
  refine ⟨_, _, _, _, rfl, rfl, ⟨by decide, by decide, by decide, by decide, by decide⟩, ?_⟩
  exact ⟨rfl, rfl⟩
end CP
