section NT
variable {g : Glob} {S : Scn} {O : Oth}
theorem am_note_J {e : Nat} (he : z_deeds (o_M O) = nI e) (h8 : e < 8) : AW g mX6_note (fun r h' => r = none ∧ h' = lay (S, o_M' O (z_deeds' (z_past' (o_M O) (va_cpy (z_now (o_M O)) (z_past (o_M O)) 0 (64 * e) 64)) (nI (e + 1))))) 0 0 49 [some (.ref 94), none] [] (lay (S, O)) := by
  have hB := am_bringNP (g := g) (S := S) (O := O) (j := 64 * e) (by omega)
  generalize va_cpy (z_now (o_M O)) (z_past (o_M O)) 0 (64 * e) 64 = G at hB ⊢
  have e1 : 64 * z_deeds (o_M O) = nI (64 * e) := by rw [he, nlit, pk_mul]
  refine lpw gdX6_note 40 ?_
  refine ac_ar (by show [Value.ref 95, Value.int 0, Value.ref 97, Value.int (64 * z_deeds (o_M O))] = _; rw [e1]) (ac_to hB ?_)
  refine ⟨rfl, ?_⟩
  show List.set (lay _) 94 (.inr (6, [_, _, _, .int (z_deeds (o_M O) + 1), _, _, _, _, _, _, _, _, _, _, _, _, _, _, _, _, _, _, _])) = _
  rw [he, nI_1]
  rfl
theorem am_note7 {d : Nat} (hd : z_deeds (o_M O) = nI d) (h8 : d < 8) : ACe g mX6_note [.ref 94] (lay (S, O)) none (lay (S, o_M' O (z_deeds' (z_past' (o_M O) (va_cpy (z_now (o_M O)) (z_past (o_M O)) 0 (64 * d) 64)) (nI (d + 1))))) := by
  have hJ := am_note_J (g := g) (S := S) hd h8
  refine acw gdX6_note 40 rfl ⟨fun _ => hJ, fun h => ?_⟩
  exact absurd ((neqI (b := 8) (by omega) (by omega)).mp (hd.symm.trans h)) (by omega)
set_option maxRecDepth 10000 in
theorem L97d {f : Fn} {x : Int32} : (lay (S, o_M' O (z_past' (o_M O) f))).set 94 (.inr (6, [.ref 95, .ref 96, .ref 97, .int x, .ref 98, .ref 99, .ref 100, .int (z_let (o_M O)), .int (z_at (o_M O)), .int (z_tok (o_M O)), .int (z_tat (o_M O)), .ref 101, .ref 102, .int (z_seen (o_M O)), .int (z_aP (o_M O)), .int (z_aL (o_M O)), .int (z_items (o_M O)), .ref 103, .ref 104, .int (z_wc (o_M O)), .ref 105, .int (z_bc (o_M O)), .int (z_bs (o_M O))])) = lay (S, o_M' O (z_deeds' (z_past' (o_M O) f) x)) := by rfl
theorem oO_t {h : AH} {k a : Nat} {fs : List Value} {F : List Value → Prop} (hk : hat h k = some (.inr (a, fs))) (p : F fs) : oO h k a F := by
  unfold oO
  rw [hk]
  dsimp only
  rw [show Nat.beq a a = true from Nat.beq_refl a]
  exact p
theorem oV_t {o : Option Value} {v : Value} {F : Value → Prop} (h : o = some v) (p : F v) : oV o F := by rw [h]; exact p
theorem am_note_L {h : AH} {p : Fn} {fs : List Value} {Post : Option Value → AH → Prop} (h94 : hat h 94 = some (.inr (6, fs))) (hf : fs[2]? = some (.ref 97)) (h97 : hat h 97 = some (ia 512 p)) (K : AW g mX6_note Post 0 0 11 [some (.ref 94), some (.int (nI 448))] [] (h.set 97 (ia 512 (va_cpy p p 64 0 448)))) : AW g mX6_note Post 0 0 11 [some (.ref 94), some (.int (nI 0))] [] h := by
  have e0 : h = h.set 97 (ia 512 (va_cpy p p 64 0 0)) := by rw [cpy_0]; exact (hat_same h97).symm
  have key := dn (n := 448) (P := fun k => AW g mX6_note Post 0 0 11 [some (.ref 94), some (.int (nI k))] [] (h.set 97 (ia 512 (va_cpy p p 64 0 k)))) K (fun k hk ih => ?_) 0 (Nat.zero_le _)
  · rw [← e0] at key
    exact key
  · have e2 : nI k + 64 = nI (k + 64) := by simp only [nlit, nI_add]
    have g94 : hat (h.set 97 (ia 512 (va_cpy p p 64 0 k))) 94 = some (.inr (6, fs)) := (hat_ne (by decide)).trans h94
    have g97 : hat (h.set 97 (ia 512 (va_cpy p p 64 0 k))) 97 = some (ia 512 (va_cpy p p 64 0 k)) := hat_eq h97
    have e3 : upd (va_cpy p p 64 0 k) k (va_cpy p p 64 0 k (k + 64)) = va_cpy p p 64 0 (k + 1) := by
      rw [← cpy_step (f := p) (t := p) (i := 64) (j := 0) (k := k), Nat.zero_add]
      congr 1
      rw [pk_cpy_out (by omega), Nat.add_comm]
    refine lpw gdX6_note 40 ⟨fun h => absurd h (nge (n := 448) hk (by omega)), fun _ => ?_⟩
    refine oO_t g94 (oV_t hf ?_)
    refine oO_t g94 (oV_t hf ?_)
    refine ⟨512, _, g97, vin e2 (by omega) (by decide), ?_⟩
    refine ⟨512, _, g97, vlit (by omega) (by decide), ?_⟩
    rw [vcl e2 (by omega), vcl (x := nI k) rfl (by omega), List.set_set, e3]
    exact awl (by rw [← nI_1]; rfl) ih
theorem am_note8 (hd : z_deeds (o_M O) = nI 8) : ACe g mX6_note [.ref 94] (lay (S, O)) none (lay (S, o_M' O (z_deeds' (z_past' (o_M O) (va_cpy (z_now (o_M O)) (va_cpy (z_past (o_M O)) (z_past (o_M O)) 64 0 448) 0 448 64)) (nI 8)))) := by
  refine acw gdX6_note 40 rfl ⟨fun h => absurd hd h, fun _ => ?_⟩
  refine am_note_L (p := z_past (o_M O)) rfl rfl rfl ?_
  rw [L97]
  generalize va_cpy (z_past (o_M O)) (z_past (o_M O)) 64 0 448 = F
  have hJ := am_note_J (g := g) (S := S) (O := o_M' O (z_deeds' (z_past' (o_M O) F) (nI 7))) (e := 7) rfl (by decide)
  have e7 : z_deeds (o_M O) - 1 = nI 7 := by rw [hd]; rfl
  refine lpw gdX6_note 40 ⟨fun _ => ?_, fun h => absurd (nle (n := 448) (by omega) (by omega)) h⟩
  refine awf (ls' := [some (.ref 94), none]) ⟨rfl, trivial⟩ ?_
  refine (congrArg (fun z => AW g mX6_note _ 0 0 49 _ [] z) (L97d (S := S) (O := O) (f := F) (x := z_deeds (o_M O) - 1))).mpr ?_
  rw [e7]
  exact hJ
end NT
