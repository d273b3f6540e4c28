section PT
variable {g : Glob} {S : Scn} {O : Oth}
/-- what is told to the past, both sides -/
theorem deed (hR : Rw S (z_now (o_M O))) (hI : iPast O) : ∃ (PP : Nat → Scn) (kn nx : Int32) (G : Fn), ACe g mX0_remember [.ref 11, .ref 1] (lay (S, O)) none (lay (S, o_nx' (o_kn' (o_P' O PP) kn) nx)) ∧ (∀ (S' : Scn) (O' : Oth), z_now (o_M O') = z_now (o_M O) → z_past (o_M O') = z_past (o_M O) → z_deeds (o_M O') = z_deeds (o_M O) → ACe g mX6_note [.ref 94] (lay (S', O')) none (lay (S', o_M' O' (z_deeds' (z_past' (o_M O') G) kn)))) ∧ (∀ O' : Oth, o_P O' = PP → o_kn O' = kn → o_nx O' = nx → z_past (o_M O') = G → z_deeds (o_M O') = kn → iPast O') := by
  obtain ⟨d, x, h8, hx8, k1, k2, k3, hP⟩ := hI
  refine ⟨putP (o_P O) x (bec S (o_P O x)), nI (min (d + 1) 8), nI ((x + 1) % 8), nG (z_now (o_M O)) (z_past (o_M O)) d, ac_remember h8 hx8 k3 k1, ?_, ?_⟩
  · intro S' O' e1 e2 e3
    have := am_note (g := g) (S := S') (O := O') h8 (e3.trans k2)
    rw [e1, e2] at this
    exact this
  · intro O' e1 e2 e3 e4 e5
    exact past_step h8 hx8 hP hR e1 e2 e3 e4 e5
theorem Rw.edt {r : Fn} {eo : Nat → Option Nat} {m n l : Nat} (hS : ScC S r m n) (hw : WfR r eo m n) (hl : l < m) (o : Option Nat) (ho : okO n o) : Rw (s_ed' S (upd (s_ed S) l (sh o))) (upd r (56 + l) (sh o)) := by
  have h8 := hw.2.1
  have h6 := hw.2.2.2.1
  have hlo : ∀ i, i < 56 → upd r (56 + l) (sh o) i = r i := fun i hi => pk_un (by omega)
  refine ⟨fun i => if i = l then o else eo i, m, n, ⟨hS.1, hS.2.1, fun i hi => ?_, fun i hi => ?_, fun i hi => ?_, fun i hi => ?_⟩, ⟨?_, h8, ?_, h6, fun i hi => ?_, fun s hs k hk => ?_, fun i hi => ?_, fun i hi => ?_⟩⟩
  · rw [hlo i (by omega)]; exact hS.2.2.1 i hi
  · rw [hlo _ (by omega)]; exact hS.2.2.2.1 i hi
  · rw [hlo _ (by omega)]; exact hS.2.2.2.2.1 i hi
  · show upd (s_ed S) l (sh o) i = _
    by_cases h : i = l
    · subst h; rw [pk_us, pk_us]
    · rw [pk_un h, pk_un (by omega)]; exact hS.2.2.2.2.2 i hi
  · rw [hlo 4 (by decide)]; exact hw.1
  · rw [hlo 13 (by decide)]; exact hw.2.2.1
  · rw [hlo i (by omega)]; exact hw.2.2.2.2.1 i hi
  · show ∃ v : Nat, v ≤ 9 ∧ upd r (56 + l) (sh o) (14 + (7 * s + k)) = nI v
    rw [hlo _ (by omega)]; exact hw.2.2.2.2.2.1 s hs k hk
  · by_cases h : i = l
    · subst h; dsimp only; rw [pk_us, if_pos rfl]; exact ⟨rfl, ho⟩
    · dsimp only; rw [pk_un (by omega), if_neg h]; exact hw.2.2.2.2.2.2.1 i hi
  · have : i ≠ l := by omega
    simp only [this, if_false]
    exact hw.2.2.2.2.2.2.2 i hi
theorem pr_takes (l : Int32) : Pr g mX5_takes mX6_takes [.int l] := by
  rintro ⟨S, O⟩ hI
  have hI0 := hI
  obtain ⟨hR, hP, i3, i4, i5⟩ := hI
  obtain ⟨PP, kn, nx, G, dC, dM, dI⟩ := deed (g := g) hR hP
  obtain ⟨eo, m, n, hS, hw⟩ := hR
  have h8 := hw.2.1
  have h6 := hw.2.2.2.1
  have C1 := ac_hasLine' (g := g) (S := S) (O := O) l hS.1
  rcases ix l (n := m) (by omega) with h | h | ⟨j, hj, rfl⟩
  · have M1 := am_isLine' (g := g) (S := S) (O := O) l hw.1 (by omega)
    rw [ln_f (Or.inl h)] at C1 M1
    refine ⟨-1, (S, O), (S, O), ?_, ?_, hI0⟩
    · exact acw gdX5_takes 40 rfl (ac_to C1 ⟨fun h => absurd rfl h, fun _ => ⟨rfl, rfl⟩⟩)
    · exact acw gdX6_takes 40 rfl (ac_to M1 ⟨fun h => absurd rfl h, fun _ => ⟨rfl, rfl⟩⟩)
  · have M1 := am_isLine' (g := g) (S := S) (O := O) l hw.1 (by omega)
    rw [ln_f (Or.inr h)] at C1 M1
    refine ⟨-1, (S, O), (S, O), ?_, ?_, hI0⟩
    · exact acw gdX5_takes 40 rfl (ac_to C1 ⟨fun h => absurd rfl h, fun _ => ⟨rfl, rfl⟩⟩)
    · exact acw gdX6_takes 40 rfl (ac_to M1 ⟨fun h => absurd rfl h, fun _ => ⟨rfl, rfl⟩⟩)
  rw [ln_t hj (by omega)] at C1
  have hed := hw.2.2.2.2.2.2.1 j (by omega)
  have e1 : s_ed S j = sh (eo j) := (hS.2.2.2.2.2 j (by omega)).trans hed.1
  have e56 : 56 + nI j = nI (56 + j) := by simp only [nlit, nI_add]
  by_cases hn : eo j = none
  · have M1 := am_isLine' (g := g) (S := S) (O := O) (nI j) hw.1 (by omega)
    rw [ln_t hj (by omega)] at M1
    refine ⟨-2, (S, O), (S, O), ?_, ?_, hI0⟩
    · refine acw gdX5_takes 40 rfl (ac_to C1 ⟨fun _ => ?_, fun h => absurd h n01⟩)
      refine ⟨_, _, rfl, vlit (by omega) (by decide), ?_⟩
      rw [vcl rfl (by omega), show s_ed (S, O).fst j = sh (eo j) from e1, hn]
      exact ⟨fun h => absurd rfl h, fun _ => ⟨rfl, rfl⟩⟩
    · refine acw gdX6_takes 40 rfl (ac_to M1 ⟨fun _ => ?_, fun h => absurd h n01⟩)
      refine ⟨_, _, rfl, vin e56 (by omega) (by decide), ?_⟩
      rw [vcl e56 (by omega), show z_now (o_M (S, O).snd) (56 + j) = sh (eo j) from hed.1, hn]
      exact ⟨fun h => absurd rfl h, fun _ => ⟨rfl, rfl⟩⟩
  have hne : ¬ sh (eo j) = -9 := fun z => hn ((sh_none hed.2 (by omega)).mp z)
  have hRn : Rw (s_ed' S (upd (s_ed S) j (-9))) (upd (z_now (o_M O)) (56 + j) (-9)) := Rw.edt hS hw hj none (fun _ z => by cases z)
  refine ⟨sh (eo j), (s_ed' S (upd (s_ed S) j (-9)), o_nx' (o_kn' (o_P' O PP) kn) nx), (s_ed' S (upd (s_ed S) j (-9)), o_M' (o_nx' (o_kn' (o_P' O PP) kn) nx) (z_now' (z_deeds' (z_past' (o_M O) G) kn) (upd (z_now (o_M O)) (56 + j) (-9)))), ?_, ?_, ⟨hRn, dI _ rfl rfl rfl rfl rfl, i3, i4, i5⟩⟩
  · refine acw gdX5_takes 40 rfl (ac_to C1 ⟨fun _ => ?_, fun h => absurd h n01⟩)
    refine ⟨_, _, rfl, vlit (by omega) (by decide), ?_⟩
    rw [vcl (x := nI j) rfl (by omega), show s_ed (S, O).fst j = sh (eo j) from e1]
    refine ⟨fun _ => ac_to dC ?_, fun h => absurd h hne⟩
    refine ⟨_, _, rfl, vlit (by omega) (by decide), ?_⟩
    rw [vcl (x := nI j) rfl (by omega)]
    exact ⟨rfl, rfl⟩
  · generalize hT : upd (s_ed S) j (-9) = T
    have M1 := am_isLine' (g := g) (S := s_ed' S T) (O := o_nx' (o_kn' (o_P' O PP) kn) nx) (nI j) hw.1 (by omega)
    rw [ln_t hj (by omega)] at M1
    refine acw gdX6_takes 40 rfl (ac_to M1 ⟨fun _ => ?_, fun h => absurd h n01⟩)
    refine ⟨_, _, rfl, vin e56 (by omega) (by decide), ?_⟩
    rw [vcl e56 (by omega)]
    refine ⟨fun _ => ac_to (dM _ _ rfl rfl rfl) ?_, fun h => absurd (hed.1.symm.trans h) hne⟩
    refine ⟨_, _, rfl, vin e56 (by omega) (by decide), ?_⟩
    rw [vcl e56 (by omega)]
    exact ⟨congrArg (fun z => some (Value.int z)) hed.1, rfl⟩
theorem pr_puts (l s : Int32) : Pr g mX5_puts mX6_puts [.int l, .int s] := by
  rintro ⟨S, O⟩ hI
  have hI0 := hI
  obtain ⟨hR, hP, i3, i4, i5⟩ := hI
  obtain ⟨PP, kn, nx, G, dC, dM, dI⟩ := deed (g := g) hR hP
  obtain ⟨eo, m, n, hS, hw⟩ := hR
  have h8 := hw.2.1
  have h6 := hw.2.2.2.1
  have C1 := ac_hasLine' (g := g) (S := S) (O := O) l hS.1
  have C2 := ac_hasShot' (g := g) (S := S) (O := O) s hS.2.1
  have M1 := am_isLine' (g := g) (S := S) (O := O) l hw.1 (by omega)
  have M2 := am_isShot' (g := g) (S := S) (O := O) s hw.2.2.1 (by omega)
  by_cases hl : l < 0 ∨ nI m ≤ l
  · rw [ln_f hl] at C1 M1
    refine ⟨-1, (S, O), (S, O), ?_, ?_, hI0⟩
    · exact acw gdX5_puts 40 rfl (ac_to C1 ⟨fun _ => ⟨rfl, rfl⟩, fun h => absurd rfl h⟩)
    · exact acw gdX6_puts 40 rfl (ac_to M1 ⟨fun _ => ⟨rfl, rfl⟩, fun h => absurd rfl h⟩)
  obtain ⟨j, hj, rfl⟩ : ∃ j : Nat, j < m ∧ l = nI j := by
    rcases ix l (n := m) (by omega) with h | h | h
    · exact absurd (Or.inl h) hl
    · exact absurd (Or.inr h) hl
    · exact h
  rw [ln_t hj (by omega)] at C1 M1
  by_cases hs : s < 0 ∨ nI n ≤ s
  · rw [ln_f hs] at C2 M2
    refine ⟨-1, (S, O), (S, O), ?_, ?_, hI0⟩
    · exact acw gdX5_puts 40 rfl (ac_to C1 ⟨fun h => absurd h n01, fun _ => ac_to C2 ⟨fun h => absurd rfl h, fun _ => ⟨rfl, rfl⟩⟩⟩)
    · exact acw gdX6_puts 40 rfl (ac_to M1 ⟨fun h => absurd h n01, fun _ => ac_to M2 ⟨fun h => absurd rfl h, fun _ => ⟨rfl, rfl⟩⟩⟩)
  obtain ⟨t, ht, rfl⟩ : ∃ t : Nat, t < n ∧ s = nI t := by
    rcases ix s (n := n) (by omega) with h | h | h
    · exact absurd (Or.inl h) hs
    · exact absurd (Or.inr h) hs
    · exact h
  rw [ln_t ht (by omega)] at C2 M2
  have hed := hw.2.2.2.2.2.2.1 j (by omega)
  have e1 : s_ed S j = sh (eo j) := (hS.2.2.2.2.2 j (by omega)).trans hed.1
  have e56 : 56 + nI j = nI (56 + j) := by simp only [nlit, nI_add]
  have C3 := ac_covers (g := g) (S := S) (O := O) (s := t) (l := j) (by omega)
  have M3 := am_covers (g := g) (S := S) (O := O) (s := t) (l := j) (by omega)
  rw [hS.cv ht] at C3
  by_cases hq : sh (eo j) = nI t
  · refine ⟨-2, (S, O), (S, O), ?_, ?_, hI0⟩
    · refine acw gdX5_puts 40 rfl (ac_to C1 ⟨fun h => absurd h n01, fun _ => ac_to C2 ⟨fun _ => ?_, fun h => absurd h n01⟩⟩)
      refine ⟨_, _, rfl, vlit (by omega) (by decide), ?_⟩
      rw [vcl rfl (by omega)]
      exact ⟨fun _ => ⟨rfl, rfl⟩, fun h => absurd (e1.trans hq) h⟩
    · refine acw gdX6_puts 40 rfl (ac_to M1 ⟨fun h => absurd h n01, fun _ => ac_to M2 ⟨fun _ => ?_, fun h => absurd h n01⟩⟩)
      refine ⟨_, _, rfl, vin e56 (by omega) (by decide), ?_⟩
      rw [vcl e56 (by omega)]
      exact ⟨fun _ => ⟨rfl, rfl⟩, fun h => absurd (hed.1.trans hq) h⟩
  by_cases hc : cvA (fcr (z_now (o_M O))) t j = false
  · rw [hc] at C3 M3
    refine ⟨-2, (S, O), (S, O), ?_, ?_, hI0⟩
    · refine acw gdX5_puts 40 rfl (ac_to C1 ⟨fun h => absurd h n01, fun _ => ac_to C2 ⟨fun _ => ?_, fun h => absurd h n01⟩⟩)
      refine ⟨_, _, rfl, vlit (by omega) (by decide), ?_⟩
      rw [vcl rfl (by omega)]
      exact ⟨fun h => absurd (e1.symm.trans h) hq, fun _ => ac_to C3 ⟨fun h => absurd rfl h, fun _ => ⟨rfl, rfl⟩⟩⟩
    · refine acw gdX6_puts 40 rfl (ac_to M1 ⟨fun h => absurd h n01, fun _ => ac_to M2 ⟨fun _ => ?_, fun h => absurd h n01⟩⟩)
      refine ⟨_, _, rfl, vin e56 (by omega) (by decide), ?_⟩
      rw [vcl e56 (by omega)]
      exact ⟨fun h => absurd (hed.1.symm.trans h) hq, fun _ => ac_to M3 ⟨fun h => absurd rfl h, fun _ => ⟨rfl, rfl⟩⟩⟩
  rw [Bool.not_eq_false] at hc
  rw [hc] at C3
  have hRn : Rw (s_ed' S (upd (s_ed S) j (nI t))) (upd (z_now (o_M O)) (56 + j) (nI t)) := Rw.edt hS hw hj (some t) (fun _ z => by cases z; exact ht)
  refine ⟨sh (eo j), (s_ed' S (upd (s_ed S) j (nI t)), o_nx' (o_kn' (o_P' O PP) kn) nx), (s_ed' S (upd (s_ed S) j (nI t)), o_M' (o_nx' (o_kn' (o_P' O PP) kn) nx) (z_now' (z_deeds' (z_past' (o_M O) G) kn) (upd (z_now (o_M O)) (56 + j) (nI t)))), ?_, ?_, ⟨hRn, dI _ rfl rfl rfl rfl rfl, i3, i4, i5⟩⟩
  · refine acw gdX5_puts 40 rfl (ac_to C1 ⟨fun h => absurd h n01, fun _ => ac_to C2 ⟨fun _ => ?_, fun h => absurd h n01⟩⟩)
    refine ⟨_, _, rfl, vlit (by omega) (by decide), ?_⟩
    rw [vcl (x := nI j) rfl (by omega)]
    refine ⟨fun h => absurd (e1.symm.trans h) hq, fun _ => ac_to C3 ⟨fun _ => ac_to dC ?_, fun h => absurd h n01⟩⟩
    refine ⟨_, _, rfl, vlit (by omega) (by decide), ?_⟩
    rw [vcl (x := nI j) rfl (by omega)]
    exact ⟨congrArg (fun z => some (Value.int z)) e1, rfl⟩
  · generalize hT : upd (s_ed S) j (nI t) = T
    have M1 := am_isLine' (g := g) (S := s_ed' S T) (O := o_nx' (o_kn' (o_P' O PP) kn) nx) (nI j) hw.1 (by omega)
    have M2 := am_isShot' (g := g) (S := s_ed' S T) (O := o_nx' (o_kn' (o_P' O PP) kn) nx) (nI t) hw.2.2.1 (by omega)
    have M3 := am_covers (g := g) (S := s_ed' S T) (O := o_nx' (o_kn' (o_P' O PP) kn) nx) (s := t) (l := j) (by omega)
    rw [ln_t hj (by omega)] at M1
    rw [ln_t ht (by omega)] at M2
    rw [show cvA (fcr (z_now (o_M (o_nx' (o_kn' (o_P' O PP) kn) nx)))) t j = true from hc] at M3
    refine acw gdX6_puts 40 rfl (ac_to M1 ⟨fun h => absurd h n01, fun _ => ac_to M2 ⟨fun _ => ?_, fun h => absurd h n01⟩⟩)
    refine ⟨_, _, rfl, vin e56 (by omega) (by decide), ?_⟩
    rw [vcl e56 (by omega)]
    refine ⟨fun h => absurd (hed.1.symm.trans h) hq, fun _ => ac_to M3 ⟨fun _ => ac_to (dM _ _ rfl rfl rfl) ?_, fun h => absurd h n01⟩⟩
    refine ⟨_, _, rfl, vin e56 (by omega) (by decide), ?_⟩
    rw [vcl e56 (by omega)]
    exact ⟨congrArg (fun z => some (Value.int z)) hed.1, rfl⟩
end PT
