def wAt (i : Nat) (x : Cond) : Bool := decide (lw_tbl[i]? = some x) && goodWord x
def wAt0 (i : Nat) (x : Cond) : Bool := decide (lw_tbl[i]? = some x)
theorem wAt_mem {i : Nat} {x : Cond} (h : wAt i x = true) : x ∈ lw_g := by
  simp only [wAt, Bool.and_eq_true, decide_eq_true_eq] at h
  exact List.mem_filter.mpr ⟨List.mem_of_getElem? h.1, h.2⟩
theorem wAt0_mem {i : Nat} {x : Cond} (h : wAt0 i x = true) : x ∈ lw_tbl := List.mem_of_getElem? (of_decide_eq_true h)
def ilen (i : Instr) (len : Nat) : Bool := match i with
  | .bipush _ | .ldc _ | .iload _ | .fload _ | .lload _ | .aload _ | .istore _ | .fstore _ | .lstore _ | .astore _ | .newarray _ => Nat.beq len 2
  | .sipush _ | .ldc_w _ | .ldc2_w _ | .iinc _ _ | .if_icmp _ _ | .ifCond _ _ | .goto _ | .getfield _ | .putfield _ | .getstatic _ | .invokevirtual _ | .invokespecial _ | .invokestatic _ | .new _ | .anewarray _ => Nat.beq len 3
  | .multianewarray _ _ => Nat.beq len 4
  | .tableswitch _ _ _ _ => true
  | _ => Nat.beq len 1
def chkR (M M' : Mth) : Bool := Nat.ble (m_dep M' + 1) (m_dep M) && Nat.ble (8 + (m_nL M' + 11) + 40 * m_dep M') (40 * m_dep M)
def chkX (mt : Nat → Mth) (M : Mth) (pc : Nat) (i : Instr) (a b c : Nat) (v : Int32) : Bool := match i with
  | .iconst n => decide (Int32.ofInt n = v)
  | .bipush n => decide ((Int8.ofInt n).toInt32 = v)
  | .sipush n => decide ((Int16.ofInt n).toInt32 = v)
  | .lconst n => decide (Int64.ofNat (n : Nat) = Int64.ofNat a)
  | .fconst n => decide (n = 0)
  | .iinc _ n => decide (Int32.ofInt n = v)
  | .ldc idx => match b with
    | 0 => wAt c (.constant (m_own M) idx v)
    | 1 => wAt c (.constantFloat (m_own M) idx (UInt32.ofNat a))
    | _ => decide (m_own M = "SceneShots$Reader") && ((Nat.beq idx 47 && Nat.beq a 1000) || (Nat.beq idx 56 && Nat.beq a 1001) || (Nat.beq idx 61 && Nat.beq a 1002))
  | .ldc_w idx => wAt c (.constant (m_own M) idx v)
  | .ldc2_w idx => wAt c (.constantLong (m_own M) idx (Int64.ofNat a))
  | .if_icmp _ off => decide ((pc : Int) + off = (a : Int))
  | .ifCond _ off => decide ((pc : Int) + off = (a : Int))
  | .goto off => decide ((pc : Int) + off = (a : Int))
  | .tableswitch dflt lo hi offs => decide ((pc : Int) + dflt = (a : Int)) && decide (lo + offs.toList.length = hi + 1) && offs.toList.all (fun o => decide (0 ≤ (pc : Int) + o))
  | .getfield idx => match Nat.blt a 7 with
    | true => Nat.blt b (ctN a) && wAt c (.fieldLink (m_own M) idx (ctT a b).1 (ctT a b).2.1 (ctT a b).2.2.1)
    | false => wAt c (.fieldLink (m_own M) idx "java/lang/String" (roN b).1 (roN b).2)
  | .putfield idx => Nat.blt a 7 && Nat.blt b (ctN a) && wAt c (.fieldLink (m_own M) idx (ctT a b).1 (ctT a b).2.1 (ctT a b).2.2.1) && (decide ((ctT a b).2.2.2 = false) || (decide ((m_y M).name = "<init>") && decide ((ctT a b).1 = m_own M)))
  | .getstatic idx => match a with
    | 0 => wAt0 c (.fieldLinkNest (m_own M) idx "SceneShots" "LOWEST" "[I" "SceneShots")
    | 1 => wAt0 c (.fieldLinkNest (m_own M) idx "SceneShots" "HIGHEST" "[I" "SceneShots")
    | 2 => wAt c (.fieldLink (m_own M) idx "java/lang/String" "COMPACT_STRINGS" "Z")
    | _ => wAt c (.fieldLink (m_own M) idx "jdk/internal/util/Preconditions" "SIOOBE_FORMATTER" "Ljava/util/function/BiFunction;")
  | .invokevirtual idx => Nat.blt a 200 && chkR M (mt a) && wAt c (.methodLink (m_own M) idx (m_y (mt a))) && wAt (m_wx (mt a)).1 (.instanceMethod (m_y (mt a))) && wAt (m_wx (mt a)).2.1 (.selects (m_y (mt a)).cls (m_y (mt a)) (m_y (mt a)))
  | .invokespecial idx => match b with
    | 2 => Nat.ble 1 (m_dep M) && wAt c (.methodLink (m_own M) idx Lib.objectInit)
    | _ => Nat.blt a 200 && chkR M (mt a) && (wAt c (.methodLink (m_own M) idx (m_y (mt a))) || wAt0 c (.methodLinkNest (m_own M) idx (m_y (mt a)) "SceneShots")) && wAt (m_wx (mt a)).1 (.instanceMethod (m_y (mt a))) && decide ((m_y (mt a)).name = "<init>") && decide (m_ret (mt a) = none)
  | .invokestatic idx => match b with
    | 1 => Nat.ble 1 (m_dep M) && wAt c (.methodLink (m_own M) idx arraycopyName)
    | 2 => Nat.ble 1 (m_dep M) && wAt c (.methodLink (m_own M) idx Lib.Math.abs.name)
    | 3 => Nat.ble 1 (m_dep M) && wAt c (.methodLink (m_own M) idx Lib.Math.min.name)
    | 9 => true
    | _ => Nat.blt a 200 && chkR M (mt a) && wAt c (.methodLink (m_own M) idx (m_y (mt a))) && wAt (m_wx (mt a)).1 (.static (m_y (mt a)))
  | .new idx => Nat.blt a 7 && wAt c (.classLink (m_own M) idx (ctR a)) && wAt b (.instantiable (ctR a) (ctN a)) && wAt v.toNatClampNeg (.initialized (ctR a))
  | .newarray t => match a with
    | 0 => decide (t = .int)
    | 1 => decide (t = .boolean)
    | _ => false
  | .anewarray idx => wAt c (.classLink (m_own M) idx "SceneShots$Scene")
  | .multianewarray idx d => decide (d = 2) && wAt c (.classLink (m_own M) idx "[[I")
  | .ireturn => (m_ret M).isSome
  | .lreturn => decide (m_ret M = some .long)
  | .freturn => decide (m_ret M = some .float)
  | .return_ => decide (m_ret M = none)
  | _ => true
def chkE (mt : Nat → Mth) (M : Mth) (e : En) : Bool := decide (decode (m_cc M) e.1 = .ok (e.2.2.1, e.2.1)) && ilen e.2.2.1 e.2.1 && chkX mt M e.1 e.2.2.1 e.2.2.2.1 e.2.2.2.2.1 e.2.2.2.2.2.1 e.2.2.2.2.2.2
def chkL (mt : Nat → Mth) (M : Mth) : List En → Bool
  | [] => true
  | e :: r => chkE mt M e && (match r with
    | [] => true
    | e2 :: _ => Nat.beq (e.1 + e.2.1) e2.1) && chkL mt M r
theorem dropTo_chk {mt : Nat → Mth} {M : Mth} (t : Nat) : ∀ l : List En, chkL mt M l = true → chkL mt M (dropTo t l) = true ∧ ∀ e r, dropTo t l = e :: r → e.1 = t := by
  intro l
  induction l with
  | nil => intro h; exact ⟨h, fun e r z => by cases z⟩
  | cons e l ih =>
    intro h
    unfold dropTo
    cases hb : Nat.beq e.1 t with
    | true => exact ⟨h, fun e2 r z => by cases z; exact Nat.eq_of_beq_eq_true hb⟩
    | false =>
      simp only [chkL, Bool.and_eq_true] at h
      exact ih h.2
def Sd (g : Glob) (mt : Nat → Mth) (M : Mth) (Post : Option Value → AH → Prop) (F : FT) : Prop := ∀ (r : List En) (ls : List (Option Value)) (st : List Value) (h : AH) (cl sl : Nat), chkL mt M r = true → F r ls st h cl sl → ∀ (e : En) (r' : List En), r = e :: r' → AW g M Post cl sl e.1 ls st h
theorem nx_of {g : Glob} {mt : Nat → Mth} {M : Mth} {Post : Option Value → AH → Prop} {F : FT} (hF : Sd g mt M Post F) {e : En} {r : List En} (hc : chkL mt M (e :: r) = true) {ls : List (Option Value)} {st : List Value} {h : AH} {cl sl : Nat} (hn : nx g M Post F r ls st h cl sl) : AW g M Post cl sl (e.1 + e.2.1) ls st h := by
  simp only [chkL, Bool.and_eq_true] at hc
  cases r with
  | nil => exact hn.elim
  | cons e2 r2 =>
    have e1 : e.1 + e.2.1 = e2.1 := Nat.eq_of_beq_eq_true hc.1.2
    rw [e1]
    replace hn : (match List.elem e2.1 (m_stops M) with
      | true => AW g M Post cl sl e2.1 ls st h
      | false => F (e2 :: r2) ls st h cl sl) := hn
    cases hs : (m_stops M).elem e2.1 with
    | true => rw [hs] at hn; exact hn
    | false => rw [hs] at hn; exact hF _ _ _ _ _ _ hc.2 hn e2 r2 rfl
theorem jp_of {g : Glob} {mt : Nat → Mth} {M : Mth} {Post : Option Value → AH → Prop} {F : FT} (hF : Sd g mt M Post F) (hF0 : ∀ ls st h cl sl, ¬ F [] ls st h cl sl) (hc : chkL mt M (m_code M) = true) {t : Nat} {ls : List (Option Value)} {st : List Value} {h : AH} {cl sl : Nat} (hn : jp g M Post F t ls st h cl sl) : AW g M Post cl sl t ls st h := by
  unfold jp at hn
  cases hs : (m_stops M).elem t with
  | true => rw [hs] at hn; exact hn
  | false =>
    rw [hs] at hn
    obtain ⟨h1, h2⟩ := dropTo_chk (mt := mt) (M := M) t (m_code M) hc
    cases hd : dropTo t (m_code M) with
    | nil => rw [hd] at hn; exact (hF0 _ _ _ _ _ hn).elim
    | cons e r =>
      rw [hd] at hn h1
      have := hF _ _ _ _ _ _ h1 hn e r rfl
      rw [h2 e r hd] at this
      exact this
theorem pop_st {n : Nat} {st As r : List Value} (h : popN n [] st = some (As, r)) : st = As.reverse ++ r ∧ As.length = n := by
  obtain ⟨h1, h2⟩ := popN_eq n [] st As r h
  exact ⟨by simpa using h1, by simpa using h2⟩
theorem cok_of {M M' : Mth} {cl sl : Nat} {ls : List (Option Value)} {st : List Value} {h : AH} {P : Prop} (hh : cok M M' cl sl ls st h P) : (cl + m_mc M' ≤ m_mc M ∧ sl + m_ms M' ≤ m_ms M) ∧ (st.map fun v => v.category).sum ≤ 8 ∧ (m_mc M' = 0 ∨ (h.length ≤ 1000 ∧ okS h.length st = true ∧ okL h.length ls = true)) ∧ P := by
  obtain ⟨h1, h2⟩ := bIf_of hh
  simp only [Bool.and_eq_true] at h1
  refine ⟨⟨Nat.le_of_ble_eq_true h1.1.1, Nat.le_of_ble_eq_true h1.1.2⟩, Nat.le_of_ble_eq_true h1.2, ?_⟩
  cases hb : Nat.beq (m_mc M') 0 with
  | true => rw [hb] at h2; exact ⟨Or.inl (Nat.eq_of_beq_eq_true hb), h2⟩
  | false => rw [hb] at h2; exact ⟨Or.inr h2.1, h2.2⟩
theorem mok_of {M : Mth} {cl sl : Nat} {ls : List (Option Value)} {st : List Value} {h : AH} {dc ds : Nat} {P : Prop} (hh : mok M cl sl ls st h dc ds P) : m_mc M ≠ 0 ∧ cl + dc ≤ m_mc M ∧ sl + ds ≤ m_ms M ∧ okH h = true ∧ okS h.length st = true ∧ okL h.length ls = true ∧ P := by
  obtain ⟨h1, h2⟩ := bIf_of hh
  simp only [Bool.and_eq_true, Bool.not_eq_true'] at h1
  exact ⟨fun z => (by have h9 := h1.1.1; rw [z] at h9; exact absurd h9 (by decide)), Nat.le_of_ble_eq_true h1.1.2, Nat.le_of_ble_eq_true h1.2, h2.1.1, h2.1.2.1, h2.1.2.2, h2.2⟩
theorem rcv_of {M' : Mth} {h : AH} {b : Nat} {P : Prop} (hh : rcv M' h b P) : ((∃ a fs, a < 7 ∧ hat h b = some (.inr (a, fs)) ∧ ctR a = (m_y M').cls) ∨ ((b = 1000 ∨ b = 1001 ∨ b = 1002) ∧ (m_y M').cls = "java/lang/String")) ∧ P := by
  unfold rcv at hh
  cases hb : Nat.blt b 1000 with
  | true =>
    rw [hb] at hh
    dsimp only at hh
    split at hh
    · rename_i a fs he
      obtain ⟨z1, z2⟩ := bIf_of hh
      simp only [Bool.and_eq_true, decide_eq_true_eq] at z1
      refine ⟨Or.inl ⟨a, fs, Nat.le_of_ble_eq_true z1.1, ?_, z1.2⟩, z2⟩
      unfold hat
      rw [hb]
      exact he
    · exact hh.elim
  | false =>
    rw [hb] at hh
    obtain ⟨z1, z2⟩ := bIf_of hh
    simp only [Bool.and_eq_true, Bool.or_eq_true, decide_eq_true_eq] at z1
    refine ⟨Or.inr ⟨?_, z1.2⟩, z2⟩
    rcases z1.1 with (z | z) | z
    · exact Or.inl (Nat.eq_of_beq_eq_true z)
    · exact Or.inr (Or.inl (Nat.eq_of_beq_eq_true z))
    · exact Or.inr (Or.inr (Nat.eq_of_beq_eq_true z))
theorem ret9_of {M : Mth} {cl sl : Nat} {P : Prop} (h : ret9 M cl sl P) : cl ≤ m_mc M ∧ sl ≤ m_ms M ∧ P := by
  obtain ⟨h1, h2⟩ := bIf_of h
  simp only [Bool.and_eq_true] at h1
  exact ⟨Nat.le_of_ble_eq_true h1.1, Nat.le_of_ble_eq_true h1.2, h2⟩
theorem zok_of {ty : Option FieldType} {v : Int32} {P : Prop} (h : zok ty v P) : ∃ t, ty = some t ∧ narrow t (.int v) = .int v ∧ P := by
  unfold zok at h
  split at h
  · exact ⟨.int, rfl, rfl, h⟩
  · exact ⟨_, rfl, h⟩
  · exact h.elim
theorem wpS_sound {g : Glob} {mt : Nat → Mth} {M : Mth} {Post : Option Value → AH → Prop} (hmt : ∀ a, a < 200 → MOK (mt a)) (hcode : chkL mt M (m_code M) = true) {F : FT} (hF : Sd g mt M Post F) (hF0 : ∀ ls st h cl sl, ¬ F [] ls st h cl sl) : Sd g mt M Post (wpS g mt M Post F) := by
  intro r0 ls st h cl sl hcr hw e r' hr
  subst hr
  have hce := hcr
  simp only [chkL, Bool.and_eq_true] at hce
  obtain ⟨⟨hce, -⟩, -⟩ := hce
  obtain ⟨pc, len, i, a, b, c, v⟩ := e
  have N : ∀ {ls : List (Option Value)} {st : List Value} {h : AH} {cl sl : Nat}, nx g M Post F r' ls st h cl sl → AW g M Post cl sl (pc + len) ls st h := fun z => nx_of hF hcr z
  have J : ∀ {t : Nat} {ls : List (Option Value)} {st : List Value} {h : AH} {cl sl : Nat}, jp g M Post F t ls st h cl sl → AW g M Post cl sl t ls st h := fun z => jp_of hF hF0 hcode z
  simp only [chkE, Bool.and_eq_true, decide_eq_true_eq] at hce
  obtain ⟨⟨hd, hlen⟩, hx⟩ := hce
  show AW g M Post cl sl pc ls st h
  cases i with
  | iconst n =>
    have hl : len = 1 := Nat.eq_of_beq_eq_true hlen
    subst hl
    exact aw_iconst hd (of_decide_eq_true hx) (N hw)
  | bipush n =>
    have hl : len = 2 := Nat.eq_of_beq_eq_true hlen
    subst hl
    exact aw_bipush hd (of_decide_eq_true hx) (N hw)
  | sipush n =>
    have hl : len = 3 := Nat.eq_of_beq_eq_true hlen
    subst hl
    exact aw_sipush hd (of_decide_eq_true hx) (N hw)
  | lconst n =>
    have hl : len = 1 := Nat.eq_of_beq_eq_true hlen
    subst hl
    exact aw_lconst hd (of_decide_eq_true hx) (N hw)
  | fconst n =>
    have hl : len = 1 := Nat.eq_of_beq_eq_true hlen
    subst hl
    have hz : n = 0 := of_decide_eq_true hx
    subst hz
    exact aw_fconst0 hd (N hw)
  | ldc idx =>
    have hl : len = 2 := Nat.eq_of_beq_eq_true hlen
    subst hl
    match b, hx, hw with
    | 0, hx, hw => exact aw_ldc hd (wAt_mem hx) (N hw)
    | 1, hx, hw => exact aw_ldcf hd (wAt_mem hx) (N hw)
    | b + 2, hx, hw =>
      have hx2 : (decide (m_own M = "SceneShots$Reader") && ((Nat.beq idx 47 && Nat.beq a 1000) || (Nat.beq idx 56 && Nat.beq a 1001) || (Nat.beq idx 61 && Nat.beq a 1002))) = true := hx
      simp only [Bool.and_eq_true, Bool.or_eq_true, decide_eq_true_eq] at hx2
      obtain ⟨ho, (⟨z1, z2⟩ | ⟨z1, z2⟩) | ⟨z1, z2⟩⟩ := hx2
      · have z1 := Nat.eq_of_beq_eq_true z1
        have z2 := Nat.eq_of_beq_eq_true z2
        subst z1; subst z2
        exact aw_ldcS (tx := "players") hd (by decide) (fun G => by rw [ho]; exact G.2.2.2.2.2.2.2.1.1) (N hw)
      · have z1 := Nat.eq_of_beq_eq_true z1
        have z2 := Nat.eq_of_beq_eq_true z2
        subst z1; subst z2
        exact aw_ldcS (tx := "lines") hd (by decide) (fun G => by rw [ho]; exact G.2.2.2.2.2.2.2.1.2.1) (N hw)
      · have z1 := Nat.eq_of_beq_eq_true z1
        have z2 := Nat.eq_of_beq_eq_true z2
        subst z1; subst z2
        exact aw_ldcS (tx := "shot") hd (by decide) (fun G => by rw [ho]; exact G.2.2.2.2.2.2.2.1.2.2.1) (N hw)
  | ldc_w idx =>
    have hl : len = 3 := Nat.eq_of_beq_eq_true hlen
    subst hl
    exact aw_ldcw hd (wAt_mem hx) (N hw)
  | ldc2_w idx =>
    have hl : len = 3 := Nat.eq_of_beq_eq_true hlen
    subst hl
    exact aw_ldc2 hd (wAt_mem hx) (N hw)
  | iload_n j =>
    have hl : len = 1 := Nat.eq_of_beq_eq_true hlen
    subst hl
    obtain ⟨x, h1, hw⟩ := lI_of hw
    exact aw_iload_n hd h1 (N hw)
  | iload j =>
    have hl : len = 2 := Nat.eq_of_beq_eq_true hlen
    subst hl
    obtain ⟨x, h1, hw⟩ := lI_of hw
    exact aw_iload hd h1 (N hw)
  | fload_n j =>
    have hl : len = 1 := Nat.eq_of_beq_eq_true hlen
    subst hl
    obtain ⟨x, h1, hw⟩ := lF_of hw
    exact aw_fload_n hd h1 (N hw)
  | fload j =>
    have hl : len = 2 := Nat.eq_of_beq_eq_true hlen
    subst hl
    obtain ⟨x, h1, hw⟩ := lF_of hw
    exact aw_fload hd h1 (N hw)
  | lload_n j =>
    have hl : len = 1 := Nat.eq_of_beq_eq_true hlen
    subst hl
    obtain ⟨x, h1, hw⟩ := lL_of hw
    exact aw_lload_n hd h1 (N hw)
  | lload j =>
    have hl : len = 2 := Nat.eq_of_beq_eq_true hlen
    subst hl
    obtain ⟨x, h1, hw⟩ := lL_of hw
    exact aw_lload hd h1 (N hw)
  | aload_n j =>
    have hl : len = 1 := Nat.eq_of_beq_eq_true hlen
    subst hl
    obtain ⟨x, h1, hw⟩ := lR_of hw
    exact aw_aload_n hd h1 (N hw)
  | aload j =>
    have hl : len = 2 := Nat.eq_of_beq_eq_true hlen
    subst hl
    obtain ⟨x, h1, hw⟩ := lR_of hw
    exact aw_aload hd h1 (N hw)
  | istore_n j =>
    have hl : len = 1 := Nat.eq_of_beq_eq_true hlen
    subst hl
    obtain ⟨x, st, rfl, hw⟩ := s1i_of hw
    obtain ⟨h1, hw⟩ := bIf_of hw
    simp only [Bool.and_eq_true, Bool.not_eq_true'] at h1
    exact aw_istore_n hd rfl (Nat.le_of_ble_eq_true h1.1) h1.2 (N hw)
  | istore j =>
    have hl : len = 2 := Nat.eq_of_beq_eq_true hlen
    subst hl
    obtain ⟨x, st, rfl, hw⟩ := s1i_of hw
    obtain ⟨h1, hw⟩ := bIf_of hw
    simp only [Bool.and_eq_true, Bool.not_eq_true'] at h1
    exact aw_istore hd (Nat.le_of_ble_eq_true h1.1) h1.2 (N hw)
  | fstore_n j =>
    have hl : len = 1 := Nat.eq_of_beq_eq_true hlen
    subst hl
    obtain ⟨x, st, rfl, hw⟩ := s1f_of hw
    obtain ⟨h1, hw⟩ := bIf_of hw
    simp only [Bool.and_eq_true, Bool.not_eq_true'] at h1
    exact aw_fstore_n hd rfl (Nat.le_of_ble_eq_true h1.1) h1.2 (N hw)
  | fstore j =>
    have hl : len = 2 := Nat.eq_of_beq_eq_true hlen
    subst hl
    obtain ⟨x, st, rfl, hw⟩ := s1f_of hw
    obtain ⟨h1, hw⟩ := bIf_of hw
    simp only [Bool.and_eq_true, Bool.not_eq_true'] at h1
    exact aw_fstore hd (Nat.le_of_ble_eq_true h1.1) h1.2 (N hw)
  | astore_n j =>
    have hl : len = 1 := Nat.eq_of_beq_eq_true hlen
    subst hl
    obtain ⟨x, st, rfl, hw⟩ := s1r_of hw
    obtain ⟨h1, hw⟩ := bIf_of hw
    simp only [Bool.and_eq_true, Bool.not_eq_true'] at h1
    exact aw_astore_n hd rfl (Nat.le_of_ble_eq_true h1.1) h1.2 (N hw)
  | astore j =>
    have hl : len = 2 := Nat.eq_of_beq_eq_true hlen
    subst hl
    obtain ⟨x, st, rfl, hw⟩ := s1r_of hw
    obtain ⟨h1, hw⟩ := bIf_of hw
    simp only [Bool.and_eq_true, Bool.not_eq_true'] at h1
    exact aw_astore hd (Nat.le_of_ble_eq_true h1.1) h1.2 (N hw)
  | lstore_n j =>
    have hl : len = 1 := Nat.eq_of_beq_eq_true hlen
    subst hl
    obtain ⟨x, st, rfl, hw⟩ := s1l_of hw
    obtain ⟨h1, hw⟩ := bIf_of hw
    simp only [Bool.and_eq_true, Bool.not_eq_true'] at h1
    exact aw_lstore_n hd rfl (Nat.le_of_ble_eq_true h1.1) h1.2 (N hw)
  | lstore j =>
    have hl : len = 2 := Nat.eq_of_beq_eq_true hlen
    subst hl
    obtain ⟨x, st, rfl, hw⟩ := s1l_of hw
    obtain ⟨h1, hw⟩ := bIf_of hw
    simp only [Bool.and_eq_true, Bool.not_eq_true'] at h1
    exact aw_lstore hd (Nat.le_of_ble_eq_true h1.1) h1.2 (N hw)
  | iinc j n =>
    have hl : len = 3 := Nat.eq_of_beq_eq_true hlen
    subst hl
    obtain ⟨x, h0, hw⟩ := lI_of hw
    obtain ⟨h1, hw⟩ := bIf_of hw
    simp only [Bool.and_eq_true, Bool.not_eq_true'] at h1
    exact aw_iinc hd h0 (of_decide_eq_true hx) (Nat.le_of_ble_eq_true h1.1) h1.2 (N hw)
  | iadd =>
    have hl : len = 1 := Nat.eq_of_beq_eq_true hlen
    subst hl
    obtain ⟨x, y, st, rfl, hw⟩ := s2i_of hw
    exact aw_iadd hd (N hw)
  | isub =>
    have hl : len = 1 := Nat.eq_of_beq_eq_true hlen
    subst hl
    obtain ⟨x, y, st, rfl, hw⟩ := s2i_of hw
    exact aw_isub hd (N hw)
  | imul =>
    have hl : len = 1 := Nat.eq_of_beq_eq_true hlen
    subst hl
    obtain ⟨x, y, st, rfl, hw⟩ := s2i_of hw
    exact aw_imul hd (N hw)
  | iand =>
    have hl : len = 1 := Nat.eq_of_beq_eq_true hlen
    subst hl
    obtain ⟨x, y, st, rfl, hw⟩ := s2i_of hw
    exact aw_iand hd (N hw)
  | ior =>
    have hl : len = 1 := Nat.eq_of_beq_eq_true hlen
    subst hl
    obtain ⟨x, y, st, rfl, hw⟩ := s2i_of hw
    exact aw_ior hd (N hw)
  | ixor =>
    have hl : len = 1 := Nat.eq_of_beq_eq_true hlen
    subst hl
    obtain ⟨x, y, st, rfl, hw⟩ := s2i_of hw
    exact aw_ixor hd (N hw)
  | ishl =>
    have hl : len = 1 := Nat.eq_of_beq_eq_true hlen
    subst hl
    obtain ⟨x, y, st, rfl, hw⟩ := s2i_of hw
    exact aw_ishl hd (N hw)
  | ishr =>
    have hl : len = 1 := Nat.eq_of_beq_eq_true hlen
    subst hl
    obtain ⟨x, y, st, rfl, hw⟩ := s2i_of hw
    exact aw_ishr hd (N hw)
  | iushr =>
    have hl : len = 1 := Nat.eq_of_beq_eq_true hlen
    subst hl
    obtain ⟨x, y, st, rfl, hw⟩ := s2i_of hw
    exact aw_iushr hd (N hw)
  | ineg =>
    have hl : len = 1 := Nat.eq_of_beq_eq_true hlen
    subst hl
    obtain ⟨x, st, rfl, hw⟩ := s1i_of hw
    exact aw_ineg hd (N hw)
  | i2l =>
    have hl : len = 1 := Nat.eq_of_beq_eq_true hlen
    subst hl
    obtain ⟨x, st, rfl, hw⟩ := s1i_of hw
    exact aw_i2l hd (N hw)
  | i2c =>
    have hl : len = 1 := Nat.eq_of_beq_eq_true hlen
    subst hl
    obtain ⟨x, st, rfl, hw⟩ := s1i_of hw
    exact aw_i2c hd (N hw)
  | i2f =>
    have hl : len = 1 := Nat.eq_of_beq_eq_true hlen
    subst hl
    obtain ⟨x, st, rfl, hw⟩ := s1i_of hw
    exact aw_i2f hd (N hw)
  | f2i =>
    have hl : len = 1 := Nat.eq_of_beq_eq_true hlen
    subst hl
    obtain ⟨x, st, rfl, hw⟩ := s1f_of hw
    exact aw_f2i hd (N hw)
  | ladd =>
    have hl : len = 1 := Nat.eq_of_beq_eq_true hlen
    subst hl
    obtain ⟨x, y, st, rfl, hw⟩ := s2l_of hw
    exact aw_ladd hd (N hw)
  | lsub =>
    have hl : len = 1 := Nat.eq_of_beq_eq_true hlen
    subst hl
    obtain ⟨x, y, st, rfl, hw⟩ := s2l_of hw
    exact aw_lsub hd (N hw)
  | lmul =>
    have hl : len = 1 := Nat.eq_of_beq_eq_true hlen
    subst hl
    obtain ⟨x, y, st, rfl, hw⟩ := s2l_of hw
    exact aw_lmul hd (N hw)
  | lcmp =>
    have hl : len = 1 := Nat.eq_of_beq_eq_true hlen
    subst hl
    obtain ⟨x, y, st, rfl, hw⟩ := s2l_of hw
    exact aw_lcmp hd (N hw)
  | fadd =>
    have hl : len = 1 := Nat.eq_of_beq_eq_true hlen
    subst hl
    obtain ⟨x, y, st, rfl, h1, hw⟩ := s2f_of hw
    exact aw_fadd hd h1 (N hw)
  | fmul =>
    have hl : len = 1 := Nat.eq_of_beq_eq_true hlen
    subst hl
    obtain ⟨x, y, st, rfl, h1, hw⟩ := s2f_of hw
    exact aw_fmul hd h1 (N hw)
  | fdiv =>
    have hl : len = 1 := Nat.eq_of_beq_eq_true hlen
    subst hl
    obtain ⟨x, y, st, rfl, h1, hw⟩ := s2f_of hw
    exact aw_fdiv hd h1 (N hw)
  | fcmp op =>
    have hl : len = 1 := Nat.eq_of_beq_eq_true hlen
    subst hl
    obtain ⟨x, y, st, rfl, hw⟩ := s2f_of hw
    exact aw_fcmp hd (N hw)
  | dup =>
    have hl : len = 1 := Nat.eq_of_beq_eq_true hlen
    subst hl
    obtain ⟨x, st, rfl, h1, hw⟩ := s1v_of hw
    exact aw_dup hd h1 (N hw)
  | pop =>
    have hl : len = 1 := Nat.eq_of_beq_eq_true hlen
    subst hl
    obtain ⟨x, st, rfl, h1, hw⟩ := s1v_of hw
    exact aw_pop hd h1 (N hw)
  | dup2 =>
    have hl : len = 1 := Nat.eq_of_beq_eq_true hlen
    subst hl
    obtain ⟨x, y, st, rfl, h1, h2, hw⟩ := s2v_of hw
    exact aw_dup2 hd h1 h2 (N hw)
  | if_icmp cnd off =>
    have hl : len = 3 := Nat.eq_of_beq_eq_true hlen
    subst hl
    obtain ⟨x, y, st, rfl, hw⟩ := s2i_of hw
    have ht : (pc : Int) + off = (a : Int) := of_decide_eq_true hx
    cases cnd with
    | eq => exact aw_icmp_eq hd ht (fun z => J (hw.1 z)) (fun z => N (hw.2 z))
    | ne => exact aw_icmp_ne hd ht (fun z => J (hw.1 z)) (fun z => N (hw.2 z))
    | lt => exact aw_icmp_lt hd ht (fun z => J (hw.1 z)) (fun z => N (hw.2 z))
    | ge => exact aw_icmp_ge hd ht (fun z => J (hw.1 z)) (fun z => N (hw.2 z))
    | gt => exact aw_icmp_gt hd ht (fun z => J (hw.1 z)) (fun z => N (hw.2 z))
    | le => exact aw_icmp_le hd ht (fun z => J (hw.1 z)) (fun z => N (hw.2 z))
  | ifCond cnd off =>
    have hl : len = 3 := Nat.eq_of_beq_eq_true hlen
    subst hl
    obtain ⟨x, st, rfl, hw⟩ := s1i_of hw
    have ht : (pc : Int) + off = (a : Int) := of_decide_eq_true hx
    cases cnd with
    | eq => exact aw_if_eq hd ht (fun z => J (hw.1 z)) (fun z => N (hw.2 z))
    | ne => exact aw_if_ne hd ht (fun z => J (hw.1 z)) (fun z => N (hw.2 z))
    | lt => exact aw_if_lt hd ht (fun z => J (hw.1 z)) (fun z => N (hw.2 z))
    | ge => exact aw_if_ge hd ht (fun z => J (hw.1 z)) (fun z => N (hw.2 z))
    | gt => exact aw_if_gt hd ht (fun z => J (hw.1 z)) (fun z => N (hw.2 z))
    | le => exact aw_if_le hd ht (fun z => J (hw.1 z)) (fun z => N (hw.2 z))
  | goto off =>
    have hl : len = 3 := Nat.eq_of_beq_eq_true hlen
    subst hl
    exact aw_goto hd (of_decide_eq_true hx) (J hw)
  | tableswitch dflt lo hi offs =>
    obtain ⟨x, st, rfl, h1, hw⟩ := s1i_of hw
    have hx2 : (decide ((pc : Int) + dflt = (a : Int)) && decide (lo + offs.toList.length = hi + 1) && offs.toList.all (fun o => decide (0 ≤ (pc : Int) + o))) = true := hx
    simp only [Bool.and_eq_true, decide_eq_true_eq] at hx2
    refine aw_tsw hd hx2.1.1 (fun z => J (h1 z)) (fun z1 z2 => ?_)
    obtain ⟨off, y1, y2⟩ := swp_get offs.toList lo hw (by omega) (by have := hx2.1.2; omega)
    have y3 : 0 ≤ (pc : Int) + off := of_decide_eq_true (List.all_eq_true.mp hx2.2 off (List.mem_of_getElem? y1))
    exact ⟨off, ((pc : Int) + off).toNat, by rw [← Array.getElem?_toList]; exact y1, by omega, J y2⟩
  | getfield idx =>
    have hl : len = 3 := Nat.eq_of_beq_eq_true hlen
    subst hl
    obtain ⟨k, st, rfl, hw⟩ := s1r_of hw
    rcases bEl_of hw with ⟨h7, hw⟩ | ⟨h7, hw⟩
    · simp only [chkX, h7, Bool.and_eq_true] at hx
      obtain ⟨fs, h1, hw⟩ := oO_of hw
      obtain ⟨y, h2, hw⟩ := oV_of hw
      exact aw_get hd (Nat.le_of_ble_eq_true h7) (Nat.le_of_ble_eq_true hx.1) (wAt_mem hx.2) h1 h2 (N hw)
    · simp only [chkX, h7] at hx
      obtain ⟨y, h2, hw⟩ := oV_of hw
      exact aw_roF hd (wAt_mem hx) h2 (N hw)
  | putfield idx =>
    have hl : len = 3 := Nat.eq_of_beq_eq_true hlen
    subst hl
    obtain ⟨y, k, st, rfl, hw⟩ := svr_of hw
    obtain ⟨fs, h1, hw⟩ := oO_of hw
    obtain ⟨h2, hw⟩ := bIf_of hw
    obtain ⟨h3, h4, hw⟩ := pok_of hw g
    simp only [chkX, Bool.and_eq_true, Bool.or_eq_true, decide_eq_true_eq] at hx
    exact aw_put hd (Nat.le_of_ble_eq_true hx.1.1.1) (Nat.le_of_ble_eq_true hx.1.1.2) (wAt_mem hx.1.2) h1 (Nat.le_of_ble_eq_true h2) hx.2 h3 h4 (N hw)
  | iaload =>
    have hl : len = 1 := Nat.eq_of_beq_eq_true hlen
    subst hl
    obtain ⟨i, k, st, rfl, hw⟩ := sir_of hw
    rcases bEl_of hw with ⟨h7, n, f, h1, h2, hw⟩ | ⟨h7, n, f, h1, h2, hw⟩
    · exact aw_iald hd h1 h2 (N hw)
    · exact aw_roI hd (fun z => by rw [show Nat.blt k 1000 = true from Nat.ble_eq_true_of_le z] at h7; cases h7) h1 h2 (N hw)
  | baload =>
    have hl : len = 1 := Nat.eq_of_beq_eq_true hlen
    subst hl
    obtain ⟨i, k, st, rfl, hw⟩ := sir_of hw
    rcases bEl_of hw with ⟨h7, n, f, h1, h2, hw⟩ | ⟨h7, n, f, h1, h2, hw⟩
    · exact aw_zald hd h1 h2 (N hw)
    · exact aw_roB hd (fun z => by rw [show Nat.blt k 1000 = true from Nat.ble_eq_true_of_le z] at h7; cases h7) h1 h2 (N hw)
  | iastore =>
    have hl : len = 1 := Nat.eq_of_beq_eq_true hlen
    subst hl
    obtain ⟨x, i, k, st, rfl, n, f, h1, h2, hw⟩ := siir_of hw
    exact aw_iast hd h1 h2 (N hw)
  | bastore =>
    have hl : len = 1 := Nat.eq_of_beq_eq_true hlen
    subst hl
    obtain ⟨x, i, k, st, rfl, n, f, h1, h2, hw⟩ := siir_of hw
    exact aw_zast hd h1 h2 (N hw)
  | aaload =>
    have hl : len = 1 := Nat.eq_of_beq_eq_true hlen
    subst hl
    obtain ⟨i, k, st, rfl, t, n, f, q, h0, h1, h2, h3, hw⟩ := sir_of hw
    exact aw_aald hd h0 h1 h2 h3 (N hw)
  | aastore =>
    have hl : len = 1 := Nat.eq_of_beq_eq_true hlen
    subst hl
    obtain ⟨q, i, k, st, rfl, n, f, fs, h1, h2, h3, hw⟩ := srir_of hw
    exact aw_aast hd h1 h3 h2 (N hw)
  | arraylength =>
    have hl : len = 1 := Nat.eq_of_beq_eq_true hlen
    subst hl
    obtain ⟨k, st, rfl, hw⟩ := s1r_of hw
    obtain ⟨h1, hw⟩ := bIf_of hw
    have hk : ¬ k < 1000 := Nat.not_lt.mpr (Nat.le_of_ble_eq_true h1)
    split at hw
    · rename_i n f he
      exact aw_lenI hd hk he (N hw)
    · split at hw
      · rename_i n f he
        exact aw_lenB hd hk he (N hw)
      · exact hw.elim
  | getstatic idx =>
    have hl : len = 3 := Nat.eq_of_beq_eq_true hlen
    subst hl
    match a, hx, hw with
    | 0, hx, hw => exact aw_gsN (ref := "") hd (wAt0_mem hx) (by decide) (fun G => G.2.2.2.2.1.1) (N hw)
    | 1, hx, hw => exact aw_gsN (ref := "") hd (wAt0_mem hx) (by decide) (fun G => G.2.2.2.2.1.2) (N hw)
    | 2, hx, hw => exact aw_gsI hd (wAt_mem hx) (fun G => G.2.2.2.2.2.1) (N hw)
    | 3, hx, hw => exact aw_gsF hd (wAt_mem hx) (N hw.1) (N hw.2)
    | a + 4, hx, hw => exact False.elim hw
  | invokevirtual idx =>
    have hl : len = 3 := Nat.eq_of_beq_eq_true hlen
    subst hl
    simp only [chkX, chkR, Bool.and_eq_true] at hx
    obtain ⟨⟨⟨⟨x1, x2⟩, x3⟩, x4⟩, x5⟩ := hx
    obtain ⟨As, k, st2, he, hw⟩ := popR_of hw
    obtain ⟨e1, e2⟩ := pop_st he
    rw [e1]
    obtain ⟨h1, hw⟩ := rcv_of hw
    obtain ⟨h2, h3, h4, hw⟩ := cok_of hw
    exact aw_callV hd (hmt a (Nat.le_of_ble_eq_true x1)) ⟨Nat.le_of_ble_eq_true x2.1, Nat.le_of_ble_eq_true x2.2⟩ (wAt_mem x3) (wAt_mem x4) (wAt_mem x5) h1 e2 h3 h2 h4 (ac_mono hw (fun rv h' z => N z))
  | invokespecial idx =>
    have hl : len = 3 := Nat.eq_of_beq_eq_true hlen
    subst hl
    by_cases hb2 : b = 2
    · subst hb2
      simp only [chkX, Bool.and_eq_true] at hx
      obtain ⟨k, st, rfl, hw⟩ := s1r_of hw
      obtain ⟨h1, hw⟩ := bIf_of hw
      exact aw_obj hd (wAt_mem hx.2) (Nat.le_of_ble_eq_true hx.1) (Nat.le_of_ble_eq_true h1) (N hw)
    · have hx2 : (Nat.blt a 200 && chkR M (mt a) && (wAt c (.methodLink (m_own M) idx (m_y (mt a))) || wAt0 c (.methodLinkNest (m_own M) idx (m_y (mt a)) "SceneShots")) && wAt (m_wx (mt a)).1 (.instanceMethod (m_y (mt a))) && decide ((m_y (mt a)).name = "<init>") && decide (m_ret (mt a) = none)) = true := by
        match b, hb2, hx with
        | 0, _, hx => exact hx
        | 1, _, hx => exact hx
        | b + 3, _, hx => exact hx
      have hw2 : popR (m_np (mt a)) st (fun As k st => cok M (mt a) cl sl ls st h (AC g (mt a) (.ref k :: As) h (fun rv h' => nx g M Post F r' ls (rv.toList ++ st) h' (cl + m_mc (mt a)) (sl + m_ms (mt a))))) := by
        match b, hb2, hw with
        | 0, _, hw => exact hw
        | 1, _, hw => exact hw
        | b + 3, _, hw => exact hw
      simp only [chkR, Bool.and_eq_true, Bool.or_eq_true, decide_eq_true_eq] at hx2
      obtain ⟨⟨⟨⟨⟨x1, x2⟩, x3⟩, x4⟩, x5⟩, x6⟩ := hx2
      obtain ⟨As, k, st2, he, hw2⟩ := popR_of hw2
      · obtain ⟨e1, e2⟩ := pop_st he
        rw [e1]
        obtain ⟨h2, h3, h4, hw2⟩ := cok_of hw2
        have hq : Cond.methodLink (m_own M) idx (m_y (mt a)) ∈ lw_g ∨ ∃ host, Cond.methodLinkNest (m_own M) idx (m_y (mt a)) host ∈ lw_tbl := by
          rcases x3 with x3 | x3
          · exact Or.inl (wAt_mem x3)
          · exact Or.inr ⟨_, wAt0_mem x3⟩
        exact aw_callI hd (hmt a (Nat.le_of_ble_eq_true x1)) ⟨Nat.le_of_ble_eq_true x2.1, Nat.le_of_ble_eq_true x2.2⟩ hq (wAt_mem x4) x5 x6 e2 h3 h2 h4 (ac_mono hw2 (fun rv h' z => N z))
  | invokestatic idx =>
    have hl : len = 3 := Nat.eq_of_beq_eq_true hlen
    subst hl
    by_cases hb1 : b = 1
    · subst hb1
      simp only [chkX, Bool.and_eq_true] at hx
      obtain ⟨n, dp, k1, sp, k0, st, rfl, hw⟩ := scp_of hw
      obtain ⟨h1, n0, f0, n1, f1, h2, h3, ⟨y1, y2, y3, y4, y5⟩, hw⟩ := bIf_of hw
      exact aw_cpy hd (wAt_mem hx.2) (Nat.le_of_ble_eq_true hx.1) (Nat.le_of_ble_eq_true h1) h2 h3 y1 y2 y3 y4 y5 (N hw)
    by_cases hb2 : b = 2
    · subst hb2
      simp only [chkX, Bool.and_eq_true] at hx
      obtain ⟨x, st, rfl, hw⟩ := s1i_of hw
      obtain ⟨h1, hw⟩ := bIf_of hw
      simp only [Bool.and_eq_true] at h1
      exact aw_abs hd (wAt_mem hx.2) (Nat.le_of_ble_eq_true hx.1) (Nat.le_of_ble_eq_true h1.2) ⟨Nat.le_of_ble_eq_true h1.1.1, Nat.le_of_ble_eq_true h1.1.2⟩ (N hw)
    by_cases hb3 : b = 3
    · subst hb3
      simp only [chkX, Bool.and_eq_true] at hx
      obtain ⟨x, y, st, rfl, hw⟩ := s2i_of hw
      obtain ⟨h1, hw⟩ := bIf_of hw
      simp only [Bool.and_eq_true] at h1
      exact aw_min hd (wAt_mem hx.2) (Nat.le_of_ble_eq_true hx.1) (Nat.le_of_ble_eq_true h1.2) ⟨Nat.le_of_ble_eq_true h1.1.1, Nat.le_of_ble_eq_true h1.1.2⟩ (N hw)
    by_cases hb9 : b = 9
    · subst hb9
      exact False.elim hw
    have hx2 : (Nat.blt a 200 && chkR M (mt a) && wAt c (.methodLink (m_own M) idx (m_y (mt a))) && wAt (m_wx (mt a)).1 (.static (m_y (mt a)))) = true := by
      match b, hb1, hb2, hb3, hb9, hx with
      | 0, _, _, _, _, hx => exact hx
      | 4, _, _, _, _, hx => exact hx
      | 5, _, _, _, _, hx => exact hx
      | 6, _, _, _, _, hx => exact hx
      | 7, _, _, _, _, hx => exact hx
      | 8, _, _, _, _, hx => exact hx
      | b + 10, _, _, _, _, hx => exact hx
    have hw2 : popT (m_np (mt a)) st (fun As st => cok M (mt a) cl sl ls st h (AC g (mt a) As h (fun rv h' => nx g M Post F r' ls (rv.toList ++ st) h' (cl + m_mc (mt a)) (sl + m_ms (mt a))))) := by
      match b, hb1, hb2, hb3, hb9, hw with
      | 0, _, _, _, _, hw => exact hw
      | 4, _, _, _, _, hw => exact hw
      | 5, _, _, _, _, hw => exact hw
      | 6, _, _, _, _, hw => exact hw
      | 7, _, _, _, _, hw => exact hw
      | 8, _, _, _, _, hw => exact hw
      | b + 10, _, _, _, _, hw => exact hw
    simp only [chkR, Bool.and_eq_true] at hx2
    obtain ⟨⟨⟨x1, x2⟩, x3⟩, x4⟩ := hx2
    obtain ⟨As, st2, he, hw2⟩ := popT_of hw2
    obtain ⟨e1, e2⟩ := pop_st he
    rw [e1]
    obtain ⟨h2, h3, h4, hw2⟩ := cok_of hw2
    exact aw_callS hd (hmt a (Nat.le_of_ble_eq_true x1)) ⟨Nat.le_of_ble_eq_true x2.1, Nat.le_of_ble_eq_true x2.2⟩ (wAt_mem x3) (wAt_mem x4) e2 h3 h2 h4 (ac_mono hw2 (fun rv h' z => N z))
  | new idx =>
    have hl : len = 3 := Nat.eq_of_beq_eq_true hlen
    subst hl
    simp only [chkX, Bool.and_eq_true] at hx
    obtain ⟨⟨⟨x1, x2⟩, x3⟩, x4⟩ := hx
    obtain ⟨h1, h2, h3, h4, h5, h6, hw⟩ := mok_of hw
    exact aw_new hd (Nat.le_of_ble_eq_true x1) (wAt_mem x2) (wAt_mem x3) (wAt_mem x4) h1 h2 h3 h4 h5 h6 (N hw)
  | newarray t =>
    have hl : len = 2 := Nat.eq_of_beq_eq_true hlen
    subst hl
    obtain ⟨n, st, rfl, hw⟩ := s1i_of hw
    obtain ⟨h1, h2, h3, h4, h5, h6, ⟨h7, h8⟩, hw⟩ := mok_of hw
    match a, hx, hw with
    | 0, hx, hw =>
      have ht : t = .int := of_decide_eq_true hx
      subst ht
      exact aw_newI hd h7 h8 h1 h2 h3 h4 h5 h6 (N hw)
    | 1, hx, hw =>
      have ht : t = .boolean := of_decide_eq_true hx
      subst ht
      exact aw_newZ hd h7 h8 h1 h2 h3 h4 h5 h6 (N hw)
    | a + 2, hx, hw => cases hx
  | anewarray idx =>
    have hl : len = 3 := Nat.eq_of_beq_eq_true hlen
    subst hl
    obtain ⟨n, st, rfl, hw⟩ := s1i_of hw
    obtain ⟨h1, h2, h3, h4, h5, h6, ⟨h7, h8⟩, hw⟩ := mok_of hw
    exact aw_newQ hd (wAt_mem hx) h7 h8 h1 h2 h3 h4 h5 h6 (N hw)
  | multianewarray idx d =>
    have hl : len = 4 := Nat.eq_of_beq_eq_true hlen
    subst hl
    simp only [chkX, Bool.and_eq_true, decide_eq_true_eq] at hx
    have hd2 := hx.1
    subst hd2
    obtain ⟨n, k, st, rfl, hw⟩ := s2i_of hw
    obtain ⟨h1, h2, h3, h4, h5, h6, ⟨h7, h8, h9, h10⟩, hw⟩ := mok_of hw
    exact aw_newM hd (wAt_mem hx.2) h7 h8 h9 h10 h1 h2 h3 h4 h5 h6 (N hw)
  | ireturn =>
    have hl : len = 1 := Nat.eq_of_beq_eq_true hlen
    subst hl
    obtain ⟨x, rfl, hw⟩ := r1i_of hw
    obtain ⟨t, h1, h2, hw⟩ := zok_of hw
    obtain ⟨h3, h4, hw⟩ := ret9_of hw
    exact aw_zret (st := []) hd h1 h2 h3 h4 hw
  | lreturn =>
    have hl : len = 1 := Nat.eq_of_beq_eq_true hlen
    subst hl
    obtain ⟨x, rfl, hw⟩ := r1l_of hw
    obtain ⟨h3, h4, hw⟩ := ret9_of hw
    exact aw_lret (st := []) hd (of_decide_eq_true hx) h3 h4 hw
  | freturn =>
    have hl : len = 1 := Nat.eq_of_beq_eq_true hlen
    subst hl
    obtain ⟨x, rfl, hw⟩ := r1f_of hw
    obtain ⟨h3, h4, hw⟩ := ret9_of hw
    exact aw_fret (st := []) hd (of_decide_eq_true hx) h3 h4 hw
  | return_ =>
    have hl : len = 1 := Nat.eq_of_beq_eq_true hlen
    subst hl
    obtain ⟨rfl, hw⟩ := r0_of hw
    obtain ⟨h3, h4, hw⟩ := ret9_of hw
    exact aw_vret (st := []) hd (of_decide_eq_true hx) h3 h4 hw
  | _ => exact False.elim hw
theorem wp_sound {g : Glob} {mt : Nat → Mth} {M : Mth} {Post : Option Value → AH → Prop} (hmt : ∀ a, a < 200 → MOK (mt a)) (hcode : chkL mt M (m_code M) = true) : ∀ k : Nat, Sd g mt M Post (wp g mt M Post k) ∧ ∀ ls st h cl sl, ¬ wp g mt M Post k [] ls st h cl sl := by
  intro k
  induction k with
  | zero => exact ⟨fun r ls st h cl sl _ hw => hw.elim, fun _ _ _ _ _ z => z⟩
  | succ k ih => exact ⟨wpS_sound hmt hcode ih.1 ih.2, fun _ _ _ _ _ z => z⟩
/-- from a place of the table on -/
theorem aw_wp {g : Glob} {mt : Nat → Mth} {M : Mth} {Post : Option Value → AH → Prop} (hmt : ∀ a, a < 200 → MOK (mt a)) (hcode : chkL mt M (m_code M) = true) (k : Nat) {pc cl sl : Nat} {ls : List (Option Value)} {st : List Value} {h : AH} (hw : wp g mt M Post k (dropTo pc (m_code M)) ls st h cl sl) : AW g M Post cl sl pc ls st h := by
  obtain ⟨h1, h2⟩ := dropTo_chk (mt := mt) (M := M) pc (m_code M) hcode
  cases hd : dropTo pc (m_code M) with
  | nil => rw [hd] at hw; exact ((wp_sound hmt hcode k).2 _ _ _ _ _ hw).elim
  | cons e r =>
    rw [hd] at hw h1
    have := (wp_sound hmt hcode k).1 _ _ _ _ _ _ h1 hw e r rfl
    rw [h2 e r hd] at this
    exact this
