theorem gd_w {w : Cond} (h : w ∈ lw_g) : w ∈ lw_g ∧ ((w.onTables && w.keeps) = true ∨ ∃ ty, w = .arrayClass ty) := ⟨h, good_of_word (List.mem_filter.mp h).2⟩
theorem gd_ws {M : Mth} (hc : Cond.code (m_y M) (m_cc M) (m_nL M) (m_ret M) ∈ lw_g) : GoodIn lw_g (m_ws M) := by
  intro w hw
  rcases List.mem_cons.mp hw with rfl | hw
  · exact gd_w hc
  · exact gd_w hw
theorem gd_l4 {w1 w2 w3 w4 : Cond} {ws : List Cond} (h1 : w1 ∈ lw_g) (h2 : w2 ∈ lw_g) (h3 : w3 ∈ lw_g) (h4 : w4 ∈ lw_g) (hw : GoodIn lw_g ws) : GoodIn lw_g ([w1, w2, w3, w4] ++ ws) := by
  intro w hm
  rcases List.mem_append.mp hm with hm | hm
  · simp only [List.mem_cons, List.not_mem_nil, or_false] at hm
    rcases hm with rfl | rfl | rfl | rfl
    · exact gd_w h1
    · exact gd_w h2
    · exact gd_w h3
    · exact gd_w h4
  · exact hw w hm
theorem gd_l3 {w1 w2 w3 : Cond} {ws : List Cond} (h1 : w1 ∈ lw_g) (h2 : w2 ∈ lw_g) (h3 : w3 ∈ lw_g) (hw : GoodIn lw_g ws) : GoodIn lw_g ([w1, w2, w3] ++ ws) := by
  intro w hm
  rcases List.mem_append.mp hm with hm | hm
  · simp only [List.mem_cons, List.not_mem_nil, or_false] at hm
    rcases hm with rfl | rfl | rfl
    · exact gd_w h1
    · exact gd_w h2
    · exact gd_w h3
  · exact hw w hm
/-! other addresses for new places -/
theorem okV_tr {g : Glob} {al al' : Nat → Nat} {n : Nat} (hn : n ≤ 1000) (hal : ∀ k, k < n → al' k = al k) {v : Value} (h : okV n v = true) : trV g al' v = trV g al v := by
  cases v <;> try rfl
  rename_i k
  show Value.ref (trR g al' k) = Value.ref (trR g al k)
  have h1 : k < n ∨ 1000 ≤ k := by
    simp only [okV, Bool.or_eq_true] at h
    rcases h with h | h
    · exact Or.inl (Nat.le_of_ble_eq_true h)
    · exact Or.inr (Nat.le_of_ble_eq_true h)
  rcases h1 with h1 | h1
  · rw [trR_lt (Nat.lt_of_lt_of_le h1 hn), trR_lt (Nat.lt_of_lt_of_le h1 hn), hal k h1]
  · rw [trR_ge (Nat.not_lt.mpr h1), trR_ge (Nat.not_lt.mpr h1)]
theorem okR_tr {g : Glob} {al al' : Nat → Nat} {n : Nat} (hn : n ≤ 1000) (hal : ∀ k, k < n → al' k = al k) {o : Option Nat} (h : okR n o = true) : o.map (trR g al') = o.map (trR g al) := by
  cases o with
  | none => rfl
  | some k =>
    have h1 : k < n ∨ 1000 ≤ k := by
      simp only [okR, Bool.or_eq_true] at h
      rcases h with h | h
      · exact Or.inl (Nat.le_of_ble_eq_true h)
      · exact Or.inr (Nat.le_of_ble_eq_true h)
    show some (trR g al' k) = some (trR g al k)
    rcases h1 with h1 | h1
    · rw [trR_lt (by omega), trR_lt (by omega), hal k h1]
    · rw [trR_ge (by omega), trR_ge (by omega)]
theorem okS_tr {g : Glob} {al al' : Nat → Nat} {n : Nat} (hn : n ≤ 1000) (hal : ∀ k, k < n → al' k = al k) {st : List Value} (h : okS n st = true) : st.map (trV g al') = st.map (trV g al) :=
  List.map_congr_left (fun v hv => okV_tr hn hal (List.all_eq_true.mp h v hv))
theorem okL_tr {g : Glob} {al al' : Nat → Nat} {n : Nat} (hn : n ≤ 1000) (hal : ∀ k, k < n → al' k = al k) {ls : List (Option Value)} (h : okL n ls = true) {lsA : Array Slot} {nL : Nat} (hl : LH g al lsA nL ls) : LH g al' lsA nL ls := by
  refine ⟨hl.1, hl.2.1, fun k v hk => ?_⟩
  rw [okV_tr hn hal (List.all_eq_true.mp h (some v) (List.mem_of_getElem? hk))]
  exact hl.2.2 k v hk
theorem okE_tr {g : Glob} {al al' : Nat → Nat} {n : Nat} (hn : n ≤ 1000) (hal : ∀ k, k < n → al' k = al k) {e : va_E} (h : okE n e = true) : trE g al' e = trE g al e := by
  rcases e with ⟨t, m, c⟩ | ⟨ci, fs⟩
  · rcases c with f | f | f | f | f
    · rfl
    · rfl
    · rfl
    · rfl
    · show Sum.inl (g_c g t, m, Sum.inr (Sum.inr (Sum.inr (Sum.inr (fun i => if i < m then (f i).map (trR g al') else none))))) = Sum.inl (g_c g t, m, Sum.inr (Sum.inr (Sum.inr (Sum.inr (fun i => if i < m then (f i).map (trR g al) else none)))))
      have e1 : (fun i => if i < m then (f i).map (trR g al') else none) = (fun i => if i < m then (f i).map (trR g al) else none) := by
        funext i
        by_cases hi : i < m
        · rw [if_pos hi, if_pos hi]
          exact okR_tr hn hal (List.all_eq_true.mp h i (List.mem_range.mpr hi))
        · rw [if_neg hi, if_neg hi]
      rw [e1]
  · show Sum.inr (ci, fs.map (trV g al')) = Sum.inr (ci, fs.map (trV g al))
    rw [okS_tr hn hal h]
theorem okW_tr {g : Glob} {al al' : Nat → Nat} {h : AH} (hok : okH h = true) (hal : ∀ k, k < h.length → al' k = al k) : trW g al' h = trW g al h := by
  simp only [okH, Bool.and_eq_true] at hok
  have hn : h.length ≤ 900 := Nat.le_of_ble_eq_true hok.1
  apply List.ext_getElem?
  intro j
  unfold trW
  rw [List.getElem?_mapIdx, List.getElem?_mapIdx]
  cases hj : h[j]? with
  | none => rfl
  | some e =>
    have hlt : j < h.length := (List.getElem?_eq_some_iff.mp hj).1
    show some (al' j, trE g al' e) = some (al j, trE g al e)
    rw [hal j hlt, okE_tr (by omega) hal (List.all_eq_true.mp hok.2 e (List.mem_of_getElem? hj))]
theorem trW_app {g : Glob} {al : Nat → Nat} {h h2 : AH} : trW g al (h ++ h2) = trW g al h ++ h2.mapIdx (fun k e => (al (k + h.length), trE g al e)) := by
  unfold trW
  rw [List.mapIdx_append]
theorem trW_len {g : Glob} {al : Nat → Nat} {h : AH} : (trW g al h).length = h.length := by unfold trW; rw [List.length_mapIdx]

/-- behind a call -/
theorem aw_after {g : Glob} {M : Mth} {Post : Option Value → AH → Prop} {cl sl pc : Nat} {ls : List (Option Value)} {st : List Value} {h : AH} {M' : Mth} {Post' : Option Value → AH → Prop} {p : Program} {e : Env} {s : State} {m : MethodId} {args : Array Value} {below : List Frame} {meth : Method} {c : Code} {H : Heap} {locs : List Loc} {lsA : Array Slot} {al0 : Nat → Nat} {n0 : Nat} {al : Nat → Nat} {st0 : List Value} {a9 : Array Value}
    (C : Cx g M p s m args meth c) (ha : agr M al0 n0 al h.length) (hw : Wd g al h s H locs) (hl : LH g al lsA (m_nL M) ls)
    (hr : va_Run p (g_l g) e (m_room M) s m args below meth c H locs cl sl (m_mc M') (m_ms M') (F0 m pc lsA st0) (st.map (trV g al)) (QC g M' Post' al h.length a9) (g_A g))
    (hm : cl + m_mc M' ≤ m_mc M) (hok : m_mc M' = 0 ∨ (h.length ≤ 1000 ∧ okS h.length st = true ∧ okL h.length ls = true))
    (K : ∀ rv h', Post' rv h' → AW g M Post (cl + m_mc M') (sl + m_ms M') (pc + 3) ls (rv.toList ++ st) h') :
    W p (g_l g) e (m_room M) s m args below meth c H locs cl sl (MQ below (QC g M Post al0 n0) args s (m_mc M) (m_ms M) (g_A g)) (F0 m pc lsA st0) := by
  intro T hT X
  obtain ⟨v, s9, t, T', L, h0, X', hL, e1, e2, ⟨rv, h', al', hv, hp, hg', hP', hD', hz, hk⟩, stp⟩ := hr T hT X
  cases hv
  rw [h0] at hz hk
  have hal : ∀ k, k < h.length → al' k = al k := hg'.2.1
  have est : st.map (trV g al') = st.map (trV g al) := by
    rcases hok with h1 | ⟨h1, h2, -⟩
    · rw [hg'.1 h1]
    · exact okS_tr h1 hal h2
  have hl' : LH g al' lsA (m_nL M) ls := by
    rcases hok with h1 | ⟨h1, -, h2⟩
    · rw [hg'.1 h1]; exact hl
    · exact okL_tr h1 hal h2 hl
  have ha' : agr M al0 n0 al' h'.length := by
    refine ⟨fun h1 => ?_, fun k hk => ?_, Nat.le_trans ha.2.2 hg'.2.2⟩
    · rw [hg'.1 (by omega), ha.1 h1]
    · rw [hal k (Nat.lt_of_lt_of_le hk ha.2.2), ha.2.1 k hk]
  obtain ⟨t2, a1, b1⟩ := K rv h' hp p e s m args below meth c T'.heap (locs ++ L) lsA al0 n0 al' C ha' ⟨by rw [e1]; exact hP', hD', Nat.le_trans hw.2.2.1 (by rw [e1]; exact hz), fun q h1 h2 => by rw [e1, hk q (Nat.lt_of_lt_of_le h1 hw.2.2.1) h2]; exact hw.2.2.2.1 q h1 h2, fun q hq => by
      rcases List.mem_append.mp hq with hq | hq
      · exact hw.2.2.2.2 q hq
      · exact hL q hq⟩ hl' T' rfl X'
  refine ⟨t2, stp t2 ?_, b1⟩
  have es : (rv.toList ++ st).map (trV g al') = (rv.map (trV g al')).toList ++ st.map (trV g al) := by
    rw [List.map_append, est]
    cases rv <;> rfl
  rw [es] at a1
  exact a1
theorem PU_of {g : Glob} {al : Nat → Nat} {h : AH} {s U : State} {H : Heap} {locs : List Loc} (hB : Bh g s) (hw : Wd g al h s H locs) (hU : U.heap = H) (hW : s.WarmedH U.vm) : PU g al h U := by
  refine ⟨⟨hB.1, ?_, fun q hq => ?_, hB.2.2.2.trans hW⟩, by rw [hU]; exact hw.1, hw.2.1⟩
  · rw [hU]; exact Nat.le_trans hB.2.1 hw.2.2.1
  · rw [hU, hw.2.2.2.1 q (Nat.lt_of_lt_of_le hq hB.2.1) (Nat.not_le.mpr hq)]
    exact hB.2.2.1 q hq
theorem PU_blind {g : Glob} {al : Nat → Nat} {h : AH} {av : List Value} : FrameBlind (va_Pc av (PU g al h)) := fun _ _ _ _ q => q
/-- what a call needs of its callee's words -/
def MOK (M : Mth) : Prop := Cond.code (m_y M) (m_cc M) (m_nL M) (m_ret M) ∈ lw_g ∧ Cond.initialized (m_y M).cls ∈ lw_g ∧ ((m_y M).cls ≠ "java/lang/invoke/MethodHandle" ∧ (m_y M).cls ≠ "java/lang/invoke/VarHandle" ∧ (parseMethodDescriptor (m_y M).desc).map (fun d => d.parameters.length) = some (m_np M))
def ROK (M M' : Mth) : Prop := m_dep M' + 1 ≤ m_dep M ∧ 8 + (m_nL M' + 11) + 40 * m_dep M' ≤ 40 * m_dep M
theorem map_rev {g : Glob} {al : Nat → Nat} {As st : List Value} : (As.reverse ++ st).map (trV g al) = (As.map (trV g al)).reverse ++ st.map (trV g al) := by rw [List.map_append, List.map_reverse]
theorem cat_sum {g : Glob} {al : Nat → Nat} {st : List Value} (h : (st.map fun v => v.category).sum ≤ 8) : ((st.map (trV g al)).map fun v => v.category).sum ≤ 8 := by
  rw [List.map_map, show ((fun v : Value => v.category) ∘ trV g al) = (fun v => v.category) from funext (fun v => trV_cat g al v)]
  exact h
theorem aw_callV {g : Glob} {M : Mth} {Post : Option Value → AH → Prop} {cl sl pc : Nat} {ls : List (Option Value)} {st : List Value} {h : AH} {M' : Mth} {idx b : Nat} {As : List Value} (hd : decode (m_cc M) pc = .ok (.invokevirtual idx, 3)) (hM : MOK M') (hR : ROK M M') (hq : Cond.methodLink (m_own M) idx (m_y M') ∈ lw_g) (hi : Cond.instanceMethod (m_y M') ∈ lw_g) (hse : Cond.selects (m_y M').cls (m_y M') (m_y M') ∈ lw_g)
    (hrec : (∃ a fs, a < 7 ∧ hat h b = some (.inr (a, fs)) ∧ ctR a = (m_y M').cls) ∨ ((b = 1000 ∨ b = 1001 ∨ b = 1002) ∧ (m_y M').cls = "java/lang/String"))
    (hn : As.length = m_np M') (hcat : (st.map fun v => v.category).sum ≤ 8) (hm : cl + m_mc M' ≤ m_mc M ∧ sl + m_ms M' ≤ m_ms M) (hok : m_mc M' = 0 ∨ (h.length ≤ 1000 ∧ okS h.length st = true ∧ okL h.length ls = true))
    (K : AC g M' (.ref b :: As) h (fun rv h' => AW g M Post (cl + m_mc M') (sl + m_ms M') (pc + 3) ls (rv.toList ++ st) h')) : AW g M Post cl sl pc ls (As.reverse ++ .ref b :: st) h := by
  intro p e s m args below meth c H locs lsA al0 n0 al C ha hw hl
  have hB := C.2.2.2.2.2.2.2.2
  have hcell : ∃ cellB : Cell, H[trR g al b]? = some cellB ∧ cellB.vm.isStatics = false ∧ s.vm.findClass (m_y M').cls = some cellB.cls := by
    rcases hrec with ⟨a, fs, h7, hb, hC⟩ | ⟨hb, hC⟩
    · obtain ⟨hlt, hb⟩ := hat_some hb
      rw [trR_lt hlt]
      obtain ⟨cell, z1, z2, z3⟩ := va_recv hB.K hw.1 (ct_cl h7) (trW_get hb)
      exact ⟨cell, z1, z2, by rw [← hC]; exact z3⟩
    · have hO : ∀ k j, g_O g k j → ¬ k < 1000 → ∃ cellB : Cell, H[trR g al k]? = some cellB ∧ cellB.vm.isStatics = false ∧ s.vm.findClass (m_y M').cls = some cellB.cls := by
        intro k j hO hk
        rw [trR_ge hk, hC]
        exact va_Orecv ((hO.1.kept hB.ke).moved hB.2.2.2.alike) hw.2.2
      obtain ⟨o0, o1, o2⟩ := hB.1.2.2.2.1
      rcases hb with rfl | rfl | rfl
      · exact hO _ _ o0 (by decide)
      · exact hO _ _ o1 (by decide)
      · exact hO _ _ o2 (by decide)
  refine aw_after C ha hw hl (va_runV (As := As.map (trV g al)) ⟨C.1, C.2.1, C.2.2.2.1, C.2.2.2.2.1, C.2.2.2.2.2.1⟩ (K al) (cwV (m_np M') C.2.2.2.2.2.1 (gd_l4 hq hi hse hM.2.1 (gd_ws hM.1)) rfl rfl rfl ⟨rfl, hM.2.2⟩ hR) ⟨PU_blind, hcell, fun U hU hW => ⟨rfl, PU_of hB hw hU hW⟩⟩ rfl (by rw [List.length_map]; exact hn) hl.1 map_rev (lv_room (cat_sum hcat)) hd hm) hm.1 hok (fun rv h' z => z)
theorem aw_callS {g : Glob} {M : Mth} {Post : Option Value → AH → Prop} {cl sl pc : Nat} {ls : List (Option Value)} {st : List Value} {h : AH} {M' : Mth} {idx : Nat} {As : List Value} (hd : decode (m_cc M) pc = .ok (.invokestatic idx, 3)) (hM : MOK M') (hR : ROK M M') (hq : Cond.methodLink (m_own M) idx (m_y M') ∈ lw_g) (hi : Cond.static (m_y M') ∈ lw_g)
    (hn : As.length = m_np M') (hcat : (st.map fun v => v.category).sum ≤ 8) (hm : cl + m_mc M' ≤ m_mc M ∧ sl + m_ms M' ≤ m_ms M) (hok : m_mc M' = 0 ∨ (h.length ≤ 1000 ∧ okS h.length st = true ∧ okL h.length ls = true))
    (K : AC g M' As h (fun rv h' => AW g M Post (cl + m_mc M') (sl + m_ms M') (pc + 3) ls (rv.toList ++ st) h')) : AW g M Post cl sl pc ls (As.reverse ++ st) h := by
  intro p e s m args below meth c H locs lsA al0 n0 al C ha hw hl
  have hB := C.2.2.2.2.2.2.2.2
  refine aw_after C ha hw hl (va_runS (As := As.map (trV g al)) ⟨C.1, C.2.1, C.2.2.2.1, C.2.2.2.2.1, C.2.2.2.2.2.1⟩ (K al) (va_cwS (m_np M') C.2.2.2.2.2.1 (gd_l3 hq hi hM.2.1 (gd_ws hM.1)) rfl rfl rfl hM.2.2 hR) ⟨PU_blind, fun U hU hW => ⟨rfl, PU_of hB hw hU hW⟩⟩ rfl (by rw [List.length_map]; exact hn) hl.1 map_rev (lv_room (cat_sum hcat)) hd hm) hm.1 hok (fun rv h' z => z)
theorem aw_callI {g : Glob} {M : Mth} {Post : Option Value → AH → Prop} {cl sl pc : Nat} {ls : List (Option Value)} {st : List Value} {h : AH} {M' : Mth} {idx b : Nat} {As : List Value} (hd : decode (m_cc M) pc = .ok (.invokespecial idx, 3)) (hM : MOK M') (hR : ROK M M') (hq : Cond.methodLink (m_own M) idx (m_y M') ∈ lw_g ∨ ∃ host, Cond.methodLinkNest (m_own M) idx (m_y M') host ∈ lw_tbl) (hi : Cond.instanceMethod (m_y M') ∈ lw_g) (hy : (m_y M').name = "<init>") (hr0 : m_ret M' = none)
    (hn : As.length = m_np M') (hcat : (st.map fun v => v.category).sum ≤ 8) (hm : cl + m_mc M' ≤ m_mc M ∧ sl + m_ms M' ≤ m_ms M) (hok : m_mc M' = 0 ∨ (h.length ≤ 1000 ∧ okS h.length st = true ∧ okL h.length ls = true))
    (K : AC g M' (.ref b :: As) h (fun rv h' => AW g M Post (cl + m_mc M') (sl + m_ms M') (pc + 3) ls (rv.toList ++ st) h')) : AW g M Post cl sl pc ls (As.reverse ++ .ref b :: st) h := by
  intro p e s m args below meth c H locs lsA al0 n0 al C ha hw hl
  have hB := C.2.2.2.2.2.2.2.2
  have hws : m_ws M' = Cond.code (m_y M') (m_cc M') (m_nL M') none :: lw_g := by unfold m_ws; rw [hr0]
  rcases hq with hq | ⟨host, hq⟩
  · refine aw_after C ha hw hl (va_runI (As := As.map (trV g al)) ⟨C.1, C.2.1, C.2.2.2.1, C.2.2.2.2.1, C.2.2.2.2.2.1⟩ (K al) (cwI (m_np M') C.2.2.2.2.2.1 (gd_ws hM.1) hws rfl rfl (C.2.2.2.2.2.1 _ hM.2.1) (C.2.2.2.2.2.1 _ hq) (C.2.2.2.2.2.1 _ hi) hy hM.2.2 hR) ⟨PU_blind, fun U hU hW => ⟨rfl, PU_of hB hw hU hW⟩⟩ rfl (by rw [List.length_map]; exact hn) hl.1 map_rev (lv_room (cat_sum hcat)) hd hm) hm.1 hok (fun rv h' z => z)
  · refine aw_after C ha hw hl (va_runIN (As := As.map (trV g al)) ⟨C.1, C.2.1, C.2.2.2.1, C.2.2.2.2.1, C.2.2.2.2.2.1⟩ (K al) ⟨va_cnB (m_np M') C.2.2.2.2.2.1 (gd_ws hM.1) hws rfl rfl ((hB.1.2.2.2.2.2.2.2.2 _ hq rfl).warmM hB.2.2.2) (C.2.2.2.2.2.1 _ hM.2.1) hM.2.2 hR, hy, C.2.2.2.2.2.1 _ hi⟩ ⟨PU_blind, fun U hU hW => ⟨rfl, PU_of hB hw hU hW⟩⟩ rfl (by rw [List.length_map]; exact hn) hl.1 map_rev (lv_room (cat_sum hcat)) hd hm) hm.1 hok (fun rv h' z => z)
theorem q_obj : Cond.instanceMethod Lib.objectInit ∈ lw_g ∧ Cond.code Lib.objectInit ⟨#[0xb1]⟩ 1 none ∈ lw_g := by decide +kernel
theorem aw_obj {g : Glob} {M : Mth} {Post : Option Value → AH → Prop} {cl sl pc : Nat} {ls : List (Option Value)} {st : List Value} {h : AH} {idx b : Nat} (hd : decode (m_cc M) pc = .ok (.invokespecial idx, 3)) (hq : Cond.methodLink (m_own M) idx Lib.objectInit ∈ lw_g) (hdep : 1 ≤ m_dep M) (hcat : (st.map fun v => v.category).sum ≤ 8) (K : AW g M Post cl sl (pc + 3) ls st h) : AW g M Post cl sl pc ls (.ref b :: st) h := by
  intro p e s m args below meth c H locs lsA al0 n0 al C ha hw hl
  have hcs := cat_sum (g := g) (al := al) hcat
  refine W.objInit C.1 C.2.1 C.2.2.2.2.1 (C.2.2.2.2.2.1 _ hq) (C.2.2.2.2.2.1 _ q_obj.1) (C.2.2.2.2.2.1 _ q_obj.2) rfl (hl.1.trans C.2.2.2.1.symm) rfl hd hdep (by show 2 * 0 + ((st.map (trV g al)).map fun v => v.category).sum + 12 ≤ 40 * m_dep M; omega) ?_
  exact K p e s m args below meth c H locs lsA al0 n0 al C ha hw hl
theorem q_abs : Cond.static Lib.Math.abs.name ∈ lw_g ∧ Cond.initialized "java/lang/Math" ∈ lw_g ∧ Cond.code Lib.Math.abs.name Lib.Math.abs.code 1 (some .int) ∈ lw_g := by decide +kernel
theorem q_min : Cond.static Lib.Math.min.name ∈ lw_g ∧ Cond.code Lib.Math.min.name Lib.Math.min.code 2 (some .int) ∈ lw_g := by decide +kernel
theorem q_cpy : Cond.native arraycopyName ∈ lw_g ∧ Cond.static arraycopyName ∈ lw_g ∧ Cond.initialized "java/lang/System" ∈ lw_g := by decide +kernel
theorem aw_abs {g : Glob} {M : Mth} {Post : Option Value → AH → Prop} {cl sl pc : Nat} {ls : List (Option Value)} {st : List Value} {h : AH} {idx : Nat} {x : Int32} (hd : decode (m_cc M) pc = .ok (.invokestatic idx, 3)) (hq : Cond.methodLink (m_own M) idx Lib.Math.abs.name ∈ lw_g) (hdep : 1 ≤ m_dep M) (hcat : (st.map fun v => v.category).sum ≤ 8) (hm : cl ≤ m_mc M ∧ sl ≤ m_ms M) (K : AW g M Post cl sl (pc + 3) ls (.int (if 0 ≤ x then x else 0 - x) :: st) h) : AW g M Post cl sl pc ls (.int x :: st) h := by
  intro p e s m args below meth c H locs lsA al0 n0 al C ha hw hl
  have hcs := cat_sum (g := g) (al := al) hcat
  exact va_mabs C.1 C.2.1 (C.2.2.2.1.trans hl.1.symm) C.2.2.2.2.1 (C.2.2.2.2.2.1 _ hq) (C.2.2.2.2.2.1 _ q_abs.1) (C.2.2.2.2.2.1 _ q_abs.2.1) (C.2.2.2.2.2.1 _ q_abs.2.2) hdep (by show _ ≤ 40 * m_dep M; omega) hm.1 hm.2 hd (K p e s m args below meth c H locs lsA al0 n0 al C ha hw hl)
theorem aw_min {g : Glob} {M : Mth} {Post : Option Value → AH → Prop} {cl sl pc : Nat} {ls : List (Option Value)} {st : List Value} {h : AH} {idx : Nat} {x y : Int32} (hd : decode (m_cc M) pc = .ok (.invokestatic idx, 3)) (hq : Cond.methodLink (m_own M) idx Lib.Math.min.name ∈ lw_g) (hdep : 1 ≤ m_dep M) (hcat : (st.map fun v => v.category).sum ≤ 8) (hm : cl ≤ m_mc M ∧ sl ≤ m_ms M) (K : AW g M Post cl sl (pc + 3) ls (.int (if y < x then y else x) :: st) h) : AW g M Post cl sl pc ls (.int y :: .int x :: st) h := by
  intro p e s m args below meth c H locs lsA al0 n0 al C ha hw hl
  have hcs := cat_sum (g := g) (al := al) hcat
  exact va_mmin C.1 C.2.1 (C.2.2.2.1.trans hl.1.symm) C.2.2.2.2.1 (C.2.2.2.2.2.1 _ hq) (C.2.2.2.2.2.1 _ q_min.1) (C.2.2.2.2.2.1 _ q_abs.2.1) (C.2.2.2.2.2.1 _ q_min.2) hdep (by show _ ≤ 40 * m_dep M; omega) hm.1 hm.2 hd (K p e s m args below meth c H locs lsA al0 n0 al C ha hw hl)
theorem aw_cpy {g : Glob} {M : Mth} {Post : Option Value → AH → Prop} {cl sl pc : Nat} {ls : List (Option Value)} {st : List Value} {h : AH} {idx k0 k1 n0 n1 : Nat} {f0 f1 : Nat → Int32} {sp dp n : Int32} (hd : decode (m_cc M) pc = .ok (.invokestatic idx, 3)) (hq : Cond.methodLink (m_own M) idx arraycopyName ∈ lw_g) (hdep : 1 ≤ m_dep M) (hcat : (st.map fun v => v.category).sum ≤ 8) (hk0 : hat h k0 = some (.inl (0, n0, .inl f0))) (hk1 : hat h k1 = some (.inl (0, n1, .inl f1))) (h1 : ¬ sp < 0) (h2 : ¬ dp < 0) (h3 : ¬ n < 0) (h4 : sp.toNatClampNeg + n.toNatClampNeg ≤ n0) (h5 : dp.toNatClampNeg + n.toNatClampNeg ≤ n1)
    (K : AW g M Post cl sl (pc + 3) ls st (h.set k1 (.inl (0, n1, .inl (va_cpy f0 f1 sp.toNatClampNeg dp.toNatClampNeg n.toNatClampNeg))))) : AW g M Post cl sl pc ls (.int n :: .int dp :: .ref k1 :: .int sp :: .ref k0 :: st) h := by
  intro p e s m args below meth c H locs lsA al0 m0 al C ha hw hl
  have hcs := cat_sum (g := g) (al := al) hcat
  obtain ⟨hlt0, hk0⟩ := hat_some hk0
  obtain ⟨hlt1, hk1⟩ := hat_some hk1
  have hg0 : (trW g al h)[k0]? = some (al k0, .inl (g_c g 0, n0, .inl f0)) := trW_get hk0
  have hg1 : (trW g al h)[k1]? = some (al k1, .inl (g_c g 0, n1, .inl f1)) := trW_get hk1
  show W p (g_l g) e (m_room M) s m args below meth c H locs cl sl _ (F0 m pc lsA (.int n :: .int dp :: .ref (trR g al k1) :: .int sp :: .ref (trR g al k0) :: st.map (trV g al)))
  rw [trR_lt hlt0, trR_lt hlt1]
  refine va_copyi C.1 C.2.1 (C.2.2.2.1.trans hl.1.symm) C.2.2.2.2.1 (C.2.2.2.2.2.1 _ hq) (C.2.2.2.2.2.1 _ q_cpy.1) (C.2.2.2.2.2.1 _ q_cpy.2.1) (C.2.2.2.2.2.1 _ q_cpy.2.2) C.2.2.2.2.2.2.2.2.K hw.1 hw.2.1 hw.2.2 k0 k1 0 0 hg0 hg1 rfl rfl rfl h1 h2 h3 h4 h5 (fun _ _ => rfl) hdep (by
    have e9 : nativeFrameWords "java/lang/System" "arraycopy" 5 + 11 ≤ 32 := by decide +kernel
    show _ ≤ 40 * m_dep M
    omega) hd (fun H1 locs1 hP1 hD1 hS1 => ?_)
  have e1 : trW g al (h.set k1 (.inl (0, n1, .inl (va_cpy f0 f1 sp.toNatClampNeg dp.toNatClampNeg n.toNatClampNeg)))) = (trW g al h).set k1 (al k1, .inl (g_c g 0, n1, .inl (va_cpy f0 f1 sp.toNatClampNeg dp.toNatClampNeg n.toNatClampNeg))) := trW_set
  exact K p e s m args below meth c H1 locs1 lsA al0 m0 al C (agr_set ha) ⟨by rw [e1]; exact hP1, by rw [e1]; exact hD1, hS1⟩ hl
