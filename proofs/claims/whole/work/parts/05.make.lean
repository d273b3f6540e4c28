def dfl (a : Nat) : List Value := (List.range (ctN a)).map (fun k => defaultValue (cty a k))
theorem tr_dflt (g : Glob) (al : Nat → Nat) (ty : FieldType) : trV g al (defaultValue ty) = defaultValue ty := by cases ty <;> rfl
theorem tr_dfl (g : Glob) (al : Nat → Nat) (a : Nat) : (dfl a).map (trV g al) = dfl a := by
  unfold dfl
  rw [List.map_map]
  exact List.map_congr_left (fun k _ => tr_dflt g al _)
theorem dfl_V {a j : Nat} (hj : j < ctN a) : defaultValue (cty a j) = vp_V (dfl a) j := by
  unfold vp_V dfl
  simp [List.getD, hj]
def al1 (al : Nat → Nat) (n q : Nat) : Nat → Nat := fun k => if k = n then q else al k
theorem grow1 {g : Glob} {al : Nat → Nat} {h : AH} {q : Nat} {e : va_E} (hok : okH h = true) : trW g (al1 al h.length q) (h ++ [e]) = trW g al h ++ [(q, trE g (al1 al h.length q) e)] := by
  rw [trW_app, okW_tr (al := al) (al' := al1 al h.length q) hok (fun k hk => if_neg (Nat.ne_of_lt hk))]
  simp [al1]
theorem agr_grow {M : Mth} {al0 al al' : Nat → Nat} {n0 n n2 : Nat} (hm : m_mc M ≠ 0) (ha : agr M al0 n0 al n) (hal : ∀ k, k < n → al' k = al k) (hn : n ≤ n2) : agr M al0 n0 al' n2 :=
  ⟨fun z => absurd z hm, fun k hk => by rw [hal k (Nat.lt_of_lt_of_le hk ha.2.2), ha.2.1 k hk], Nat.le_trans ha.2.2 hn⟩
theorem okH_len {h : AH} (hok : okH h = true) : h.length ≤ 900 := by
  simp only [okH, Bool.and_eq_true] at hok
  exact Nat.le_of_ble_eq_true hok.1
theorem Bh.A {g : Glob} {s : State} (hB : Bh g s) : ∀ q, s.heap.size ≤ q → g_A g q := fun _ hq => Nat.le_trans hB.2.1 hq
/-- behind a making of one cell -/
theorem aw_made {g : Glob} {M : Mth} {Post : Option Value → AH → Prop} {cl sl pc : Nat} {ls : List (Option Value)} {st : List Value} {h : AH} {p : Program} {e : Env} {s : State} {m : MethodId} {args : Array Value} {below : List Frame} {meth : Method} {c : Code} {H : Heap} {locs : List Loc} {lsA : Array Slot} {al0 : Nat → Nat} {n0 : Nat} {al : Nat → Nat} {q : Nat} {x : va_E} {y : va_E}
    (C : Cx g M p s m args meth c) (ha : agr M al0 n0 al h.length) (hl : LH g al lsA (m_nL M) ls) (hm : m_mc M ≠ 0) (hok : okH h = true) (hst : okS h.length st = true) (hls : okL h.length ls = true) (hy : ∀ al', trE g al' x = y)
    (hP : va_P (g_D g) vwCl (trW g al h ++ [(q, y)]) H) (hD : va_D (g_A g) (trW g al h ++ [(q, y)])) (hS : va_S (g_A g) s.heap H locs)
    (K : AW g M Post cl sl pc ls (.ref h.length :: st) (h ++ [x])) :
    W p (g_l g) e (m_room M) s m args below meth c H locs cl sl (MQ below (QC g M Post al0 n0) args s (m_mc M) (m_ms M) (g_A g)) (F0 m pc lsA (.ref q :: st.map (trV g al))) := by
  have hn := okH_len hok
  have hal : ∀ k, k < h.length → al1 al h.length q k = al k := fun k hk => if_neg (Nat.ne_of_lt hk)
  have e1 := grow1 (g := g) (al := al) (q := q) (e := x) hok
  rw [hy] at e1
  have hK := K p e s m args below meth c H locs lsA al0 n0 (al1 al h.length q) C (agr_grow hm ha hal (by rw [List.length_append]; omega)) ⟨by rw [e1]; exact hP, by rw [e1]; exact hD, hS⟩ (okL_tr (by omega) hal hls hl)
  have e2 : (Value.ref h.length :: st).map (trV g (al1 al h.length q)) = .ref q :: st.map (trV g al) := by
    rw [List.map_cons, okS_tr (by omega) hal hst]
    show Value.ref (trR g (al1 al h.length q) h.length) :: _ = _
    rw [trR_lt (by omega)]
    simp [al1]
  rw [e2] at hK
  exact hK
theorem aw_new {g : Glob} {M : Mth} {Post : Option Value → AH → Prop} {cl sl pc : Nat} {ls : List (Option Value)} {st : List Value} {h : AH} {idx a : Nat} (hd : decode (m_cc M) pc = .ok (.new idx, 3)) (h7 : a < 7) (hq : Cond.classLink (m_own M) idx (ctR a) ∈ lw_g) (hq2 : Cond.instantiable (ctR a) (ctN a) ∈ lw_g) (hq3 : Cond.initialized (ctR a) ∈ lw_g) (hm : m_mc M ≠ 0) (hc : cl + 1 ≤ m_mc M) (hs : sl + ctN a ≤ m_ms M) (hok : okH h = true) (hst : okS h.length st = true) (hls : okL h.length ls = true) (K : AW g M Post (cl + 1) (sl + ctN a) (pc + 3) ls (.ref h.length :: st) (h ++ [.inr (a, dfl a)])) : AW g M Post cl sl pc ls st h := by
  intro p e s m args below meth c H locs lsA al0 n0 al C ha hw hl
  have hB := C.2.2.2.2.2.2.2.2
  refine va_new C.1 C.2.1 C.2.2.2.2.2.1 (ct_in h7) (cty a) (ct_ty h7) C.2.2.2.2.1 (C.2.2.2.2.2.1 _ hq) (C.2.2.2.2.2.1 _ hq2) (C.2.2.2.2.2.1 _ hq3) hB.K hw.1 hw.2.1 hw.2.2 hB.A (ct_cl h7) (fs := dfl a) (fun j hj => dfl_V hj) hc hs hd (fun q H1 hP1 hD1 hS1 => ?_)
  exact aw_made C ha hl hm hok hst hls (fun al' => by show Sum.inr (a, (dfl a).map (trV g al')) = _; rw [tr_dfl]) hP1 hD1 hS1 K
theorem q_newI : Cond.arrayClass .int ∈ lw_g := by decide +kernel
theorem aw_newI {g : Glob} {M : Mth} {Post : Option Value → AH → Prop} {cl sl pc : Nat} {ls : List (Option Value)} {st : List Value} {h : AH} {n : Int32} (hd : decode (m_cc M) pc = .ok (.newarray .int, 2)) (hn0 : ¬ n < 0) (hb : n.toNatClampNeg ≤ 1000) (hm : m_mc M ≠ 0) (hc : cl + 1 ≤ m_mc M) (hs : sl + n.toNatClampNeg ≤ m_ms M) (hok : okH h = true) (hst : okS h.length st = true) (hls : okL h.length ls = true) (K : AW g M Post (cl + 1) (sl + n.toNatClampNeg) (pc + 2) ls (.ref h.length :: st) (h ++ [.inl (0, n.toNatClampNeg, .inl (fun _ => 0))])) : AW g M Post cl sl pc ls (.int n :: st) h := by
  intro p e s m args below meth c H locs lsA al0 n0 al C ha hw hl
  have hB := C.2.2.2.2.2.2.2.2
  have e9 : componentBytes .int ≤ 8 := by decide
  have hby : n.toNatClampNeg * componentBytes .int ≤ 536870912 := Nat.le_trans (Nat.mul_le_mul hb e9) (by decide)
  refine va_newa (atype := .int) C.1 C.2.1 (C.2.2.2.2.2.1 _ q_newI) rfl hB.K hw.1 hw.2.1 hw.2.2 hB.A (a0 := (n.toNatClampNeg, .inl (fun _ => 0))) (fun _ => rfl) hn0 rfl hby hc hs hd (fun q cA H1 hK1 hP1 hD1 hS1 => ?_)
  have e1 : g_c g 0 = cA := Option.some.inj ((hB.K.2 0 _ rfl).2.symm.trans (hK1.2 4 _ rfl).2)
  exact aw_made C ha hl hm hok hst hls (fun al' => by show Sum.inl (g_c g 0, n.toNatClampNeg, Sum.inl (fun _ => 0)) = _; rw [e1]) hP1 hD1 hS1 K
theorem q_newZ : Cond.arrayClass .boolean ∈ lw_g := by decide +kernel
theorem aw_newZ {g : Glob} {M : Mth} {Post : Option Value → AH → Prop} {cl sl pc : Nat} {ls : List (Option Value)} {st : List Value} {h : AH} {n : Int32} (hd : decode (m_cc M) pc = .ok (.newarray .boolean, 2)) (hn0 : ¬ n < 0) (hb : n.toNatClampNeg ≤ 1000) (hm : m_mc M ≠ 0) (hc : cl + 1 ≤ m_mc M) (hs : sl + n.toNatClampNeg ≤ m_ms M) (hok : okH h = true) (hst : okS h.length st = true) (hls : okL h.length ls = true) (K : AW g M Post (cl + 1) (sl + n.toNatClampNeg) (pc + 2) ls (.ref h.length :: st) (h ++ [.inl (1, n.toNatClampNeg, .inl (fun _ => 0))])) : AW g M Post cl sl pc ls (.int n :: st) h := by
  intro p e s m args below meth c H locs lsA al0 n0 al C ha hw hl
  have hB := C.2.2.2.2.2.2.2.2
  have e9 : componentBytes .boolean ≤ 8 := by decide
  have hby : n.toNatClampNeg * componentBytes .boolean ≤ 536870912 := Nat.le_trans (Nat.mul_le_mul hb e9) (by decide)
  refine va_newa (atype := .boolean) C.1 C.2.1 (C.2.2.2.2.2.1 _ q_newZ) rfl hB.K hw.1 hw.2.1 hw.2.2 hB.A (a0 := (n.toNatClampNeg, .inl (fun _ => 0))) (fun _ => rfl) hn0 rfl hby hc hs hd (fun q cA H1 hK1 hP1 hD1 hS1 => ?_)
  have e1 : g_c g 1 = cA := Option.some.inj ((hB.K.2 1 _ rfl).2.symm.trans (hK1.2 4 _ rfl).2)
  exact aw_made C ha hl hm hok hst hls (fun al' => by show Sum.inl (g_c g 1, n.toNatClampNeg, Sum.inl (fun _ => 0)) = _; rw [e1]) hP1 hD1 hS1 K
theorem aw_newQ {g : Glob} {M : Mth} {Post : Option Value → AH → Prop} {cl sl pc : Nat} {ls : List (Option Value)} {st : List Value} {h : AH} {idx : Nat} {n : Int32} (hd : decode (m_cc M) pc = .ok (.anewarray idx, 3)) (hq : Cond.classLink (m_own M) idx "SceneShots$Scene" ∈ lw_g) (hn0 : ¬ n < 0) (hb : n.toNatClampNeg ≤ 1000) (hm : m_mc M ≠ 0) (hc : cl + 1 ≤ m_mc M) (hs : sl + n.toNatClampNeg ≤ m_ms M) (hok : okH h = true) (hst : okS h.length st = true) (hls : okL h.length ls = true) (K : AW g M Post (cl + 1) (sl + n.toNatClampNeg) (pc + 3) ls (.ref h.length :: st) (h ++ [.inl (2, n.toNatClampNeg, .inr (.inr (.inr (.inr (fun _ => none)))))])) : AW g M Post cl sl pc ls (.int n :: st) h := by
  intro p e s m args below meth c H locs lsA al0 n0 al C ha hw hl
  have hB := C.2.2.2.2.2.2.2.2
  have hov : va_AO "SceneShots$Scene" s := va_AO.moved hB.2.2.2.alike hB.1.2.2.2.2.2.2.2.1.2.2.2.1
  refine va_newq C.1 C.2.1 C.2.2.2.2.1 (C.2.2.2.2.2.1 _ hq) hov hB.K hw.1 hw.2.1 hw.2.2 hB.A hn0 rfl (by omega) hc hs hd (fun q cA H1 hK1 hP1 hD1 hS1 => ?_)
  obtain ⟨-, -, -, -, -, f1⟩ := (hB.K.2 2 _ rfl).2
  obtain ⟨-, -, -, -, -, f2⟩ := (hK1.2 4 _ rfl).2
  have e1 : g_c g 2 = cA := Option.some.inj (f1.symm.trans f2)
  exact aw_made C ha hl hm hok hst hls (fun al' => by show Sum.inl (g_c g 2, n.toNatClampNeg, Sum.inr (Sum.inr (Sum.inr (Sum.inr (fun i => if i < n.toNatClampNeg then none else none))))) = _; rw [e1]; congr; funext i; split <;> rfl) hP1 hD1 hS1 K
def al2 (al : Nat → Nat) (n q : Nat) (r : Nat → Nat) : Nat → Nat := fun k => if k < n then al k else if k = n then q else r (k - (n + 1))
theorem aw_newM {g : Glob} {M : Mth} {Post : Option Value → AH → Prop} {cl sl pc : Nat} {ls : List (Option Value)} {st : List Value} {h : AH} {idx : Nat} {n k : Int32} (hd : decode (m_cc M) pc = .ok (.multianewarray idx 2, 4)) (hq : Cond.classLink (m_own M) idx "[[I" ∈ lw_g) (hn0 : ¬ n < 0) (hk0 : ¬ k < 0) (hb : n.toNatClampNeg ≤ 50) (hb2 : k.toNatClampNeg ≤ 50) (hm : m_mc M ≠ 0) (hc : cl + (1 + n.toNatClampNeg) ≤ m_mc M) (hs : sl + (n.toNatClampNeg + n.toNatClampNeg * k.toNatClampNeg) ≤ m_ms M) (hok : okH h = true) (hst : okS h.length st = true) (hls : okL h.length ls = true)
    (K : AW g M Post (cl + 1 + n.toNatClampNeg) (sl + n.toNatClampNeg + n.toNatClampNeg * k.toNatClampNeg) (pc + 4) ls (.ref h.length :: st) (h ++ (.inl (3, n.toNatClampNeg, .inr (.inr (.inr (.inr (fun i => if i < n.toNatClampNeg then some (h.length + 1 + i) else none))))) :: List.replicate n.toNatClampNeg (.inl (0, k.toNatClampNeg, .inl (fun _ => 0)))))) : AW g M Post cl sl pc ls (.int k :: .int n :: st) h := by
  intro p e s m args below meth c H locs lsA al0 n0 al C ha hw hl
  have hB := C.2.2.2.2.2.2.2.2
  have hn := okH_len hok
  have e9 : componentBytes .int ≤ 8 := by decide
  have hby : k.toNatClampNeg * componentBytes .int ≤ 536870912 := Nat.le_trans (Nat.mul_le_mul hb2 e9) (by decide)
  have e0 : trW g al h ++ va_pl [] (fun _ => .inr (0, [])) = trW g al h := List.append_nil _
  have hov : (Cond.arrayOver (.array .int)).before args s = true := Jvm.Stand.arrayOver_alikeB hB.2.2.2.alike hB.1.2.2.2.2.2.2.2.1.2.2.2.2
  have hcy : s.vm.findClass (FieldType.array .int).toString = some (g_c g 0) := (hB.K.2 0 _ rfl).2
  refine va_mna (X := trW g al h) (L := []) (f := fun _ => .inr (0, [])) (ty := .int) (z := (k.toNatClampNeg, .inl (fun _ => 0))) C.1 C.2.1 C.2.2.2.2.1 (C.2.2.2.2.2.1 _ hq) hov (C.2.2.2.2.2.1 _ q_newI) hcy hB.K (by rw [e0]; exact hw.1) (by rw [e0]; exact hw.2.1) hw.2.2 hB.A hn0 hk0 rfl rfl (by omega) hby (by omega) rfl rfl hc hs (fun c9 => by
    show ({ cls := c9, slots := Array.replicate k.toNatClampNeg (.int 0), vm := .none } : Cell) = arrV c9 k.toNatClampNeg (fun _ => .int 0)
    exact arrV_new _ _ _) hd (fun q r cA H1 hinj _ hK1 hP1 hD1 hS1 => ?_)
  have e1 : g_c g 3 = cA := Option.some.inj ((hB.K.2 3 _ rfl).2.symm.trans (hK1.2 4 _ rfl).2)
  have hal : ∀ j, j < h.length → al2 al h.length q r j = al j := fun j hj => if_pos hj
  have eW : trW g (al2 al h.length q r) (h ++ (.inl (3, n.toNatClampNeg, .inr (.inr (.inr (.inr (fun i => if i < n.toNatClampNeg then some (h.length + 1 + i) else none))))) :: List.replicate n.toNatClampNeg (.inl (0, k.toNatClampNeg, .inl (fun _ => 0))))) = (trW g al h ++ [(q, .inl (cA, n.toNatClampNeg, .inr (.inr (.inr (.inr (fun i => if i < n.toNatClampNeg then some (r i) else none))))))]) ++ va_pl ([] ++ (List.range n.toNatClampNeg).map r) (vr_up (fun _ => .inr (0, [])) ((List.range n.toNatClampNeg).map r) (.inl (g_c g 0, (k.toNatClampNeg, .inl (fun _ => 0))))) := by
    rw [trW_app, okW_tr (al := al) hok hal, List.append_assoc]
    congr 1
    rw [List.mapIdx_cons, List.singleton_append]
    congr 1
    · show (al2 al h.length q r (0 + h.length), trE g (al2 al h.length q r) _) = _
      have e2 : al2 al h.length q r (0 + h.length) = q := by simp [al2]
      rw [e2]
      congr 1
      show Sum.inl (g_c g 3, n.toNatClampNeg, Sum.inr (Sum.inr (Sum.inr (Sum.inr (fun i => if i < n.toNatClampNeg then (if i < n.toNatClampNeg then some (h.length + 1 + i) else none).map (trR g (al2 al h.length q r)) else none))))) = _
      rw [e1]
      refine congrArg (fun z => (Sum.inl (cA, n.toNatClampNeg, Sum.inr (Sum.inr (Sum.inr (Sum.inr z)))) : va_E)) (funext fun i => ?_)
      by_cases hi : i < n.toNatClampNeg
      · rw [if_pos hi, if_pos hi, if_pos hi]
        show some (trR g (al2 al h.length q r) (h.length + 1 + i)) = some (r i)
        rw [trR_lt (by omega)]
        have e3 : al2 al h.length q r (h.length + 1 + i) = r i := by
          unfold al2
          rw [if_neg (by omega), if_neg (by omega)]
          congr 1
          omega
        rw [e3]
      · rw [if_neg hi, if_neg hi]
    · apply List.ext_getElem?
      intro j
      unfold va_pl
      rw [List.getElem?_mapIdx, List.nil_append, List.getElem?_map, List.getElem?_map, List.getElem?_replicate]
      by_cases hj : j < n.toNatClampNeg
      · rw [if_pos hj, List.getElem?_range hj]
        show some (al2 al h.length q r (j + 1 + h.length), Sum.inl (g_c g 0, k.toNatClampNeg, Sum.inl (fun _ => 0))) = some (r j, vr_up _ _ _ (r j))
        rw [vr_up_in (List.mem_map.mpr ⟨j, List.mem_range.mpr hj, rfl⟩)]
        have e3 : al2 al h.length q r (j + 1 + h.length) = r j := by
          unfold al2
          rw [if_neg (by omega), if_neg (by omega)]
          congr 1
          omega
        rw [e3]
      · rw [if_neg hj, List.getElem?_eq_none (by rw [List.length_range]; omega)]
        rfl
  have hK := K p e s m args below meth c H1 locs lsA al0 n0 (al2 al h.length q r) C (agr_grow hm ha hal (by rw [List.length_append]; omega)) ⟨by rw [eW]; exact hP1, by rw [eW]; exact hD1, hS1⟩ (okL_tr (by omega) hal hls hl)
  have e2 : (Value.ref h.length :: st).map (trV g (al2 al h.length q r)) = .ref q :: st.map (trV g al) := by
    rw [List.map_cons, okS_tr (by omega) hal hst]
    show Value.ref (trR g (al2 al h.length q r) h.length) :: _ = _
    rw [trR_lt (by omega)]
    simp [al2]
  rw [e2] at hK
  exact hK
/-! a method's entry -/
theorem lg_sl1 {vs : List Value} (h : vs.all (fun v => v.category == 1) = true) : lg_sl vs = vs.map Slot.val := by
  induction vs with
  | nil => rfl
  | cons v vs ih =>
    simp only [List.all_cons, Bool.and_eq_true, beq_iff_eq] at h
    show (if v.category = 2 then [Slot.val v, Slot.second] else [Slot.val v]) ++ lg_sl vs = _
    rw [if_neg (by omega), ih h.2]
    rfl
def ls0 (n : Nat) (args : List Value) : List (Option Value) := args.map some ++ List.replicate (n - args.length) none
theorem ac_in {g : Glob} {M : Mth} {args : List Value} {h : AH} {Post : Option Value → AH → Prop} (hy : plainName (m_y M).cls = true) (ho : (m_y M).cls = m_own M) (hc : args.all (fun v => v.category == 1) = true) (hn : args.length ≤ m_nL M) (K : AW g M Post 0 0 0 (ls0 (m_nL M) args) [] h) : AC g M args h Post := by
  intro al
  refine Met.ofW (cc := m_cc M) (maxL := m_nL M) (ret := m_ret M) hy rfl ?_
  intro p e s m args' below meth c s1 B hml hv
  obtain ⟨rfl, hB, hP, hD⟩ := hv
  have hts := atoms_spec (ws := m_ws M) B.pre
  have C : Cx g M p s m (args.map (trV g al)).toArray meth c := ⟨B.exec, B.bytes, B.returns, hml, by rw [← ho]; exact findClass_of_methodNamed B.named, fun w hw => hts w (List.mem_cons_of_mem _ hw), B.notSynchronized, (name_of_methodNamed B.named B.method).1, hB⟩
  have hc2 : (args.map (trV g al)).all (fun v => v.category == 1) = true := by
    rw [List.all_map]
    rw [show ((fun v : Value => v.category == 1) ∘ trV g al) = (fun v => v.category == 1) from funext (fun v => by show ((trV g al v).category == 1) = _; rw [trV_cat])]
    exact hc
  have hl0 := lv_entry (args.map (trV g al)) (n := m_nL M) (by rw [lg_sl1 hc2, List.length_map, List.length_map]; exact hn)
  rw [lg_entry_eq]
  refine K p e s m _ below meth c s.heap [] _ al h.length al C ⟨fun _ => rfl, fun _ _ => rfl, Nat.le_refl _⟩ ⟨hP, hD, va_S.rf⟩ ⟨hl0.1, hl0.2.1, fun k v hk => ?_⟩
  rw [lg_sl1 hc2]
  unfold ls0 at hk
  simp only [List.getElem?_toArray]
  have hk1 : k < args.length := by
    rcases Nat.lt_or_ge k args.length with z | z
    · exact z
    · rw [List.getElem?_append_right (by rw [List.length_map]; exact z)] at hk
      have := List.mem_of_getElem? hk
      rw [List.mem_replicate] at this
      cases this.2
  rw [List.getElem?_append_left (by rw [List.length_map]; exact hk1), List.getElem?_map] at hk
  rw [List.getElem?_append_left (by rw [List.length_map, List.length_map]; exact hk1), List.getElem?_map, List.getElem?_map]
  cases hv : args[k]? with
  | none => rw [hv] at hk; cases hk
  | some w =>
    rw [hv] at hk
    cases hk
    rfl
theorem ac_mono {g : Glob} {M : Mth} {args : List Value} {h : AH} {P Q : Option Value → AH → Prop} (hP : AC g M args h P) (hPQ : ∀ r h', P r h' → Q r h') : AC g M args h Q := by
  intro al
  have h0 := hP al
  intro p e ha hc hk s m a below hf happ hpc hK
  obtain ⟨k, o, h1, h2, h3, ⟨rv, h', al', z1, z2, z3⟩, h5⟩ := h0 p e ha hc hk s m a below hf happ hpc hK
  exact ⟨k, o, h1, h2, h3, ⟨rv, h', al', z1, hPQ _ _ z2, z3⟩, h5⟩
/-- a contract that says one answer and one heap -/
def ACe (g : Glob) (M : Mth) (args : List Value) (h : AH) (rv : Option Value) (h2 : AH) : Prop := AC g M args h (fun r h' => r = rv ∧ h' = h2)
theorem ac_to {g : Glob} {M : Mth} {args : List Value} {h h2 : AH} {rv : Option Value} {Q : Option Value → AH → Prop} (hP : ACe g M args h rv h2) (hQ : Q rv h2) : AC g M args h Q := ac_mono hP (fun r h' z => by rw [z.1, z.2]; exact hQ)
