/-! ===== an abstract machine over places: AW is the kit's W, said of places instead of addresses ===== -/
abbrev AH : Type := List va_E
abbrev Glob : Type := Launch × State × (Nat → Nat) × va_G × (Nat → ClassId) × Nat × (Nat → Int32)
def g_l (g : Glob) : Launch := g.1
def g_s (g : Glob) : State := g.2.1
def g_a (g : Glob) : Nat → Nat := g.2.2.1
def g_D (g : Glob) : va_G := g.2.2.2.1
def g_c (g : Glob) : Nat → ClassId := g.2.2.2.2.1
def g_L (g : Glob) : Nat := g.2.2.2.2.2.1
def g_x (g : Glob) : Nat → Int32 := g.2.2.2.2.2.2
def g_A (g : Glob) : Nat → Prop := fun q => (g_s g).heap.size ≤ q
/-- the words that stay -/
def lw_g : List Cond := lw_tbl.filter goodWord
/-- an instruction: its place, length, itself, three numbers and an int that say what it links -/
abbrev En : Type := Nat × Nat × Instr × Nat × Nat × Nat × Int32
/-- a method: name, class, bytes, locals, answer, (depth, cells, slots), places of its words, heads of loops, rows, parameters -/
abbrev Mth : Type := MethodName × String × ByteArray × Nat × Option FieldType × (Nat × Nat × Nat) × (Nat × Nat × Nat × Nat) × List Nat × List En × Nat
def m_y (M : Mth) : MethodName := M.1
def m_own (M : Mth) : String := M.2.1
def m_cc (M : Mth) : ByteArray := M.2.2.1
def m_nL (M : Mth) : Nat := M.2.2.2.1
def m_ret (M : Mth) : Option FieldType := M.2.2.2.2.1
def m_dep (M : Mth) : Nat := M.2.2.2.2.2.1.1
def m_mc (M : Mth) : Nat := M.2.2.2.2.2.1.2.1
def m_ms (M : Mth) : Nat := M.2.2.2.2.2.1.2.2
def m_wx (M : Mth) : Nat × Nat × Nat × Nat := M.2.2.2.2.2.2.1
def m_stops (M : Mth) : List Nat := M.2.2.2.2.2.2.2.1
def m_code (M : Mth) : List En := M.2.2.2.2.2.2.2.2.1
def m_np (M : Mth) : Nat := M.2.2.2.2.2.2.2.2.2
def m_room (M : Mth) : Room := { frames := m_dep M, cells := m_mc M, slots := m_ms M, locals := 40 * m_dep M }
def m_ws (M : Mth) : List Cond := Cond.code (m_y M) (m_cc M) (m_nL M) (m_ret M) :: lw_g
/-- places below 1000 are cells of the world, others cells that never change -/
def trR (g : Glob) (al : Nat → Nat) (k : Nat) : Nat := if k < 1000 then al k else g_a g k
def trV (g : Glob) (al : Nat → Nat) (v : Value) : Value := match v with
  | .ref k => .ref (trR g al k)
  | w => w
def trC (g : Glob) (al : Nat → Nat) (n : Nat) (c : (Nat → Int32) ⊕ (Nat → Int64) ⊕ (Nat → UInt32) ⊕ (Nat → UInt64) ⊕ (Nat → Option Nat)) : (Nat → Int32) ⊕ (Nat → Int64) ⊕ (Nat → UInt32) ⊕ (Nat → UInt64) ⊕ (Nat → Option Nat) := match c with
  | .inr (.inr (.inr (.inr f))) => .inr (.inr (.inr (.inr (fun i => if i < n then (f i).map (trR g al) else none))))
  | c => c
def trE (g : Glob) (al : Nat → Nat) (e : va_E) : va_E := match e with
  | .inl (t, n, c) => .inl (g_c g t, n, trC g al n c)
  | .inr (ci, fs) => .inr (ci, fs.map (trV g al))
def trW (g : Glob) (al : Nat → Nat) (h : AH) : va_W := h.mapIdx (fun k e => (al k, trE g al e))
abbrev tys (g : Glob) : List (ClassId × FieldType) := [(g_c g 0, .int), (g_c g 1, .boolean), (g_c g 2, .object "SceneShots$Scene"), (g_c g 3, .array .int)]
/-- rows that never change -/
def roI (g : Glob) (k : Nat) : Option (Nat × (Nat → Int32)) := match k with
  | 1003 => some (7, fun j => [0, 0, 0, 1, 0, 0, 1].getD j 0)
  | 1004 => some (7, fun j => [9, 9, 2, 5, 7, 7, 9].getD j 0)
  | 1005 => some (g_L g, g_x g)
  | _ => none
def roB (k : Nat) : Option (Nat × (Nat → Int32)) := match k with
  | 1010 => some (7, fun j => [112, 108, 97, 121, 101, 114, 115].getD j 0)
  | 1011 => some (5, fun j => [108, 105, 110, 101, 115].getD j 0)
  | 1012 => some (4, fun j => [115, 104, 111, 116].getD j 0)
  | _ => none
/-- the literals' own fields -/
def roF (k b : Nat) : Option Value := match k, b with
  | 1000, 0 => some (.ref 1010)
  | 1001, 0 => some (.ref 1011)
  | 1002, 0 => some (.ref 1012)
  | 1000, 1 => some (.int 0)
  | 1001, 1 => some (.int 0)
  | 1002, 1 => some (.int 0)
  | _, _ => none
def g_O (g : Glob) (k : Nat) (j : Nat) : Prop := va_O "java/lang/String" (g_a g k) (g_A g) (g_s g) (g_s g).heap ∧ va_OF "java/lang/String" "value" "[B" (.ref (g_a g j)) (g_a g k) (g_A g) (g_s g) (g_s g).heap ∧ va_OF "java/lang/String" "coder" "B" (.int 0) (g_a g k) (g_A g) (g_s g) (g_s g).heap
def g_Z (g : Glob) (C n d : String) (v : Value) : Prop := va_Z C n d v (g_A g) (g_s g) (g_s g).heap
/-- what is known of the start -/
def GOK (g : Glob) : Prop :=
  va_K (g_D g) vwCl (tys g) (g_s g) ∧
  (∀ (k N : Nat) (f : Nat → Int32), roI g k = some (N, f) → va_T .int (g_a g k) N (fun j => .int (f j)) (g_A g) (g_s g) (g_s g).heap) ∧
  (∀ (k N : Nat) (f : Nat → Int32), roB k = some (N, f) → va_T .byte (g_a g k) N (fun j => .int (f j)) (g_A g) (g_s g) (g_s g).heap) ∧
  (g_O g 1000 1010 ∧ g_O g 1001 1011 ∧ g_O g 1002 1012) ∧
  (g_Z g "SceneShots" "LOWEST" "[I" (.ref (g_a g 1003)) ∧ g_Z g "SceneShots" "HIGHEST" "[I" (.ref (g_a g 1004))) ∧
  g_Z g "java/lang/String" "COMPACT_STRINGS" "Z" (.int 1) ∧
  (g_Z g "jdk/internal/util/Preconditions" "SIOOBE_FORMATTER" "Ljava/util/function/BiFunction;" .null ∨ g_Z g "jdk/internal/util/Preconditions" "SIOOBE_FORMATTER" "Ljava/util/function/BiFunction;" (.ref (g_a g 1020))) ∧
  (vk_R "SceneShots$Reader" 47 "players" (g_a g 1000) (g_s g) ∧ vk_R "SceneShots$Reader" 56 "lines" (g_a g 1001) (g_s g) ∧ vk_R "SceneShots$Reader" 61 "shot" (g_a g 1002) (g_s g) ∧ va_AO "SceneShots$Scene" (g_s g) ∧ (Cond.arrayOver (.array .int)).before #[] (g_s g) = true) ∧
  (∀ w ∈ lw_tbl, w.onTables = true → va_Nw w (g_s g))
/-- a state of a method's start that stands behind the start -/
def Bh (g : Glob) (s : State) : Prop := GOK g ∧ (g_s g).heap.size ≤ s.heap.size ∧ (∀ q : Nat, q < (g_s g).heap.size → s.heap[q]? = (g_s g).heap[q]?) ∧ (g_s g).WarmedH s.vm
def Cx (g : Glob) (M : Mth) (p : Program) (s : State) (m : MethodId) (args : Array Value) (meth : Method) (c : Code) : Prop :=
  p.tables.exec = Jvm.exec ∧ c.code = m_cc M ∧ meth.sig.returnType = m_ret M ∧ c.maxLocals = m_nL M ∧ s.vm.findClass (m_own M) = some m.cls ∧ (∀ w ∈ lw_g, w.before args s = true) ∧ meth.locks = false ∧ meth.name = (m_y M).name ∧ Bh g s
/-- the locals hold what is listed -/
def LH (g : Glob) (al : Nat → Nat) (lsA : Array Slot) (nL : Nat) (ls : List (Option Value)) : Prop := lsA.size = nL ∧ lv_wf lsA ∧ ∀ (k : Nat) (v : Value), ls[k]? = some (some v) → lsA[k]? = some (.val (trV g al v))
def Wd (g : Glob) (al : Nat → Nat) (h : AH) (s : State) (H : Heap) (locs : List Loc) : Prop := va_P (g_D g) vwCl (trW g al h) H ∧ va_D (g_A g) (trW g al h) ∧ va_S (g_A g) s.heap H locs
def agr (M : Mth) (al0 : Nat → Nat) (n0 : Nat) (al : Nat → Nat) (n : Nat) : Prop := (m_mc M = 0 → al = al0) ∧ (∀ k, k < n0 → al k = al0 k) ∧ n0 ≤ n
/-- a method's end -/
def QC (g : Glob) (M : Mth) (Post : Option Value → AH → Prop) (al0 : Nat → Nat) (n0 : Nat) : Array Value → State → Outcome → State → Prop := fun _ st oc t =>
  ∃ (rv : Option Value) (h' : AH) (al' : Nat → Nat), oc = .returned (rv.map (trV g al')) ∧ Post rv h' ∧ agr M al0 n0 al' h'.length ∧ va_P (g_D g) vwCl (trW g al' h') t.heap ∧ va_D (g_A g) (trW g al' h') ∧ va_F (g_A g) st t
/-- the machine, at pc with these locals, stack and cells, comes to the method's end with Post -/
def AW (g : Glob) (M : Mth) (Post : Option Value → AH → Prop) (cl sl pc : Nat) (ls : List (Option Value)) (st : List Value) (h : AH) : Prop :=
  ∀ (p : Program) (e : Env) (s : State) (m : MethodId) (args : Array Value) (below : List Frame) (meth : Method) (c : Code) (H : Heap) (locs : List Loc) (lsA : Array Slot) (al0 : Nat → Nat) (n0 : Nat) (al : Nat → Nat),
    Cx g M p s m args meth c → agr M al0 n0 al h.length → Wd g al h s H locs → LH g al lsA (m_nL M) ls →
    W p (g_l g) e (m_room M) s m args below meth c H locs cl sl (MQ below (QC g M Post al0 n0) args s (m_mc M) (m_ms M) (g_A g)) (F0 m pc lsA (st.map (trV g al)))
def PU (g : Glob) (al : Nat → Nat) (h : AH) (U : State) : Prop := Bh g U ∧ va_P (g_D g) vwCl (trW g al h) U.heap ∧ va_D (g_A g) (trW g al h)
/-- a method's contract -/
def AC (g : Glob) (M : Mth) (args : List Value) (h : AH) (Post : Option Value → AH → Prop) : Prop :=
  ∀ al : Nat → Nat, Met (g_l g) (m_y M) (m_ws M) (m_room M) (va_Pc (args.map (trV g al)) (PU g al h)) (QC g M Post al h.length) (m_mc M) (m_ms M) (g_A g)
/-! helpers -/
def popN : Nat → List Value → List Value → Option (List Value × List Value)
  | 0, acc, st => some (acc, st)
  | n + 1, acc, v :: st => popN n (v :: acc) st
  | _ + 1, _, [] => none
theorem popN_eq : ∀ (n : Nat) (acc st As r : List Value), popN n acc st = some (As, r) → acc.reverse ++ st = As.reverse ++ r ∧ As.length = n + acc.length := by
  intro n
  induction n with
  | zero =>
    intro acc st As r h
    have h1 : some (acc, st) = some (As, r) := h
    cases h1
    exact ⟨rfl, by omega⟩
  | succ n ih =>
    intro acc st As r h
    cases st with
    | nil => cases h
    | cons v st =>
      obtain ⟨h1, h2⟩ := ih (v :: acc) st As r h
      refine ⟨?_, by rw [h2, List.length_cons]; omega⟩
      rw [← h1]
      simp
def hat (h : AH) (k : Nat) : Option va_E := match Nat.blt k 1000 with
  | true => h[k]?
  | false => none
def lget (ls : List (Option Value)) (k : Nat) : Option Value := match ls[k]? with
  | some o => o
  | none => none
def c2at (ls : List (Option Value)) (i : Nat) : Bool := match i with
  | 0 => false
  | j + 1 => match lget ls j with
    | some v => v.category == 2
    | none => false
def dropTo (t : Nat) : List En → List En
  | [] => []
  | e :: r => match Nat.beq e.1 t with
    | true => e :: r
    | false => dropTo t r
def okV (n : Nat) (v : Value) : Bool := match v with
  | .ref k => Nat.blt k n || Nat.ble 1000 k
  | _ => true
def okS (n : Nat) (st : List Value) : Bool := st.all (okV n)
def okL (n : Nat) (ls : List (Option Value)) : Bool := ls.all (fun o => match o with
  | some v => okV n v
  | none => true)
def okR (n : Nat) (o : Option Nat) : Bool := match o with
  | some k => Nat.blt k n || Nat.ble 1000 k
  | none => true
def okE (n : Nat) (e : va_E) : Bool := match e with
  | .inl (_, m, .inr (.inr (.inr (.inr f)))) => (List.range m).all (fun i => okR n (f i))
  | .inl _ => true
  | .inr (_, fs) => okS n fs
def okH (h : AH) : Bool := Nat.ble h.length 900 && h.all (okE h.length)
theorem lget_some {ls : List (Option Value)} {k : Nat} {v : Value} (h : lget ls k = some v) : ls[k]? = some (some v) := by
  unfold lget at h
  cases hk : ls[k]? with
  | none => rw [hk] at h; cases h
  | some o => rw [hk] at h; rw [show o = some v from h]
theorem hat_some {h : AH} {k : Nat} {e : va_E} (he : hat h k = some e) : k < 1000 ∧ h[k]? = some e := by
  unfold hat at he
  cases hb : Nat.blt k 1000 with
  | false => rw [hb] at he; cases he
  | true => rw [hb] at he; exact ⟨Nat.le_of_ble_eq_true hb, he⟩
theorem trR_lt {g : Glob} {al : Nat → Nat} {k : Nat} (h : k < 1000) : trR g al k = al k := if_pos h
theorem trR_ge {g : Glob} {al : Nat → Nat} {k : Nat} (h : ¬ k < 1000) : trR g al k = g_a g k := if_neg h
theorem trW_get {g : Glob} {al : Nat → Nat} {h : AH} {k : Nat} {e : va_E} (hk : h[k]? = some e) : (trW g al h)[k]? = some (al k, trE g al e) := by
  unfold trW
  rw [List.getElem?_mapIdx, hk]
  rfl
theorem trW_set {g : Glob} {al : Nat → Nat} {h : AH} {k : Nat} {e : va_E} : trW g al (h.set k e) = (trW g al h).set k (al k, trE g al e) := by
  apply List.ext_getElem?
  intro j
  unfold trW
  rw [List.getElem?_mapIdx, List.getElem?_set, List.getElem?_set, List.getElem?_mapIdx, List.length_mapIdx]
  by_cases hj : k = j
  · subst hj
    by_cases hl : k < h.length
    · simp [hl]
    · simp [hl]
  · simp [hj]
theorem trV_cat (g : Glob) (al : Nat → Nat) (v : Value) : (trV g al v).category = v.category := by cases v <;> rfl
def lvl (g : Glob) (al : Nat → Nat) (ls : List (Option Value)) : List (Nat × Value) := ls.zipIdx.filterMap (fun q => q.1.map (fun v => (q.2, trV g al v)))
theorem lvl_mem {g : Glob} {al : Nat → Nat} {ls : List (Option Value)} {k : Nat} {v : Value} (h : ls[k]? = some (some v)) : (k, trV g al v) ∈ lvl g al ls := by
  unfold lvl
  refine List.mem_filterMap.mpr ⟨(some v, k), ?_, rfl⟩
  exact List.mem_zipIdx_iff_getElem?.mpr h
theorem lvl_of {g : Glob} {al : Nat → Nat} {ls : List (Option Value)} {q : Nat × Value} (h : q ∈ lvl g al ls) : ∃ v, ls[q.1]? = some (some v) ∧ q.2 = trV g al v := by
  unfold lvl at h
  obtain ⟨⟨o, k⟩, h1, h2⟩ := List.mem_filterMap.mp h
  cases o with
  | none => cases h2
  | some v =>
    cases h2
    exact ⟨v, List.mem_zipIdx_iff_getElem?.mp h1, rfl⟩
theorem LH.has {g : Glob} {al : Nat → Nat} {lsA : Array Slot} {nL : Nat} {ls : List (Option Value)} (h : LH g al lsA nL ls) : lv_has lsA nL (lvl g al ls) := by
  refine ⟨h.1, h.2.1, fun q hq => ?_⟩
  obtain ⟨v, h1, h2⟩ := lvl_of hq
  rw [h2]
  exact h.2.2 _ _ h1
theorem LH.at {g : Glob} {al : Nat → Nat} {lsA : Array Slot} {nL : Nat} {ls : List (Option Value)} {k : Nat} {v : Value} (h : LH g al lsA nL ls) (hk : lget ls k = some v) : lsA[k]? = some (.val (trV g al v)) := h.2.2 _ _ (lget_some hk)
theorem c2at_cat {ls : List (Option Value)} {i k : Nat} {w : Value} (h : c2at ls i = false) (hk : k + 1 = i) (hw : ls[k]? = some (some w)) : w.category ≠ 2 := by
  subst hk
  intro hc
  have hg : lget ls k = some w := by unfold lget; rw [hw]
  simp [c2at, hg, hc] at h
/-- behind a store of one slot -/
theorem LH.set1 {g : Glob} {al : Nat → Nat} {ls' : Array Slot} {nL i : Nat} {ls : List (Option Value)} {v : Value} (hc : c2at ls i = false)
    (h : lv_has ls' nL ((i, trV g al v) :: (lvl g al ls).filter (fun q => !(q.1 == i) && !(q.1 + 1 == i && q.2.category == 2)))) : LH g al ls' nL (ls.set i (some v)) := by
  refine ⟨h.1, h.2.1, fun k w hk => ?_⟩
  rw [List.getElem?_set] at hk
  by_cases hi : i = k
  · subst hi
    rw [if_pos rfl] at hk
    split at hk
    · cases hk
      exact h.2.2 (i, trV g al v) List.mem_cons_self
    · cases hk
  · rw [if_neg hi] at hk
    refine h.2.2 (k, trV g al w) (List.mem_cons_of_mem _ (List.mem_filter.mpr ⟨lvl_mem hk, ?_⟩))
    have e1 : (k == i) = false := by simpa using fun z => hi z.symm
    by_cases hk1 : k + 1 = i
    · have hcw := c2at_cat hc hk1 hk
      have e2 : ((trV g al w).category == 2) = false := by rw [trV_cat]; simpa using hcw
      simp [e1, e2]
    · have e2 : (k + 1 == i) = false := by simpa using hk1
      simp [e1, e2]
theorem LH.set2 {g : Glob} {al : Nat → Nat} {ls' : Array Slot} {nL i : Nat} {ls : List (Option Value)} {v : Value} (hc : c2at ls i = false)
    (h : lv_has ls' nL ((i, trV g al v) :: (lvl g al ls).filter (fun q => !(q.1 == i) && (!(q.1 == i + 1) && !(q.1 + 1 == i && q.2.category == 2))))) : LH g al ls' nL ((ls.set i (some v)).set (i + 1) none) := by
  refine ⟨h.1, h.2.1, fun k w hk => ?_⟩
  rw [List.getElem?_set] at hk
  by_cases hj : i + 1 = k
  · rw [if_pos hj] at hk
    split at hk <;> cases hk
  rw [if_neg hj, List.getElem?_set] at hk
  by_cases hi : i = k
  · subst hi
    rw [if_pos rfl] at hk
    split at hk
    · cases hk
      exact h.2.2 (i, trV g al v) List.mem_cons_self
    · cases hk
  · rw [if_neg hi] at hk
    refine h.2.2 (k, trV g al w) (List.mem_cons_of_mem _ (List.mem_filter.mpr ⟨lvl_mem hk, ?_⟩))
    have e1 : (k == i) = false := by simpa using fun z => hi z.symm
    have e3 : (k == i + 1) = false := by simpa using fun z => hj z.symm
    by_cases hk1 : k + 1 = i
    · have hcw := c2at_cat hc hk1 hk
      have e2 : ((trV g al w).category == 2) = false := by rw [trV_cat]; simpa using hcw
      simp [e1, e2, e3]
    · have e2 : (k + 1 == i) = false := by simpa using hk1
      simp [e1, e2, e3]
theorem Bh.K {g : Glob} {s : State} (h : Bh g s) : va_K (g_D g) vwCl (tys g) s := va_K.moved h.2.2.2.alike h.1.1
theorem Bh.ke {g : Glob} {s : State} (h : Bh g s) : ∀ a : Nat, a < (g_s g).heap.size → ¬ g_A g a → s.heap[a]? = (g_s g).heap[a]? := fun a ha _ => h.2.2.1 a ha

theorem aw_iconst {g : Glob} {M : Mth} {Post : Option Value → AH → Prop} {cl sl pc : Nat} {ls : List (Option Value)} {st : List Value} {h : AH} {n : Int} {v : Int32} (hd : decode (m_cc M) pc = .ok (.iconst n, 1)) (hv : Int32.ofInt n = v) (K : AW g M Post cl sl (pc + 1) ls (.int v :: st) h) : AW g M Post cl sl pc ls (st) h := by
  intro p e s m args below meth c H locs lsA al0 n0 al C ha hw hl
  exact lv_iconst C.1 C.2.1 hd hv (K p e s m args below meth c H locs lsA al0 n0 al C ha hw hl)
theorem aw_bipush {g : Glob} {M : Mth} {Post : Option Value → AH → Prop} {cl sl pc : Nat} {ls : List (Option Value)} {st : List Value} {h : AH} {n : Int} {v : Int32} (hd : decode (m_cc M) pc = .ok (.bipush n, 2)) (hv : (Int8.ofInt n).toInt32 = v) (K : AW g M Post cl sl (pc + 2) ls (.int v :: st) h) : AW g M Post cl sl pc ls (st) h := by
  intro p e s m args below meth c H locs lsA al0 n0 al C ha hw hl
  exact lv_bipush C.1 C.2.1 hd hv (K p e s m args below meth c H locs lsA al0 n0 al C ha hw hl)
theorem aw_sipush {g : Glob} {M : Mth} {Post : Option Value → AH → Prop} {cl sl pc : Nat} {ls : List (Option Value)} {st : List Value} {h : AH} {n : Int} {v : Int32} (hd : decode (m_cc M) pc = .ok (.sipush n, 3)) (hv : (Int16.ofInt n).toInt32 = v) (K : AW g M Post cl sl (pc + 3) ls (.int v :: st) h) : AW g M Post cl sl pc ls (st) h := by
  intro p e s m args below meth c H locs lsA al0 n0 al C ha hw hl
  exact lv_sipush C.1 C.2.1 hd hv (K p e s m args below meth c H locs lsA al0 n0 al C ha hw hl)
theorem aw_lconst {g : Glob} {M : Mth} {Post : Option Value → AH → Prop} {cl sl pc : Nat} {ls : List (Option Value)} {st : List Value} {h : AH} {n : Fin 2} {v : Int64} (hd : decode (m_cc M) pc = .ok (.lconst n, 1)) (hv : Int64.ofNat (n : Nat) = v) (K : AW g M Post cl sl (pc + 1) ls (.long v :: st) h) : AW g M Post cl sl pc ls (st) h := by
  intro p e s m args below meth c H locs lsA al0 n0 al C ha hw hl
  exact lv_lconst C.1 C.2.1 hd hv (K p e s m args below meth c H locs lsA al0 n0 al C ha hw hl)
theorem aw_fconst0 {g : Glob} {M : Mth} {Post : Option Value → AH → Prop} {cl sl pc : Nat} {ls : List (Option Value)} {st : List Value} {h : AH}  (hd : decode (m_cc M) pc = .ok (.fconst 0, 1)) (K : AW g M Post cl sl (pc + 1) ls (.float FP.fconst0 :: st) h) : AW g M Post cl sl pc ls (st) h := by
  intro p e s m args below meth c H locs lsA al0 n0 al C ha hw hl
  exact lv_fconst0 C.1 C.2.1 hd (K p e s m args below meth c H locs lsA al0 n0 al C ha hw hl)
theorem aw_ldc {g : Glob} {M : Mth} {Post : Option Value → AH → Prop} {cl sl pc : Nat} {ls : List (Option Value)} {st : List Value} {h : AH} {idx : Nat} {v : Int32} (hd : decode (m_cc M) pc = .ok (.ldc idx, 2)) (hq : Cond.constant (m_own M) idx v ∈ lw_g) (K : AW g M Post cl sl (pc + 2) ls (.int v :: st) h) : AW g M Post cl sl pc ls (st) h := by
  intro p e s m args below meth c H locs lsA al0 n0 al C ha hw hl
  exact lv_ldc C.1 C.2.1 C.2.2.2.2.1 (C.2.2.2.2.2.1 _ hq) hd (K p e s m args below meth c H locs lsA al0 n0 al C ha hw hl)
theorem aw_ldcw {g : Glob} {M : Mth} {Post : Option Value → AH → Prop} {cl sl pc : Nat} {ls : List (Option Value)} {st : List Value} {h : AH} {idx : Nat} {v : Int32} (hd : decode (m_cc M) pc = .ok (.ldc_w idx, 3)) (hq : Cond.constant (m_own M) idx v ∈ lw_g) (K : AW g M Post cl sl (pc + 3) ls (.int v :: st) h) : AW g M Post cl sl pc ls (st) h := by
  intro p e s m args below meth c H locs lsA al0 n0 al C ha hw hl
  exact lv_ldcw C.1 C.2.1 C.2.2.2.2.1 (C.2.2.2.2.2.1 _ hq) hd (K p e s m args below meth c H locs lsA al0 n0 al C ha hw hl)
theorem aw_ldc2 {g : Glob} {M : Mth} {Post : Option Value → AH → Prop} {cl sl pc : Nat} {ls : List (Option Value)} {st : List Value} {h : AH} {idx : Nat} {v : Int64} (hd : decode (m_cc M) pc = .ok (.ldc2_w idx, 3)) (hq : Cond.constantLong (m_own M) idx v ∈ lw_g) (K : AW g M Post cl sl (pc + 3) ls (.long v :: st) h) : AW g M Post cl sl pc ls (st) h := by
  intro p e s m args below meth c H locs lsA al0 n0 al C ha hw hl
  exact lv_ldc2 C.1 C.2.1 C.2.2.2.2.1 (C.2.2.2.2.2.1 _ hq) hd (K p e s m args below meth c H locs lsA al0 n0 al C ha hw hl)
theorem aw_ldcf {g : Glob} {M : Mth} {Post : Option Value → AH → Prop} {cl sl pc : Nat} {ls : List (Option Value)} {st : List Value} {h : AH} {idx : Nat} {v : UInt32} (hd : decode (m_cc M) pc = .ok (.ldc idx, 2)) (hq : Cond.constantFloat (m_own M) idx v ∈ lw_g) (K : AW g M Post cl sl (pc + 2) ls (.float v :: st) h) : AW g M Post cl sl pc ls (st) h := by
  intro p e s m args below meth c H locs lsA al0 n0 al C ha hw hl
  exact lv_ldcf C.1 C.2.1 C.2.2.2.2.1 (C.2.2.2.2.2.1 _ hq) hd (K p e s m args below meth c H locs lsA al0 n0 al C ha hw hl)
theorem aw_iload_n {g : Glob} {M : Mth} {Post : Option Value → AH → Prop} {cl sl pc : Nat} {ls : List (Option Value)} {st : List Value} {h : AH} {k : Fin 4} {x : Int32} (hd : decode (m_cc M) pc = .ok (.iload_n k, 1)) (hk : lget ls (k : Nat) = some (.int x)) (K : AW g M Post cl sl (pc + 1) ls (.int x :: st) h) : AW g M Post cl sl pc ls (st) h := by
  intro p e s m args below meth c H locs lsA al0 n0 al C ha hw hl
  exact lv_iload_n C.1 C.2.1 hd rfl (hl.at hk) (K p e s m args below meth c H locs lsA al0 n0 al C ha hw hl)
theorem aw_iload {g : Glob} {M : Mth} {Post : Option Value → AH → Prop} {cl sl pc : Nat} {ls : List (Option Value)} {st : List Value} {h : AH} {k : Nat} {x : Int32} (hd : decode (m_cc M) pc = .ok (.iload k, 2)) (hk : lget ls k = some (.int x)) (K : AW g M Post cl sl (pc + 2) ls (.int x :: st) h) : AW g M Post cl sl pc ls (st) h := by
  intro p e s m args below meth c H locs lsA al0 n0 al C ha hw hl
  exact lv_iload C.1 C.2.1 hd (hl.at hk) (K p e s m args below meth c H locs lsA al0 n0 al C ha hw hl)
theorem aw_lload_n {g : Glob} {M : Mth} {Post : Option Value → AH → Prop} {cl sl pc : Nat} {ls : List (Option Value)} {st : List Value} {h : AH} {k : Fin 4} {x : Int64} (hd : decode (m_cc M) pc = .ok (.lload_n k, 1)) (hk : lget ls (k : Nat) = some (.long x)) (K : AW g M Post cl sl (pc + 1) ls (.long x :: st) h) : AW g M Post cl sl pc ls (st) h := by
  intro p e s m args below meth c H locs lsA al0 n0 al C ha hw hl
  exact lv_lload_n C.1 C.2.1 hd rfl (hl.at hk) (K p e s m args below meth c H locs lsA al0 n0 al C ha hw hl)
theorem aw_lload {g : Glob} {M : Mth} {Post : Option Value → AH → Prop} {cl sl pc : Nat} {ls : List (Option Value)} {st : List Value} {h : AH} {k : Nat} {x : Int64} (hd : decode (m_cc M) pc = .ok (.lload k, 2)) (hk : lget ls k = some (.long x)) (K : AW g M Post cl sl (pc + 2) ls (.long x :: st) h) : AW g M Post cl sl pc ls (st) h := by
  intro p e s m args below meth c H locs lsA al0 n0 al C ha hw hl
  exact lv_lload C.1 C.2.1 hd (hl.at hk) (K p e s m args below meth c H locs lsA al0 n0 al C ha hw hl)
theorem aw_fload_n {g : Glob} {M : Mth} {Post : Option Value → AH → Prop} {cl sl pc : Nat} {ls : List (Option Value)} {st : List Value} {h : AH} {k : Fin 4} {x : UInt32} (hd : decode (m_cc M) pc = .ok (.fload_n k, 1)) (hk : lget ls (k : Nat) = some (.float x)) (K : AW g M Post cl sl (pc + 1) ls (.float x :: st) h) : AW g M Post cl sl pc ls (st) h := by
  intro p e s m args below meth c H locs lsA al0 n0 al C ha hw hl
  exact lv_fload_n C.1 C.2.1 hd rfl (hl.at hk) (K p e s m args below meth c H locs lsA al0 n0 al C ha hw hl)
theorem aw_fload {g : Glob} {M : Mth} {Post : Option Value → AH → Prop} {cl sl pc : Nat} {ls : List (Option Value)} {st : List Value} {h : AH} {k : Nat} {x : UInt32} (hd : decode (m_cc M) pc = .ok (.fload k, 2)) (hk : lget ls k = some (.float x)) (K : AW g M Post cl sl (pc + 2) ls (.float x :: st) h) : AW g M Post cl sl pc ls (st) h := by
  intro p e s m args below meth c H locs lsA al0 n0 al C ha hw hl
  exact lv_fload C.1 C.2.1 hd (hl.at hk) (K p e s m args below meth c H locs lsA al0 n0 al C ha hw hl)
theorem aw_aload_n {g : Glob} {M : Mth} {Post : Option Value → AH → Prop} {cl sl pc : Nat} {ls : List (Option Value)} {st : List Value} {h : AH} {k : Fin 4} {x : Nat} (hd : decode (m_cc M) pc = .ok (.aload_n k, 1)) (hk : lget ls (k : Nat) = some (.ref x)) (K : AW g M Post cl sl (pc + 1) ls (.ref x :: st) h) : AW g M Post cl sl pc ls (st) h := by
  intro p e s m args below meth c H locs lsA al0 n0 al C ha hw hl
  exact lv_aload_n C.1 C.2.1 hd rfl (hl.at hk) (K p e s m args below meth c H locs lsA al0 n0 al C ha hw hl)
theorem aw_aload {g : Glob} {M : Mth} {Post : Option Value → AH → Prop} {cl sl pc : Nat} {ls : List (Option Value)} {st : List Value} {h : AH} {k : Nat} {x : Nat} (hd : decode (m_cc M) pc = .ok (.aload k, 2)) (hk : lget ls k = some (.ref x)) (K : AW g M Post cl sl (pc + 2) ls (.ref x :: st) h) : AW g M Post cl sl pc ls (st) h := by
  intro p e s m args below meth c H locs lsA al0 n0 al C ha hw hl
  exact lv_aload C.1 C.2.1 hd (hl.at hk) (K p e s m args below meth c H locs lsA al0 n0 al C ha hw hl)
theorem aw_istore_n {g : Glob} {M : Mth} {Post : Option Value → AH → Prop} {cl sl pc : Nat} {ls : List (Option Value)} {st : List Value} {h : AH} {k : Fin 4} {i : Nat} {x : Int32} (hd : decode (m_cc M) pc = .ok (.istore_n k, 1)) (hi : (k : Nat) = i) (hn : i < m_nL M) (hc : c2at ls i = false) (K : AW g M Post cl sl (pc + 1) (ls.set i (some (.int x))) st h) : AW g M Post cl sl pc ls (.int x :: st) h := by
  intro p e s m args below meth c H locs lsA al0 n0 al C ha hw hl
  exact lv_istore_n C.1 C.2.1 hd hi hl.has hn rfl (fun ls' hl' => K p e s m args below meth c H locs ls' al0 n0 al C ha hw (LH.set1 (v := .int x) hc hl'))
theorem aw_istore {g : Glob} {M : Mth} {Post : Option Value → AH → Prop} {cl sl pc : Nat} {ls : List (Option Value)} {st : List Value} {h : AH} {i : Nat} {x : Int32} (hd : decode (m_cc M) pc = .ok (.istore i, 2)) (hn : i < m_nL M) (hc : c2at ls i = false) (K : AW g M Post cl sl (pc + 2) (ls.set i (some (.int x))) st h) : AW g M Post cl sl pc ls (.int x :: st) h := by
  intro p e s m args below meth c H locs lsA al0 n0 al C ha hw hl
  exact lv_istore C.1 C.2.1 hd hl.has hn rfl (fun ls' hl' => K p e s m args below meth c H locs ls' al0 n0 al C ha hw (LH.set1 (v := .int x) hc hl'))
theorem aw_fstore_n {g : Glob} {M : Mth} {Post : Option Value → AH → Prop} {cl sl pc : Nat} {ls : List (Option Value)} {st : List Value} {h : AH} {k : Fin 4} {i : Nat} {x : UInt32} (hd : decode (m_cc M) pc = .ok (.fstore_n k, 1)) (hi : (k : Nat) = i) (hn : i < m_nL M) (hc : c2at ls i = false) (K : AW g M Post cl sl (pc + 1) (ls.set i (some (.float x))) st h) : AW g M Post cl sl pc ls (.float x :: st) h := by
  intro p e s m args below meth c H locs lsA al0 n0 al C ha hw hl
  exact lv_fstore_n C.1 C.2.1 hd hi hl.has hn rfl (fun ls' hl' => K p e s m args below meth c H locs ls' al0 n0 al C ha hw (LH.set1 (v := .float x) hc hl'))
theorem aw_fstore {g : Glob} {M : Mth} {Post : Option Value → AH → Prop} {cl sl pc : Nat} {ls : List (Option Value)} {st : List Value} {h : AH} {i : Nat} {x : UInt32} (hd : decode (m_cc M) pc = .ok (.fstore i, 2)) (hn : i < m_nL M) (hc : c2at ls i = false) (K : AW g M Post cl sl (pc + 2) (ls.set i (some (.float x))) st h) : AW g M Post cl sl pc ls (.float x :: st) h := by
  intro p e s m args below meth c H locs lsA al0 n0 al C ha hw hl
  exact lv_fstore C.1 C.2.1 hd hl.has hn rfl (fun ls' hl' => K p e s m args below meth c H locs ls' al0 n0 al C ha hw (LH.set1 (v := .float x) hc hl'))
theorem aw_lstore_n {g : Glob} {M : Mth} {Post : Option Value → AH → Prop} {cl sl pc : Nat} {ls : List (Option Value)} {st : List Value} {h : AH} {k : Fin 4} {i : Nat} {x : Int64} (hd : decode (m_cc M) pc = .ok (.lstore_n k, 1)) (hi : (k : Nat) = i) (hn : i + 1 < m_nL M) (hc : c2at ls i = false) (K : AW g M Post cl sl (pc + 1) ((ls.set i (some (.long x))).set (i + 1) none) st h) : AW g M Post cl sl pc ls (.long x :: st) h := by
  intro p e s m args below meth c H locs lsA al0 n0 al C ha hw hl
  exact lv_lstore_n C.1 C.2.1 hd hi hl.has hn rfl (fun ls' hl' => K p e s m args below meth c H locs ls' al0 n0 al C ha hw (LH.set2 (v := .long x) hc hl'))
theorem aw_lstore {g : Glob} {M : Mth} {Post : Option Value → AH → Prop} {cl sl pc : Nat} {ls : List (Option Value)} {st : List Value} {h : AH} {i : Nat} {x : Int64} (hd : decode (m_cc M) pc = .ok (.lstore i, 2)) (hn : i + 1 < m_nL M) (hc : c2at ls i = false) (K : AW g M Post cl sl (pc + 2) ((ls.set i (some (.long x))).set (i + 1) none) st h) : AW g M Post cl sl pc ls (.long x :: st) h := by
  intro p e s m args below meth c H locs lsA al0 n0 al C ha hw hl
  exact lv_lstore C.1 C.2.1 hd hl.has hn rfl (fun ls' hl' => K p e s m args below meth c H locs ls' al0 n0 al C ha hw (LH.set2 (v := .long x) hc hl'))
theorem aw_astore_n {g : Glob} {M : Mth} {Post : Option Value → AH → Prop} {cl sl pc : Nat} {ls : List (Option Value)} {st : List Value} {h : AH} {k : Fin 4} {i : Nat} {x : Nat} (hd : decode (m_cc M) pc = .ok (.astore_n k, 1)) (hi : (k : Nat) = i) (hn : i < m_nL M) (hc : c2at ls i = false) (K : AW g M Post cl sl (pc + 1) (ls.set i (some (.ref x))) st h) : AW g M Post cl sl pc ls (.ref x :: st) h := by
  intro p e s m args below meth c H locs lsA al0 n0 al C ha hw hl
  exact lv_astore_n C.1 C.2.1 hd hi hl.has hn rfl (fun ls' hl' => K p e s m args below meth c H locs ls' al0 n0 al C ha hw (LH.set1 (v := .ref x) hc hl'))
theorem aw_astore {g : Glob} {M : Mth} {Post : Option Value → AH → Prop} {cl sl pc : Nat} {ls : List (Option Value)} {st : List Value} {h : AH} {i : Nat} {x : Nat} (hd : decode (m_cc M) pc = .ok (.astore i, 2)) (hn : i < m_nL M) (hc : c2at ls i = false) (K : AW g M Post cl sl (pc + 2) (ls.set i (some (.ref x))) st h) : AW g M Post cl sl pc ls (.ref x :: st) h := by
  intro p e s m args below meth c H locs lsA al0 n0 al C ha hw hl
  exact lv_astore C.1 C.2.1 hd hl.has hn rfl (fun ls' hl' => K p e s m args below meth c H locs ls' al0 n0 al C ha hw (LH.set1 (v := .ref x) hc hl'))
theorem aw_iinc {g : Glob} {M : Mth} {Post : Option Value → AH → Prop} {cl sl pc : Nat} {ls : List (Option Value)} {st : List Value} {h : AH} {i : Nat} {n : Int} {x v : Int32} (hd : decode (m_cc M) pc = .ok (.iinc i n, 3)) (hk : lget ls i = some (.int x)) (hv : Int32.ofInt n = v) (hn : i < m_nL M) (hc : c2at ls i = false) (K : AW g M Post cl sl (pc + 3) (ls.set i (some (.int (x + v)))) st h) : AW g M Post cl sl pc ls st h := by
  intro p e s m args below meth c H locs lsA al0 n0 al C ha hw hl
  subst hv
  obtain ⟨k, hk'⟩ := List.getElem?_of_mem (lvl_mem (g := g) (al := al) (lget_some hk))
  exact lv_iinc (k := k) C.1 C.2.1 hd hl.has hk' rfl hn rfl (fun ls' hl' => K p e s m args below meth c H locs ls' al0 n0 al C ha hw (LH.set1 (v := .int (x + Int32.ofInt n)) hc hl'))
theorem aw_iadd {g : Glob} {M : Mth} {Post : Option Value → AH → Prop} {cl sl pc : Nat} {ls : List (Option Value)} {st : List Value} {h : AH} {x y : Int32} (hd : decode (m_cc M) pc = .ok (.iadd, 1)) (K : AW g M Post cl sl (pc + 1) ls (.int (x + y) :: st) h) : AW g M Post cl sl pc ls (.int y :: .int x :: st) h := by
  intro p e s m args below meth c H locs lsA al0 n0 al C ha hw hl
  exact lv_iadd C.1 C.2.1 hd (K p e s m args below meth c H locs lsA al0 n0 al C ha hw hl)
theorem aw_isub {g : Glob} {M : Mth} {Post : Option Value → AH → Prop} {cl sl pc : Nat} {ls : List (Option Value)} {st : List Value} {h : AH} {x y : Int32} (hd : decode (m_cc M) pc = .ok (.isub, 1)) (K : AW g M Post cl sl (pc + 1) ls (.int (x - y) :: st) h) : AW g M Post cl sl pc ls (.int y :: .int x :: st) h := by
  intro p e s m args below meth c H locs lsA al0 n0 al C ha hw hl
  exact lv_isub C.1 C.2.1 hd (K p e s m args below meth c H locs lsA al0 n0 al C ha hw hl)
theorem aw_imul {g : Glob} {M : Mth} {Post : Option Value → AH → Prop} {cl sl pc : Nat} {ls : List (Option Value)} {st : List Value} {h : AH} {x y : Int32} (hd : decode (m_cc M) pc = .ok (.imul, 1)) (K : AW g M Post cl sl (pc + 1) ls (.int (x * y) :: st) h) : AW g M Post cl sl pc ls (.int y :: .int x :: st) h := by
  intro p e s m args below meth c H locs lsA al0 n0 al C ha hw hl
  exact lv_imul C.1 C.2.1 hd (K p e s m args below meth c H locs lsA al0 n0 al C ha hw hl)
theorem aw_iand {g : Glob} {M : Mth} {Post : Option Value → AH → Prop} {cl sl pc : Nat} {ls : List (Option Value)} {st : List Value} {h : AH} {x y : Int32} (hd : decode (m_cc M) pc = .ok (.iand, 1)) (K : AW g M Post cl sl (pc + 1) ls (.int (x &&& y) :: st) h) : AW g M Post cl sl pc ls (.int y :: .int x :: st) h := by
  intro p e s m args below meth c H locs lsA al0 n0 al C ha hw hl
  exact lv_iand C.1 C.2.1 hd (K p e s m args below meth c H locs lsA al0 n0 al C ha hw hl)
theorem aw_ior {g : Glob} {M : Mth} {Post : Option Value → AH → Prop} {cl sl pc : Nat} {ls : List (Option Value)} {st : List Value} {h : AH} {x y : Int32} (hd : decode (m_cc M) pc = .ok (.ior, 1)) (K : AW g M Post cl sl (pc + 1) ls (.int (x ||| y) :: st) h) : AW g M Post cl sl pc ls (.int y :: .int x :: st) h := by
  intro p e s m args below meth c H locs lsA al0 n0 al C ha hw hl
  exact lv_ior C.1 C.2.1 hd (K p e s m args below meth c H locs lsA al0 n0 al C ha hw hl)
theorem aw_ixor {g : Glob} {M : Mth} {Post : Option Value → AH → Prop} {cl sl pc : Nat} {ls : List (Option Value)} {st : List Value} {h : AH} {x y : Int32} (hd : decode (m_cc M) pc = .ok (.ixor, 1)) (K : AW g M Post cl sl (pc + 1) ls (.int (x ^^^ y) :: st) h) : AW g M Post cl sl pc ls (.int y :: .int x :: st) h := by
  intro p e s m args below meth c H locs lsA al0 n0 al C ha hw hl
  exact lv_ixor C.1 C.2.1 hd (K p e s m args below meth c H locs lsA al0 n0 al C ha hw hl)
theorem aw_ishl {g : Glob} {M : Mth} {Post : Option Value → AH → Prop} {cl sl pc : Nat} {ls : List (Option Value)} {st : List Value} {h : AH} {x y : Int32} (hd : decode (m_cc M) pc = .ok (.ishl, 1)) (K : AW g M Post cl sl (pc + 1) ls (.int (x <<< (y &&& 31)) :: st) h) : AW g M Post cl sl pc ls (.int y :: .int x :: st) h := by
  intro p e s m args below meth c H locs lsA al0 n0 al C ha hw hl
  exact lv_ishl C.1 C.2.1 hd (K p e s m args below meth c H locs lsA al0 n0 al C ha hw hl)
theorem aw_ishr {g : Glob} {M : Mth} {Post : Option Value → AH → Prop} {cl sl pc : Nat} {ls : List (Option Value)} {st : List Value} {h : AH} {x y : Int32} (hd : decode (m_cc M) pc = .ok (.ishr, 1)) (K : AW g M Post cl sl (pc + 1) ls (.int (x >>> (y &&& 31)) :: st) h) : AW g M Post cl sl pc ls (.int y :: .int x :: st) h := by
  intro p e s m args below meth c H locs lsA al0 n0 al C ha hw hl
  exact lv_ishr C.1 C.2.1 hd (K p e s m args below meth c H locs lsA al0 n0 al C ha hw hl)
theorem aw_iushr {g : Glob} {M : Mth} {Post : Option Value → AH → Prop} {cl sl pc : Nat} {ls : List (Option Value)} {st : List Value} {h : AH} {x y : Int32} (hd : decode (m_cc M) pc = .ok (.iushr, 1)) (K : AW g M Post cl sl (pc + 1) ls (.int ((x.toUInt32 >>> (y.toUInt32 &&& Int32.toUInt32 31)).toInt32) :: st) h) : AW g M Post cl sl pc ls (.int y :: .int x :: st) h := by
  intro p e s m args below meth c H locs lsA al0 n0 al C ha hw hl
  exact lv_iushr C.1 C.2.1 hd rfl (K p e s m args below meth c H locs lsA al0 n0 al C ha hw hl)
theorem aw_ineg {g : Glob} {M : Mth} {Post : Option Value → AH → Prop} {cl sl pc : Nat} {ls : List (Option Value)} {st : List Value} {h : AH} {x : Int32} (hd : decode (m_cc M) pc = .ok (.ineg, 1)) (K : AW g M Post cl sl (pc + 1) ls (.int (-x) :: st) h) : AW g M Post cl sl pc ls (.int x :: st) h := by
  intro p e s m args below meth c H locs lsA al0 n0 al C ha hw hl
  exact lv_ineg C.1 C.2.1 hd (K p e s m args below meth c H locs lsA al0 n0 al C ha hw hl)
theorem aw_i2l {g : Glob} {M : Mth} {Post : Option Value → AH → Prop} {cl sl pc : Nat} {ls : List (Option Value)} {st : List Value} {h : AH} {x : Int32} (hd : decode (m_cc M) pc = .ok (.i2l, 1)) (K : AW g M Post cl sl (pc + 1) ls (.long x.toInt64 :: st) h) : AW g M Post cl sl pc ls (.int x :: st) h := by
  intro p e s m args below meth c H locs lsA al0 n0 al C ha hw hl
  exact lv_i2l C.1 C.2.1 hd rfl (K p e s m args below meth c H locs lsA al0 n0 al C ha hw hl)
theorem aw_i2c {g : Glob} {M : Mth} {Post : Option Value → AH → Prop} {cl sl pc : Nat} {ls : List (Option Value)} {st : List Value} {h : AH} {x : Int32} (hd : decode (m_cc M) pc = .ok (.i2c, 1)) (K : AW g M Post cl sl (pc + 1) ls (.int (x.toUInt32 % 65536).toInt32 :: st) h) : AW g M Post cl sl pc ls (.int x :: st) h := by
  intro p e s m args below meth c H locs lsA al0 n0 al C ha hw hl
  exact lv_i2c C.1 C.2.1 hd rfl (K p e s m args below meth c H locs lsA al0 n0 al C ha hw hl)
theorem aw_i2f {g : Glob} {M : Mth} {Post : Option Value → AH → Prop} {cl sl pc : Nat} {ls : List (Option Value)} {st : List Value} {h : AH} {x : Int32} (hd : decode (m_cc M) pc = .ok (.i2f, 1)) (K : AW g M Post cl sl (pc + 1) ls (.float (FP.i2f x) :: st) h) : AW g M Post cl sl pc ls (.int x :: st) h := by
  intro p e s m args below meth c H locs lsA al0 n0 al C ha hw hl
  exact lv_i2f C.1 C.2.1 hd (K p e s m args below meth c H locs lsA al0 n0 al C ha hw hl)
theorem aw_f2i {g : Glob} {M : Mth} {Post : Option Value → AH → Prop} {cl sl pc : Nat} {ls : List (Option Value)} {st : List Value} {h : AH} {x : UInt32} (hd : decode (m_cc M) pc = .ok (.f2i, 1)) (K : AW g M Post cl sl (pc + 1) ls (.int (FP.f2i x) :: st) h) : AW g M Post cl sl pc ls (.float x :: st) h := by
  intro p e s m args below meth c H locs lsA al0 n0 al C ha hw hl
  exact lv_f2i C.1 C.2.1 hd (K p e s m args below meth c H locs lsA al0 n0 al C ha hw hl)
theorem aw_ladd {g : Glob} {M : Mth} {Post : Option Value → AH → Prop} {cl sl pc : Nat} {ls : List (Option Value)} {st : List Value} {h : AH} {x y : Int64} (hd : decode (m_cc M) pc = .ok (.ladd, 1)) (K : AW g M Post cl sl (pc + 1) ls (.long (x + y) :: st) h) : AW g M Post cl sl pc ls (.long y :: .long x :: st) h := by
  intro p e s m args below meth c H locs lsA al0 n0 al C ha hw hl
  exact lv_ladd C.1 C.2.1 hd (K p e s m args below meth c H locs lsA al0 n0 al C ha hw hl)
theorem aw_lsub {g : Glob} {M : Mth} {Post : Option Value → AH → Prop} {cl sl pc : Nat} {ls : List (Option Value)} {st : List Value} {h : AH} {x y : Int64} (hd : decode (m_cc M) pc = .ok (.lsub, 1)) (K : AW g M Post cl sl (pc + 1) ls (.long (x - y) :: st) h) : AW g M Post cl sl pc ls (.long y :: .long x :: st) h := by
  intro p e s m args below meth c H locs lsA al0 n0 al C ha hw hl
  exact lv_lsub C.1 C.2.1 hd (K p e s m args below meth c H locs lsA al0 n0 al C ha hw hl)
theorem aw_lmul {g : Glob} {M : Mth} {Post : Option Value → AH → Prop} {cl sl pc : Nat} {ls : List (Option Value)} {st : List Value} {h : AH} {x y : Int64} (hd : decode (m_cc M) pc = .ok (.lmul, 1)) (K : AW g M Post cl sl (pc + 1) ls (.long (x * y) :: st) h) : AW g M Post cl sl pc ls (.long y :: .long x :: st) h := by
  intro p e s m args below meth c H locs lsA al0 n0 al C ha hw hl
  exact lv_lmul C.1 C.2.1 hd (K p e s m args below meth c H locs lsA al0 n0 al C ha hw hl)
theorem aw_lcmp {g : Glob} {M : Mth} {Post : Option Value → AH → Prop} {cl sl pc : Nat} {ls : List (Option Value)} {st : List Value} {h : AH} {x y : Int64} (hd : decode (m_cc M) pc = .ok (.lcmp, 1)) (K : AW g M Post cl sl (pc + 1) ls (.int (lg_cmp x y) :: st) h) : AW g M Post cl sl pc ls (.long y :: .long x :: st) h := by
  intro p e s m args below meth c H locs lsA al0 n0 al C ha hw hl
  exact W.lcmp C.1 C.2.1 hd (K p e s m args below meth c H locs lsA al0 n0 al C ha hw hl)
theorem aw_fadd {g : Glob} {M : Mth} {Post : Option Value → AH → Prop} {cl sl pc : Nat} {ls : List (Option Value)} {st : List Value} {h : AH} {x y : UInt32} (hd : decode (m_cc M) pc = .ok (.fadd, 1)) (hn : vf_n32 (FP.fadd x y)) (K : AW g M Post cl sl (pc + 1) ls (.float (FP.fadd x y) :: st) h) : AW g M Post cl sl pc ls (.float y :: .float x :: st) h := by
  intro p e s m args below meth c H locs lsA al0 n0 al C ha hw hl
  exact lv_fadd C.1 C.2.1 hd hn (K p e s m args below meth c H locs lsA al0 n0 al C ha hw hl)
theorem aw_fmul {g : Glob} {M : Mth} {Post : Option Value → AH → Prop} {cl sl pc : Nat} {ls : List (Option Value)} {st : List Value} {h : AH} {x y : UInt32} (hd : decode (m_cc M) pc = .ok (.fmul, 1)) (hn : vf_n32 (FP.fmul x y)) (K : AW g M Post cl sl (pc + 1) ls (.float (FP.fmul x y) :: st) h) : AW g M Post cl sl pc ls (.float y :: .float x :: st) h := by
  intro p e s m args below meth c H locs lsA al0 n0 al C ha hw hl
  exact lv_fmul C.1 C.2.1 hd hn (K p e s m args below meth c H locs lsA al0 n0 al C ha hw hl)
theorem aw_fdiv {g : Glob} {M : Mth} {Post : Option Value → AH → Prop} {cl sl pc : Nat} {ls : List (Option Value)} {st : List Value} {h : AH} {x y : UInt32} (hd : decode (m_cc M) pc = .ok (.fdiv, 1)) (hn : vf_n32 (FP.fdiv x y)) (K : AW g M Post cl sl (pc + 1) ls (.float (FP.fdiv x y) :: st) h) : AW g M Post cl sl pc ls (.float y :: .float x :: st) h := by
  intro p e s m args below meth c H locs lsA al0 n0 al C ha hw hl
  exact lv_fdiv C.1 C.2.1 hd hn (K p e s m args below meth c H locs lsA al0 n0 al C ha hw hl)
theorem aw_fcmp {g : Glob} {M : Mth} {Post : Option Value → AH → Prop} {cl sl pc : Nat} {ls : List (Option Value)} {st : List Value} {h : AH} {x y : UInt32} {op : CmpOp} (hd : decode (m_cc M) pc = .ok (.fcmp op, 1)) (K : AW g M Post cl sl (pc + 1) ls (.int (Op.cmpValue (FP.fcmp x y) op) :: st) h) : AW g M Post cl sl pc ls (.float y :: .float x :: st) h := by
  intro p e s m args below meth c H locs lsA al0 n0 al C ha hw hl
  exact lv_fcmp C.1 C.2.1 hd (K p e s m args below meth c H locs lsA al0 n0 al C ha hw hl)
theorem aw_dup {g : Glob} {M : Mth} {Post : Option Value → AH → Prop} {cl sl pc : Nat} {ls : List (Option Value)} {st : List Value} {h : AH} {v : Value} (hd : decode (m_cc M) pc = .ok (.dup, 1)) (hc : v.category = 1) (K : AW g M Post cl sl (pc + 1) ls (v :: v :: st) h) : AW g M Post cl sl pc ls (v :: st) h := by
  intro p e s m args below meth c H locs lsA al0 n0 al C ha hw hl
  exact lv_dup C.1 C.2.1 hd ((trV_cat g al v).trans hc) (K p e s m args below meth c H locs lsA al0 n0 al C ha hw hl)
theorem aw_pop {g : Glob} {M : Mth} {Post : Option Value → AH → Prop} {cl sl pc : Nat} {ls : List (Option Value)} {st : List Value} {h : AH} {v : Value} (hd : decode (m_cc M) pc = .ok (.pop, 1)) (hc : v.category = 1) (K : AW g M Post cl sl (pc + 1) ls (st) h) : AW g M Post cl sl pc ls (v :: st) h := by
  intro p e s m args below meth c H locs lsA al0 n0 al C ha hw hl
  exact lv_pop C.1 C.2.1 hd ((trV_cat g al v).trans hc) (K p e s m args below meth c H locs lsA al0 n0 al C ha hw hl)
theorem aw_dup2 {g : Glob} {M : Mth} {Post : Option Value → AH → Prop} {cl sl pc : Nat} {ls : List (Option Value)} {st : List Value} {h : AH} {v u : Value} (hd : decode (m_cc M) pc = .ok (.dup2, 1)) (hc : v.category = 1) (hc2 : u.category = 1) (K : AW g M Post cl sl (pc + 1) ls (v :: u :: v :: u :: st) h) : AW g M Post cl sl pc ls (v :: u :: st) h := by
  intro p e s m args below meth c H locs lsA al0 n0 al C ha hw hl
  exact lv_dup2_11 C.1 C.2.1 hd ((trV_cat g al v).trans hc) ((trV_cat g al u).trans hc2) (K p e s m args below meth c H locs lsA al0 n0 al C ha hw hl)
theorem aw_icmp_eq {g : Glob} {M : Mth} {Post : Option Value → AH → Prop} {cl sl pc : Nat} {ls : List (Option Value)} {st : List Value} {h : AH} {x y : Int32} {off : Int} {t : Nat} (hd : decode (m_cc M) pc = .ok (.if_icmp .eq off, 3)) (ht : (pc : Int) + off = (t : Int)) (K1 : x = y → AW g M Post cl sl t ls st h) (K2 : ¬ x = y → AW g M Post cl sl (pc + 3) ls st h) : AW g M Post cl sl pc ls (.int y :: .int x :: st) h := by
  intro p e s m args below meth c H locs lsA al0 n0 al C ha hw hl
  exact lv_icmp_eq C.1 C.2.1 hd ht (fun z => K1 z p e s m args below meth c H locs lsA al0 n0 al C ha hw hl) (fun z => K2 z p e s m args below meth c H locs lsA al0 n0 al C ha hw hl)
theorem aw_if_eq {g : Glob} {M : Mth} {Post : Option Value → AH → Prop} {cl sl pc : Nat} {ls : List (Option Value)} {st : List Value} {h : AH} {x : Int32} {off : Int} {t : Nat} (hd : decode (m_cc M) pc = .ok (.ifCond .eq off, 3)) (ht : (pc : Int) + off = (t : Int)) (K1 : x = 0 → AW g M Post cl sl t ls st h) (K2 : ¬ x = 0 → AW g M Post cl sl (pc + 3) ls st h) : AW g M Post cl sl pc ls (.int x :: st) h := by
  intro p e s m args below meth c H locs lsA al0 n0 al C ha hw hl
  exact lv_if_eq C.1 C.2.1 hd ht (fun z => K1 z p e s m args below meth c H locs lsA al0 n0 al C ha hw hl) (fun z => K2 z p e s m args below meth c H locs lsA al0 n0 al C ha hw hl)
theorem aw_icmp_ne {g : Glob} {M : Mth} {Post : Option Value → AH → Prop} {cl sl pc : Nat} {ls : List (Option Value)} {st : List Value} {h : AH} {x y : Int32} {off : Int} {t : Nat} (hd : decode (m_cc M) pc = .ok (.if_icmp .ne off, 3)) (ht : (pc : Int) + off = (t : Int)) (K1 : ¬ x = y → AW g M Post cl sl t ls st h) (K2 : x = y → AW g M Post cl sl (pc + 3) ls st h) : AW g M Post cl sl pc ls (.int y :: .int x :: st) h := by
  intro p e s m args below meth c H locs lsA al0 n0 al C ha hw hl
  exact lv_icmp_ne C.1 C.2.1 hd ht (fun z => K1 z p e s m args below meth c H locs lsA al0 n0 al C ha hw hl) (fun z => K2 z p e s m args below meth c H locs lsA al0 n0 al C ha hw hl)
theorem aw_if_ne {g : Glob} {M : Mth} {Post : Option Value → AH → Prop} {cl sl pc : Nat} {ls : List (Option Value)} {st : List Value} {h : AH} {x : Int32} {off : Int} {t : Nat} (hd : decode (m_cc M) pc = .ok (.ifCond .ne off, 3)) (ht : (pc : Int) + off = (t : Int)) (K1 : ¬ x = 0 → AW g M Post cl sl t ls st h) (K2 : x = 0 → AW g M Post cl sl (pc + 3) ls st h) : AW g M Post cl sl pc ls (.int x :: st) h := by
  intro p e s m args below meth c H locs lsA al0 n0 al C ha hw hl
  exact lv_if_ne C.1 C.2.1 hd ht (fun z => K1 z p e s m args below meth c H locs lsA al0 n0 al C ha hw hl) (fun z => K2 z p e s m args below meth c H locs lsA al0 n0 al C ha hw hl)
theorem aw_icmp_lt {g : Glob} {M : Mth} {Post : Option Value → AH → Prop} {cl sl pc : Nat} {ls : List (Option Value)} {st : List Value} {h : AH} {x y : Int32} {off : Int} {t : Nat} (hd : decode (m_cc M) pc = .ok (.if_icmp .lt off, 3)) (ht : (pc : Int) + off = (t : Int)) (K1 : x < y → AW g M Post cl sl t ls st h) (K2 : ¬ x < y → AW g M Post cl sl (pc + 3) ls st h) : AW g M Post cl sl pc ls (.int y :: .int x :: st) h := by
  intro p e s m args below meth c H locs lsA al0 n0 al C ha hw hl
  exact lv_icmp_lt C.1 C.2.1 hd ht (fun z => K1 z p e s m args below meth c H locs lsA al0 n0 al C ha hw hl) (fun z => K2 z p e s m args below meth c H locs lsA al0 n0 al C ha hw hl)
theorem aw_if_lt {g : Glob} {M : Mth} {Post : Option Value → AH → Prop} {cl sl pc : Nat} {ls : List (Option Value)} {st : List Value} {h : AH} {x : Int32} {off : Int} {t : Nat} (hd : decode (m_cc M) pc = .ok (.ifCond .lt off, 3)) (ht : (pc : Int) + off = (t : Int)) (K1 : x < 0 → AW g M Post cl sl t ls st h) (K2 : ¬ x < 0 → AW g M Post cl sl (pc + 3) ls st h) : AW g M Post cl sl pc ls (.int x :: st) h := by
  intro p e s m args below meth c H locs lsA al0 n0 al C ha hw hl
  exact lv_if_lt C.1 C.2.1 hd ht (fun z => K1 z p e s m args below meth c H locs lsA al0 n0 al C ha hw hl) (fun z => K2 z p e s m args below meth c H locs lsA al0 n0 al C ha hw hl)
theorem aw_icmp_ge {g : Glob} {M : Mth} {Post : Option Value → AH → Prop} {cl sl pc : Nat} {ls : List (Option Value)} {st : List Value} {h : AH} {x y : Int32} {off : Int} {t : Nat} (hd : decode (m_cc M) pc = .ok (.if_icmp .ge off, 3)) (ht : (pc : Int) + off = (t : Int)) (K1 : y ≤ x → AW g M Post cl sl t ls st h) (K2 : ¬ y ≤ x → AW g M Post cl sl (pc + 3) ls st h) : AW g M Post cl sl pc ls (.int y :: .int x :: st) h := by
  intro p e s m args below meth c H locs lsA al0 n0 al C ha hw hl
  exact lv_icmp_ge C.1 C.2.1 hd ht (fun z => K1 z p e s m args below meth c H locs lsA al0 n0 al C ha hw hl) (fun z => K2 z p e s m args below meth c H locs lsA al0 n0 al C ha hw hl)
theorem aw_if_ge {g : Glob} {M : Mth} {Post : Option Value → AH → Prop} {cl sl pc : Nat} {ls : List (Option Value)} {st : List Value} {h : AH} {x : Int32} {off : Int} {t : Nat} (hd : decode (m_cc M) pc = .ok (.ifCond .ge off, 3)) (ht : (pc : Int) + off = (t : Int)) (K1 : 0 ≤ x → AW g M Post cl sl t ls st h) (K2 : ¬ 0 ≤ x → AW g M Post cl sl (pc + 3) ls st h) : AW g M Post cl sl pc ls (.int x :: st) h := by
  intro p e s m args below meth c H locs lsA al0 n0 al C ha hw hl
  exact lv_if_ge C.1 C.2.1 hd ht (fun z => K1 z p e s m args below meth c H locs lsA al0 n0 al C ha hw hl) (fun z => K2 z p e s m args below meth c H locs lsA al0 n0 al C ha hw hl)
theorem aw_icmp_gt {g : Glob} {M : Mth} {Post : Option Value → AH → Prop} {cl sl pc : Nat} {ls : List (Option Value)} {st : List Value} {h : AH} {x y : Int32} {off : Int} {t : Nat} (hd : decode (m_cc M) pc = .ok (.if_icmp .gt off, 3)) (ht : (pc : Int) + off = (t : Int)) (K1 : y < x → AW g M Post cl sl t ls st h) (K2 : ¬ y < x → AW g M Post cl sl (pc + 3) ls st h) : AW g M Post cl sl pc ls (.int y :: .int x :: st) h := by
  intro p e s m args below meth c H locs lsA al0 n0 al C ha hw hl
  exact lv_icmp_gt C.1 C.2.1 hd ht (fun z => K1 z p e s m args below meth c H locs lsA al0 n0 al C ha hw hl) (fun z => K2 z p e s m args below meth c H locs lsA al0 n0 al C ha hw hl)
theorem aw_if_gt {g : Glob} {M : Mth} {Post : Option Value → AH → Prop} {cl sl pc : Nat} {ls : List (Option Value)} {st : List Value} {h : AH} {x : Int32} {off : Int} {t : Nat} (hd : decode (m_cc M) pc = .ok (.ifCond .gt off, 3)) (ht : (pc : Int) + off = (t : Int)) (K1 : 0 < x → AW g M Post cl sl t ls st h) (K2 : ¬ 0 < x → AW g M Post cl sl (pc + 3) ls st h) : AW g M Post cl sl pc ls (.int x :: st) h := by
  intro p e s m args below meth c H locs lsA al0 n0 al C ha hw hl
  exact lv_if_gt C.1 C.2.1 hd ht (fun z => K1 z p e s m args below meth c H locs lsA al0 n0 al C ha hw hl) (fun z => K2 z p e s m args below meth c H locs lsA al0 n0 al C ha hw hl)
theorem aw_icmp_le {g : Glob} {M : Mth} {Post : Option Value → AH → Prop} {cl sl pc : Nat} {ls : List (Option Value)} {st : List Value} {h : AH} {x y : Int32} {off : Int} {t : Nat} (hd : decode (m_cc M) pc = .ok (.if_icmp .le off, 3)) (ht : (pc : Int) + off = (t : Int)) (K1 : x ≤ y → AW g M Post cl sl t ls st h) (K2 : ¬ x ≤ y → AW g M Post cl sl (pc + 3) ls st h) : AW g M Post cl sl pc ls (.int y :: .int x :: st) h := by
  intro p e s m args below meth c H locs lsA al0 n0 al C ha hw hl
  exact lv_icmp_le C.1 C.2.1 hd ht (fun z => K1 z p e s m args below meth c H locs lsA al0 n0 al C ha hw hl) (fun z => K2 z p e s m args below meth c H locs lsA al0 n0 al C ha hw hl)
theorem aw_if_le {g : Glob} {M : Mth} {Post : Option Value → AH → Prop} {cl sl pc : Nat} {ls : List (Option Value)} {st : List Value} {h : AH} {x : Int32} {off : Int} {t : Nat} (hd : decode (m_cc M) pc = .ok (.ifCond .le off, 3)) (ht : (pc : Int) + off = (t : Int)) (K1 : x ≤ 0 → AW g M Post cl sl t ls st h) (K2 : ¬ x ≤ 0 → AW g M Post cl sl (pc + 3) ls st h) : AW g M Post cl sl pc ls (.int x :: st) h := by
  intro p e s m args below meth c H locs lsA al0 n0 al C ha hw hl
  exact lv_if_le C.1 C.2.1 hd ht (fun z => K1 z p e s m args below meth c H locs lsA al0 n0 al C ha hw hl) (fun z => K2 z p e s m args below meth c H locs lsA al0 n0 al C ha hw hl)
theorem aw_goto {g : Glob} {M : Mth} {Post : Option Value → AH → Prop} {cl sl pc : Nat} {ls : List (Option Value)} {st : List Value} {h : AH} {off : Int} {t : Nat} (hd : decode (m_cc M) pc = .ok (.goto off, 3)) (ht : (pc : Int) + off = (t : Int)) (K : AW g M Post cl sl t ls st h) : AW g M Post cl sl pc ls st h := by
  intro p e s m args below meth c H locs lsA al0 n0 al C ha hw hl
  exact lv_goto C.1 C.2.1 hd ht (K p e s m args below meth c H locs lsA al0 n0 al C ha hw hl)
